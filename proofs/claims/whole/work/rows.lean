section
-- ===== PART A: goes FIRST, ahead of the names: the tables' words, and 'selects' of the private methods out of them =====
/-- a private method of a class that the tables say can be made, by its rows of tables_1 -/
def lw_okq (q : MethodName × Nat) : Prop := (q.1.cls ≠ "java/lang/invoke/MethodHandle" ∧ q.1.cls ≠ "java/lang/invoke/VarHandle") ∧ Cond.instantiable q.1.cls q.2 ∈ tables_1 ∧ Cond.privateMethod q.1 ∈ tables_1 ∧ Cond.instanceMethod q.1 ∈ tables_1
theorem lw_p0 : lw_okq (⟨"MarbleVotes", "failed", "(I)I"⟩, 7) := ⟨⟨by decide +kernel, by decide +kernel⟩, List.mem_of_getElem? (i := 11) (by decide +kernel), List.mem_of_getElem? (i := 188) (by decide +kernel), List.mem_of_getElem? (i := 189) (by decide +kernel)⟩
theorem lw_p1 : lw_okq (⟨"MarbleVotes", "rollBy", "(ILMarbleVotes$Sheet;I)I"⟩, 7) := ⟨⟨by decide +kernel, by decide +kernel⟩, List.mem_of_getElem? (i := 11) (by decide +kernel), List.mem_of_getElem? (i := 285) (by decide +kernel), List.mem_of_getElem? (i := 286) (by decide +kernel)⟩
theorem lw_p2 : lw_okq (⟨"MarbleVotes$Flow", "runDown", "(IZ)V"⟩, 7) := ⟨⟨by decide +kernel, by decide +kernel⟩, List.mem_of_getElem? (i := 72) (by decide +kernel), List.mem_of_getElem? (i := 318) (by decide +kernel), List.mem_of_getElem? (i := 319) (by decide +kernel)⟩
theorem lw_p3 : lw_okq (⟨"MarbleVotes$Flow", "appraiseAll", "(I)V"⟩, 7) := ⟨⟨by decide +kernel, by decide +kernel⟩, List.mem_of_getElem? (i := 72) (by decide +kernel), List.mem_of_getElem? (i := 351) (by decide +kernel), List.mem_of_getElem? (i := 352) (by decide +kernel)⟩
theorem lw_p4 : lw_okq (⟨"MarbleVotes$Flow", "appraise", "(II)V"⟩, 7) := ⟨⟨by decide +kernel, by decide +kernel⟩, List.mem_of_getElem? (i := 72) (by decide +kernel), List.mem_of_getElem? (i := 355) (by decide +kernel), List.mem_of_getElem? (i := 356) (by decide +kernel)⟩
theorem lw_p5 : lw_okq (⟨"MarbleVotes$Flow", "worthUnder", "(III)I"⟩, 7) := ⟨⟨by decide +kernel, by decide +kernel⟩, List.mem_of_getElem? (i := 72) (by decide +kernel), List.mem_of_getElem? (i := 359) (by decide +kernel), List.mem_of_getElem? (i := 360) (by decide +kernel)⟩
theorem lw_p6 : lw_okq (⟨"MarbleVotes$Flow", "dropAll", "(Z)V"⟩, 7) := ⟨⟨by decide +kernel, by decide +kernel⟩, List.mem_of_getElem? (i := 72) (by decide +kernel), List.mem_of_getElem? (i := 379) (by decide +kernel), List.mem_of_getElem? (i := 380) (by decide +kernel)⟩
theorem lw_p7 : lw_okq (⟨"MarbleVotes$Flow", "gain", "(II)J"⟩, 7) := ⟨⟨by decide +kernel, by decide +kernel⟩, List.mem_of_getElem? (i := 72) (by decide +kernel), List.mem_of_getElem? (i := 383) (by decide +kernel), List.mem_of_getElem? (i := 384) (by decide +kernel)⟩
theorem lw_p8 : lw_okq (⟨"MarbleVotes$Flow", "findLeanings", "()V"⟩, 7) := ⟨⟨by decide +kernel, by decide +kernel⟩, List.mem_of_getElem? (i := 72) (by decide +kernel), List.mem_of_getElem? (i := 409) (by decide +kernel), List.mem_of_getElem? (i := 410) (by decide +kernel)⟩
theorem lw_p9 : lw_okq (⟨"MarbleVotes$Flow", "tallyWithout", "(I)V"⟩, 7) := ⟨⟨by decide +kernel, by decide +kernel⟩, List.mem_of_getElem? (i := 72) (by decide +kernel), List.mem_of_getElem? (i := 414) (by decide +kernel), List.mem_of_getElem? (i := 415) (by decide +kernel)⟩
theorem lw_p10 : lw_okq (⟨"MarbleVotes$Flow", "winnerWithout", "(I)I"⟩, 7) := ⟨⟨by decide +kernel, by decide +kernel⟩, List.mem_of_getElem? (i := 72) (by decide +kernel), List.mem_of_getElem? (i := 426) (by decide +kernel), List.mem_of_getElem? (i := 427) (by decide +kernel)⟩
theorem lw_p11 : lw_okq (⟨"MarbleVotes$Count", "layOut", "()I"⟩, 5) := ⟨⟨by decide +kernel, by decide +kernel⟩, List.mem_of_getElem? (i := 102) (by decide +kernel), List.mem_of_getElem? (i := 460) (by decide +kernel), List.mem_of_getElem? (i := 461) (by decide +kernel)⟩
theorem lw_p12 : lw_okq (⟨"MarbleVotes$Count", "placeNextVote", "(I)V"⟩, 5) := ⟨⟨by decide +kernel, by decide +kernel⟩, List.mem_of_getElem? (i := 102) (by decide +kernel), List.mem_of_getElem? (i := 464) (by decide +kernel), List.mem_of_getElem? (i := 465) (by decide +kernel)⟩
theorem lw_p13 : lw_okq (⟨"MarbleVotes$Count", "nextUsed", "()V"⟩, 5) := ⟨⟨by decide +kernel, by decide +kernel⟩, List.mem_of_getElem? (i := 102) (by decide +kernel), List.mem_of_getElem? (i := 468) (by decide +kernel), List.mem_of_getElem? (i := 469) (by decide +kernel)⟩
theorem lw_p14 : lw_okq (⟨"MarbleVotes$Flow", "isFair", "(I)Z"⟩, 7) := ⟨⟨by decide +kernel, by decide +kernel⟩, List.mem_of_getElem? (i := 72) (by decide +kernel), List.mem_of_getElem? (i := 485) (by decide +kernel), List.mem_of_getElem? (i := 486) (by decide +kernel)⟩
theorem lw_p15 : lw_okq (⟨"MarbleVotes$Sheet", "cut", "(I)I"⟩, 4) := ⟨⟨by decide +kernel, by decide +kernel⟩, List.mem_of_getElem? (i := 126) (by decide +kernel), List.mem_of_getElem? (i := 514) (by decide +kernel), List.mem_of_getElem? (i := 515) (by decide +kernel)⟩
def lw_privs_1 : List (MethodName × Nat) := [(⟨"MarbleVotes", "failed", "(I)I"⟩, 7), (⟨"MarbleVotes", "rollBy", "(ILMarbleVotes$Sheet;I)I"⟩, 7), (⟨"MarbleVotes$Flow", "runDown", "(IZ)V"⟩, 7), (⟨"MarbleVotes$Flow", "appraiseAll", "(I)V"⟩, 7), (⟨"MarbleVotes$Flow", "appraise", "(II)V"⟩, 7), (⟨"MarbleVotes$Flow", "worthUnder", "(III)I"⟩, 7), (⟨"MarbleVotes$Flow", "dropAll", "(Z)V"⟩, 7), (⟨"MarbleVotes$Flow", "gain", "(II)J"⟩, 7), (⟨"MarbleVotes$Flow", "findLeanings", "()V"⟩, 7), (⟨"MarbleVotes$Flow", "tallyWithout", "(I)V"⟩, 7), (⟨"MarbleVotes$Flow", "winnerWithout", "(I)I"⟩, 7), (⟨"MarbleVotes$Count", "layOut", "()I"⟩, 5), (⟨"MarbleVotes$Count", "placeNextVote", "(I)V"⟩, 5), (⟨"MarbleVotes$Count", "nextUsed", "()V"⟩, 5), (⟨"MarbleVotes$Flow", "isFair", "(I)Z"⟩, 7), (⟨"MarbleVotes$Sheet", "cut", "(I)I"⟩, 4)]
theorem lw_r1 : ∀ q ∈ lw_privs_1, lw_okq q := List.forall_mem_cons.mpr ⟨lw_p0, List.forall_mem_cons.mpr ⟨lw_p1, List.forall_mem_cons.mpr ⟨lw_p2, List.forall_mem_cons.mpr ⟨lw_p3, List.forall_mem_cons.mpr ⟨lw_p4, List.forall_mem_cons.mpr ⟨lw_p5, List.forall_mem_cons.mpr ⟨lw_p6, List.forall_mem_cons.mpr ⟨lw_p7, List.forall_mem_cons.mpr ⟨lw_p8, List.forall_mem_cons.mpr ⟨lw_p9, List.forall_mem_cons.mpr ⟨lw_p10, List.forall_mem_cons.mpr ⟨lw_p11, List.forall_mem_cons.mpr ⟨lw_p12, List.forall_mem_cons.mpr ⟨lw_p13, List.forall_mem_cons.mpr ⟨lw_p14, List.forall_mem_cons.mpr ⟨lw_p15, fun _ h => absurd h List.not_mem_nil⟩⟩⟩⟩⟩⟩⟩⟩⟩⟩⟩⟩⟩⟩⟩⟩
theorem lw_p16 : lw_okq (⟨"MarbleVotes", "toldByLead", "(I)I"⟩, 7) := ⟨⟨by decide +kernel, by decide +kernel⟩, List.mem_of_getElem? (i := 11) (by decide +kernel), List.mem_of_getElem? (i := 533) (by decide +kernel), List.mem_of_getElem? (i := 534) (by decide +kernel)⟩
theorem lw_p17 : lw_okq (⟨"MarbleVotes", "leaveTrace", "(I)V"⟩, 7) := ⟨⟨by decide +kernel, by decide +kernel⟩, List.mem_of_getElem? (i := 11) (by decide +kernel), List.mem_of_getElem? (i := 537) (by decide +kernel), List.mem_of_getElem? (i := 538) (by decide +kernel)⟩
theorem lw_p18 : lw_okq (⟨"MarbleVotes", "toldByHeavy", "(I)I"⟩, 7) := ⟨⟨by decide +kernel, by decide +kernel⟩, List.mem_of_getElem? (i := 11) (by decide +kernel), List.mem_of_getElem? (i := 541) (by decide +kernel), List.mem_of_getElem? (i := 542) (by decide +kernel)⟩
theorem lw_p19 : lw_okq (⟨"MarbleVotes", "toldByMarble", "(I)I"⟩, 7) := ⟨⟨by decide +kernel, by decide +kernel⟩, List.mem_of_getElem? (i := 11) (by decide +kernel), List.mem_of_getElem? (i := 545) (by decide +kernel), List.mem_of_getElem? (i := 546) (by decide +kernel)⟩
theorem lw_p20 : lw_okq (⟨"MarbleVotesModel", "refused", "(I)I"⟩, 27) := ⟨⟨by decide +kernel, by decide +kernel⟩, List.mem_of_getElem? (i := 569) (by decide +kernel), List.mem_of_getElem? (i := 669) (by decide +kernel), List.mem_of_getElem? (i := 670) (by decide +kernel)⟩
theorem lw_p21 : lw_okq (⟨"MarbleVotesModel", "cellsBarred", "(IIIJ)I"⟩, 27) := ⟨⟨by decide +kernel, by decide +kernel⟩, List.mem_of_getElem? (i := 569) (by decide +kernel), List.mem_of_getElem? (i := 674) (by decide +kernel), List.mem_of_getElem? (i := 675) (by decide +kernel)⟩
theorem lw_p22 : lw_okq (⟨"MarbleVotesModel", "failed", "(I)I"⟩, 27) := ⟨⟨by decide +kernel, by decide +kernel⟩, List.mem_of_getElem? (i := 569) (by decide +kernel), List.mem_of_getElem? (i := 678) (by decide +kernel), List.mem_of_getElem? (i := 679) (by decide +kernel)⟩
theorem lw_p23 : lw_okq (⟨"MarbleVotesModel", "readsHill", "(II)Z"⟩, 27) := ⟨⟨by decide +kernel, by decide +kernel⟩, List.mem_of_getElem? (i := 569) (by decide +kernel), List.mem_of_getElem? (i := 685) (by decide +kernel), List.mem_of_getElem? (i := 686) (by decide +kernel)⟩
theorem lw_p24 : lw_okq (⟨"MarbleVotesModel", "codeAt", "(II)I"⟩, 27) := ⟨⟨by decide +kernel, by decide +kernel⟩, List.mem_of_getElem? (i := 569) (by decide +kernel), List.mem_of_getElem? (i := 689) (by decide +kernel), List.mem_of_getElem? (i := 690) (by decide +kernel)⟩
theorem lw_p25 : lw_okq (⟨"MarbleVotesModel", "figure", "(IIII)I"⟩, 27) := ⟨⟨by decide +kernel, by decide +kernel⟩, List.mem_of_getElem? (i := 569) (by decide +kernel), List.mem_of_getElem? (i := 693) (by decide +kernel), List.mem_of_getElem? (i := 694) (by decide +kernel)⟩
theorem lw_p26 : lw_okq (⟨"MarbleVotesModel", "readsCell", "(III)Z"⟩, 27) := ⟨⟨by decide +kernel, by decide +kernel⟩, List.mem_of_getElem? (i := 569) (by decide +kernel), List.mem_of_getElem? (i := 697) (by decide +kernel), List.mem_of_getElem? (i := 698) (by decide +kernel)⟩
theorem lw_p27 : lw_okq (⟨"MarbleVotesModel", "cells", "()I"⟩, 27) := ⟨⟨by decide +kernel, by decide +kernel⟩, List.mem_of_getElem? (i := 569) (by decide +kernel), List.mem_of_getElem? (i := 704) (by decide +kernel), List.mem_of_getElem? (i := 705) (by decide +kernel)⟩
theorem lw_p28 : lw_okq (⟨"MarbleVotesModel", "noCell", "(I)Z"⟩, 27) := ⟨⟨by decide +kernel, by decide +kernel⟩, List.mem_of_getElem? (i := 569) (by decide +kernel), List.mem_of_getElem? (i := 712) (by decide +kernel), List.mem_of_getElem? (i := 713) (by decide +kernel)⟩
theorem lw_p29 : lw_okq (⟨"MarbleVotesModel", "noColumn", "(I)Z"⟩, 27) := ⟨⟨by decide +kernel, by decide +kernel⟩, List.mem_of_getElem? (i := 569) (by decide +kernel), List.mem_of_getElem? (i := 725) (by decide +kernel), List.mem_of_getElem? (i := 726) (by decide +kernel)⟩
theorem lw_p30 : lw_okq (⟨"MarbleVotesModel", "noVote", "(I)Z"⟩, 27) := ⟨⟨by decide +kernel, by decide +kernel⟩, List.mem_of_getElem? (i := 569) (by decide +kernel), List.mem_of_getElem? (i := 741) (by decide +kernel), List.mem_of_getElem? (i := 742) (by decide +kernel)⟩
theorem lw_p31 : lw_okq (⟨"MarbleVotesModel", "leftOf", "(I)I"⟩, 27) := ⟨⟨by decide +kernel, by decide +kernel⟩, List.mem_of_getElem? (i := 569) (by decide +kernel), List.mem_of_getElem? (i := 745) (by decide +kernel), List.mem_of_getElem? (i := 746) (by decide +kernel)⟩
def lw_privs_2 : List (MethodName × Nat) := [(⟨"MarbleVotes", "toldByLead", "(I)I"⟩, 7), (⟨"MarbleVotes", "leaveTrace", "(I)V"⟩, 7), (⟨"MarbleVotes", "toldByHeavy", "(I)I"⟩, 7), (⟨"MarbleVotes", "toldByMarble", "(I)I"⟩, 7), (⟨"MarbleVotesModel", "refused", "(I)I"⟩, 27), (⟨"MarbleVotesModel", "cellsBarred", "(IIIJ)I"⟩, 27), (⟨"MarbleVotesModel", "failed", "(I)I"⟩, 27), (⟨"MarbleVotesModel", "readsHill", "(II)Z"⟩, 27), (⟨"MarbleVotesModel", "codeAt", "(II)I"⟩, 27), (⟨"MarbleVotesModel", "figure", "(IIII)I"⟩, 27), (⟨"MarbleVotesModel", "readsCell", "(III)Z"⟩, 27), (⟨"MarbleVotesModel", "cells", "()I"⟩, 27), (⟨"MarbleVotesModel", "noCell", "(I)Z"⟩, 27), (⟨"MarbleVotesModel", "noColumn", "(I)Z"⟩, 27), (⟨"MarbleVotesModel", "noVote", "(I)Z"⟩, 27), (⟨"MarbleVotesModel", "leftOf", "(I)I"⟩, 27)]
theorem lw_r2 : ∀ q ∈ lw_privs_2, lw_okq q := List.forall_mem_cons.mpr ⟨lw_p16, List.forall_mem_cons.mpr ⟨lw_p17, List.forall_mem_cons.mpr ⟨lw_p18, List.forall_mem_cons.mpr ⟨lw_p19, List.forall_mem_cons.mpr ⟨lw_p20, List.forall_mem_cons.mpr ⟨lw_p21, List.forall_mem_cons.mpr ⟨lw_p22, List.forall_mem_cons.mpr ⟨lw_p23, List.forall_mem_cons.mpr ⟨lw_p24, List.forall_mem_cons.mpr ⟨lw_p25, List.forall_mem_cons.mpr ⟨lw_p26, List.forall_mem_cons.mpr ⟨lw_p27, List.forall_mem_cons.mpr ⟨lw_p28, List.forall_mem_cons.mpr ⟨lw_p29, List.forall_mem_cons.mpr ⟨lw_p30, List.forall_mem_cons.mpr ⟨lw_p31, fun _ h => absurd h List.not_mem_nil⟩⟩⟩⟩⟩⟩⟩⟩⟩⟩⟩⟩⟩⟩⟩⟩
theorem lw_p32 : lw_okq (⟨"MarbleVotesModel", "rightOf", "(I)I"⟩, 27) := ⟨⟨by decide +kernel, by decide +kernel⟩, List.mem_of_getElem? (i := 569) (by decide +kernel), List.mem_of_getElem? (i := 749) (by decide +kernel), List.mem_of_getElem? (i := 750) (by decide +kernel)⟩
theorem lw_p33 : lw_okq (⟨"MarbleVotesModel", "leftBy", "(I)I"⟩, 27) := ⟨⟨by decide +kernel, by decide +kernel⟩, List.mem_of_getElem? (i := 569) (by decide +kernel), List.mem_of_getElem? (i := 762) (by decide +kernel), List.mem_of_getElem? (i := 763) (by decide +kernel)⟩
theorem lw_p34 : lw_okq (⟨"MarbleVotesModel", "rightBy", "(I)I"⟩, 27) := ⟨⟨by decide +kernel, by decide +kernel⟩, List.mem_of_getElem? (i := 569) (by decide +kernel), List.mem_of_getElem? (i := 766) (by decide +kernel), List.mem_of_getElem? (i := 767) (by decide +kernel)⟩
theorem lw_p35 : lw_okq (⟨"MarbleVotesModel", "goesOn", "(III)I"⟩, 27) := ⟨⟨by decide +kernel, by decide +kernel⟩, List.mem_of_getElem? (i := 569) (by decide +kernel), List.mem_of_getElem? (i := 770) (by decide +kernel), List.mem_of_getElem? (i := 771) (by decide +kernel)⟩
theorem lw_p36 : lw_okq (⟨"MarbleVotesModel", "layVote", "(I)V"⟩, 27) := ⟨⟨by decide +kernel, by decide +kernel⟩, List.mem_of_getElem? (i := 569) (by decide +kernel), List.mem_of_getElem? (i := 782) (by decide +kernel), List.mem_of_getElem? (i := 783) (by decide +kernel)⟩
theorem lw_p37 : lw_okq (⟨"MarbleVotesModel", "layChances", "(II)V"⟩, 27) := ⟨⟨by decide +kernel, by decide +kernel⟩, List.mem_of_getElem? (i := 569) (by decide +kernel), List.mem_of_getElem? (i := 786) (by decide +kernel), List.mem_of_getElem? (i := 787) (by decide +kernel)⟩
theorem lw_p38 : lw_okq (⟨"MarbleVotesModel", "expectsNow", "(I)J"⟩, 27) := ⟨⟨by decide +kernel, by decide +kernel⟩, List.mem_of_getElem? (i := 569) (by decide +kernel), List.mem_of_getElem? (i := 801) (by decide +kernel), List.mem_of_getElem? (i := 802) (by decide +kernel)⟩
theorem lw_p39 : lw_okq (⟨"MarbleVotesModel", "partsFor", "(I)J"⟩, 27) := ⟨⟨by decide +kernel, by decide +kernel⟩, List.mem_of_getElem? (i := 569) (by decide +kernel), List.mem_of_getElem? (i := 805) (by decide +kernel), List.mem_of_getElem? (i := 806) (by decide +kernel)⟩
theorem lw_p40 : lw_okq (⟨"MarbleVotesModel", "moveOf", "(I)I"⟩, 27) := ⟨⟨by decide +kernel, by decide +kernel⟩, List.mem_of_getElem? (i := 569) (by decide +kernel), List.mem_of_getElem? (i := 818) (by decide +kernel), List.mem_of_getElem? (i := 819) (by decide +kernel)⟩
theorem lw_p41 : lw_okq (⟨"MarbleVotesModel", "likeliestOf", "(I)I"⟩, 27) := ⟨⟨by decide +kernel, by decide +kernel⟩, List.mem_of_getElem? (i := 569) (by decide +kernel), List.mem_of_getElem? (i := 830) (by decide +kernel), List.mem_of_getElem? (i := 831) (by decide +kernel)⟩
theorem lw_p42 : lw_okq (⟨"MarbleVotesModel", "tallyOf", "(II)I"⟩, 27) := ⟨⟨by decide +kernel, by decide +kernel⟩, List.mem_of_getElem? (i := 569) (by decide +kernel), List.mem_of_getElem? (i := 838) (by decide +kernel), List.mem_of_getElem? (i := 839) (by decide +kernel)⟩
theorem lw_p43 : lw_okq (⟨"MarbleVotesModel", "winnerBut", "(I)I"⟩, 27) := ⟨⟨by decide +kernel, by decide +kernel⟩, List.mem_of_getElem? (i := 569) (by decide +kernel), List.mem_of_getElem? (i := 846) (by decide +kernel), List.mem_of_getElem? (i := 847) (by decide +kernel)⟩
theorem lw_p44 : lw_okq (⟨"MarbleVotesModel", "holdsNow", "()J"⟩, 27) := ⟨⟨by decide +kernel, by decide +kernel⟩, List.mem_of_getElem? (i := 569) (by decide +kernel), List.mem_of_getElem? (i := 854) (by decide +kernel), List.mem_of_getElem? (i := 855) (by decide +kernel)⟩
theorem lw_p45 : lw_okq (⟨"MarbleVotesModel", "setAll", "(JI)V"⟩, 27) := ⟨⟨by decide +kernel, by decide +kernel⟩, List.mem_of_getElem? (i := 569) (by decide +kernel), List.mem_of_getElem? (i := 858) (by decide +kernel), List.mem_of_getElem? (i := 859) (by decide +kernel)⟩
theorem lw_p46 : lw_okq (⟨"MarbleVotesModel", "layCan", "()V"⟩, 27) := ⟨⟨by decide +kernel, by decide +kernel⟩, List.mem_of_getElem? (i := 569) (by decide +kernel), List.mem_of_getElem? (i := 866) (by decide +kernel), List.mem_of_getElem? (i := 867) (by decide +kernel)⟩
theorem lw_p47 : lw_okq (⟨"MarbleVotesModel", "waysBy", "(I)I"⟩, 27) := ⟨⟨by decide +kernel, by decide +kernel⟩, List.mem_of_getElem? (i := 569) (by decide +kernel), List.mem_of_getElem? (i := 870) (by decide +kernel), List.mem_of_getElem? (i := 871) (by decide +kernel)⟩
def lw_privs_3 : List (MethodName × Nat) := [(⟨"MarbleVotesModel", "rightOf", "(I)I"⟩, 27), (⟨"MarbleVotesModel", "leftBy", "(I)I"⟩, 27), (⟨"MarbleVotesModel", "rightBy", "(I)I"⟩, 27), (⟨"MarbleVotesModel", "goesOn", "(III)I"⟩, 27), (⟨"MarbleVotesModel", "layVote", "(I)V"⟩, 27), (⟨"MarbleVotesModel", "layChances", "(II)V"⟩, 27), (⟨"MarbleVotesModel", "expectsNow", "(I)J"⟩, 27), (⟨"MarbleVotesModel", "partsFor", "(I)J"⟩, 27), (⟨"MarbleVotesModel", "moveOf", "(I)I"⟩, 27), (⟨"MarbleVotesModel", "likeliestOf", "(I)I"⟩, 27), (⟨"MarbleVotesModel", "tallyOf", "(II)I"⟩, 27), (⟨"MarbleVotesModel", "winnerBut", "(I)I"⟩, 27), (⟨"MarbleVotesModel", "holdsNow", "()J"⟩, 27), (⟨"MarbleVotesModel", "setAll", "(JI)V"⟩, 27), (⟨"MarbleVotesModel", "layCan", "()V"⟩, 27), (⟨"MarbleVotesModel", "waysBy", "(I)I"⟩, 27)]
theorem lw_r3 : ∀ q ∈ lw_privs_3, lw_okq q := List.forall_mem_cons.mpr ⟨lw_p32, List.forall_mem_cons.mpr ⟨lw_p33, List.forall_mem_cons.mpr ⟨lw_p34, List.forall_mem_cons.mpr ⟨lw_p35, List.forall_mem_cons.mpr ⟨lw_p36, List.forall_mem_cons.mpr ⟨lw_p37, List.forall_mem_cons.mpr ⟨lw_p38, List.forall_mem_cons.mpr ⟨lw_p39, List.forall_mem_cons.mpr ⟨lw_p40, List.forall_mem_cons.mpr ⟨lw_p41, List.forall_mem_cons.mpr ⟨lw_p42, List.forall_mem_cons.mpr ⟨lw_p43, List.forall_mem_cons.mpr ⟨lw_p44, List.forall_mem_cons.mpr ⟨lw_p45, List.forall_mem_cons.mpr ⟨lw_p46, List.forall_mem_cons.mpr ⟨lw_p47, fun _ h => absurd h List.not_mem_nil⟩⟩⟩⟩⟩⟩⟩⟩⟩⟩⟩⟩⟩⟩⟩⟩
theorem lw_p48 : lw_okq (⟨"MarbleVotesModel", "noCell", "(II)I"⟩, 27) := ⟨⟨by decide +kernel, by decide +kernel⟩, List.mem_of_getElem? (i := 569) (by decide +kernel), List.mem_of_getElem? (i := 896) (by decide +kernel), List.mem_of_getElem? (i := 897) (by decide +kernel)⟩
theorem lw_p49 : lw_okq (⟨"MarbleVotesModel", "failedLong", "(I)J"⟩, 27) := ⟨⟨by decide +kernel, by decide +kernel⟩, List.mem_of_getElem? (i := 569) (by decide +kernel), List.mem_of_getElem? (i := 904) (by decide +kernel), List.mem_of_getElem? (i := 905) (by decide +kernel)⟩
theorem lw_p50 : lw_okq (⟨"MarbleVotesModel", "traced", "(I)V"⟩, 27) := ⟨⟨by decide +kernel, by decide +kernel⟩, List.mem_of_getElem? (i := 569) (by decide +kernel), List.mem_of_getElem? (i := 916) (by decide +kernel), List.mem_of_getElem? (i := 917) (by decide +kernel)⟩
def lw_privs_4 : List (MethodName × Nat) := [(⟨"MarbleVotesModel", "noCell", "(II)I"⟩, 27), (⟨"MarbleVotesModel", "failedLong", "(I)J"⟩, 27), (⟨"MarbleVotesModel", "traced", "(I)V"⟩, 27)]
theorem lw_r4 : ∀ q ∈ lw_privs_4, lw_okq q := List.forall_mem_cons.mpr ⟨lw_p48, List.forall_mem_cons.mpr ⟨lw_p49, List.forall_mem_cons.mpr ⟨lw_p50, fun _ h => absurd h List.not_mem_nil⟩⟩⟩
def lw_privs : List (MethodName × Nat) := lw_privs_1 ++ (lw_privs_2 ++ (lw_privs_3 ++ (lw_privs_4)))
def lw_tbl : List Cond := k2_sels lw_privs ++ tables_1
theorem lw_privs_ok : ∀ q ∈ lw_privs, lw_okq q := by
  show ∀ q ∈ lw_privs_1 ++ (lw_privs_2 ++ (lw_privs_3 ++ (lw_privs_4))), lw_okq q
  exact List.forall_mem_append.mpr ⟨lw_r1, List.forall_mem_append.mpr ⟨lw_r2, List.forall_mem_append.mpr ⟨lw_r3, lw_r4⟩⟩⟩
end
section
def RX0 : String := "MarbleVotes$Count"
def TX0 : u_T := fun k => match k with
  | 0 => ("MarbleVotes$Count", "told", "[I", true)
  | 1 => ("MarbleVotes$Count", "ends", "[I", true)
  | 2 => ("MarbleVotes$Count", "used", "[I", true)
  | 3 => ("MarbleVotes$Count", "strides", "[I", true)
  | _ => ("MarbleVotes$Count", "rowsTo", "[I", true)
def tyX0 : Nat → FieldType := fun k => match k with
  | 0 => .array .int
  | 1 => .array .int
  | 2 => .array .int
  | 3 => .array .int
  | _ => .array .int
theorem nmX0 : ∀ a, a < 5 → ∀ b, b < 5 → a ≠ b → (TX0 a).2.1 ≠ (TX0 b).2.1 := by decide +kernel
theorem tyX0_ok : ∀ k, k < 5 → parseFieldDescriptor (TX0 k).2.2.1 = some (tyX0 k) := by decide +kernel
abbrev cX0_init : ByteArray := prog_2_method_1_code
def yX0_init : MethodName := ⟨RX0, "<init>", "()V"⟩
abbrev cX0_take : ByteArray := prog_2_method_2_code
def yX0_take : MethodName := ⟨RX0, "take", "(LMarbleVotes$Sheet;III)Z"⟩
abbrev cX0_rows : ByteArray := prog_2_method_3_code
def yX0_rows : MethodName := ⟨RX0, "rows", "()I"⟩
abbrev cX0_layOut : ByteArray := prog_2_method_4_code
def yX0_layOut : MethodName := ⟨RX0, "layOut", "()I"⟩
abbrev cX0_placeNextVote : ByteArray := prog_2_method_5_code
def yX0_placeNextVote : MethodName := ⟨RX0, "placeNextVote", "(I)V"⟩
abbrev cX0_nextUsed : ByteArray := prog_2_method_6_code
def yX0_nextUsed : MethodName := ⟨RX0, "nextUsed", "()V"⟩
abbrev cX0_endsOfRows : ByteArray := prog_2_method_7_code
def yX0_endsOfRows : MethodName := ⟨RX0, "endsOfRows", "(I)I"⟩
def RX1 : String := "MarbleVotes$Flow"
def TX1 : u_T := fun k => match k with
  | 0 => ("MarbleVotes$Flow", "hill", "LMarbleVotes$Hill;", true)
  | 1 => ("MarbleVotes$Flow", "votes", "LMarbleVotes$Votes;", true)
  | 2 => ("MarbleVotes$Flow", "passing", "[[I", true)
  | 3 => ("MarbleVotes$Flow", "worth", "[[I", true)
  | 4 => ("MarbleVotes$Flow", "leanings", "[I", true)
  | 5 => ("MarbleVotes$Flow", "tallies", "[I", true)
  | _ => ("MarbleVotes$Flow", "shares", "[I", true)
def tyX1 : Nat → FieldType := fun k => match k with
  | 0 => .object "MarbleVotes$Hill"
  | 1 => .object "MarbleVotes$Votes"
  | 2 => .array (.array .int)
  | 3 => .array (.array .int)
  | 4 => .array .int
  | 5 => .array .int
  | _ => .array .int
theorem nmX1 : ∀ a, a < 7 → ∀ b, b < 7 → a ≠ b → (TX1 a).2.1 ≠ (TX1 b).2.1 := by decide +kernel
theorem tyX1_ok : ∀ k, k < 7 → parseFieldDescriptor (TX1 k).2.2.1 = some (tyX1 k) := by decide +kernel
abbrev cX1_init : ByteArray := prog_3_method_1_code
def yX1_init : MethodName := ⟨RX1, "<init>", "(LMarbleVotes$Hill;LMarbleVotes$Votes;)V"⟩
abbrev cX1_drop : ByteArray := prog_3_method_2_code
def yX1_drop : MethodName := ⟨RX1, "drop", "(II)V"⟩
abbrev cX1_dropAll : ByteArray := prog_3_method_3_code
def yX1_dropAll : MethodName := ⟨RX1, "dropAll", "(Z)V"⟩
abbrev cX1_runDown : ByteArray := prog_3_method_4_code
def yX1_runDown : MethodName := ⟨RX1, "runDown", "(IZ)V"⟩
abbrev cX1_arrived : ByteArray := prog_3_method_5_code
def yX1_arrived : MethodName := ⟨RX1, "arrived", "(II)I"⟩
abbrev cX1_stuck : ByteArray := prog_3_method_6_code
def yX1_stuck : MethodName := ⟨RX1, "stuck", "(I)I"⟩
abbrev cX1_appraiseAll : ByteArray := prog_3_method_7_code
def yX1_appraiseAll : MethodName := ⟨RX1, "appraiseAll", "(I)V"⟩
abbrev cX1_appraise : ByteArray := prog_3_method_8_code
def yX1_appraise : MethodName := ⟨RX1, "appraise", "(II)V"⟩
abbrev cX1_worthUnder : ByteArray := prog_3_method_9_code
def yX1_worthUnder : MethodName := ⟨RX1, "worthUnder", "(III)I"⟩
abbrev cX1_expected : ByteArray := prog_3_method_10_code
def yX1_expected : MethodName := ⟨RX1, "expected", "(I)I"⟩
abbrev cX1_bestStart : ByteArray := prog_3_method_11_code
def yX1_bestStart : MethodName := ⟨RX1, "bestStart", "(II)I"⟩
abbrev cX1_bestMove : ByteArray := prog_3_method_12_code
def yX1_bestMove : MethodName := ⟨RX1, "bestMove", "(I)I"⟩
abbrev cX1_gain : ByteArray := prog_3_method_13_code
def yX1_gain : MethodName := ⟨RX1, "gain", "(II)J"⟩
abbrev cX1_likeliestEnd : ByteArray := prog_3_method_14_code
def yX1_likeliestEnd : MethodName := ⟨RX1, "likeliestEnd", "(I)I"⟩
abbrev cX1_tallyOf : ByteArray := prog_3_method_15_code
def yX1_tallyOf : MethodName := ⟨RX1, "tallyOf", "(I)I"⟩
abbrev cX1_winnerOfAll : ByteArray := prog_3_method_16_code
def yX1_winnerOfAll : MethodName := ⟨RX1, "winnerOfAll", "()I"⟩
abbrev cX1_votesItHangsOn : ByteArray := prog_3_method_17_code
def yX1_votesItHangsOn : MethodName := ⟨RX1, "votesItHangsOn", "()I"⟩
abbrev cX1_findLeanings : ByteArray := prog_3_method_18_code
def yX1_findLeanings : MethodName := ⟨RX1, "findLeanings", "()V"⟩
abbrev cX1_winnerWithout : ByteArray := prog_3_method_19_code
def yX1_winnerWithout : MethodName := ⟨RX1, "winnerWithout", "(I)I"⟩
abbrev cX1_tallyWithout : ByteArray := prog_3_method_20_code
def yX1_tallyWithout : MethodName := ⟨RX1, "tallyWithout", "(I)V"⟩
abbrev cX1_damsReached : ByteArray := prog_3_method_21_code
def yX1_damsReached : MethodName := ⟨RX1, "damsReached", "(Z)J"⟩
abbrev cX1_endsOf : ByteArray := prog_3_method_22_code
def yX1_endsOf : MethodName := ⟨RX1, "endsOf", "(I)I"⟩
abbrev cX1_fairColumns : ByteArray := prog_3_method_23_code
def yX1_fairColumns : MethodName := ⟨RX1, "fairColumns", "()I"⟩
abbrev cX1_isFair : ByteArray := prog_3_method_24_code
def yX1_isFair : MethodName := ⟨RX1, "isFair", "(I)Z"⟩
def RX2 : String := "MarbleVotes$Hill"
def TX2 : u_T := fun k => match k with
  | 0 => ("MarbleVotes$Hill", "signs", "[I", true)
  | 1 => ("MarbleVotes$Hill", "parties", "[I", true)
  | 2 => ("MarbleVotes$Hill", "high", "I", false)
  | 3 => ("MarbleVotes$Hill", "wide", "I", false)
  | _ => ("MarbleVotes$Hill", "wet", "Z", false)
def tyX2 : Nat → FieldType := fun k => match k with
  | 0 => .array .int
  | 1 => .array .int
  | 2 => .int
  | 3 => .int
  | _ => .boolean
theorem nmX2 : ∀ a, a < 5 → ∀ b, b < 5 → a ≠ b → (TX2 a).2.1 ≠ (TX2 b).2.1 := by decide +kernel
theorem tyX2_ok : ∀ k, k < 5 → parseFieldDescriptor (TX2 k).2.2.1 = some (tyX2 k) := by decide +kernel
abbrev cX2_init : ByteArray := prog_4_method_1_code
def yX2_init : MethodName := ⟨RX2, "<init>", "()V"⟩
abbrev cX2_stands : ByteArray := prog_4_method_2_code
def yX2_stands : MethodName := ⟨RX2, "stands", "()Z"⟩
abbrev cX2_cells : ByteArray := prog_4_method_3_code
def yX2_cells : MethodName := ⟨RX2, "cells", "()I"⟩
abbrev cX2_hasCell : ByteArray := prog_4_method_4_code
def yX2_hasCell : MethodName := ⟨RX2, "hasCell", "(I)Z"⟩
abbrev cX2_hasColumn : ByteArray := prog_4_method_5_code
def yX2_hasColumn : MethodName := ⟨RX2, "hasColumn", "(I)Z"⟩
abbrev cX2_hasTroughOf : ByteArray := prog_4_method_6_code
def yX2_hasTroughOf : MethodName := ⟨RX2, "hasTroughOf", "(I)Z"⟩
abbrev cX2_firstFault : ByteArray := prog_4_method_7_code
def yX2_firstFault : MethodName := ⟨RX2, "firstFault", "(LMarbleVotes$Sheet;II)I"⟩
abbrev cX2_lengthOfText : ByteArray := prog_4_method_8_code
def yX2_lengthOfText : MethodName := ⟨RX2, "lengthOfText", "(II)I"⟩
abbrev cX2_goesOn : ByteArray := prog_4_method_9_code
def yX2_goesOn : MethodName := ⟨RX2, "goesOn", "(IIII)Z"⟩
abbrev cX2_signOf : ByteArray := prog_4_method_10_code
def yX2_signOf : MethodName := ⟨RX2, "signOf", "(I)I"⟩
abbrev cX2_build : ByteArray := prog_4_method_11_code
def yX2_build : MethodName := ⟨RX2, "build", "(LMarbleVotes$Sheet;I)V"⟩
abbrev cX2_partsLeft : ByteArray := prog_4_method_12_code
def yX2_partsLeft : MethodName := ⟨RX2, "partsLeft", "(II)I"⟩
abbrev cX2_partsRight : ByteArray := prog_4_method_13_code
def yX2_partsRight : MethodName := ⟨RX2, "partsRight", "(II)I"⟩
abbrev cX2_below : ByteArray := prog_4_method_14_code
def yX2_below : MethodName := ⟨RX2, "below", "(IIII)I"⟩
abbrev cX2_belowLeft : ByteArray := prog_4_method_15_code
def yX2_belowLeft : MethodName := ⟨RX2, "belowLeft", "(I)I"⟩
abbrev cX2_belowRight : ByteArray := prog_4_method_16_code
def yX2_belowRight : MethodName := ⟨RX2, "belowRight", "(I)I"⟩
def RX3 : String := "MarbleVotes$Sheet"
def TX3 : u_T := fun k => match k with
  | 0 => ("MarbleVotes$Sheet", "row", "[I", true)
  | 1 => ("MarbleVotes$Sheet", "isThere", "Z", false)
  | 2 => ("MarbleVotes$Sheet", "lane", "I", false)
  | _ => ("MarbleVotes$Sheet", "length", "I", false)
def tyX3 : Nat → FieldType := fun k => match k with
  | 0 => .array .int
  | 1 => .boolean
  | 2 => .int
  | _ => .int
theorem nmX3 : ∀ a, a < 4 → ∀ b, b < 4 → a ≠ b → (TX3 a).2.1 ≠ (TX3 b).2.1 := by decide +kernel
theorem tyX3_ok : ∀ k, k < 4 → parseFieldDescriptor (TX3 k).2.2.1 = some (tyX3 k) := by decide +kernel
abbrev cX3_init : ByteArray := prog_5_method_1_code
def yX3_init : MethodName := ⟨RX3, "<init>", "()V"⟩
abbrev cX3_renew : ByteArray := prog_5_method_2_code
def yX3_renew : MethodName := ⟨RX3, "renew", "(II)V"⟩
abbrev cX3_faultAs : ByteArray := prog_5_method_3_code
def yX3_faultAs : MethodName := ⟨RX3, "faultAs", "(I)I"⟩
abbrev cX3_has : ByteArray := prog_5_method_4_code
def yX3_has : MethodName := ⟨RX3, "has", "(I)Z"⟩
abbrev cX3_spans : ByteArray := prog_5_method_5_code
def yX3_spans : MethodName := ⟨RX3, "spans", "(II)Z"⟩
abbrev cX3_at : ByteArray := prog_5_method_6_code
def yX3_at : MethodName := ⟨RX3, "at", "(I)I"⟩
abbrev cX3_write : ByteArray := prog_5_method_7_code
def yX3_write : MethodName := ⟨RX3, "write", "(II)V"⟩
abbrev cX3_cut : ByteArray := prog_5_method_8_code
def yX3_cut : MethodName := ⟨RX3, "cut", "(I)I"⟩
def RX4 : String := "MarbleVotes$Votes"
def TX4 : u_T := fun k => match k with
  | 0 => ("MarbleVotes$Votes", "kinds", "[I", true)
  | 1 => ("MarbleVotes$Votes", "columns", "[I", true)
  | _ => ("MarbleVotes$Votes", "count", "I", false)
def tyX4 : Nat → FieldType := fun k => match k with
  | 0 => .array .int
  | 1 => .array .int
  | _ => .int
theorem nmX4 : ∀ a, a < 3 → ∀ b, b < 3 → a ≠ b → (TX4 a).2.1 ≠ (TX4 b).2.1 := by decide +kernel
theorem tyX4_ok : ∀ k, k < 3 → parseFieldDescriptor (TX4 k).2.2.1 = some (tyX4 k) := by decide +kernel
abbrev cX4_init : ByteArray := prog_6_method_1_code
def yX4_init : MethodName := ⟨RX4, "<init>", "()V"⟩
abbrev cX4_has : ByteArray := prog_6_method_2_code
def yX4_has : MethodName := ⟨RX4, "has", "(I)Z"⟩
abbrev cX4_add : ByteArray := prog_6_method_3_code
def yX4_add : MethodName := ⟨RX4, "add", "(II)I"⟩
def RX5 : String := "MarbleVotes"
def TX5 : u_T := fun k => match k with
  | 0 => ("MarbleVotes", "hill", "LMarbleVotes$Hill;", true)
  | 1 => ("MarbleVotes", "votes", "LMarbleVotes$Votes;", true)
  | 2 => ("MarbleVotes", "flow", "LMarbleVotes$Flow;", true)
  | 3 => ("MarbleVotes", "count", "LMarbleVotes$Count;", true)
  | 4 => ("MarbleVotes", "sheets", "[LMarbleVotes$Sheet;", true)
  | 5 => ("MarbleVotes", "trace", "I", false)
  | _ => ("MarbleVotes", "fault", "I", false)
def tyX5 : Nat → FieldType := fun k => match k with
  | 0 => .object "MarbleVotes$Hill"
  | 1 => .object "MarbleVotes$Votes"
  | 2 => .object "MarbleVotes$Flow"
  | 3 => .object "MarbleVotes$Count"
  | 4 => .array (.object "MarbleVotes$Sheet")
  | 5 => .int
  | _ => .int
theorem nmX5 : ∀ a, a < 7 → ∀ b, b < 7 → a ≠ b → (TX5 a).2.1 ≠ (TX5 b).2.1 := by decide +kernel
theorem tyX5_ok : ∀ k, k < 7 → parseFieldDescriptor (TX5 k).2.2.1 = some (tyX5 k) := by decide +kernel
abbrev cX5_init : ByteArray := prog_1_method_1_code
def yX5_init : MethodName := ⟨RX5, "<init>", "()V"⟩
abbrev cX5_hill : ByteArray := prog_1_method_2_code
def yX5_hill : MethodName := ⟨RX5, "hill", "(IIII)I"⟩
abbrev cX5_sign : ByteArray := prog_1_method_3_code
def yX5_sign : MethodName := ⟨RX5, "sign", "(I)I"⟩
abbrev cX5_set : ByteArray := prog_1_method_4_code
def yX5_set : MethodName := ⟨RX5, "set", "(II)I"⟩
abbrev cX5_party : ByteArray := prog_1_method_5_code
def yX5_party : MethodName := ⟨RX5, "party", "(I)I"⟩
abbrev cX5_wet : ByteArray := prog_1_method_6_code
def yX5_wet : MethodName := ⟨RX5, "wet", "(Z)I"⟩
abbrev cX5_vote : ByteArray := prog_1_method_7_code
def yX5_vote : MethodName := ⟨RX5, "vote", "(II)I"⟩
abbrev cX5_ofVote : ByteArray := prog_1_method_8_code
def yX5_ofVote : MethodName := ⟨RX5, "ofVote", "(II)I"⟩
abbrev cX5_back : ByteArray := prog_1_method_9_code
def yX5_back : MethodName := ⟨RX5, "back", "(I)I"⟩
abbrev cX5_roll : ByteArray := prog_1_method_10_code
def yX5_roll : MethodName := ⟨RX5, "roll", "(IIII)I"⟩
abbrev cX5_rollBy : ByteArray := prog_1_method_11_code
def yX5_rollBy : MethodName := ⟨RX5, "rollBy", "(ILMarbleVotes$Sheet;I)I"⟩
abbrev cX5_chance : ByteArray := prog_1_method_12_code
def yX5_chance : MethodName := ⟨RX5, "chance", "(III)J"⟩
abbrev cX5_expects : ByteArray := prog_1_method_13_code
def yX5_expects : MethodName := ⟨RX5, "expects", "(II)J"⟩
abbrev cX5_leastTerms : ByteArray := prog_1_method_14_code
def yX5_leastTerms : MethodName := ⟨RX5, "leastTerms", "(II)I"⟩
abbrev cX5_start : ByteArray := prog_1_method_15_code
def yX5_start : MethodName := ⟨RX5, "start", "(II)I"⟩
abbrev cX5_move : ByteArray := prog_1_method_16_code
def yX5_move : MethodName := ⟨RX5, "move", "(I)I"⟩
abbrev cX5_answer : ByteArray := prog_1_method_17_code
def yX5_answer : MethodName := ⟨RX5, "answer", "(II)I"⟩
abbrev cX5_likeliest : ByteArray := prog_1_method_18_code
def yX5_likeliest : MethodName := ⟨RX5, "likeliest", "(I)I"⟩
abbrev cX5_tally : ByteArray := prog_1_method_19_code
def yX5_tally : MethodName := ⟨RX5, "tally", "(I)I"⟩
abbrev cX5_winner : ByteArray := prog_1_method_20_code
def yX5_winner : MethodName := ⟨RX5, "winner", "(I)I"⟩
abbrev cX5_dams : ByteArray := prog_1_method_21_code
def yX5_dams : MethodName := ⟨RX5, "dams", "(I)J"⟩
abbrev cX5_ways : ByteArray := prog_1_method_22_code
def yX5_ways : MethodName := ⟨RX5, "ways", "(IIII)I"⟩
abbrev cX5_fair : ByteArray := prog_1_method_23_code
def yX5_fair : MethodName := ⟨RX5, "fair", "()I"⟩
abbrev cX5_sheet : ByteArray := prog_1_method_24_code
def yX5_sheet : MethodName := ⟨RX5, "sheet", "(III)I"⟩
abbrev cX5_lose : ByteArray := prog_1_method_25_code
def yX5_lose : MethodName := ⟨RX5, "lose", "(I)I"⟩
abbrev cX5_put : ByteArray := prog_1_method_26_code
def yX5_put : MethodName := ⟨RX5, "put", "(III)I"⟩
abbrev cX5_cell : ByteArray := prog_1_method_27_code
def yX5_cell : MethodName := ⟨RX5, "cell", "(III)J"⟩
abbrev cX5_copy : ByteArray := prog_1_method_28_code
def yX5_copy : MethodName := ⟨RX5, "copy", "(IIIII)I"⟩
abbrev cX5_tell : ByteArray := prog_1_method_29_code
def yX5_tell : MethodName := ⟨RX5, "tell", "(I)I"⟩
abbrev cX5_toldByMarble : ByteArray := prog_1_method_30_code
def yX5_toldByMarble : MethodName := ⟨RX5, "toldByMarble", "(I)I"⟩
abbrev cX5_toldByHeavy : ByteArray := prog_1_method_31_code
def yX5_toldByHeavy : MethodName := ⟨RX5, "toldByHeavy", "(I)I"⟩
abbrev cX5_toldByLead : ByteArray := prog_1_method_32_code
def yX5_toldByLead : MethodName := ⟨RX5, "toldByLead", "(I)I"⟩
abbrev cX5_weigh : ByteArray := prog_1_method_33_code
def yX5_weigh : MethodName := ⟨RX5, "weigh", "(I)I"⟩
abbrev cX5_as : ByteArray := prog_1_method_34_code
def yX5_as : MethodName := ⟨RX5, "as", "(II)I"⟩
abbrev cX5_trace : ByteArray := prog_1_method_35_code
def yX5_trace : MethodName := ⟨RX5, "trace", "()I"⟩
abbrev cX5_fault : ByteArray := prog_1_method_36_code
def yX5_fault : MethodName := ⟨RX5, "fault", "()I"⟩
abbrev cX5_many : ByteArray := prog_1_method_37_code
def yX5_many : MethodName := ⟨RX5, "many", "(I)I"⟩
abbrev cX5_leaveTrace : ByteArray := prog_1_method_38_code
def yX5_leaveTrace : MethodName := ⟨RX5, "leaveTrace", "(I)V"⟩
abbrev cX5_failed : ByteArray := prog_1_method_39_code
def yX5_failed : MethodName := ⟨RX5, "failed", "(I)I"⟩
abbrev cX5_isSheet : ByteArray := prog_1_method_40_code
def yX5_isSheet : MethodName := ⟨RX5, "isSheet", "(I)Z"⟩
abbrev cX5_isLane : ByteArray := prog_1_method_41_code
def yX5_isLane : MethodName := ⟨RX5, "isLane", "(I)Z"⟩
abbrev cX5_isKind : ByteArray := prog_1_method_42_code
def yX5_isKind : MethodName := ⟨RX5, "isKind", "(I)Z"⟩
abbrev cX5_isParty : ByteArray := prog_1_method_43_code
def yX5_isParty : MethodName := ⟨RX5, "isParty", "(I)Z"⟩
def RX6 : String := "MarbleVotesModel"
def TX6 : u_T := fun k => match k with
  | 0 => ("MarbleVotesModel", "fault", "I", false)
  | 1 => ("MarbleVotesModel", "high", "I", false)
  | 2 => ("MarbleVotesModel", "wide", "I", false)
  | 3 => ("MarbleVotesModel", "partyOf", "[I", true)
  | 4 => ("MarbleVotesModel", "signOf", "[I", true)
  | 5 => ("MarbleVotesModel", "isWet", "Z", false)
  | 6 => ("MarbleVotesModel", "readAt", "I", false)
  | 7 => ("MarbleVotesModel", "readHigh", "I", false)
  | 8 => ("MarbleVotesModel", "readWide", "I", false)
  | 9 => ("MarbleVotesModel", "readParty", "[I", true)
  | 10 => ("MarbleVotesModel", "readSign", "[I", true)
  | 11 => ("MarbleVotesModel", "votes", "I", false)
  | 12 => ("MarbleVotesModel", "kindOf", "[I", true)
  | 13 => ("MarbleVotesModel", "columnOf", "[I", true)
  | 14 => ("MarbleVotesModel", "now", "[J", true)
  | 15 => ("MarbleVotesModel", "then", "[J", true)
  | 16 => ("MarbleVotesModel", "chanceOf", "[J", true)
  | 17 => ("MarbleVotesModel", "allParts", "J", false)
  | 18 => ("MarbleVotesModel", "comesTo", "J", false)
  | 19 => ("MarbleVotesModel", "canCome", "[I", true)
  | 20 => ("MarbleVotesModel", "waysNow", "[I", true)
  | 21 => ("MarbleVotesModel", "waysThen", "[I", true)
  | 22 => ("MarbleVotesModel", "sheetSize", "[I", true)
  | 23 => ("MarbleVotesModel", "sheetLane", "[I", true)
  | 24 => ("MarbleVotesModel", "sheet", "[I", true)
  | 25 => ("MarbleVotesModel", "hands", "[I", true)
  | _ => ("MarbleVotesModel", "traceNow", "I", false)
def tyX6 : Nat → FieldType := fun k => match k with
  | 0 => .int
  | 1 => .int
  | 2 => .int
  | 3 => .array .int
  | 4 => .array .int
  | 5 => .boolean
  | 6 => .int
  | 7 => .int
  | 8 => .int
  | 9 => .array .int
  | 10 => .array .int
  | 11 => .int
  | 12 => .array .int
  | 13 => .array .int
  | 14 => .array .long
  | 15 => .array .long
  | 16 => .array .long
  | 17 => .long
  | 18 => .long
  | 19 => .array .int
  | 20 => .array .int
  | 21 => .array .int
  | 22 => .array .int
  | 23 => .array .int
  | 24 => .array .int
  | 25 => .array .int
  | _ => .int
theorem nmX6 : ∀ a, a < 27 → ∀ b, b < 27 → a ≠ b → (TX6 a).2.1 ≠ (TX6 b).2.1 := by decide +kernel
theorem tyX6_ok : ∀ k, k < 27 → parseFieldDescriptor (TX6 k).2.2.1 = some (tyX6 k) := by decide +kernel
abbrev cX6_init : ByteArray := prog_8_method_1_code
def yX6_init : MethodName := ⟨RX6, "<init>", "()V"⟩
abbrev cX6_in : ByteArray := prog_8_method_2_code
def yX6_in : MethodName := ⟨RX6, "in", "(JJJ)Z"⟩
abbrev cX6_lost : ByteArray := prog_8_method_3_code
def yX6_lost : MethodName := ⟨RX6, "lost", "()J"⟩
abbrev cX6_isIn : ByteArray := prog_8_method_4_code
def yX6_isIn : MethodName := ⟨RX6, "isIn", "(II)Z"⟩
abbrev cX6_bits : ByteArray := prog_8_method_5_code
def yX6_bits : MethodName := ⟨RX6, "bits", "(I)I"⟩
abbrev cX6_told : ByteArray := prog_8_method_6_code
def yX6_told : MethodName := ⟨RX6, "told", "(JJI)J"⟩
abbrev cX6_refused : ByteArray := prog_8_method_7_code
def yX6_refused : MethodName := ⟨RX6, "refused", "(I)I"⟩
abbrev cX6_failed : ByteArray := prog_8_method_8_code
def yX6_failed : MethodName := ⟨RX6, "failed", "(I)I"⟩
abbrev cX6_failedLong : ByteArray := prog_8_method_9_code
def yX6_failedLong : MethodName := ⟨RX6, "failedLong", "(I)J"⟩
abbrev cX6_cells : ByteArray := prog_8_method_10_code
def yX6_cells : MethodName := ⟨RX6, "cells", "()I"⟩
abbrev cX6_noCell : ByteArray := prog_8_method_11_code
def yX6_noCell : MethodName := ⟨RX6, "noCell", "(I)Z"⟩
abbrev cX6_noColumn : ByteArray := prog_8_method_12_code
def yX6_noColumn : MethodName := ⟨RX6, "noColumn", "(I)Z"⟩
abbrev cX6_noParty : ByteArray := prog_8_method_13_code
def yX6_noParty : MethodName := ⟨RX6, "noParty", "(I)Z"⟩
abbrev cX6_codeAt : ByteArray := prog_8_method_14_code
def yX6_codeAt : MethodName := ⟨RX6, "codeAt", "(II)I"⟩
abbrev cX6_figure : ByteArray := prog_8_method_15_code
def yX6_figure : MethodName := ⟨RX6, "figure", "(IIII)I"⟩
abbrev cX6_signBy : ByteArray := prog_8_method_16_code
def yX6_signBy : MethodName := ⟨RX6, "signBy", "(I)I"⟩
abbrev cX6_readsCell : ByteArray := prog_8_method_17_code
def yX6_readsCell : MethodName := ⟨RX6, "readsCell", "(III)Z"⟩
abbrev cX6_readsHill : ByteArray := prog_8_method_18_code
def yX6_readsHill : MethodName := ⟨RX6, "readsHill", "(II)Z"⟩
abbrev cX6_cellsBarred : ByteArray := prog_8_method_19_code
def yX6_cellsBarred : MethodName := ⟨RX6, "cellsBarred", "(IIIJ)I"⟩
abbrev cX6_hill : ByteArray := prog_8_method_20_code
def yX6_hill : MethodName := ⟨RX6, "hill", "(IIII)I"⟩
abbrev cX6_sign : ByteArray := prog_8_method_21_code
def yX6_sign : MethodName := ⟨RX6, "sign", "(I)I"⟩
abbrev cX6_set : ByteArray := prog_8_method_22_code
def yX6_set : MethodName := ⟨RX6, "set", "(II)I"⟩
abbrev cX6_party : ByteArray := prog_8_method_23_code
def yX6_party : MethodName := ⟨RX6, "party", "(I)I"⟩
abbrev cX6_wet : ByteArray := prog_8_method_24_code
def yX6_wet : MethodName := ⟨RX6, "wet", "(Z)I"⟩
abbrev cX6_noVote : ByteArray := prog_8_method_25_code
def yX6_noVote : MethodName := ⟨RX6, "noVote", "(I)Z"⟩
abbrev cX6_vote : ByteArray := prog_8_method_26_code
def yX6_vote : MethodName := ⟨RX6, "vote", "(II)I"⟩
abbrev cX6_leftOf : ByteArray := prog_8_method_27_code
def yX6_leftOf : MethodName := ⟨RX6, "leftOf", "(I)I"⟩
abbrev cX6_rightOf : ByteArray := prog_8_method_28_code
def yX6_rightOf : MethodName := ⟨RX6, "rightOf", "(I)I"⟩
abbrev cX6_ofVote : ByteArray := prog_8_method_29_code
def yX6_ofVote : MethodName := ⟨RX6, "ofVote", "(II)I"⟩
abbrev cX6_back : ByteArray := prog_8_method_30_code
def yX6_back : MethodName := ⟨RX6, "back", "(I)I"⟩
abbrev cX6_leftBy : ByteArray := prog_8_method_31_code
def yX6_leftBy : MethodName := ⟨RX6, "leftBy", "(I)I"⟩
abbrev cX6_rightBy : ByteArray := prog_8_method_32_code
def yX6_rightBy : MethodName := ⟨RX6, "rightBy", "(I)I"⟩
abbrev cX6_goesOn : ByteArray := prog_8_method_33_code
def yX6_goesOn : MethodName := ⟨RX6, "goesOn", "(III)I"⟩
abbrev cX6_roll : ByteArray := prog_8_method_34_code
def yX6_roll : MethodName := ⟨RX6, "roll", "(IIII)I"⟩
abbrev cX6_layChances : ByteArray := prog_8_method_35_code
def yX6_layChances : MethodName := ⟨RX6, "layChances", "(II)V"⟩
abbrev cX6_layVote : ByteArray := prog_8_method_36_code
def yX6_layVote : MethodName := ⟨RX6, "layVote", "(I)V"⟩
abbrev cX6_chance : ByteArray := prog_8_method_37_code
def yX6_chance : MethodName := ⟨RX6, "chance", "(III)J"⟩
abbrev cX6_partsFor : ByteArray := prog_8_method_38_code
def yX6_partsFor : MethodName := ⟨RX6, "partsFor", "(I)J"⟩
abbrev cX6_expectsNow : ByteArray := prog_8_method_39_code
def yX6_expectsNow : MethodName := ⟨RX6, "expectsNow", "(I)J"⟩
abbrev cX6_expects : ByteArray := prog_8_method_40_code
def yX6_expects : MethodName := ⟨RX6, "expects", "(II)J"⟩
abbrev cX6_start : ByteArray := prog_8_method_41_code
def yX6_start : MethodName := ⟨RX6, "start", "(II)I"⟩
abbrev cX6_moveOf : ByteArray := prog_8_method_42_code
def yX6_moveOf : MethodName := ⟨RX6, "moveOf", "(I)I"⟩
abbrev cX6_move : ByteArray := prog_8_method_43_code
def yX6_move : MethodName := ⟨RX6, "move", "(I)I"⟩
abbrev cX6_answer : ByteArray := prog_8_method_44_code
def yX6_answer : MethodName := ⟨RX6, "answer", "(II)I"⟩
abbrev cX6_likeliestOf : ByteArray := prog_8_method_45_code
def yX6_likeliestOf : MethodName := ⟨RX6, "likeliestOf", "(I)I"⟩
abbrev cX6_likeliest : ByteArray := prog_8_method_46_code
def yX6_likeliest : MethodName := ⟨RX6, "likeliest", "(I)I"⟩
abbrev cX6_tallyOf : ByteArray := prog_8_method_47_code
def yX6_tallyOf : MethodName := ⟨RX6, "tallyOf", "(II)I"⟩
abbrev cX6_tally : ByteArray := prog_8_method_48_code
def yX6_tally : MethodName := ⟨RX6, "tally", "(I)I"⟩
abbrev cX6_winnerBut : ByteArray := prog_8_method_49_code
def yX6_winnerBut : MethodName := ⟨RX6, "winnerBut", "(I)I"⟩
abbrev cX6_winner : ByteArray := prog_8_method_50_code
def yX6_winner : MethodName := ⟨RX6, "winner", "(I)I"⟩
abbrev cX6_holdsNow : ByteArray := prog_8_method_51_code
def yX6_holdsNow : MethodName := ⟨RX6, "holdsNow", "()J"⟩
abbrev cX6_setAll : ByteArray := prog_8_method_52_code
def yX6_setAll : MethodName := ⟨RX6, "setAll", "(JI)V"⟩
abbrev cX6_dams : ByteArray := prog_8_method_53_code
def yX6_dams : MethodName := ⟨RX6, "dams", "(I)J"⟩
abbrev cX6_waysBy : ByteArray := prog_8_method_54_code
def yX6_waysBy : MethodName := ⟨RX6, "waysBy", "(I)I"⟩
abbrev cX6_layCan : ByteArray := prog_8_method_55_code
def yX6_layCan : MethodName := ⟨RX6, "layCan", "()V"⟩
abbrev cX6_ways : ByteArray := prog_8_method_56_code
def yX6_ways : MethodName := ⟨RX6, "ways", "(IIII)I"⟩
abbrev cX6_fair : ByteArray := prog_8_method_57_code
def yX6_fair : MethodName := ⟨RX6, "fair", "()I"⟩
abbrev cX6_noSheet : ByteArray := prog_8_method_58_code
def yX6_noSheet : MethodName := ⟨RX6, "noSheet", "(I)Z"⟩
abbrev cX6_sheet : ByteArray := prog_8_method_59_code
def yX6_sheet : MethodName := ⟨RX6, "sheet", "(III)I"⟩
abbrev cX6_lose : ByteArray := prog_8_method_60_code
def yX6_lose : MethodName := ⟨RX6, "lose", "(I)I"⟩
abbrev cX6_noCell_ : ByteArray := prog_8_method_61_code
def yX6_noCell_ : MethodName := ⟨RX6, "noCell", "(II)I"⟩
abbrev cX6_put : ByteArray := prog_8_method_62_code
def yX6_put : MethodName := ⟨RX6, "put", "(III)I"⟩
abbrev cX6_cell : ByteArray := prog_8_method_63_code
def yX6_cell : MethodName := ⟨RX6, "cell", "(III)J"⟩
abbrev cX6_isBeyond : ByteArray := prog_8_method_64_code
def yX6_isBeyond : MethodName := ⟨RX6, "isBeyond", "(IJI)Z"⟩
abbrev cX6_copy : ByteArray := prog_8_method_65_code
def yX6_copy : MethodName := ⟨RX6, "copy", "(IIIII)I"⟩
abbrev cX6_traced : ByteArray := prog_8_method_66_code
def yX6_traced : MethodName := ⟨RX6, "traced", "(I)V"⟩
abbrev cX6_tell : ByteArray := prog_8_method_67_code
def yX6_tell : MethodName := ⟨RX6, "tell", "(I)I"⟩
abbrev cX6_weigh : ByteArray := prog_8_method_68_code
def yX6_weigh : MethodName := ⟨RX6, "weigh", "(I)I"⟩
abbrev cX6_as : ByteArray := prog_8_method_69_code
def yX6_as : MethodName := ⟨RX6, "as", "(II)I"⟩
abbrev cX6_trace : ByteArray := prog_8_method_70_code
def yX6_trace : MethodName := ⟨RX6, "trace", "()I"⟩
abbrev cX6_fault : ByteArray := prog_8_method_71_code
def yX6_fault : MethodName := ⟨RX6, "fault", "()I"⟩
abbrev cX6_many : ByteArray := prog_8_method_72_code
def yX6_many : MethodName := ⟨RX6, "many", "(I)I"⟩
def RJ10 : String := "java/lang/System"
def TJ10 : u_T := fun k => match k with
  | _ => ("", "", "", false)
def tyJ10 : Nat → FieldType := fun k => match k with
  | _ => .int
theorem nmJ10 : ∀ a, a < 0 → ∀ b, b < 0 → a ≠ b → (TJ10 a).2.1 ≠ (TJ10 b).2.1 := by decide +kernel
theorem tyJ10_ok : ∀ k, k < 0 → parseFieldDescriptor (TJ10 k).2.2.1 = some (tyJ10 k) := by decide +kernel
def RJ7 : String := "java/util/Arrays"
def TJ7 : u_T := fun k => match k with
  | _ => ("", "", "", false)
def tyJ7 : Nat → FieldType := fun k => match k with
  | _ => .int
theorem nmJ7 : ∀ a, a < 0 → ∀ b, b < 0 → a ≠ b → (TJ7 a).2.1 ≠ (TJ7 b).2.1 := by decide +kernel
theorem tyJ7_ok : ∀ k, k < 0 → parseFieldDescriptor (TJ7 k).2.2.1 = some (tyJ7 k) := by decide +kernel
abbrev cJ7_fill_53178 : ByteArray := prog_10_method_103_code
def yJ7_fill_53178 : MethodName := ⟨RJ7, "fill", "([II)V"⟩
def RL : String := "MarbleVotesLaw"
abbrev cL_law : ByteArray := code
def yL_law : MethodName := ⟨RL, "law", "([I)Z"⟩
theorem dX0_init_0 : decode cX0_init 0 = .ok (.aload_n 0, 1) := by decide +kernel
theorem dX0_init_1 : decode cX0_init 1 = .ok (.invokespecial 3, 3) := by decide +kernel
theorem dX0_init_4 : decode cX0_init 4 = .ok (.aload_n 0, 1) := by decide +kernel
theorem dX0_init_5 : decode cX0_init 5 = .ok (.bipush 7, 2) := by decide +kernel
theorem dX0_init_7 : decode cX0_init 7 = .ok (.newarray .int, 2) := by decide +kernel
theorem dX0_init_9 : decode cX0_init 9 = .ok (.putfield 9, 3) := by decide +kernel
theorem dX0_init_12 : decode cX0_init 12 = .ok (.aload_n 0, 1) := by decide +kernel
theorem dX0_init_13 : decode cX0_init 13 = .ok (.bipush 8, 2) := by decide +kernel
theorem dX0_init_15 : decode cX0_init 15 = .ok (.newarray .int, 2) := by decide +kernel
theorem dX0_init_17 : decode cX0_init 17 = .ok (.putfield 15, 3) := by decide +kernel
theorem dX0_init_20 : decode cX0_init 20 = .ok (.aload_n 0, 1) := by decide +kernel
theorem dX0_init_21 : decode cX0_init 21 = .ok (.bipush 7, 2) := by decide +kernel
theorem dX0_init_23 : decode cX0_init 23 = .ok (.newarray .int, 2) := by decide +kernel
theorem dX0_init_25 : decode cX0_init 25 = .ok (.putfield 18, 3) := by decide +kernel
theorem dX0_init_28 : decode cX0_init 28 = .ok (.aload_n 0, 1) := by decide +kernel
theorem dX0_init_29 : decode cX0_init 29 = .ok (.bipush 7, 2) := by decide +kernel
theorem dX0_init_31 : decode cX0_init 31 = .ok (.newarray .int, 2) := by decide +kernel
theorem dX0_init_33 : decode cX0_init 33 = .ok (.putfield 21, 3) := by decide +kernel
theorem dX0_init_36 : decode cX0_init 36 = .ok (.aload_n 0, 1) := by decide +kernel
theorem dX0_init_37 : decode cX0_init 37 = .ok (.sipush 192, 3) := by decide +kernel
theorem dX0_init_40 : decode cX0_init 40 = .ok (.newarray .int, 2) := by decide +kernel
theorem dX0_init_42 : decode cX0_init 42 = .ok (.putfield 24, 3) := by decide +kernel
theorem dX0_init_45 : decode cX0_init 45 = .ok (.return_, 1) := by decide +kernel
theorem dX0_take_0 : decode cX0_take 0 = .ok (.aload_n 0, 1) := by decide +kernel
theorem dX0_take_1 : decode cX0_take 1 = .ok (.getfield 9, 3) := by decide +kernel
theorem dX0_take_4 : decode cX0_take 4 = .ok (.iconst 0, 1) := by decide +kernel
theorem dX0_take_5 : decode cX0_take 5 = .ok (.invokestatic 27, 3) := by decide +kernel
theorem dX0_take_8 : decode cX0_take 8 = .ok (.iconst 0, 1) := by decide +kernel
theorem dX0_take_9 : decode cX0_take 9 = .ok (.istore 5, 2) := by decide +kernel
theorem dX0_take_11 : decode cX0_take 11 = .ok (.iconst 0, 1) := by decide +kernel
theorem dX0_take_12 : decode cX0_take 12 = .ok (.istore 6, 2) := by decide +kernel
theorem dX0_take_14 : decode cX0_take 14 = .ok (.iload 6, 2) := by decide +kernel
theorem dX0_take_16 : decode cX0_take 16 = .ok (.iload_n 3, 1) := by decide +kernel
theorem dX0_take_17 : decode cX0_take 17 = .ok (.if_icmp .gt 63, 3) := by decide +kernel
theorem dX0_take_20 : decode cX0_take 20 = .ok (.aload_n 1, 1) := by decide +kernel
theorem dX0_take_21 : decode cX0_take 21 = .ok (.iload_n 2, 1) := by decide +kernel
theorem dX0_take_22 : decode cX0_take 22 = .ok (.iload 6, 2) := by decide +kernel
theorem dX0_take_24 : decode cX0_take 24 = .ok (.iadd, 1) := by decide +kernel
theorem dX0_take_25 : decode cX0_take 25 = .ok (.invokevirtual 33, 3) := by decide +kernel
theorem dX0_take_28 : decode cX0_take 28 = .ok (.istore 7, 2) := by decide +kernel
theorem dX0_take_30 : decode cX0_take 30 = .ok (.iload 7, 2) := by decide +kernel
theorem dX0_take_32 : decode cX0_take 32 = .ok (.ifCond .lt 13, 3) := by decide +kernel
theorem dX0_take_35 : decode cX0_take 35 = .ok (.iload 7, 2) := by decide +kernel
theorem dX0_take_37 : decode cX0_take 37 = .ok (.iload 4, 2) := by decide +kernel
theorem dX0_take_39 : decode cX0_take 39 = .ok (.iload 5, 2) := by decide +kernel
theorem dX0_take_41 : decode cX0_take 41 = .ok (.isub, 1) := by decide +kernel
theorem dX0_take_42 : decode cX0_take 42 = .ok (.if_icmp .le 5, 3) := by decide +kernel
theorem dX0_take_45 : decode cX0_take 45 = .ok (.iconst 0, 1) := by decide +kernel
theorem dX0_take_46 : decode cX0_take 46 = .ok (.ireturn, 1) := by decide +kernel
theorem dX0_take_47 : decode cX0_take 47 = .ok (.aload_n 0, 1) := by decide +kernel
theorem dX0_take_48 : decode cX0_take 48 = .ok (.getfield 9, 3) := by decide +kernel
theorem dX0_take_51 : decode cX0_take 51 = .ok (.iload 6, 2) := by decide +kernel
theorem dX0_take_53 : decode cX0_take 53 = .ok (.iload_n 3, 1) := by decide +kernel
theorem dX0_take_54 : decode cX0_take 54 = .ok (.if_icmp .ge 8, 3) := by decide +kernel
theorem dX0_take_57 : decode cX0_take 57 = .ok (.iload 6, 2) := by decide +kernel
theorem dX0_take_59 : decode cX0_take 59 = .ok (.goto 5, 3) := by decide +kernel
theorem dX0_take_62 : decode cX0_take 62 = .ok (.bipush 6, 2) := by decide +kernel
theorem dX0_take_64 : decode cX0_take 64 = .ok (.iload 7, 2) := by decide +kernel
theorem dX0_take_66 : decode cX0_take 66 = .ok (.iastore, 1) := by decide +kernel
theorem dX0_take_67 : decode cX0_take 67 = .ok (.iload 5, 2) := by decide +kernel
theorem dX0_take_69 : decode cX0_take 69 = .ok (.iload 7, 2) := by decide +kernel
theorem dX0_take_71 : decode cX0_take 71 = .ok (.iadd, 1) := by decide +kernel
theorem dX0_take_72 : decode cX0_take 72 = .ok (.istore 5, 2) := by decide +kernel
theorem dX0_take_74 : decode cX0_take 74 = .ok (.iinc 6 1, 3) := by decide +kernel
theorem dX0_take_77 : decode cX0_take 77 = .ok (.goto (-63), 3) := by decide +kernel
theorem dX0_take_80 : decode cX0_take 80 = .ok (.iload 5, 2) := by decide +kernel
theorem dX0_take_82 : decode cX0_take 82 = .ok (.iload 4, 2) := by decide +kernel
theorem dX0_take_84 : decode cX0_take 84 = .ok (.if_icmp .ne 7, 3) := by decide +kernel
theorem dX0_take_87 : decode cX0_take 87 = .ok (.iconst 1, 1) := by decide +kernel
theorem dX0_take_88 : decode cX0_take 88 = .ok (.goto 4, 3) := by decide +kernel
theorem dX0_take_91 : decode cX0_take 91 = .ok (.iconst 0, 1) := by decide +kernel
theorem dX0_take_92 : decode cX0_take 92 = .ok (.ireturn, 1) := by decide +kernel
theorem dX0_rows_0 : decode cX0_rows 0 = .ok (.aload_n 0, 1) := by decide +kernel
theorem dX0_rows_1 : decode cX0_rows 1 = .ok (.invokevirtual 39, 3) := by decide +kernel
theorem dX0_rows_4 : decode cX0_rows 4 = .ok (.istore_n 1, 1) := by decide +kernel
theorem dX0_rows_5 : decode cX0_rows 5 = .ok (.iload_n 1, 1) := by decide +kernel
theorem dX0_rows_6 : decode cX0_rows 6 = .ok (.sipush 192, 3) := by decide +kernel
theorem dX0_rows_9 : decode cX0_rows 9 = .ok (.if_icmp .le 5, 3) := by decide +kernel
theorem dX0_rows_12 : decode cX0_rows 12 = .ok (.iconst 0, 1) := by decide +kernel
theorem dX0_rows_13 : decode cX0_rows 13 = .ok (.ireturn, 1) := by decide +kernel
theorem dX0_rows_14 : decode cX0_rows 14 = .ok (.aload_n 0, 1) := by decide +kernel
theorem dX0_rows_15 : decode cX0_rows 15 = .ok (.getfield 24, 3) := by decide +kernel
theorem dX0_rows_18 : decode cX0_rows 18 = .ok (.iconst 0, 1) := by decide +kernel
theorem dX0_rows_19 : decode cX0_rows 19 = .ok (.invokestatic 27, 3) := by decide +kernel
theorem dX0_rows_22 : decode cX0_rows 22 = .ok (.aload_n 0, 1) := by decide +kernel
theorem dX0_rows_23 : decode cX0_rows 23 = .ok (.getfield 18, 3) := by decide +kernel
theorem dX0_rows_26 : decode cX0_rows 26 = .ok (.iconst 0, 1) := by decide +kernel
theorem dX0_rows_27 : decode cX0_rows 27 = .ok (.invokestatic 27, 3) := by decide +kernel
theorem dX0_rows_30 : decode cX0_rows 30 = .ok (.aload_n 0, 1) := by decide +kernel
theorem dX0_rows_31 : decode cX0_rows 31 = .ok (.getfield 24, 3) := by decide +kernel
theorem dX0_rows_34 : decode cX0_rows 34 = .ok (.iconst 0, 1) := by decide +kernel
theorem dX0_rows_35 : decode cX0_rows 35 = .ok (.iconst 1, 1) := by decide +kernel
theorem dX0_rows_36 : decode cX0_rows 36 = .ok (.iastore, 1) := by decide +kernel
theorem dX0_rows_37 : decode cX0_rows 37 = .ok (.iconst 0, 1) := by decide +kernel
theorem dX0_rows_38 : decode cX0_rows 38 = .ok (.istore_n 2, 1) := by decide +kernel
theorem dX0_rows_39 : decode cX0_rows 39 = .ok (.iload_n 2, 1) := by decide +kernel
theorem dX0_rows_40 : decode cX0_rows 40 = .ok (.iload_n 1, 1) := by decide +kernel
theorem dX0_rows_41 : decode cX0_rows 41 = .ok (.iconst 1, 1) := by decide +kernel
theorem dX0_rows_42 : decode cX0_rows 42 = .ok (.isub, 1) := by decide +kernel
theorem dX0_rows_43 : decode cX0_rows 43 = .ok (.if_icmp .ge 18, 3) := by decide +kernel
theorem dX0_rows_46 : decode cX0_rows 46 = .ok (.aload_n 0, 1) := by decide +kernel
theorem dX0_rows_47 : decode cX0_rows 47 = .ok (.iload_n 2, 1) := by decide +kernel
theorem dX0_rows_48 : decode cX0_rows 48 = .ok (.invokevirtual 43, 3) := by decide +kernel
theorem dX0_rows_51 : decode cX0_rows 51 = .ok (.aload_n 0, 1) := by decide +kernel
theorem dX0_rows_52 : decode cX0_rows 52 = .ok (.invokevirtual 47, 3) := by decide +kernel
theorem dX0_rows_55 : decode cX0_rows 55 = .ok (.iinc 2 1, 3) := by decide +kernel
theorem dX0_rows_58 : decode cX0_rows 58 = .ok (.goto (-19), 3) := by decide +kernel
theorem dX0_rows_61 : decode cX0_rows 61 = .ok (.aload_n 0, 1) := by decide +kernel
theorem dX0_rows_62 : decode cX0_rows 62 = .ok (.getfield 24, 3) := by decide +kernel
theorem dX0_rows_65 : decode cX0_rows 65 = .ok (.iload_n 1, 1) := by decide +kernel
theorem dX0_rows_66 : decode cX0_rows 66 = .ok (.iconst 1, 1) := by decide +kernel
theorem dX0_rows_67 : decode cX0_rows 67 = .ok (.isub, 1) := by decide +kernel
theorem dX0_rows_68 : decode cX0_rows 68 = .ok (.iaload, 1) := by decide +kernel
theorem dX0_rows_69 : decode cX0_rows 69 = .ok (.ireturn, 1) := by decide +kernel
theorem dX0_layOut_0 : decode cX0_layOut 0 = .ok (.iconst 1, 1) := by decide +kernel
theorem dX0_layOut_1 : decode cX0_layOut 1 = .ok (.istore_n 1, 1) := by decide +kernel
theorem dX0_layOut_2 : decode cX0_layOut 2 = .ok (.iconst 0, 1) := by decide +kernel
theorem dX0_layOut_3 : decode cX0_layOut 3 = .ok (.istore_n 2, 1) := by decide +kernel
theorem dX0_layOut_4 : decode cX0_layOut 4 = .ok (.iload_n 2, 1) := by decide +kernel
theorem dX0_layOut_5 : decode cX0_layOut 5 = .ok (.bipush 7, 2) := by decide +kernel
theorem dX0_layOut_7 : decode cX0_layOut 7 = .ok (.if_icmp .ge 27, 3) := by decide +kernel
theorem dX0_layOut_10 : decode cX0_layOut 10 = .ok (.aload_n 0, 1) := by decide +kernel
theorem dX0_layOut_11 : decode cX0_layOut 11 = .ok (.getfield 21, 3) := by decide +kernel
theorem dX0_layOut_14 : decode cX0_layOut 14 = .ok (.iload_n 2, 1) := by decide +kernel
theorem dX0_layOut_15 : decode cX0_layOut 15 = .ok (.iload_n 1, 1) := by decide +kernel
theorem dX0_layOut_16 : decode cX0_layOut 16 = .ok (.iastore, 1) := by decide +kernel
theorem dX0_layOut_17 : decode cX0_layOut 17 = .ok (.iload_n 1, 1) := by decide +kernel
theorem dX0_layOut_18 : decode cX0_layOut 18 = .ok (.aload_n 0, 1) := by decide +kernel
theorem dX0_layOut_19 : decode cX0_layOut 19 = .ok (.getfield 9, 3) := by decide +kernel
theorem dX0_layOut_22 : decode cX0_layOut 22 = .ok (.iload_n 2, 1) := by decide +kernel
theorem dX0_layOut_23 : decode cX0_layOut 23 = .ok (.iaload, 1) := by decide +kernel
theorem dX0_layOut_24 : decode cX0_layOut 24 = .ok (.iconst 1, 1) := by decide +kernel
theorem dX0_layOut_25 : decode cX0_layOut 25 = .ok (.iadd, 1) := by decide +kernel
theorem dX0_layOut_26 : decode cX0_layOut 26 = .ok (.imul, 1) := by decide +kernel
theorem dX0_layOut_27 : decode cX0_layOut 27 = .ok (.istore_n 1, 1) := by decide +kernel
theorem dX0_layOut_28 : decode cX0_layOut 28 = .ok (.iinc 2 1, 3) := by decide +kernel
theorem dX0_layOut_31 : decode cX0_layOut 31 = .ok (.goto (-27), 3) := by decide +kernel
theorem dX0_layOut_34 : decode cX0_layOut 34 = .ok (.iload_n 1, 1) := by decide +kernel
theorem dX0_layOut_35 : decode cX0_layOut 35 = .ok (.ireturn, 1) := by decide +kernel
theorem dX0_placeNextVote_0 : decode cX0_placeNextVote 0 = .ok (.iconst 0, 1) := by decide +kernel
theorem dX0_placeNextVote_1 : decode cX0_placeNextVote 1 = .ok (.istore_n 2, 1) := by decide +kernel
theorem dX0_placeNextVote_2 : decode cX0_placeNextVote 2 = .ok (.iconst 0, 1) := by decide +kernel
theorem dX0_placeNextVote_3 : decode cX0_placeNextVote 3 = .ok (.istore_n 3, 1) := by decide +kernel
theorem dX0_placeNextVote_4 : decode cX0_placeNextVote 4 = .ok (.iload_n 3, 1) := by decide +kernel
theorem dX0_placeNextVote_5 : decode cX0_placeNextVote 5 = .ok (.bipush 7, 2) := by decide +kernel
theorem dX0_placeNextVote_7 : decode cX0_placeNextVote 7 = .ok (.if_icmp .ge 18, 3) := by decide +kernel
theorem dX0_placeNextVote_10 : decode cX0_placeNextVote 10 = .ok (.iload_n 2, 1) := by decide +kernel
theorem dX0_placeNextVote_11 : decode cX0_placeNextVote 11 = .ok (.aload_n 0, 1) := by decide +kernel
theorem dX0_placeNextVote_12 : decode cX0_placeNextVote 12 = .ok (.getfield 18, 3) := by decide +kernel
theorem dX0_placeNextVote_15 : decode cX0_placeNextVote 15 = .ok (.iload_n 3, 1) := by decide +kernel
theorem dX0_placeNextVote_16 : decode cX0_placeNextVote 16 = .ok (.iaload, 1) := by decide +kernel
theorem dX0_placeNextVote_17 : decode cX0_placeNextVote 17 = .ok (.iadd, 1) := by decide +kernel
theorem dX0_placeNextVote_18 : decode cX0_placeNextVote 18 = .ok (.istore_n 2, 1) := by decide +kernel
theorem dX0_placeNextVote_19 : decode cX0_placeNextVote 19 = .ok (.iinc 3 1, 3) := by decide +kernel
theorem dX0_placeNextVote_22 : decode cX0_placeNextVote 22 = .ok (.goto (-18), 3) := by decide +kernel
theorem dX0_placeNextVote_25 : decode cX0_placeNextVote 25 = .ok (.iconst 0, 1) := by decide +kernel
theorem dX0_placeNextVote_26 : decode cX0_placeNextVote 26 = .ok (.istore_n 3, 1) := by decide +kernel
theorem dX0_placeNextVote_27 : decode cX0_placeNextVote 27 = .ok (.iload_n 3, 1) := by decide +kernel
theorem dX0_placeNextVote_28 : decode cX0_placeNextVote 28 = .ok (.bipush 7, 2) := by decide +kernel
theorem dX0_placeNextVote_30 : decode cX0_placeNextVote 30 = .ok (.if_icmp .ge 66, 3) := by decide +kernel
theorem dX0_placeNextVote_33 : decode cX0_placeNextVote 33 = .ok (.aload_n 0, 1) := by decide +kernel
theorem dX0_placeNextVote_34 : decode cX0_placeNextVote 34 = .ok (.getfield 18, 3) := by decide +kernel
theorem dX0_placeNextVote_37 : decode cX0_placeNextVote 37 = .ok (.iload_n 3, 1) := by decide +kernel
theorem dX0_placeNextVote_38 : decode cX0_placeNextVote 38 = .ok (.iaload, 1) := by decide +kernel
theorem dX0_placeNextVote_39 : decode cX0_placeNextVote 39 = .ok (.aload_n 0, 1) := by decide +kernel
theorem dX0_placeNextVote_40 : decode cX0_placeNextVote 40 = .ok (.getfield 9, 3) := by decide +kernel
theorem dX0_placeNextVote_43 : decode cX0_placeNextVote 43 = .ok (.iload_n 3, 1) := by decide +kernel
theorem dX0_placeNextVote_44 : decode cX0_placeNextVote 44 = .ok (.iaload, 1) := by decide +kernel
theorem dX0_placeNextVote_45 : decode cX0_placeNextVote 45 = .ok (.if_icmp .ge 45, 3) := by decide +kernel
theorem dX0_placeNextVote_48 : decode cX0_placeNextVote 48 = .ok (.iload_n 2, 1) := by decide +kernel
theorem dX0_placeNextVote_49 : decode cX0_placeNextVote 49 = .ok (.bipush 8, 2) := by decide +kernel
theorem dX0_placeNextVote_51 : decode cX0_placeNextVote 51 = .ok (.if_icmp .ge 39, 3) := by decide +kernel
theorem dX0_placeNextVote_54 : decode cX0_placeNextVote 54 = .ok (.aload_n 0, 1) := by decide +kernel
theorem dX0_placeNextVote_55 : decode cX0_placeNextVote 55 = .ok (.getfield 15, 3) := by decide +kernel
theorem dX0_placeNextVote_58 : decode cX0_placeNextVote 58 = .ok (.iload_n 2, 1) := by decide +kernel
theorem dX0_placeNextVote_59 : decode cX0_placeNextVote 59 = .ok (.iaload, 1) := by decide +kernel
theorem dX0_placeNextVote_60 : decode cX0_placeNextVote 60 = .ok (.iload_n 3, 1) := by decide +kernel
theorem dX0_placeNextVote_61 : decode cX0_placeNextVote 61 = .ok (.ishr, 1) := by decide +kernel
theorem dX0_placeNextVote_62 : decode cX0_placeNextVote 62 = .ok (.iconst 1, 1) := by decide +kernel
theorem dX0_placeNextVote_63 : decode cX0_placeNextVote 63 = .ok (.iand, 1) := by decide +kernel
theorem dX0_placeNextVote_64 : decode cX0_placeNextVote 64 = .ok (.iconst 1, 1) := by decide +kernel
theorem dX0_placeNextVote_65 : decode cX0_placeNextVote 65 = .ok (.if_icmp .ne 25, 3) := by decide +kernel
theorem dX0_placeNextVote_68 : decode cX0_placeNextVote 68 = .ok (.aload_n 0, 1) := by decide +kernel
theorem dX0_placeNextVote_69 : decode cX0_placeNextVote 69 = .ok (.getfield 24, 3) := by decide +kernel
theorem dX0_placeNextVote_72 : decode cX0_placeNextVote 72 = .ok (.iload_n 1, 1) := by decide +kernel
theorem dX0_placeNextVote_73 : decode cX0_placeNextVote 73 = .ok (.aload_n 0, 1) := by decide +kernel
theorem dX0_placeNextVote_74 : decode cX0_placeNextVote 74 = .ok (.getfield 21, 3) := by decide +kernel
theorem dX0_placeNextVote_77 : decode cX0_placeNextVote 77 = .ok (.iload_n 3, 1) := by decide +kernel
theorem dX0_placeNextVote_78 : decode cX0_placeNextVote 78 = .ok (.iaload, 1) := by decide +kernel
theorem dX0_placeNextVote_79 : decode cX0_placeNextVote 79 = .ok (.iadd, 1) := by decide +kernel
theorem dX0_placeNextVote_80 : decode cX0_placeNextVote 80 = .ok (.dup2, 1) := by decide +kernel
theorem dX0_placeNextVote_81 : decode cX0_placeNextVote 81 = .ok (.iaload, 1) := by decide +kernel
theorem dX0_placeNextVote_82 : decode cX0_placeNextVote 82 = .ok (.aload_n 0, 1) := by decide +kernel
theorem dX0_placeNextVote_83 : decode cX0_placeNextVote 83 = .ok (.getfield 24, 3) := by decide +kernel
theorem dX0_placeNextVote_86 : decode cX0_placeNextVote 86 = .ok (.iload_n 1, 1) := by decide +kernel
theorem dX0_placeNextVote_87 : decode cX0_placeNextVote 87 = .ok (.iaload, 1) := by decide +kernel
theorem dX0_placeNextVote_88 : decode cX0_placeNextVote 88 = .ok (.iadd, 1) := by decide +kernel
theorem dX0_placeNextVote_89 : decode cX0_placeNextVote 89 = .ok (.iastore, 1) := by decide +kernel
theorem dX0_placeNextVote_90 : decode cX0_placeNextVote 90 = .ok (.iinc 3 1, 3) := by decide +kernel
theorem dX0_placeNextVote_93 : decode cX0_placeNextVote 93 = .ok (.goto (-66), 3) := by decide +kernel
theorem dX0_placeNextVote_96 : decode cX0_placeNextVote 96 = .ok (.return_, 1) := by decide +kernel
theorem dX0_nextUsed_0 : decode cX0_nextUsed 0 = .ok (.iconst 0, 1) := by decide +kernel
theorem dX0_nextUsed_1 : decode cX0_nextUsed 1 = .ok (.istore_n 1, 1) := by decide +kernel
theorem dX0_nextUsed_2 : decode cX0_nextUsed 2 = .ok (.iload_n 1, 1) := by decide +kernel
theorem dX0_nextUsed_3 : decode cX0_nextUsed 3 = .ok (.bipush 7, 2) := by decide +kernel
theorem dX0_nextUsed_5 : decode cX0_nextUsed 5 = .ok (.if_icmp .ge 42, 3) := by decide +kernel
theorem dX0_nextUsed_8 : decode cX0_nextUsed 8 = .ok (.aload_n 0, 1) := by decide +kernel
theorem dX0_nextUsed_9 : decode cX0_nextUsed 9 = .ok (.getfield 18, 3) := by decide +kernel
theorem dX0_nextUsed_12 : decode cX0_nextUsed 12 = .ok (.iload_n 1, 1) := by decide +kernel
theorem dX0_nextUsed_13 : decode cX0_nextUsed 13 = .ok (.iaload, 1) := by decide +kernel
theorem dX0_nextUsed_14 : decode cX0_nextUsed 14 = .ok (.aload_n 0, 1) := by decide +kernel
theorem dX0_nextUsed_15 : decode cX0_nextUsed 15 = .ok (.getfield 9, 3) := by decide +kernel
theorem dX0_nextUsed_18 : decode cX0_nextUsed 18 = .ok (.iload_n 1, 1) := by decide +kernel
theorem dX0_nextUsed_19 : decode cX0_nextUsed 19 = .ok (.iaload, 1) := by decide +kernel
theorem dX0_nextUsed_20 : decode cX0_nextUsed 20 = .ok (.if_icmp .ge 14, 3) := by decide +kernel
theorem dX0_nextUsed_23 : decode cX0_nextUsed 23 = .ok (.aload_n 0, 1) := by decide +kernel
theorem dX0_nextUsed_24 : decode cX0_nextUsed 24 = .ok (.getfield 18, 3) := by decide +kernel
theorem dX0_nextUsed_27 : decode cX0_nextUsed 27 = .ok (.iload_n 1, 1) := by decide +kernel
theorem dX0_nextUsed_28 : decode cX0_nextUsed 28 = .ok (.dup2, 1) := by decide +kernel
theorem dX0_nextUsed_29 : decode cX0_nextUsed 29 = .ok (.iaload, 1) := by decide +kernel
theorem dX0_nextUsed_30 : decode cX0_nextUsed 30 = .ok (.iconst 1, 1) := by decide +kernel
theorem dX0_nextUsed_31 : decode cX0_nextUsed 31 = .ok (.iadd, 1) := by decide +kernel
theorem dX0_nextUsed_32 : decode cX0_nextUsed 32 = .ok (.iastore, 1) := by decide +kernel
theorem dX0_nextUsed_33 : decode cX0_nextUsed 33 = .ok (.return_, 1) := by decide +kernel
theorem dX0_nextUsed_34 : decode cX0_nextUsed 34 = .ok (.aload_n 0, 1) := by decide +kernel
theorem dX0_nextUsed_35 : decode cX0_nextUsed 35 = .ok (.getfield 18, 3) := by decide +kernel
theorem dX0_nextUsed_38 : decode cX0_nextUsed 38 = .ok (.iload_n 1, 1) := by decide +kernel
theorem dX0_nextUsed_39 : decode cX0_nextUsed 39 = .ok (.iconst 0, 1) := by decide +kernel
theorem dX0_nextUsed_40 : decode cX0_nextUsed 40 = .ok (.iastore, 1) := by decide +kernel
theorem dX0_nextUsed_41 : decode cX0_nextUsed 41 = .ok (.iinc 1 1, 3) := by decide +kernel
theorem dX0_nextUsed_44 : decode cX0_nextUsed 44 = .ok (.goto (-42), 3) := by decide +kernel
theorem dX0_nextUsed_47 : decode cX0_nextUsed 47 = .ok (.return_, 1) := by decide +kernel
theorem dX0_endsOfRows_0 : decode cX0_endsOfRows 0 = .ok (.aload_n 0, 1) := by decide +kernel
theorem dX0_endsOfRows_1 : decode cX0_endsOfRows 1 = .ok (.getfield 15, 3) := by decide +kernel
theorem dX0_endsOfRows_4 : decode cX0_endsOfRows 4 = .ok (.iload_n 1, 1) := by decide +kernel
theorem dX0_endsOfRows_5 : decode cX0_endsOfRows 5 = .ok (.iaload, 1) := by decide +kernel
theorem dX0_endsOfRows_6 : decode cX0_endsOfRows 6 = .ok (.istore_n 2, 1) := by decide +kernel
theorem dX0_endsOfRows_7 : decode cX0_endsOfRows 7 = .ok (.iconst 0, 1) := by decide +kernel
theorem dX0_endsOfRows_8 : decode cX0_endsOfRows 8 = .ok (.istore_n 3, 1) := by decide +kernel
theorem dX0_endsOfRows_9 : decode cX0_endsOfRows 9 = .ok (.iconst 0, 1) := by decide +kernel
theorem dX0_endsOfRows_10 : decode cX0_endsOfRows 10 = .ok (.istore 4, 2) := by decide +kernel
theorem dX0_endsOfRows_12 : decode cX0_endsOfRows 12 = .ok (.iload 4, 2) := by decide +kernel
theorem dX0_endsOfRows_14 : decode cX0_endsOfRows 14 = .ok (.bipush 7, 2) := by decide +kernel
theorem dX0_endsOfRows_16 : decode cX0_endsOfRows 16 = .ok (.if_icmp .ge 44, 3) := by decide +kernel
theorem dX0_endsOfRows_19 : decode cX0_endsOfRows 19 = .ok (.aload_n 0, 1) := by decide +kernel
theorem dX0_endsOfRows_20 : decode cX0_endsOfRows 20 = .ok (.getfield 15, 3) := by decide +kernel
theorem dX0_endsOfRows_23 : decode cX0_endsOfRows 23 = .ok (.iload_n 1, 1) := by decide +kernel
theorem dX0_endsOfRows_24 : decode cX0_endsOfRows 24 = .ok (.iload_n 2, 1) := by decide +kernel
theorem dX0_endsOfRows_25 : decode cX0_endsOfRows 25 = .ok (.iconst 1, 1) := by decide +kernel
theorem dX0_endsOfRows_26 : decode cX0_endsOfRows 26 = .ok (.iload 4, 2) := by decide +kernel
theorem dX0_endsOfRows_28 : decode cX0_endsOfRows 28 = .ok (.ishl, 1) := by decide +kernel
theorem dX0_endsOfRows_29 : decode cX0_endsOfRows 29 = .ok (.iand, 1) := by decide +kernel
theorem dX0_endsOfRows_30 : decode cX0_endsOfRows 30 = .ok (.iastore, 1) := by decide +kernel
theorem dX0_endsOfRows_31 : decode cX0_endsOfRows 31 = .ok (.aload_n 0, 1) := by decide +kernel
theorem dX0_endsOfRows_32 : decode cX0_endsOfRows 32 = .ok (.getfield 15, 3) := by decide +kernel
theorem dX0_endsOfRows_35 : decode cX0_endsOfRows 35 = .ok (.iload_n 1, 1) := by decide +kernel
theorem dX0_endsOfRows_36 : decode cX0_endsOfRows 36 = .ok (.iaload, 1) := by decide +kernel
theorem dX0_endsOfRows_37 : decode cX0_endsOfRows 37 = .ok (.ifCond .eq 17, 3) := by decide +kernel
theorem dX0_endsOfRows_40 : decode cX0_endsOfRows 40 = .ok (.aload_n 0, 1) := by decide +kernel
theorem dX0_endsOfRows_41 : decode cX0_endsOfRows 41 = .ok (.invokevirtual 50, 3) := by decide +kernel
theorem dX0_endsOfRows_44 : decode cX0_endsOfRows 44 = .ok (.ifCond .le 10, 3) := by decide +kernel
theorem dX0_endsOfRows_47 : decode cX0_endsOfRows 47 = .ok (.iload_n 3, 1) := by decide +kernel
theorem dX0_endsOfRows_48 : decode cX0_endsOfRows 48 = .ok (.iconst 1, 1) := by decide +kernel
theorem dX0_endsOfRows_49 : decode cX0_endsOfRows 49 = .ok (.iload 4, 2) := by decide +kernel
theorem dX0_endsOfRows_51 : decode cX0_endsOfRows 51 = .ok (.ishl, 1) := by decide +kernel
theorem dX0_endsOfRows_52 : decode cX0_endsOfRows 52 = .ok (.ior, 1) := by decide +kernel
theorem dX0_endsOfRows_53 : decode cX0_endsOfRows 53 = .ok (.istore_n 3, 1) := by decide +kernel
theorem dX0_endsOfRows_54 : decode cX0_endsOfRows 54 = .ok (.iinc 4 1, 3) := by decide +kernel
theorem dX0_endsOfRows_57 : decode cX0_endsOfRows 57 = .ok (.goto (-45), 3) := by decide +kernel
theorem dX0_endsOfRows_60 : decode cX0_endsOfRows 60 = .ok (.aload_n 0, 1) := by decide +kernel
theorem dX0_endsOfRows_61 : decode cX0_endsOfRows 61 = .ok (.getfield 15, 3) := by decide +kernel
theorem dX0_endsOfRows_64 : decode cX0_endsOfRows 64 = .ok (.iload_n 1, 1) := by decide +kernel
theorem dX0_endsOfRows_65 : decode cX0_endsOfRows 65 = .ok (.iload_n 2, 1) := by decide +kernel
theorem dX0_endsOfRows_66 : decode cX0_endsOfRows 66 = .ok (.iastore, 1) := by decide +kernel
theorem dX0_endsOfRows_67 : decode cX0_endsOfRows 67 = .ok (.iload_n 3, 1) := by decide +kernel
theorem dX0_endsOfRows_68 : decode cX0_endsOfRows 68 = .ok (.ireturn, 1) := by decide +kernel
theorem dX1_init_0 : decode cX1_init 0 = .ok (.aload_n 0, 1) := by decide +kernel
theorem dX1_init_1 : decode cX1_init 1 = .ok (.invokespecial 3, 3) := by decide +kernel
theorem dX1_init_4 : decode cX1_init 4 = .ok (.aload_n 0, 1) := by decide +kernel
theorem dX1_init_5 : decode cX1_init 5 = .ok (.iconst 3, 1) := by decide +kernel
theorem dX1_init_6 : decode cX1_init 6 = .ok (.bipush 36, 2) := by decide +kernel
theorem dX1_init_8 : decode cX1_init 8 = .ok (.multianewarray 9 2, 4) := by decide +kernel
theorem dX1_init_12 : decode cX1_init 12 = .ok (.putfield 11, 3) := by decide +kernel
theorem dX1_init_15 : decode cX1_init 15 = .ok (.aload_n 0, 1) := by decide +kernel
theorem dX1_init_16 : decode cX1_init 16 = .ok (.iconst 3, 1) := by decide +kernel
theorem dX1_init_17 : decode cX1_init 17 = .ok (.bipush 36, 2) := by decide +kernel
theorem dX1_init_19 : decode cX1_init 19 = .ok (.multianewarray 9 2, 4) := by decide +kernel
theorem dX1_init_23 : decode cX1_init 23 = .ok (.putfield 16, 3) := by decide +kernel
theorem dX1_init_26 : decode cX1_init 26 = .ok (.aload_n 0, 1) := by decide +kernel
theorem dX1_init_27 : decode cX1_init 27 = .ok (.bipush 8, 2) := by decide +kernel
theorem dX1_init_29 : decode cX1_init 29 = .ok (.newarray .int, 2) := by decide +kernel
theorem dX1_init_31 : decode cX1_init 31 = .ok (.putfield 19, 3) := by decide +kernel
theorem dX1_init_34 : decode cX1_init 34 = .ok (.aload_n 0, 1) := by decide +kernel
theorem dX1_init_35 : decode cX1_init 35 = .ok (.iconst 4, 1) := by decide +kernel
theorem dX1_init_36 : decode cX1_init 36 = .ok (.newarray .int, 2) := by decide +kernel
theorem dX1_init_38 : decode cX1_init 38 = .ok (.putfield 23, 3) := by decide +kernel
theorem dX1_init_41 : decode cX1_init 41 = .ok (.aload_n 0, 1) := by decide +kernel
theorem dX1_init_42 : decode cX1_init 42 = .ok (.iconst 4, 1) := by decide +kernel
theorem dX1_init_43 : decode cX1_init 43 = .ok (.newarray .int, 2) := by decide +kernel
theorem dX1_init_45 : decode cX1_init 45 = .ok (.putfield 26, 3) := by decide +kernel
theorem dX1_init_48 : decode cX1_init 48 = .ok (.aload_n 0, 1) := by decide +kernel
theorem dX1_init_49 : decode cX1_init 49 = .ok (.aload_n 1, 1) := by decide +kernel
theorem dX1_init_50 : decode cX1_init 50 = .ok (.putfield 29, 3) := by decide +kernel
theorem dX1_init_53 : decode cX1_init 53 = .ok (.aload_n 0, 1) := by decide +kernel
theorem dX1_init_54 : decode cX1_init 54 = .ok (.aload_n 2, 1) := by decide +kernel
theorem dX1_init_55 : decode cX1_init 55 = .ok (.putfield 33, 3) := by decide +kernel
theorem dX1_init_58 : decode cX1_init 58 = .ok (.return_, 1) := by decide +kernel
theorem dX1_drop_0 : decode cX1_drop 0 = .ok (.aload_n 0, 1) := by decide +kernel
theorem dX1_drop_1 : decode cX1_drop 1 = .ok (.getfield 11, 3) := by decide +kernel
theorem dX1_drop_4 : decode cX1_drop 4 = .ok (.iload_n 1, 1) := by decide +kernel
theorem dX1_drop_5 : decode cX1_drop 5 = .ok (.aaload, 1) := by decide +kernel
theorem dX1_drop_6 : decode cX1_drop 6 = .ok (.iconst 0, 1) := by decide +kernel
theorem dX1_drop_7 : decode cX1_drop 7 = .ok (.invokestatic 37, 3) := by decide +kernel
theorem dX1_drop_10 : decode cX1_drop 10 = .ok (.aload_n 0, 1) := by decide +kernel
theorem dX1_drop_11 : decode cX1_drop 11 = .ok (.getfield 11, 3) := by decide +kernel
theorem dX1_drop_14 : decode cX1_drop 14 = .ok (.iload_n 1, 1) := by decide +kernel
theorem dX1_drop_15 : decode cX1_drop 15 = .ok (.aaload, 1) := by decide +kernel
theorem dX1_drop_16 : decode cX1_drop 16 = .ok (.iload_n 2, 1) := by decide +kernel
theorem dX1_drop_17 : decode cX1_drop 17 = .ok (.ldc 43, 2) := by decide +kernel
theorem dX1_drop_19 : decode cX1_drop 19 = .ok (.iastore, 1) := by decide +kernel
theorem dX1_drop_20 : decode cX1_drop 20 = .ok (.aload_n 0, 1) := by decide +kernel
theorem dX1_drop_21 : decode cX1_drop 21 = .ok (.iload_n 1, 1) := by decide +kernel
theorem dX1_drop_22 : decode cX1_drop 22 = .ok (.iconst 1, 1) := by decide +kernel
theorem dX1_drop_23 : decode cX1_drop 23 = .ok (.invokevirtual 44, 3) := by decide +kernel
theorem dX1_drop_26 : decode cX1_drop 26 = .ok (.return_, 1) := by decide +kernel
theorem dX1_dropAll_0 : decode cX1_dropAll 0 = .ok (.iconst 0, 1) := by decide +kernel
theorem dX1_dropAll_1 : decode cX1_dropAll 1 = .ok (.istore_n 2, 1) := by decide +kernel
theorem dX1_dropAll_2 : decode cX1_dropAll 2 = .ok (.iload_n 2, 1) := by decide +kernel
theorem dX1_dropAll_3 : decode cX1_dropAll 3 = .ok (.iconst 3, 1) := by decide +kernel
theorem dX1_dropAll_4 : decode cX1_dropAll 4 = .ok (.if_icmp .ge 19, 3) := by decide +kernel
theorem dX1_dropAll_7 : decode cX1_dropAll 7 = .ok (.aload_n 0, 1) := by decide +kernel
theorem dX1_dropAll_8 : decode cX1_dropAll 8 = .ok (.getfield 11, 3) := by decide +kernel
theorem dX1_dropAll_11 : decode cX1_dropAll 11 = .ok (.iload_n 2, 1) := by decide +kernel
theorem dX1_dropAll_12 : decode cX1_dropAll 12 = .ok (.aaload, 1) := by decide +kernel
theorem dX1_dropAll_13 : decode cX1_dropAll 13 = .ok (.iconst 0, 1) := by decide +kernel
theorem dX1_dropAll_14 : decode cX1_dropAll 14 = .ok (.invokestatic 37, 3) := by decide +kernel
theorem dX1_dropAll_17 : decode cX1_dropAll 17 = .ok (.iinc 2 1, 3) := by decide +kernel
theorem dX1_dropAll_20 : decode cX1_dropAll 20 = .ok (.goto (-18), 3) := by decide +kernel
theorem dX1_dropAll_23 : decode cX1_dropAll 23 = .ok (.iconst 0, 1) := by decide +kernel
theorem dX1_dropAll_24 : decode cX1_dropAll 24 = .ok (.istore_n 2, 1) := by decide +kernel
theorem dX1_dropAll_25 : decode cX1_dropAll 25 = .ok (.iload_n 2, 1) := by decide +kernel
theorem dX1_dropAll_26 : decode cX1_dropAll 26 = .ok (.aload_n 0, 1) := by decide +kernel
theorem dX1_dropAll_27 : decode cX1_dropAll 27 = .ok (.getfield 33, 3) := by decide +kernel
theorem dX1_dropAll_30 : decode cX1_dropAll 30 = .ok (.getfield 48, 3) := by decide +kernel
theorem dX1_dropAll_33 : decode cX1_dropAll 33 = .ok (.if_icmp .ge 38, 3) := by decide +kernel
theorem dX1_dropAll_36 : decode cX1_dropAll 36 = .ok (.aload_n 0, 1) := by decide +kernel
theorem dX1_dropAll_37 : decode cX1_dropAll 37 = .ok (.getfield 11, 3) := by decide +kernel
theorem dX1_dropAll_40 : decode cX1_dropAll 40 = .ok (.aload_n 0, 1) := by decide +kernel
theorem dX1_dropAll_41 : decode cX1_dropAll 41 = .ok (.getfield 33, 3) := by decide +kernel
theorem dX1_dropAll_44 : decode cX1_dropAll 44 = .ok (.getfield 54, 3) := by decide +kernel
theorem dX1_dropAll_47 : decode cX1_dropAll 47 = .ok (.iload_n 2, 1) := by decide +kernel
theorem dX1_dropAll_48 : decode cX1_dropAll 48 = .ok (.iaload, 1) := by decide +kernel
theorem dX1_dropAll_49 : decode cX1_dropAll 49 = .ok (.aaload, 1) := by decide +kernel
theorem dX1_dropAll_50 : decode cX1_dropAll 50 = .ok (.aload_n 0, 1) := by decide +kernel
theorem dX1_dropAll_51 : decode cX1_dropAll 51 = .ok (.getfield 33, 3) := by decide +kernel
theorem dX1_dropAll_54 : decode cX1_dropAll 54 = .ok (.getfield 57, 3) := by decide +kernel
theorem dX1_dropAll_57 : decode cX1_dropAll 57 = .ok (.iload_n 2, 1) := by decide +kernel
theorem dX1_dropAll_58 : decode cX1_dropAll 58 = .ok (.iaload, 1) := by decide +kernel
theorem dX1_dropAll_59 : decode cX1_dropAll 59 = .ok (.dup2, 1) := by decide +kernel
theorem dX1_dropAll_60 : decode cX1_dropAll 60 = .ok (.iaload, 1) := by decide +kernel
theorem dX1_dropAll_61 : decode cX1_dropAll 61 = .ok (.ldc 43, 2) := by decide +kernel
theorem dX1_dropAll_63 : decode cX1_dropAll 63 = .ok (.iadd, 1) := by decide +kernel
theorem dX1_dropAll_64 : decode cX1_dropAll 64 = .ok (.iastore, 1) := by decide +kernel
theorem dX1_dropAll_65 : decode cX1_dropAll 65 = .ok (.iinc 2 1, 3) := by decide +kernel
theorem dX1_dropAll_68 : decode cX1_dropAll 68 = .ok (.goto (-43), 3) := by decide +kernel
theorem dX1_dropAll_71 : decode cX1_dropAll 71 = .ok (.iconst 0, 1) := by decide +kernel
theorem dX1_dropAll_72 : decode cX1_dropAll 72 = .ok (.istore_n 2, 1) := by decide +kernel
theorem dX1_dropAll_73 : decode cX1_dropAll 73 = .ok (.iload_n 2, 1) := by decide +kernel
theorem dX1_dropAll_74 : decode cX1_dropAll 74 = .ok (.iconst 3, 1) := by decide +kernel
theorem dX1_dropAll_75 : decode cX1_dropAll 75 = .ok (.if_icmp .ge 15, 3) := by decide +kernel
theorem dX1_dropAll_78 : decode cX1_dropAll 78 = .ok (.aload_n 0, 1) := by decide +kernel
theorem dX1_dropAll_79 : decode cX1_dropAll 79 = .ok (.iload_n 2, 1) := by decide +kernel
theorem dX1_dropAll_80 : decode cX1_dropAll 80 = .ok (.iload_n 1, 1) := by decide +kernel
theorem dX1_dropAll_81 : decode cX1_dropAll 81 = .ok (.invokevirtual 44, 3) := by decide +kernel
theorem dX1_dropAll_84 : decode cX1_dropAll 84 = .ok (.iinc 2 1, 3) := by decide +kernel
theorem dX1_dropAll_87 : decode cX1_dropAll 87 = .ok (.goto (-14), 3) := by decide +kernel
theorem dX1_dropAll_90 : decode cX1_dropAll 90 = .ok (.return_, 1) := by decide +kernel
theorem dX1_runDown_0 : decode cX1_runDown 0 = .ok (.aload_n 0, 1) := by decide +kernel
theorem dX1_runDown_1 : decode cX1_runDown 1 = .ok (.getfield 11, 3) := by decide +kernel
theorem dX1_runDown_4 : decode cX1_runDown 4 = .ok (.iload_n 1, 1) := by decide +kernel
theorem dX1_runDown_5 : decode cX1_runDown 5 = .ok (.aaload, 1) := by decide +kernel
theorem dX1_runDown_6 : decode cX1_runDown 6 = .ok (.astore_n 3, 1) := by decide +kernel
theorem dX1_runDown_7 : decode cX1_runDown 7 = .ok (.iconst 0, 1) := by decide +kernel
theorem dX1_runDown_8 : decode cX1_runDown 8 = .ok (.istore 4, 2) := by decide +kernel
theorem dX1_runDown_10 : decode cX1_runDown 10 = .ok (.iload 4, 2) := by decide +kernel
theorem dX1_runDown_12 : decode cX1_runDown 12 = .ok (.aload_n 0, 1) := by decide +kernel
theorem dX1_runDown_13 : decode cX1_runDown 13 = .ok (.getfield 29, 3) := by decide +kernel
theorem dX1_runDown_16 : decode cX1_runDown 16 = .ok (.invokevirtual 60, 3) := by decide +kernel
theorem dX1_runDown_19 : decode cX1_runDown 19 = .ok (.if_icmp .ge 138, 3) := by decide +kernel
theorem dX1_runDown_22 : decode cX1_runDown 22 = .ok (.aload_n 0, 1) := by decide +kernel
theorem dX1_runDown_23 : decode cX1_runDown 23 = .ok (.getfield 29, 3) := by decide +kernel
theorem dX1_runDown_26 : decode cX1_runDown 26 = .ok (.getfield 66, 3) := by decide +kernel
theorem dX1_runDown_29 : decode cX1_runDown 29 = .ok (.iload 4, 2) := by decide +kernel
theorem dX1_runDown_31 : decode cX1_runDown 31 = .ok (.iaload, 1) := by decide +kernel
theorem dX1_runDown_32 : decode cX1_runDown 32 = .ok (.istore 5, 2) := by decide +kernel
theorem dX1_runDown_34 : decode cX1_runDown 34 = .ok (.aload_n 3, 1) := by decide +kernel
theorem dX1_runDown_35 : decode cX1_runDown 35 = .ok (.iload 4, 2) := by decide +kernel
theorem dX1_runDown_37 : decode cX1_runDown 37 = .ok (.iaload, 1) := by decide +kernel
theorem dX1_runDown_38 : decode cX1_runDown 38 = .ok (.ifCond .eq 113, 3) := by decide +kernel
theorem dX1_runDown_41 : decode cX1_runDown 41 = .ok (.iload 5, 2) := by decide +kernel
theorem dX1_runDown_43 : decode cX1_runDown 43 = .ok (.iconst 4, 1) := by decide +kernel
theorem dX1_runDown_44 : decode cX1_runDown 44 = .ok (.if_icmp .ne 10, 3) := by decide +kernel
theorem dX1_runDown_47 : decode cX1_runDown 47 = .ok (.iload_n 2, 1) := by decide +kernel
theorem dX1_runDown_48 : decode cX1_runDown 48 = .ok (.ifCond .eq 6, 3) := by decide +kernel
theorem dX1_runDown_51 : decode cX1_runDown 51 = .ok (.goto 100, 3) := by decide +kernel
theorem dX1_runDown_54 : decode cX1_runDown 54 = .ok (.aload_n 3, 1) := by decide +kernel
theorem dX1_runDown_55 : decode cX1_runDown 55 = .ok (.iload 4, 2) := by decide +kernel
theorem dX1_runDown_57 : decode cX1_runDown 57 = .ok (.iaload, 1) := by decide +kernel
theorem dX1_runDown_58 : decode cX1_runDown 58 = .ok (.bipush 8, 2) := by decide +kernel
theorem dX1_runDown_60 : decode cX1_runDown 60 = .ok (.idiv, 1) := by decide +kernel
theorem dX1_runDown_61 : decode cX1_runDown 61 = .ok (.aload_n 0, 1) := by decide +kernel
theorem dX1_runDown_62 : decode cX1_runDown 62 = .ok (.getfield 29, 3) := by decide +kernel
theorem dX1_runDown_65 : decode cX1_runDown 65 = .ok (.iload 5, 2) := by decide +kernel
theorem dX1_runDown_67 : decode cX1_runDown 67 = .ok (.iload_n 1, 1) := by decide +kernel
theorem dX1_runDown_68 : decode cX1_runDown 68 = .ok (.invokevirtual 69, 3) := by decide +kernel
theorem dX1_runDown_71 : decode cX1_runDown 71 = .ok (.imul, 1) := by decide +kernel
theorem dX1_runDown_72 : decode cX1_runDown 72 = .ok (.istore 6, 2) := by decide +kernel
theorem dX1_runDown_74 : decode cX1_runDown 74 = .ok (.aload_n 3, 1) := by decide +kernel
theorem dX1_runDown_75 : decode cX1_runDown 75 = .ok (.iload 4, 2) := by decide +kernel
theorem dX1_runDown_77 : decode cX1_runDown 77 = .ok (.iaload, 1) := by decide +kernel
theorem dX1_runDown_78 : decode cX1_runDown 78 = .ok (.bipush 8, 2) := by decide +kernel
theorem dX1_runDown_80 : decode cX1_runDown 80 = .ok (.idiv, 1) := by decide +kernel
theorem dX1_runDown_81 : decode cX1_runDown 81 = .ok (.aload_n 0, 1) := by decide +kernel
theorem dX1_runDown_82 : decode cX1_runDown 82 = .ok (.getfield 29, 3) := by decide +kernel
theorem dX1_runDown_85 : decode cX1_runDown 85 = .ok (.iload 5, 2) := by decide +kernel
theorem dX1_runDown_87 : decode cX1_runDown 87 = .ok (.iload_n 1, 1) := by decide +kernel
theorem dX1_runDown_88 : decode cX1_runDown 88 = .ok (.invokevirtual 73, 3) := by decide +kernel
theorem dX1_runDown_91 : decode cX1_runDown 91 = .ok (.imul, 1) := by decide +kernel
theorem dX1_runDown_92 : decode cX1_runDown 92 = .ok (.istore 7, 2) := by decide +kernel
theorem dX1_runDown_94 : decode cX1_runDown 94 = .ok (.aload_n 3, 1) := by decide +kernel
theorem dX1_runDown_95 : decode cX1_runDown 95 = .ok (.aload_n 0, 1) := by decide +kernel
theorem dX1_runDown_96 : decode cX1_runDown 96 = .ok (.getfield 29, 3) := by decide +kernel
theorem dX1_runDown_99 : decode cX1_runDown 99 = .ok (.iload 4, 2) := by decide +kernel
theorem dX1_runDown_101 : decode cX1_runDown 101 = .ok (.invokevirtual 76, 3) := by decide +kernel
theorem dX1_runDown_104 : decode cX1_runDown 104 = .ok (.dup2, 1) := by decide +kernel
theorem dX1_runDown_105 : decode cX1_runDown 105 = .ok (.iaload, 1) := by decide +kernel
theorem dX1_runDown_106 : decode cX1_runDown 106 = .ok (.iload 6, 2) := by decide +kernel
theorem dX1_runDown_108 : decode cX1_runDown 108 = .ok (.iadd, 1) := by decide +kernel
theorem dX1_runDown_109 : decode cX1_runDown 109 = .ok (.iastore, 1) := by decide +kernel
theorem dX1_runDown_110 : decode cX1_runDown 110 = .ok (.aload_n 3, 1) := by decide +kernel
theorem dX1_runDown_111 : decode cX1_runDown 111 = .ok (.aload_n 0, 1) := by decide +kernel
theorem dX1_runDown_112 : decode cX1_runDown 112 = .ok (.getfield 29, 3) := by decide +kernel
theorem dX1_runDown_115 : decode cX1_runDown 115 = .ok (.iload 4, 2) := by decide +kernel
theorem dX1_runDown_117 : decode cX1_runDown 117 = .ok (.invokevirtual 80, 3) := by decide +kernel
theorem dX1_runDown_120 : decode cX1_runDown 120 = .ok (.dup2, 1) := by decide +kernel
theorem dX1_runDown_121 : decode cX1_runDown 121 = .ok (.iaload, 1) := by decide +kernel
theorem dX1_runDown_122 : decode cX1_runDown 122 = .ok (.iload 7, 2) := by decide +kernel
theorem dX1_runDown_124 : decode cX1_runDown 124 = .ok (.iadd, 1) := by decide +kernel
theorem dX1_runDown_125 : decode cX1_runDown 125 = .ok (.iastore, 1) := by decide +kernel
theorem dX1_runDown_126 : decode cX1_runDown 126 = .ok (.aload_n 3, 1) := by decide +kernel
theorem dX1_runDown_127 : decode cX1_runDown 127 = .ok (.iload 4, 2) := by decide +kernel
theorem dX1_runDown_129 : decode cX1_runDown 129 = .ok (.aload_n 0, 1) := by decide +kernel
theorem dX1_runDown_130 : decode cX1_runDown 130 = .ok (.getfield 29, 3) := by decide +kernel
theorem dX1_runDown_133 : decode cX1_runDown 133 = .ok (.getfield 83, 3) := by decide +kernel
theorem dX1_runDown_136 : decode cX1_runDown 136 = .ok (.iadd, 1) := by decide +kernel
theorem dX1_runDown_137 : decode cX1_runDown 137 = .ok (.dup2, 1) := by decide +kernel
theorem dX1_runDown_138 : decode cX1_runDown 138 = .ok (.iaload, 1) := by decide +kernel
theorem dX1_runDown_139 : decode cX1_runDown 139 = .ok (.aload_n 3, 1) := by decide +kernel
theorem dX1_runDown_140 : decode cX1_runDown 140 = .ok (.iload 4, 2) := by decide +kernel
theorem dX1_runDown_142 : decode cX1_runDown 142 = .ok (.iaload, 1) := by decide +kernel
theorem dX1_runDown_143 : decode cX1_runDown 143 = .ok (.iload 6, 2) := by decide +kernel
theorem dX1_runDown_145 : decode cX1_runDown 145 = .ok (.isub, 1) := by decide +kernel
theorem dX1_runDown_146 : decode cX1_runDown 146 = .ok (.iload 7, 2) := by decide +kernel
theorem dX1_runDown_148 : decode cX1_runDown 148 = .ok (.isub, 1) := by decide +kernel
theorem dX1_runDown_149 : decode cX1_runDown 149 = .ok (.iadd, 1) := by decide +kernel
theorem dX1_runDown_150 : decode cX1_runDown 150 = .ok (.iastore, 1) := by decide +kernel
theorem dX1_runDown_151 : decode cX1_runDown 151 = .ok (.iinc 4 1, 3) := by decide +kernel
theorem dX1_runDown_154 : decode cX1_runDown 154 = .ok (.goto (-144), 3) := by decide +kernel
theorem dX1_runDown_157 : decode cX1_runDown 157 = .ok (.return_, 1) := by decide +kernel
theorem dX1_arrived_0 : decode cX1_arrived 0 = .ok (.aload_n 0, 1) := by decide +kernel
theorem dX1_arrived_1 : decode cX1_arrived 1 = .ok (.getfield 11, 3) := by decide +kernel
theorem dX1_arrived_4 : decode cX1_arrived 4 = .ok (.iload_n 1, 1) := by decide +kernel
theorem dX1_arrived_5 : decode cX1_arrived 5 = .ok (.aaload, 1) := by decide +kernel
theorem dX1_arrived_6 : decode cX1_arrived 6 = .ok (.aload_n 0, 1) := by decide +kernel
theorem dX1_arrived_7 : decode cX1_arrived 7 = .ok (.getfield 29, 3) := by decide +kernel
theorem dX1_arrived_10 : decode cX1_arrived 10 = .ok (.invokevirtual 60, 3) := by decide +kernel
theorem dX1_arrived_13 : decode cX1_arrived 13 = .ok (.iload_n 2, 1) := by decide +kernel
theorem dX1_arrived_14 : decode cX1_arrived 14 = .ok (.iadd, 1) := by decide +kernel
theorem dX1_arrived_15 : decode cX1_arrived 15 = .ok (.iaload, 1) := by decide +kernel
theorem dX1_arrived_16 : decode cX1_arrived 16 = .ok (.ireturn, 1) := by decide +kernel
theorem dX1_stuck_0 : decode cX1_stuck 0 = .ok (.ldc 43, 2) := by decide +kernel
theorem dX1_stuck_2 : decode cX1_stuck 2 = .ok (.istore_n 2, 1) := by decide +kernel
theorem dX1_stuck_3 : decode cX1_stuck 3 = .ok (.iconst 0, 1) := by decide +kernel
theorem dX1_stuck_4 : decode cX1_stuck 4 = .ok (.istore_n 3, 1) := by decide +kernel
theorem dX1_stuck_5 : decode cX1_stuck 5 = .ok (.iload_n 3, 1) := by decide +kernel
theorem dX1_stuck_6 : decode cX1_stuck 6 = .ok (.aload_n 0, 1) := by decide +kernel
theorem dX1_stuck_7 : decode cX1_stuck 7 = .ok (.getfield 29, 3) := by decide +kernel
theorem dX1_stuck_10 : decode cX1_stuck 10 = .ok (.getfield 83, 3) := by decide +kernel
theorem dX1_stuck_13 : decode cX1_stuck 13 = .ok (.if_icmp .ge 18, 3) := by decide +kernel
theorem dX1_stuck_16 : decode cX1_stuck 16 = .ok (.iload_n 2, 1) := by decide +kernel
theorem dX1_stuck_17 : decode cX1_stuck 17 = .ok (.aload_n 0, 1) := by decide +kernel
theorem dX1_stuck_18 : decode cX1_stuck 18 = .ok (.iload_n 1, 1) := by decide +kernel
theorem dX1_stuck_19 : decode cX1_stuck 19 = .ok (.iload_n 3, 1) := by decide +kernel
theorem dX1_stuck_20 : decode cX1_stuck 20 = .ok (.invokevirtual 86, 3) := by decide +kernel
theorem dX1_stuck_23 : decode cX1_stuck 23 = .ok (.isub, 1) := by decide +kernel
theorem dX1_stuck_24 : decode cX1_stuck 24 = .ok (.istore_n 2, 1) := by decide +kernel
theorem dX1_stuck_25 : decode cX1_stuck 25 = .ok (.iinc 3 1, 3) := by decide +kernel
theorem dX1_stuck_28 : decode cX1_stuck 28 = .ok (.goto (-23), 3) := by decide +kernel
theorem dX1_stuck_31 : decode cX1_stuck 31 = .ok (.iload_n 2, 1) := by decide +kernel
theorem dX1_stuck_32 : decode cX1_stuck 32 = .ok (.ireturn, 1) := by decide +kernel
theorem dX1_appraiseAll_0 : decode cX1_appraiseAll 0 = .ok (.iconst 0, 1) := by decide +kernel
theorem dX1_appraiseAll_1 : decode cX1_appraiseAll 1 = .ok (.istore_n 2, 1) := by decide +kernel
theorem dX1_appraiseAll_2 : decode cX1_appraiseAll 2 = .ok (.iload_n 2, 1) := by decide +kernel
theorem dX1_appraiseAll_3 : decode cX1_appraiseAll 3 = .ok (.iconst 3, 1) := by decide +kernel
theorem dX1_appraiseAll_4 : decode cX1_appraiseAll 4 = .ok (.if_icmp .ge 15, 3) := by decide +kernel
theorem dX1_appraiseAll_7 : decode cX1_appraiseAll 7 = .ok (.aload_n 0, 1) := by decide +kernel
theorem dX1_appraiseAll_8 : decode cX1_appraiseAll 8 = .ok (.iload_n 2, 1) := by decide +kernel
theorem dX1_appraiseAll_9 : decode cX1_appraiseAll 9 = .ok (.iload_n 1, 1) := by decide +kernel
theorem dX1_appraiseAll_10 : decode cX1_appraiseAll 10 = .ok (.invokevirtual 89, 3) := by decide +kernel
theorem dX1_appraiseAll_13 : decode cX1_appraiseAll 13 = .ok (.iinc 2 1, 3) := by decide +kernel
theorem dX1_appraiseAll_16 : decode cX1_appraiseAll 16 = .ok (.goto (-14), 3) := by decide +kernel
theorem dX1_appraiseAll_19 : decode cX1_appraiseAll 19 = .ok (.return_, 1) := by decide +kernel
theorem dX1_appraise_0 : decode cX1_appraise 0 = .ok (.aload_n 0, 1) := by decide +kernel
theorem dX1_appraise_1 : decode cX1_appraise 1 = .ok (.getfield 29, 3) := by decide +kernel
theorem dX1_appraise_4 : decode cX1_appraise 4 = .ok (.invokevirtual 60, 3) := by decide +kernel
theorem dX1_appraise_7 : decode cX1_appraise 7 = .ok (.istore_n 3, 1) := by decide +kernel
theorem dX1_appraise_8 : decode cX1_appraise 8 = .ok (.iconst 0, 1) := by decide +kernel
theorem dX1_appraise_9 : decode cX1_appraise 9 = .ok (.istore 4, 2) := by decide +kernel
theorem dX1_appraise_11 : decode cX1_appraise 11 = .ok (.iload 4, 2) := by decide +kernel
theorem dX1_appraise_13 : decode cX1_appraise 13 = .ok (.aload_n 0, 1) := by decide +kernel
theorem dX1_appraise_14 : decode cX1_appraise 14 = .ok (.getfield 29, 3) := by decide +kernel
theorem dX1_appraise_17 : decode cX1_appraise 17 = .ok (.getfield 83, 3) := by decide +kernel
theorem dX1_appraise_20 : decode cX1_appraise 20 = .ok (.if_icmp .ge 40, 3) := by decide +kernel
theorem dX1_appraise_23 : decode cX1_appraise 23 = .ok (.aload_n 0, 1) := by decide +kernel
theorem dX1_appraise_24 : decode cX1_appraise 24 = .ok (.getfield 16, 3) := by decide +kernel
theorem dX1_appraise_27 : decode cX1_appraise 27 = .ok (.iload_n 1, 1) := by decide +kernel
theorem dX1_appraise_28 : decode cX1_appraise 28 = .ok (.aaload, 1) := by decide +kernel
theorem dX1_appraise_29 : decode cX1_appraise 29 = .ok (.iload_n 3, 1) := by decide +kernel
theorem dX1_appraise_30 : decode cX1_appraise 30 = .ok (.iload 4, 2) := by decide +kernel
theorem dX1_appraise_32 : decode cX1_appraise 32 = .ok (.iadd, 1) := by decide +kernel
theorem dX1_appraise_33 : decode cX1_appraise 33 = .ok (.aload_n 0, 1) := by decide +kernel
theorem dX1_appraise_34 : decode cX1_appraise 34 = .ok (.getfield 29, 3) := by decide +kernel
theorem dX1_appraise_37 : decode cX1_appraise 37 = .ok (.getfield 93, 3) := by decide +kernel
theorem dX1_appraise_40 : decode cX1_appraise 40 = .ok (.iload 4, 2) := by decide +kernel
theorem dX1_appraise_42 : decode cX1_appraise 42 = .ok (.iaload, 1) := by decide +kernel
theorem dX1_appraise_43 : decode cX1_appraise 43 = .ok (.iload_n 2, 1) := by decide +kernel
theorem dX1_appraise_44 : decode cX1_appraise 44 = .ok (.if_icmp .ne 8, 3) := by decide +kernel
theorem dX1_appraise_47 : decode cX1_appraise 47 = .ok (.ldc 43, 2) := by decide +kernel
theorem dX1_appraise_49 : decode cX1_appraise 49 = .ok (.goto 4, 3) := by decide +kernel
theorem dX1_appraise_52 : decode cX1_appraise 52 = .ok (.iconst 0, 1) := by decide +kernel
theorem dX1_appraise_53 : decode cX1_appraise 53 = .ok (.iastore, 1) := by decide +kernel
theorem dX1_appraise_54 : decode cX1_appraise 54 = .ok (.iinc 4 1, 3) := by decide +kernel
theorem dX1_appraise_57 : decode cX1_appraise 57 = .ok (.goto (-46), 3) := by decide +kernel
theorem dX1_appraise_60 : decode cX1_appraise 60 = .ok (.iload_n 3, 1) := by decide +kernel
theorem dX1_appraise_61 : decode cX1_appraise 61 = .ok (.iconst 1, 1) := by decide +kernel
theorem dX1_appraise_62 : decode cX1_appraise 62 = .ok (.isub, 1) := by decide +kernel
theorem dX1_appraise_63 : decode cX1_appraise 63 = .ok (.istore 4, 2) := by decide +kernel
theorem dX1_appraise_65 : decode cX1_appraise 65 = .ok (.iload 4, 2) := by decide +kernel
theorem dX1_appraise_67 : decode cX1_appraise 67 = .ok (.ifCond .lt 35, 3) := by decide +kernel
theorem dX1_appraise_70 : decode cX1_appraise 70 = .ok (.aload_n 0, 1) := by decide +kernel
theorem dX1_appraise_71 : decode cX1_appraise 71 = .ok (.getfield 16, 3) := by decide +kernel
theorem dX1_appraise_74 : decode cX1_appraise 74 = .ok (.iload_n 1, 1) := by decide +kernel
theorem dX1_appraise_75 : decode cX1_appraise 75 = .ok (.aaload, 1) := by decide +kernel
theorem dX1_appraise_76 : decode cX1_appraise 76 = .ok (.iload 4, 2) := by decide +kernel
theorem dX1_appraise_78 : decode cX1_appraise 78 = .ok (.aload_n 0, 1) := by decide +kernel
theorem dX1_appraise_79 : decode cX1_appraise 79 = .ok (.iload 4, 2) := by decide +kernel
theorem dX1_appraise_81 : decode cX1_appraise 81 = .ok (.aload_n 0, 1) := by decide +kernel
theorem dX1_appraise_82 : decode cX1_appraise 82 = .ok (.getfield 29, 3) := by decide +kernel
theorem dX1_appraise_85 : decode cX1_appraise 85 = .ok (.getfield 66, 3) := by decide +kernel
theorem dX1_appraise_88 : decode cX1_appraise 88 = .ok (.iload 4, 2) := by decide +kernel
theorem dX1_appraise_90 : decode cX1_appraise 90 = .ok (.iaload, 1) := by decide +kernel
theorem dX1_appraise_91 : decode cX1_appraise 91 = .ok (.iload_n 1, 1) := by decide +kernel
theorem dX1_appraise_92 : decode cX1_appraise 92 = .ok (.invokevirtual 96, 3) := by decide +kernel
theorem dX1_appraise_95 : decode cX1_appraise 95 = .ok (.iastore, 1) := by decide +kernel
theorem dX1_appraise_96 : decode cX1_appraise 96 = .ok (.iinc 4 (-1), 3) := by decide +kernel
theorem dX1_appraise_99 : decode cX1_appraise 99 = .ok (.goto (-34), 3) := by decide +kernel
theorem dX1_appraise_102 : decode cX1_appraise 102 = .ok (.return_, 1) := by decide +kernel
theorem dX1_worthUnder_0 : decode cX1_worthUnder 0 = .ok (.iload_n 2, 1) := by decide +kernel
theorem dX1_worthUnder_1 : decode cX1_worthUnder 1 = .ok (.iconst 4, 1) := by decide +kernel
theorem dX1_worthUnder_2 : decode cX1_worthUnder 2 = .ok (.if_icmp .ne 5, 3) := by decide +kernel
theorem dX1_worthUnder_5 : decode cX1_worthUnder 5 = .ok (.iconst 0, 1) := by decide +kernel
theorem dX1_worthUnder_6 : decode cX1_worthUnder 6 = .ok (.ireturn, 1) := by decide +kernel
theorem dX1_worthUnder_7 : decode cX1_worthUnder 7 = .ok (.aload_n 0, 1) := by decide +kernel
theorem dX1_worthUnder_8 : decode cX1_worthUnder 8 = .ok (.getfield 16, 3) := by decide +kernel
theorem dX1_worthUnder_11 : decode cX1_worthUnder 11 = .ok (.iload_n 3, 1) := by decide +kernel
theorem dX1_worthUnder_12 : decode cX1_worthUnder 12 = .ok (.aaload, 1) := by decide +kernel
theorem dX1_worthUnder_13 : decode cX1_worthUnder 13 = .ok (.astore 4, 2) := by decide +kernel
theorem dX1_worthUnder_15 : decode cX1_worthUnder 15 = .ok (.aload_n 0, 1) := by decide +kernel
theorem dX1_worthUnder_16 : decode cX1_worthUnder 16 = .ok (.getfield 29, 3) := by decide +kernel
theorem dX1_worthUnder_19 : decode cX1_worthUnder 19 = .ok (.iload_n 2, 1) := by decide +kernel
theorem dX1_worthUnder_20 : decode cX1_worthUnder 20 = .ok (.iload_n 3, 1) := by decide +kernel
theorem dX1_worthUnder_21 : decode cX1_worthUnder 21 = .ok (.invokevirtual 69, 3) := by decide +kernel
theorem dX1_worthUnder_24 : decode cX1_worthUnder 24 = .ok (.istore 5, 2) := by decide +kernel
theorem dX1_worthUnder_26 : decode cX1_worthUnder 26 = .ok (.aload_n 0, 1) := by decide +kernel
theorem dX1_worthUnder_27 : decode cX1_worthUnder 27 = .ok (.getfield 29, 3) := by decide +kernel
theorem dX1_worthUnder_30 : decode cX1_worthUnder 30 = .ok (.iload_n 2, 1) := by decide +kernel
theorem dX1_worthUnder_31 : decode cX1_worthUnder 31 = .ok (.iload_n 3, 1) := by decide +kernel
theorem dX1_worthUnder_32 : decode cX1_worthUnder 32 = .ok (.invokevirtual 73, 3) := by decide +kernel
theorem dX1_worthUnder_35 : decode cX1_worthUnder 35 = .ok (.istore 6, 2) := by decide +kernel
theorem dX1_worthUnder_37 : decode cX1_worthUnder 37 = .ok (.iload 5, 2) := by decide +kernel
theorem dX1_worthUnder_39 : decode cX1_worthUnder 39 = .ok (.aload 4, 2) := by decide +kernel
theorem dX1_worthUnder_41 : decode cX1_worthUnder 41 = .ok (.aload_n 0, 1) := by decide +kernel
theorem dX1_worthUnder_42 : decode cX1_worthUnder 42 = .ok (.getfield 29, 3) := by decide +kernel
theorem dX1_worthUnder_45 : decode cX1_worthUnder 45 = .ok (.iload_n 1, 1) := by decide +kernel
theorem dX1_worthUnder_46 : decode cX1_worthUnder 46 = .ok (.invokevirtual 76, 3) := by decide +kernel
theorem dX1_worthUnder_49 : decode cX1_worthUnder 49 = .ok (.iaload, 1) := by decide +kernel
theorem dX1_worthUnder_50 : decode cX1_worthUnder 50 = .ok (.imul, 1) := by decide +kernel
theorem dX1_worthUnder_51 : decode cX1_worthUnder 51 = .ok (.iload 6, 2) := by decide +kernel
theorem dX1_worthUnder_53 : decode cX1_worthUnder 53 = .ok (.aload 4, 2) := by decide +kernel
theorem dX1_worthUnder_55 : decode cX1_worthUnder 55 = .ok (.aload_n 0, 1) := by decide +kernel
theorem dX1_worthUnder_56 : decode cX1_worthUnder 56 = .ok (.getfield 29, 3) := by decide +kernel
theorem dX1_worthUnder_59 : decode cX1_worthUnder 59 = .ok (.iload_n 1, 1) := by decide +kernel
theorem dX1_worthUnder_60 : decode cX1_worthUnder 60 = .ok (.invokevirtual 80, 3) := by decide +kernel
theorem dX1_worthUnder_63 : decode cX1_worthUnder 63 = .ok (.iaload, 1) := by decide +kernel
theorem dX1_worthUnder_64 : decode cX1_worthUnder 64 = .ok (.imul, 1) := by decide +kernel
theorem dX1_worthUnder_65 : decode cX1_worthUnder 65 = .ok (.iadd, 1) := by decide +kernel
theorem dX1_worthUnder_66 : decode cX1_worthUnder 66 = .ok (.bipush 8, 2) := by decide +kernel
theorem dX1_worthUnder_68 : decode cX1_worthUnder 68 = .ok (.iload 5, 2) := by decide +kernel
theorem dX1_worthUnder_70 : decode cX1_worthUnder 70 = .ok (.isub, 1) := by decide +kernel
theorem dX1_worthUnder_71 : decode cX1_worthUnder 71 = .ok (.iload 6, 2) := by decide +kernel
theorem dX1_worthUnder_73 : decode cX1_worthUnder 73 = .ok (.isub, 1) := by decide +kernel
theorem dX1_worthUnder_74 : decode cX1_worthUnder 74 = .ok (.aload 4, 2) := by decide +kernel
theorem dX1_worthUnder_76 : decode cX1_worthUnder 76 = .ok (.iload_n 1, 1) := by decide +kernel
theorem dX1_worthUnder_77 : decode cX1_worthUnder 77 = .ok (.aload_n 0, 1) := by decide +kernel
theorem dX1_worthUnder_78 : decode cX1_worthUnder 78 = .ok (.getfield 29, 3) := by decide +kernel
theorem dX1_worthUnder_81 : decode cX1_worthUnder 81 = .ok (.getfield 83, 3) := by decide +kernel
theorem dX1_worthUnder_84 : decode cX1_worthUnder 84 = .ok (.iadd, 1) := by decide +kernel
theorem dX1_worthUnder_85 : decode cX1_worthUnder 85 = .ok (.iaload, 1) := by decide +kernel
theorem dX1_worthUnder_86 : decode cX1_worthUnder 86 = .ok (.imul, 1) := by decide +kernel
theorem dX1_worthUnder_87 : decode cX1_worthUnder 87 = .ok (.iadd, 1) := by decide +kernel
theorem dX1_worthUnder_88 : decode cX1_worthUnder 88 = .ok (.istore 7, 2) := by decide +kernel
theorem dX1_worthUnder_90 : decode cX1_worthUnder 90 = .ok (.iload 7, 2) := by decide +kernel
theorem dX1_worthUnder_92 : decode cX1_worthUnder 92 = .ok (.bipush 8, 2) := by decide +kernel
theorem dX1_worthUnder_94 : decode cX1_worthUnder 94 = .ok (.idiv, 1) := by decide +kernel
theorem dX1_worthUnder_95 : decode cX1_worthUnder 95 = .ok (.ireturn, 1) := by decide +kernel
theorem dX1_expected_0 : decode cX1_expected 0 = .ok (.aload_n 0, 1) := by decide +kernel
theorem dX1_expected_1 : decode cX1_expected 1 = .ok (.iload_n 1, 1) := by decide +kernel
theorem dX1_expected_2 : decode cX1_expected 2 = .ok (.invokevirtual 100, 3) := by decide +kernel
theorem dX1_expected_5 : decode cX1_expected 5 = .ok (.iconst 0, 1) := by decide +kernel
theorem dX1_expected_6 : decode cX1_expected 6 = .ok (.istore_n 2, 1) := by decide +kernel
theorem dX1_expected_7 : decode cX1_expected 7 = .ok (.iconst 0, 1) := by decide +kernel
theorem dX1_expected_8 : decode cX1_expected 8 = .ok (.istore_n 3, 1) := by decide +kernel
theorem dX1_expected_9 : decode cX1_expected 9 = .ok (.iload_n 3, 1) := by decide +kernel
theorem dX1_expected_10 : decode cX1_expected 10 = .ok (.aload_n 0, 1) := by decide +kernel
theorem dX1_expected_11 : decode cX1_expected 11 = .ok (.getfield 33, 3) := by decide +kernel
theorem dX1_expected_14 : decode cX1_expected 14 = .ok (.getfield 48, 3) := by decide +kernel
theorem dX1_expected_17 : decode cX1_expected 17 = .ok (.if_icmp .ge 36, 3) := by decide +kernel
theorem dX1_expected_20 : decode cX1_expected 20 = .ok (.iload_n 2, 1) := by decide +kernel
theorem dX1_expected_21 : decode cX1_expected 21 = .ok (.aload_n 0, 1) := by decide +kernel
theorem dX1_expected_22 : decode cX1_expected 22 = .ok (.getfield 16, 3) := by decide +kernel
theorem dX1_expected_25 : decode cX1_expected 25 = .ok (.aload_n 0, 1) := by decide +kernel
theorem dX1_expected_26 : decode cX1_expected 26 = .ok (.getfield 33, 3) := by decide +kernel
theorem dX1_expected_29 : decode cX1_expected 29 = .ok (.getfield 54, 3) := by decide +kernel
theorem dX1_expected_32 : decode cX1_expected 32 = .ok (.iload_n 3, 1) := by decide +kernel
theorem dX1_expected_33 : decode cX1_expected 33 = .ok (.iaload, 1) := by decide +kernel
theorem dX1_expected_34 : decode cX1_expected 34 = .ok (.aaload, 1) := by decide +kernel
theorem dX1_expected_35 : decode cX1_expected 35 = .ok (.aload_n 0, 1) := by decide +kernel
theorem dX1_expected_36 : decode cX1_expected 36 = .ok (.getfield 33, 3) := by decide +kernel
theorem dX1_expected_39 : decode cX1_expected 39 = .ok (.getfield 57, 3) := by decide +kernel
theorem dX1_expected_42 : decode cX1_expected 42 = .ok (.iload_n 3, 1) := by decide +kernel
theorem dX1_expected_43 : decode cX1_expected 43 = .ok (.iaload, 1) := by decide +kernel
theorem dX1_expected_44 : decode cX1_expected 44 = .ok (.iaload, 1) := by decide +kernel
theorem dX1_expected_45 : decode cX1_expected 45 = .ok (.iadd, 1) := by decide +kernel
theorem dX1_expected_46 : decode cX1_expected 46 = .ok (.istore_n 2, 1) := by decide +kernel
theorem dX1_expected_47 : decode cX1_expected 47 = .ok (.iinc 3 1, 3) := by decide +kernel
theorem dX1_expected_50 : decode cX1_expected 50 = .ok (.goto (-41), 3) := by decide +kernel
theorem dX1_expected_53 : decode cX1_expected 53 = .ok (.iload_n 2, 1) := by decide +kernel
theorem dX1_expected_54 : decode cX1_expected 54 = .ok (.ireturn, 1) := by decide +kernel
theorem dX1_bestStart_0 : decode cX1_bestStart 0 = .ok (.aload_n 0, 1) := by decide +kernel
theorem dX1_bestStart_1 : decode cX1_bestStart 1 = .ok (.iload_n 1, 1) := by decide +kernel
theorem dX1_bestStart_2 : decode cX1_bestStart 2 = .ok (.iload_n 2, 1) := by decide +kernel
theorem dX1_bestStart_3 : decode cX1_bestStart 3 = .ok (.invokevirtual 89, 3) := by decide +kernel
theorem dX1_bestStart_6 : decode cX1_bestStart 6 = .ok (.iconst 0, 1) := by decide +kernel
theorem dX1_bestStart_7 : decode cX1_bestStart 7 = .ok (.istore_n 3, 1) := by decide +kernel
theorem dX1_bestStart_8 : decode cX1_bestStart 8 = .ok (.iconst 1, 1) := by decide +kernel
theorem dX1_bestStart_9 : decode cX1_bestStart 9 = .ok (.istore 4, 2) := by decide +kernel
theorem dX1_bestStart_11 : decode cX1_bestStart 11 = .ok (.iload 4, 2) := by decide +kernel
theorem dX1_bestStart_13 : decode cX1_bestStart 13 = .ok (.aload_n 0, 1) := by decide +kernel
theorem dX1_bestStart_14 : decode cX1_bestStart 14 = .ok (.getfield 29, 3) := by decide +kernel
theorem dX1_bestStart_17 : decode cX1_bestStart 17 = .ok (.getfield 83, 3) := by decide +kernel
theorem dX1_bestStart_20 : decode cX1_bestStart 20 = .ok (.if_icmp .ge 32, 3) := by decide +kernel
theorem dX1_bestStart_23 : decode cX1_bestStart 23 = .ok (.aload_n 0, 1) := by decide +kernel
theorem dX1_bestStart_24 : decode cX1_bestStart 24 = .ok (.getfield 16, 3) := by decide +kernel
theorem dX1_bestStart_27 : decode cX1_bestStart 27 = .ok (.iload_n 1, 1) := by decide +kernel
theorem dX1_bestStart_28 : decode cX1_bestStart 28 = .ok (.aaload, 1) := by decide +kernel
theorem dX1_bestStart_29 : decode cX1_bestStart 29 = .ok (.iload 4, 2) := by decide +kernel
theorem dX1_bestStart_31 : decode cX1_bestStart 31 = .ok (.iaload, 1) := by decide +kernel
theorem dX1_bestStart_32 : decode cX1_bestStart 32 = .ok (.aload_n 0, 1) := by decide +kernel
theorem dX1_bestStart_33 : decode cX1_bestStart 33 = .ok (.getfield 16, 3) := by decide +kernel
theorem dX1_bestStart_36 : decode cX1_bestStart 36 = .ok (.iload_n 1, 1) := by decide +kernel
theorem dX1_bestStart_37 : decode cX1_bestStart 37 = .ok (.aaload, 1) := by decide +kernel
theorem dX1_bestStart_38 : decode cX1_bestStart 38 = .ok (.iload_n 3, 1) := by decide +kernel
theorem dX1_bestStart_39 : decode cX1_bestStart 39 = .ok (.iaload, 1) := by decide +kernel
theorem dX1_bestStart_40 : decode cX1_bestStart 40 = .ok (.if_icmp .le 6, 3) := by decide +kernel
theorem dX1_bestStart_43 : decode cX1_bestStart 43 = .ok (.iload 4, 2) := by decide +kernel
theorem dX1_bestStart_45 : decode cX1_bestStart 45 = .ok (.istore_n 3, 1) := by decide +kernel
theorem dX1_bestStart_46 : decode cX1_bestStart 46 = .ok (.iinc 4 1, 3) := by decide +kernel
theorem dX1_bestStart_49 : decode cX1_bestStart 49 = .ok (.goto (-38), 3) := by decide +kernel
theorem dX1_bestStart_52 : decode cX1_bestStart 52 = .ok (.iload_n 3, 1) := by decide +kernel
theorem dX1_bestStart_53 : decode cX1_bestStart 53 = .ok (.ireturn, 1) := by decide +kernel
theorem dX1_bestMove_0 : decode cX1_bestMove 0 = .ok (.aload_n 0, 1) := by decide +kernel
theorem dX1_bestMove_1 : decode cX1_bestMove 1 = .ok (.iconst 1, 1) := by decide +kernel
theorem dX1_bestMove_2 : decode cX1_bestMove 2 = .ok (.invokevirtual 104, 3) := by decide +kernel
theorem dX1_bestMove_5 : decode cX1_bestMove 5 = .ok (.aload_n 0, 1) := by decide +kernel
theorem dX1_bestMove_6 : decode cX1_bestMove 6 = .ok (.iload_n 1, 1) := by decide +kernel
theorem dX1_bestMove_7 : decode cX1_bestMove 7 = .ok (.invokevirtual 100, 3) := by decide +kernel
theorem dX1_bestMove_10 : decode cX1_bestMove 10 = .ok (.lconst 0, 1) := by decide +kernel
theorem dX1_bestMove_11 : decode cX1_bestMove 11 = .ok (.lstore_n 2, 1) := by decide +kernel
theorem dX1_bestMove_12 : decode cX1_bestMove 12 = .ok (.bipush (-9), 2) := by decide +kernel
theorem dX1_bestMove_14 : decode cX1_bestMove 14 = .ok (.istore 4, 2) := by decide +kernel
theorem dX1_bestMove_16 : decode cX1_bestMove 16 = .ok (.iconst 0, 1) := by decide +kernel
theorem dX1_bestMove_17 : decode cX1_bestMove 17 = .ok (.istore 5, 2) := by decide +kernel
theorem dX1_bestMove_19 : decode cX1_bestMove 19 = .ok (.iload 5, 2) := by decide +kernel
theorem dX1_bestMove_21 : decode cX1_bestMove 21 = .ok (.aload_n 0, 1) := by decide +kernel
theorem dX1_bestMove_22 : decode cX1_bestMove 22 = .ok (.getfield 29, 3) := by decide +kernel
theorem dX1_bestMove_25 : decode cX1_bestMove 25 = .ok (.invokevirtual 60, 3) := by decide +kernel
theorem dX1_bestMove_28 : decode cX1_bestMove 28 = .ok (.if_icmp .ge 54, 3) := by decide +kernel
theorem dX1_bestMove_31 : decode cX1_bestMove 31 = .ok (.iconst 0, 1) := by decide +kernel
theorem dX1_bestMove_32 : decode cX1_bestMove 32 = .ok (.istore 6, 2) := by decide +kernel
theorem dX1_bestMove_34 : decode cX1_bestMove 34 = .ok (.iload 6, 2) := by decide +kernel
theorem dX1_bestMove_36 : decode cX1_bestMove 36 = .ok (.iconst 5, 1) := by decide +kernel
theorem dX1_bestMove_37 : decode cX1_bestMove 37 = .ok (.if_icmp .ge 39, 3) := by decide +kernel
theorem dX1_bestMove_40 : decode cX1_bestMove 40 = .ok (.aload_n 0, 1) := by decide +kernel
theorem dX1_bestMove_41 : decode cX1_bestMove 41 = .ok (.iload 5, 2) := by decide +kernel
theorem dX1_bestMove_43 : decode cX1_bestMove 43 = .ok (.iload 6, 2) := by decide +kernel
theorem dX1_bestMove_45 : decode cX1_bestMove 45 = .ok (.invokevirtual 108, 3) := by decide +kernel
theorem dX1_bestMove_48 : decode cX1_bestMove 48 = .ok (.lstore 7, 2) := by decide +kernel
theorem dX1_bestMove_50 : decode cX1_bestMove 50 = .ok (.lload 7, 2) := by decide +kernel
theorem dX1_bestMove_52 : decode cX1_bestMove 52 = .ok (.lload_n 2, 1) := by decide +kernel
theorem dX1_bestMove_53 : decode cX1_bestMove 53 = .ok (.lcmp, 1) := by decide +kernel
theorem dX1_bestMove_54 : decode cX1_bestMove 54 = .ok (.ifCond .le 16, 3) := by decide +kernel
theorem dX1_bestMove_57 : decode cX1_bestMove 57 = .ok (.lload 7, 2) := by decide +kernel
theorem dX1_bestMove_59 : decode cX1_bestMove 59 = .ok (.lstore_n 2, 1) := by decide +kernel
theorem dX1_bestMove_60 : decode cX1_bestMove 60 = .ok (.bipush 10, 2) := by decide +kernel
theorem dX1_bestMove_62 : decode cX1_bestMove 62 = .ok (.iload 5, 2) := by decide +kernel
theorem dX1_bestMove_64 : decode cX1_bestMove 64 = .ok (.imul, 1) := by decide +kernel
theorem dX1_bestMove_65 : decode cX1_bestMove 65 = .ok (.iload 6, 2) := by decide +kernel
theorem dX1_bestMove_67 : decode cX1_bestMove 67 = .ok (.iadd, 1) := by decide +kernel
theorem dX1_bestMove_68 : decode cX1_bestMove 68 = .ok (.istore 4, 2) := by decide +kernel
theorem dX1_bestMove_70 : decode cX1_bestMove 70 = .ok (.iinc 6 1, 3) := by decide +kernel
theorem dX1_bestMove_73 : decode cX1_bestMove 73 = .ok (.goto (-39), 3) := by decide +kernel
theorem dX1_bestMove_76 : decode cX1_bestMove 76 = .ok (.iinc 5 1, 3) := by decide +kernel
theorem dX1_bestMove_79 : decode cX1_bestMove 79 = .ok (.goto (-60), 3) := by decide +kernel
theorem dX1_bestMove_82 : decode cX1_bestMove 82 = .ok (.iload 4, 2) := by decide +kernel
theorem dX1_bestMove_84 : decode cX1_bestMove 84 = .ok (.ireturn, 1) := by decide +kernel
theorem dX1_gain_0 : decode cX1_gain 0 = .ok (.lconst 0, 1) := by decide +kernel
theorem dX1_gain_1 : decode cX1_gain 1 = .ok (.lstore_n 3, 1) := by decide +kernel
theorem dX1_gain_2 : decode cX1_gain 2 = .ok (.iconst 0, 1) := by decide +kernel
theorem dX1_gain_3 : decode cX1_gain 3 = .ok (.istore 5, 2) := by decide +kernel
theorem dX1_gain_5 : decode cX1_gain 5 = .ok (.iload 5, 2) := by decide +kernel
theorem dX1_gain_7 : decode cX1_gain 7 = .ok (.iconst 3, 1) := by decide +kernel
theorem dX1_gain_8 : decode cX1_gain 8 = .ok (.if_icmp .ge 58, 3) := by decide +kernel
theorem dX1_gain_11 : decode cX1_gain 11 = .ok (.aload_n 0, 1) := by decide +kernel
theorem dX1_gain_12 : decode cX1_gain 12 = .ok (.getfield 11, 3) := by decide +kernel
theorem dX1_gain_15 : decode cX1_gain 15 = .ok (.iload 5, 2) := by decide +kernel
theorem dX1_gain_17 : decode cX1_gain 17 = .ok (.aaload, 1) := by decide +kernel
theorem dX1_gain_18 : decode cX1_gain 18 = .ok (.iload_n 1, 1) := by decide +kernel
theorem dX1_gain_19 : decode cX1_gain 19 = .ok (.iaload, 1) := by decide +kernel
theorem dX1_gain_20 : decode cX1_gain 20 = .ok (.ifCond .le 40, 3) := by decide +kernel
theorem dX1_gain_23 : decode cX1_gain 23 = .ok (.aload_n 0, 1) := by decide +kernel
theorem dX1_gain_24 : decode cX1_gain 24 = .ok (.iload_n 1, 1) := by decide +kernel
theorem dX1_gain_25 : decode cX1_gain 25 = .ok (.iload_n 2, 1) := by decide +kernel
theorem dX1_gain_26 : decode cX1_gain 26 = .ok (.iload 5, 2) := by decide +kernel
theorem dX1_gain_28 : decode cX1_gain 28 = .ok (.invokevirtual 96, 3) := by decide +kernel
theorem dX1_gain_31 : decode cX1_gain 31 = .ok (.aload_n 0, 1) := by decide +kernel
theorem dX1_gain_32 : decode cX1_gain 32 = .ok (.getfield 16, 3) := by decide +kernel
theorem dX1_gain_35 : decode cX1_gain 35 = .ok (.iload 5, 2) := by decide +kernel
theorem dX1_gain_37 : decode cX1_gain 37 = .ok (.aaload, 1) := by decide +kernel
theorem dX1_gain_38 : decode cX1_gain 38 = .ok (.iload_n 1, 1) := by decide +kernel
theorem dX1_gain_39 : decode cX1_gain 39 = .ok (.iaload, 1) := by decide +kernel
theorem dX1_gain_40 : decode cX1_gain 40 = .ok (.isub, 1) := by decide +kernel
theorem dX1_gain_41 : decode cX1_gain 41 = .ok (.i2l, 1) := by decide +kernel
theorem dX1_gain_42 : decode cX1_gain 42 = .ok (.lstore 6, 2) := by decide +kernel
theorem dX1_gain_44 : decode cX1_gain 44 = .ok (.lload_n 3, 1) := by decide +kernel
theorem dX1_gain_45 : decode cX1_gain 45 = .ok (.aload_n 0, 1) := by decide +kernel
theorem dX1_gain_46 : decode cX1_gain 46 = .ok (.getfield 11, 3) := by decide +kernel
theorem dX1_gain_49 : decode cX1_gain 49 = .ok (.iload 5, 2) := by decide +kernel
theorem dX1_gain_51 : decode cX1_gain 51 = .ok (.aaload, 1) := by decide +kernel
theorem dX1_gain_52 : decode cX1_gain 52 = .ok (.iload_n 1, 1) := by decide +kernel
theorem dX1_gain_53 : decode cX1_gain 53 = .ok (.iaload, 1) := by decide +kernel
theorem dX1_gain_54 : decode cX1_gain 54 = .ok (.i2l, 1) := by decide +kernel
theorem dX1_gain_55 : decode cX1_gain 55 = .ok (.lload 6, 2) := by decide +kernel
theorem dX1_gain_57 : decode cX1_gain 57 = .ok (.lmul, 1) := by decide +kernel
theorem dX1_gain_58 : decode cX1_gain 58 = .ok (.ladd, 1) := by decide +kernel
theorem dX1_gain_59 : decode cX1_gain 59 = .ok (.lstore_n 3, 1) := by decide +kernel
theorem dX1_gain_60 : decode cX1_gain 60 = .ok (.iinc 5 1, 3) := by decide +kernel
theorem dX1_gain_63 : decode cX1_gain 63 = .ok (.goto (-58), 3) := by decide +kernel
theorem dX1_gain_66 : decode cX1_gain 66 = .ok (.lload_n 3, 1) := by decide +kernel
theorem dX1_gain_67 : decode cX1_gain 67 = .ok (.lreturn, 1) := by decide +kernel
theorem dX1_likeliestEnd_0 : decode cX1_likeliestEnd 0 = .ok (.aload_n 0, 1) := by decide +kernel
theorem dX1_likeliestEnd_1 : decode cX1_likeliestEnd 1 = .ok (.getfield 33, 3) := by decide +kernel
theorem dX1_likeliestEnd_4 : decode cX1_likeliestEnd 4 = .ok (.getfield 54, 3) := by decide +kernel
theorem dX1_likeliestEnd_7 : decode cX1_likeliestEnd 7 = .ok (.iload_n 1, 1) := by decide +kernel
theorem dX1_likeliestEnd_8 : decode cX1_likeliestEnd 8 = .ok (.iaload, 1) := by decide +kernel
theorem dX1_likeliestEnd_9 : decode cX1_likeliestEnd 9 = .ok (.istore_n 2, 1) := by decide +kernel
theorem dX1_likeliestEnd_10 : decode cX1_likeliestEnd 10 = .ok (.aload_n 0, 1) := by decide +kernel
theorem dX1_likeliestEnd_11 : decode cX1_likeliestEnd 11 = .ok (.iload_n 2, 1) := by decide +kernel
theorem dX1_likeliestEnd_12 : decode cX1_likeliestEnd 12 = .ok (.aload_n 0, 1) := by decide +kernel
theorem dX1_likeliestEnd_13 : decode cX1_likeliestEnd 13 = .ok (.getfield 33, 3) := by decide +kernel
theorem dX1_likeliestEnd_16 : decode cX1_likeliestEnd 16 = .ok (.getfield 57, 3) := by decide +kernel
theorem dX1_likeliestEnd_19 : decode cX1_likeliestEnd 19 = .ok (.iload_n 1, 1) := by decide +kernel
theorem dX1_likeliestEnd_20 : decode cX1_likeliestEnd 20 = .ok (.iaload, 1) := by decide +kernel
theorem dX1_likeliestEnd_21 : decode cX1_likeliestEnd 21 = .ok (.invokevirtual 112, 3) := by decide +kernel
theorem dX1_likeliestEnd_24 : decode cX1_likeliestEnd 24 = .ok (.iconst 0, 1) := by decide +kernel
theorem dX1_likeliestEnd_25 : decode cX1_likeliestEnd 25 = .ok (.istore_n 3, 1) := by decide +kernel
theorem dX1_likeliestEnd_26 : decode cX1_likeliestEnd 26 = .ok (.iconst 1, 1) := by decide +kernel
theorem dX1_likeliestEnd_27 : decode cX1_likeliestEnd 27 = .ok (.istore 4, 2) := by decide +kernel
theorem dX1_likeliestEnd_29 : decode cX1_likeliestEnd 29 = .ok (.iload 4, 2) := by decide +kernel
theorem dX1_likeliestEnd_31 : decode cX1_likeliestEnd 31 = .ok (.aload_n 0, 1) := by decide +kernel
theorem dX1_likeliestEnd_32 : decode cX1_likeliestEnd 32 = .ok (.getfield 29, 3) := by decide +kernel
theorem dX1_likeliestEnd_35 : decode cX1_likeliestEnd 35 = .ok (.getfield 83, 3) := by decide +kernel
theorem dX1_likeliestEnd_38 : decode cX1_likeliestEnd 38 = .ok (.if_icmp .ge 28, 3) := by decide +kernel
theorem dX1_likeliestEnd_41 : decode cX1_likeliestEnd 41 = .ok (.aload_n 0, 1) := by decide +kernel
theorem dX1_likeliestEnd_42 : decode cX1_likeliestEnd 42 = .ok (.iload_n 2, 1) := by decide +kernel
theorem dX1_likeliestEnd_43 : decode cX1_likeliestEnd 43 = .ok (.iload 4, 2) := by decide +kernel
theorem dX1_likeliestEnd_45 : decode cX1_likeliestEnd 45 = .ok (.invokevirtual 86, 3) := by decide +kernel
theorem dX1_likeliestEnd_48 : decode cX1_likeliestEnd 48 = .ok (.aload_n 0, 1) := by decide +kernel
theorem dX1_likeliestEnd_49 : decode cX1_likeliestEnd 49 = .ok (.iload_n 2, 1) := by decide +kernel
theorem dX1_likeliestEnd_50 : decode cX1_likeliestEnd 50 = .ok (.iload_n 3, 1) := by decide +kernel
theorem dX1_likeliestEnd_51 : decode cX1_likeliestEnd 51 = .ok (.invokevirtual 86, 3) := by decide +kernel
theorem dX1_likeliestEnd_54 : decode cX1_likeliestEnd 54 = .ok (.if_icmp .le 6, 3) := by decide +kernel
theorem dX1_likeliestEnd_57 : decode cX1_likeliestEnd 57 = .ok (.iload 4, 2) := by decide +kernel
theorem dX1_likeliestEnd_59 : decode cX1_likeliestEnd 59 = .ok (.istore_n 3, 1) := by decide +kernel
theorem dX1_likeliestEnd_60 : decode cX1_likeliestEnd 60 = .ok (.iinc 4 1, 3) := by decide +kernel
theorem dX1_likeliestEnd_63 : decode cX1_likeliestEnd 63 = .ok (.goto (-34), 3) := by decide +kernel
theorem dX1_likeliestEnd_66 : decode cX1_likeliestEnd 66 = .ok (.aload_n 0, 1) := by decide +kernel
theorem dX1_likeliestEnd_67 : decode cX1_likeliestEnd 67 = .ok (.iload_n 2, 1) := by decide +kernel
theorem dX1_likeliestEnd_68 : decode cX1_likeliestEnd 68 = .ok (.invokevirtual 115, 3) := by decide +kernel
theorem dX1_likeliestEnd_71 : decode cX1_likeliestEnd 71 = .ok (.aload_n 0, 1) := by decide +kernel
theorem dX1_likeliestEnd_72 : decode cX1_likeliestEnd 72 = .ok (.iload_n 2, 1) := by decide +kernel
theorem dX1_likeliestEnd_73 : decode cX1_likeliestEnd 73 = .ok (.iload_n 3, 1) := by decide +kernel
theorem dX1_likeliestEnd_74 : decode cX1_likeliestEnd 74 = .ok (.invokevirtual 86, 3) := by decide +kernel
theorem dX1_likeliestEnd_77 : decode cX1_likeliestEnd 77 = .ok (.if_icmp .le 8, 3) := by decide +kernel
theorem dX1_likeliestEnd_80 : decode cX1_likeliestEnd 80 = .ok (.bipush 6, 2) := by decide +kernel
theorem dX1_likeliestEnd_82 : decode cX1_likeliestEnd 82 = .ok (.goto 4, 3) := by decide +kernel
theorem dX1_likeliestEnd_85 : decode cX1_likeliestEnd 85 = .ok (.iload_n 3, 1) := by decide +kernel
theorem dX1_likeliestEnd_86 : decode cX1_likeliestEnd 86 = .ok (.ireturn, 1) := by decide +kernel
theorem dX1_tallyOf_0 : decode cX1_tallyOf 0 = .ok (.aload_n 0, 1) := by decide +kernel
theorem dX1_tallyOf_1 : decode cX1_tallyOf 1 = .ok (.invokevirtual 118, 3) := by decide +kernel
theorem dX1_tallyOf_4 : decode cX1_tallyOf 4 = .ok (.aload_n 0, 1) := by decide +kernel
theorem dX1_tallyOf_5 : decode cX1_tallyOf 5 = .ok (.bipush (-9), 2) := by decide +kernel
theorem dX1_tallyOf_7 : decode cX1_tallyOf 7 = .ok (.invokevirtual 121, 3) := by decide +kernel
theorem dX1_tallyOf_10 : decode cX1_tallyOf 10 = .ok (.aload_n 0, 1) := by decide +kernel
theorem dX1_tallyOf_11 : decode cX1_tallyOf 11 = .ok (.getfield 23, 3) := by decide +kernel
theorem dX1_tallyOf_14 : decode cX1_tallyOf 14 = .ok (.iload_n 1, 1) := by decide +kernel
theorem dX1_tallyOf_15 : decode cX1_tallyOf 15 = .ok (.iaload, 1) := by decide +kernel
theorem dX1_tallyOf_16 : decode cX1_tallyOf 16 = .ok (.ireturn, 1) := by decide +kernel
theorem dX1_winnerOfAll_0 : decode cX1_winnerOfAll 0 = .ok (.aload_n 0, 1) := by decide +kernel
theorem dX1_winnerOfAll_1 : decode cX1_winnerOfAll 1 = .ok (.invokevirtual 118, 3) := by decide +kernel
theorem dX1_winnerOfAll_4 : decode cX1_winnerOfAll 4 = .ok (.aload_n 0, 1) := by decide +kernel
theorem dX1_winnerOfAll_5 : decode cX1_winnerOfAll 5 = .ok (.bipush (-9), 2) := by decide +kernel
theorem dX1_winnerOfAll_7 : decode cX1_winnerOfAll 7 = .ok (.invokevirtual 124, 3) := by decide +kernel
theorem dX1_winnerOfAll_10 : decode cX1_winnerOfAll 10 = .ok (.ireturn, 1) := by decide +kernel
theorem dX1_votesItHangsOn_0 : decode cX1_votesItHangsOn 0 = .ok (.aload_n 0, 1) := by decide +kernel
theorem dX1_votesItHangsOn_1 : decode cX1_votesItHangsOn 1 = .ok (.invokevirtual 118, 3) := by decide +kernel
theorem dX1_votesItHangsOn_4 : decode cX1_votesItHangsOn 4 = .ok (.aload_n 0, 1) := by decide +kernel
theorem dX1_votesItHangsOn_5 : decode cX1_votesItHangsOn 5 = .ok (.bipush (-9), 2) := by decide +kernel
theorem dX1_votesItHangsOn_7 : decode cX1_votesItHangsOn 7 = .ok (.invokevirtual 124, 3) := by decide +kernel
theorem dX1_votesItHangsOn_10 : decode cX1_votesItHangsOn 10 = .ok (.istore_n 1, 1) := by decide +kernel
theorem dX1_votesItHangsOn_11 : decode cX1_votesItHangsOn 11 = .ok (.iconst 0, 1) := by decide +kernel
theorem dX1_votesItHangsOn_12 : decode cX1_votesItHangsOn 12 = .ok (.istore_n 2, 1) := by decide +kernel
theorem dX1_votesItHangsOn_13 : decode cX1_votesItHangsOn 13 = .ok (.iconst 0, 1) := by decide +kernel
theorem dX1_votesItHangsOn_14 : decode cX1_votesItHangsOn 14 = .ok (.istore_n 3, 1) := by decide +kernel
theorem dX1_votesItHangsOn_15 : decode cX1_votesItHangsOn 15 = .ok (.iload_n 3, 1) := by decide +kernel
theorem dX1_votesItHangsOn_16 : decode cX1_votesItHangsOn 16 = .ok (.aload_n 0, 1) := by decide +kernel
theorem dX1_votesItHangsOn_17 : decode cX1_votesItHangsOn 17 = .ok (.getfield 33, 3) := by decide +kernel
theorem dX1_votesItHangsOn_20 : decode cX1_votesItHangsOn 20 = .ok (.getfield 48, 3) := by decide +kernel
theorem dX1_votesItHangsOn_23 : decode cX1_votesItHangsOn 23 = .ok (.if_icmp .ge 24, 3) := by decide +kernel
theorem dX1_votesItHangsOn_26 : decode cX1_votesItHangsOn 26 = .ok (.aload_n 0, 1) := by decide +kernel
theorem dX1_votesItHangsOn_27 : decode cX1_votesItHangsOn 27 = .ok (.iload_n 3, 1) := by decide +kernel
theorem dX1_votesItHangsOn_28 : decode cX1_votesItHangsOn 28 = .ok (.invokevirtual 124, 3) := by decide +kernel
theorem dX1_votesItHangsOn_31 : decode cX1_votesItHangsOn 31 = .ok (.iload_n 1, 1) := by decide +kernel
theorem dX1_votesItHangsOn_32 : decode cX1_votesItHangsOn 32 = .ok (.if_icmp .eq 9, 3) := by decide +kernel
theorem dX1_votesItHangsOn_35 : decode cX1_votesItHangsOn 35 = .ok (.iload_n 2, 1) := by decide +kernel
theorem dX1_votesItHangsOn_36 : decode cX1_votesItHangsOn 36 = .ok (.iconst 1, 1) := by decide +kernel
theorem dX1_votesItHangsOn_37 : decode cX1_votesItHangsOn 37 = .ok (.iload_n 3, 1) := by decide +kernel
theorem dX1_votesItHangsOn_38 : decode cX1_votesItHangsOn 38 = .ok (.ishl, 1) := by decide +kernel
theorem dX1_votesItHangsOn_39 : decode cX1_votesItHangsOn 39 = .ok (.ior, 1) := by decide +kernel
theorem dX1_votesItHangsOn_40 : decode cX1_votesItHangsOn 40 = .ok (.istore_n 2, 1) := by decide +kernel
theorem dX1_votesItHangsOn_41 : decode cX1_votesItHangsOn 41 = .ok (.iinc 3 1, 3) := by decide +kernel
theorem dX1_votesItHangsOn_44 : decode cX1_votesItHangsOn 44 = .ok (.goto (-29), 3) := by decide +kernel
theorem dX1_votesItHangsOn_47 : decode cX1_votesItHangsOn 47 = .ok (.iload_n 2, 1) := by decide +kernel
theorem dX1_votesItHangsOn_48 : decode cX1_votesItHangsOn 48 = .ok (.ireturn, 1) := by decide +kernel
theorem dX1_findLeanings_0 : decode cX1_findLeanings 0 = .ok (.iconst 0, 1) := by decide +kernel
theorem dX1_findLeanings_1 : decode cX1_findLeanings 1 = .ok (.istore_n 1, 1) := by decide +kernel
theorem dX1_findLeanings_2 : decode cX1_findLeanings 2 = .ok (.iload_n 1, 1) := by decide +kernel
theorem dX1_findLeanings_3 : decode cX1_findLeanings 3 = .ok (.aload_n 0, 1) := by decide +kernel
theorem dX1_findLeanings_4 : decode cX1_findLeanings 4 = .ok (.getfield 33, 3) := by decide +kernel
theorem dX1_findLeanings_7 : decode cX1_findLeanings 7 = .ok (.getfield 48, 3) := by decide +kernel
theorem dX1_findLeanings_10 : decode cX1_findLeanings 10 = .ok (.if_icmp .ge 41, 3) := by decide +kernel
theorem dX1_findLeanings_13 : decode cX1_findLeanings 13 = .ok (.aload_n 0, 1) := by decide +kernel
theorem dX1_findLeanings_14 : decode cX1_findLeanings 14 = .ok (.iload_n 1, 1) := by decide +kernel
theorem dX1_findLeanings_15 : decode cX1_findLeanings 15 = .ok (.invokevirtual 127, 3) := by decide +kernel
theorem dX1_findLeanings_18 : decode cX1_findLeanings 18 = .ok (.istore_n 2, 1) := by decide +kernel
theorem dX1_findLeanings_19 : decode cX1_findLeanings 19 = .ok (.aload_n 0, 1) := by decide +kernel
theorem dX1_findLeanings_20 : decode cX1_findLeanings 20 = .ok (.getfield 19, 3) := by decide +kernel
theorem dX1_findLeanings_23 : decode cX1_findLeanings 23 = .ok (.iload_n 1, 1) := by decide +kernel
theorem dX1_findLeanings_24 : decode cX1_findLeanings 24 = .ok (.iload_n 2, 1) := by decide +kernel
theorem dX1_findLeanings_25 : decode cX1_findLeanings 25 = .ok (.bipush 6, 2) := by decide +kernel
theorem dX1_findLeanings_27 : decode cX1_findLeanings 27 = .ok (.if_icmp .ne 8, 3) := by decide +kernel
theorem dX1_findLeanings_30 : decode cX1_findLeanings 30 = .ok (.bipush (-9), 2) := by decide +kernel
theorem dX1_findLeanings_32 : decode cX1_findLeanings 32 = .ok (.goto 12, 3) := by decide +kernel
theorem dX1_findLeanings_35 : decode cX1_findLeanings 35 = .ok (.aload_n 0, 1) := by decide +kernel
theorem dX1_findLeanings_36 : decode cX1_findLeanings 36 = .ok (.getfield 29, 3) := by decide +kernel
theorem dX1_findLeanings_39 : decode cX1_findLeanings 39 = .ok (.getfield 93, 3) := by decide +kernel
theorem dX1_findLeanings_42 : decode cX1_findLeanings 42 = .ok (.iload_n 2, 1) := by decide +kernel
theorem dX1_findLeanings_43 : decode cX1_findLeanings 43 = .ok (.iaload, 1) := by decide +kernel
theorem dX1_findLeanings_44 : decode cX1_findLeanings 44 = .ok (.iastore, 1) := by decide +kernel
theorem dX1_findLeanings_45 : decode cX1_findLeanings 45 = .ok (.iinc 1 1, 3) := by decide +kernel
theorem dX1_findLeanings_48 : decode cX1_findLeanings 48 = .ok (.goto (-46), 3) := by decide +kernel
theorem dX1_findLeanings_51 : decode cX1_findLeanings 51 = .ok (.return_, 1) := by decide +kernel
theorem dX1_winnerWithout_0 : decode cX1_winnerWithout 0 = .ok (.aload_n 0, 1) := by decide +kernel
theorem dX1_winnerWithout_1 : decode cX1_winnerWithout 1 = .ok (.iload_n 1, 1) := by decide +kernel
theorem dX1_winnerWithout_2 : decode cX1_winnerWithout 2 = .ok (.invokevirtual 121, 3) := by decide +kernel
theorem dX1_winnerWithout_5 : decode cX1_winnerWithout 5 = .ok (.iconst 0, 1) := by decide +kernel
theorem dX1_winnerWithout_6 : decode cX1_winnerWithout 6 = .ok (.istore_n 2, 1) := by decide +kernel
theorem dX1_winnerWithout_7 : decode cX1_winnerWithout 7 = .ok (.iconst 1, 1) := by decide +kernel
theorem dX1_winnerWithout_8 : decode cX1_winnerWithout 8 = .ok (.istore_n 3, 1) := by decide +kernel
theorem dX1_winnerWithout_9 : decode cX1_winnerWithout 9 = .ok (.iload_n 3, 1) := by decide +kernel
theorem dX1_winnerWithout_10 : decode cX1_winnerWithout 10 = .ok (.iconst 4, 1) := by decide +kernel
theorem dX1_winnerWithout_11 : decode cX1_winnerWithout 11 = .ok (.if_icmp .ge 26, 3) := by decide +kernel
theorem dX1_winnerWithout_14 : decode cX1_winnerWithout 14 = .ok (.aload_n 0, 1) := by decide +kernel
theorem dX1_winnerWithout_15 : decode cX1_winnerWithout 15 = .ok (.getfield 23, 3) := by decide +kernel
theorem dX1_winnerWithout_18 : decode cX1_winnerWithout 18 = .ok (.iload_n 3, 1) := by decide +kernel
theorem dX1_winnerWithout_19 : decode cX1_winnerWithout 19 = .ok (.iaload, 1) := by decide +kernel
theorem dX1_winnerWithout_20 : decode cX1_winnerWithout 20 = .ok (.aload_n 0, 1) := by decide +kernel
theorem dX1_winnerWithout_21 : decode cX1_winnerWithout 21 = .ok (.getfield 23, 3) := by decide +kernel
theorem dX1_winnerWithout_24 : decode cX1_winnerWithout 24 = .ok (.iload_n 2, 1) := by decide +kernel
theorem dX1_winnerWithout_25 : decode cX1_winnerWithout 25 = .ok (.iaload, 1) := by decide +kernel
theorem dX1_winnerWithout_26 : decode cX1_winnerWithout 26 = .ok (.if_icmp .le 5, 3) := by decide +kernel
theorem dX1_winnerWithout_29 : decode cX1_winnerWithout 29 = .ok (.iload_n 3, 1) := by decide +kernel
theorem dX1_winnerWithout_30 : decode cX1_winnerWithout 30 = .ok (.istore_n 2, 1) := by decide +kernel
theorem dX1_winnerWithout_31 : decode cX1_winnerWithout 31 = .ok (.iinc 3 1, 3) := by decide +kernel
theorem dX1_winnerWithout_34 : decode cX1_winnerWithout 34 = .ok (.goto (-25), 3) := by decide +kernel
theorem dX1_winnerWithout_37 : decode cX1_winnerWithout 37 = .ok (.iload_n 2, 1) := by decide +kernel
theorem dX1_winnerWithout_38 : decode cX1_winnerWithout 38 = .ok (.ireturn, 1) := by decide +kernel
theorem dX1_tallyWithout_0 : decode cX1_tallyWithout 0 = .ok (.aload_n 0, 1) := by decide +kernel
theorem dX1_tallyWithout_1 : decode cX1_tallyWithout 1 = .ok (.getfield 23, 3) := by decide +kernel
theorem dX1_tallyWithout_4 : decode cX1_tallyWithout 4 = .ok (.iconst 0, 1) := by decide +kernel
theorem dX1_tallyWithout_5 : decode cX1_tallyWithout 5 = .ok (.invokestatic 37, 3) := by decide +kernel
theorem dX1_tallyWithout_8 : decode cX1_tallyWithout 8 = .ok (.iconst 0, 1) := by decide +kernel
theorem dX1_tallyWithout_9 : decode cX1_tallyWithout 9 = .ok (.istore_n 2, 1) := by decide +kernel
theorem dX1_tallyWithout_10 : decode cX1_tallyWithout 10 = .ok (.iload_n 2, 1) := by decide +kernel
theorem dX1_tallyWithout_11 : decode cX1_tallyWithout 11 = .ok (.aload_n 0, 1) := by decide +kernel
theorem dX1_tallyWithout_12 : decode cX1_tallyWithout 12 = .ok (.getfield 33, 3) := by decide +kernel
theorem dX1_tallyWithout_15 : decode cX1_tallyWithout 15 = .ok (.getfield 48, 3) := by decide +kernel
theorem dX1_tallyWithout_18 : decode cX1_tallyWithout 18 = .ok (.if_icmp .ge 40, 3) := by decide +kernel
theorem dX1_tallyWithout_21 : decode cX1_tallyWithout 21 = .ok (.iload_n 2, 1) := by decide +kernel
theorem dX1_tallyWithout_22 : decode cX1_tallyWithout 22 = .ok (.iload_n 1, 1) := by decide +kernel
theorem dX1_tallyWithout_23 : decode cX1_tallyWithout 23 = .ok (.if_icmp .eq 29, 3) := by decide +kernel
theorem dX1_tallyWithout_26 : decode cX1_tallyWithout 26 = .ok (.aload_n 0, 1) := by decide +kernel
theorem dX1_tallyWithout_27 : decode cX1_tallyWithout 27 = .ok (.getfield 19, 3) := by decide +kernel
theorem dX1_tallyWithout_30 : decode cX1_tallyWithout 30 = .ok (.iload_n 2, 1) := by decide +kernel
theorem dX1_tallyWithout_31 : decode cX1_tallyWithout 31 = .ok (.iaload, 1) := by decide +kernel
theorem dX1_tallyWithout_32 : decode cX1_tallyWithout 32 = .ok (.bipush (-9), 2) := by decide +kernel
theorem dX1_tallyWithout_34 : decode cX1_tallyWithout 34 = .ok (.if_icmp .eq 18, 3) := by decide +kernel
theorem dX1_tallyWithout_37 : decode cX1_tallyWithout 37 = .ok (.aload_n 0, 1) := by decide +kernel
theorem dX1_tallyWithout_38 : decode cX1_tallyWithout 38 = .ok (.getfield 23, 3) := by decide +kernel
theorem dX1_tallyWithout_41 : decode cX1_tallyWithout 41 = .ok (.aload_n 0, 1) := by decide +kernel
theorem dX1_tallyWithout_42 : decode cX1_tallyWithout 42 = .ok (.getfield 19, 3) := by decide +kernel
theorem dX1_tallyWithout_45 : decode cX1_tallyWithout 45 = .ok (.iload_n 2, 1) := by decide +kernel
theorem dX1_tallyWithout_46 : decode cX1_tallyWithout 46 = .ok (.iaload, 1) := by decide +kernel
theorem dX1_tallyWithout_47 : decode cX1_tallyWithout 47 = .ok (.dup2, 1) := by decide +kernel
theorem dX1_tallyWithout_48 : decode cX1_tallyWithout 48 = .ok (.iaload, 1) := by decide +kernel
theorem dX1_tallyWithout_49 : decode cX1_tallyWithout 49 = .ok (.iconst 1, 1) := by decide +kernel
theorem dX1_tallyWithout_50 : decode cX1_tallyWithout 50 = .ok (.iadd, 1) := by decide +kernel
theorem dX1_tallyWithout_51 : decode cX1_tallyWithout 51 = .ok (.iastore, 1) := by decide +kernel
theorem dX1_tallyWithout_52 : decode cX1_tallyWithout 52 = .ok (.iinc 2 1, 3) := by decide +kernel
theorem dX1_tallyWithout_55 : decode cX1_tallyWithout 55 = .ok (.goto (-45), 3) := by decide +kernel
theorem dX1_tallyWithout_58 : decode cX1_tallyWithout 58 = .ok (.return_, 1) := by decide +kernel
theorem dX1_damsReached_0 : decode cX1_damsReached 0 = .ok (.aload_n 0, 1) := by decide +kernel
theorem dX1_damsReached_1 : decode cX1_damsReached 1 = .ok (.iload_n 1, 1) := by decide +kernel
theorem dX1_damsReached_2 : decode cX1_damsReached 2 = .ok (.invokevirtual 104, 3) := by decide +kernel
theorem dX1_damsReached_5 : decode cX1_damsReached 5 = .ok (.lconst 0, 1) := by decide +kernel
theorem dX1_damsReached_6 : decode cX1_damsReached 6 = .ok (.lstore_n 2, 1) := by decide +kernel
theorem dX1_damsReached_7 : decode cX1_damsReached 7 = .ok (.iconst 0, 1) := by decide +kernel
theorem dX1_damsReached_8 : decode cX1_damsReached 8 = .ok (.istore 4, 2) := by decide +kernel
theorem dX1_damsReached_10 : decode cX1_damsReached 10 = .ok (.iload 4, 2) := by decide +kernel
theorem dX1_damsReached_12 : decode cX1_damsReached 12 = .ok (.aload_n 0, 1) := by decide +kernel
theorem dX1_damsReached_13 : decode cX1_damsReached 13 = .ok (.getfield 29, 3) := by decide +kernel
theorem dX1_damsReached_16 : decode cX1_damsReached 16 = .ok (.invokevirtual 60, 3) := by decide +kernel
theorem dX1_damsReached_19 : decode cX1_damsReached 19 = .ok (.if_icmp .ge 78, 3) := by decide +kernel
theorem dX1_damsReached_22 : decode cX1_damsReached 22 = .ok (.aload_n 0, 1) := by decide +kernel
theorem dX1_damsReached_23 : decode cX1_damsReached 23 = .ok (.getfield 11, 3) := by decide +kernel
theorem dX1_damsReached_26 : decode cX1_damsReached 26 = .ok (.iconst 0, 1) := by decide +kernel
theorem dX1_damsReached_27 : decode cX1_damsReached 27 = .ok (.aaload, 1) := by decide +kernel
theorem dX1_damsReached_28 : decode cX1_damsReached 28 = .ok (.iload 4, 2) := by decide +kernel
theorem dX1_damsReached_30 : decode cX1_damsReached 30 = .ok (.iaload, 1) := by decide +kernel
theorem dX1_damsReached_31 : decode cX1_damsReached 31 = .ok (.ifCond .gt 27, 3) := by decide +kernel
theorem dX1_damsReached_34 : decode cX1_damsReached 34 = .ok (.aload_n 0, 1) := by decide +kernel
theorem dX1_damsReached_35 : decode cX1_damsReached 35 = .ok (.getfield 11, 3) := by decide +kernel
theorem dX1_damsReached_38 : decode cX1_damsReached 38 = .ok (.iconst 1, 1) := by decide +kernel
theorem dX1_damsReached_39 : decode cX1_damsReached 39 = .ok (.aaload, 1) := by decide +kernel
theorem dX1_damsReached_40 : decode cX1_damsReached 40 = .ok (.iload 4, 2) := by decide +kernel
theorem dX1_damsReached_42 : decode cX1_damsReached 42 = .ok (.iaload, 1) := by decide +kernel
theorem dX1_damsReached_43 : decode cX1_damsReached 43 = .ok (.ifCond .gt 15, 3) := by decide +kernel
theorem dX1_damsReached_46 : decode cX1_damsReached 46 = .ok (.aload_n 0, 1) := by decide +kernel
theorem dX1_damsReached_47 : decode cX1_damsReached 47 = .ok (.getfield 11, 3) := by decide +kernel
theorem dX1_damsReached_50 : decode cX1_damsReached 50 = .ok (.iconst 2, 1) := by decide +kernel
theorem dX1_damsReached_51 : decode cX1_damsReached 51 = .ok (.aaload, 1) := by decide +kernel
theorem dX1_damsReached_52 : decode cX1_damsReached 52 = .ok (.iload 4, 2) := by decide +kernel
theorem dX1_damsReached_54 : decode cX1_damsReached 54 = .ok (.iaload, 1) := by decide +kernel
theorem dX1_damsReached_55 : decode cX1_damsReached 55 = .ok (.ifCond .le 7, 3) := by decide +kernel
theorem dX1_damsReached_58 : decode cX1_damsReached 58 = .ok (.iconst 1, 1) := by decide +kernel
theorem dX1_damsReached_59 : decode cX1_damsReached 59 = .ok (.goto 4, 3) := by decide +kernel
theorem dX1_damsReached_62 : decode cX1_damsReached 62 = .ok (.iconst 0, 1) := by decide +kernel
theorem dX1_damsReached_63 : decode cX1_damsReached 63 = .ok (.istore 5, 2) := by decide +kernel
theorem dX1_damsReached_65 : decode cX1_damsReached 65 = .ok (.aload_n 0, 1) := by decide +kernel
theorem dX1_damsReached_66 : decode cX1_damsReached 66 = .ok (.getfield 29, 3) := by decide +kernel
theorem dX1_damsReached_69 : decode cX1_damsReached 69 = .ok (.getfield 66, 3) := by decide +kernel
theorem dX1_damsReached_72 : decode cX1_damsReached 72 = .ok (.iload 4, 2) := by decide +kernel
theorem dX1_damsReached_74 : decode cX1_damsReached 74 = .ok (.iaload, 1) := by decide +kernel
theorem dX1_damsReached_75 : decode cX1_damsReached 75 = .ok (.iconst 4, 1) := by decide +kernel
theorem dX1_damsReached_76 : decode cX1_damsReached 76 = .ok (.if_icmp .ne 15, 3) := by decide +kernel
theorem dX1_damsReached_79 : decode cX1_damsReached 79 = .ok (.iload 5, 2) := by decide +kernel
theorem dX1_damsReached_81 : decode cX1_damsReached 81 = .ok (.ifCond .eq 10, 3) := by decide +kernel
theorem dX1_damsReached_84 : decode cX1_damsReached 84 = .ok (.lload_n 2, 1) := by decide +kernel
theorem dX1_damsReached_85 : decode cX1_damsReached 85 = .ok (.lconst 1, 1) := by decide +kernel
theorem dX1_damsReached_86 : decode cX1_damsReached 86 = .ok (.iload 4, 2) := by decide +kernel
theorem dX1_damsReached_88 : decode cX1_damsReached 88 = .ok (.lshl, 1) := by decide +kernel
theorem dX1_damsReached_89 : decode cX1_damsReached 89 = .ok (.lor, 1) := by decide +kernel
theorem dX1_damsReached_90 : decode cX1_damsReached 90 = .ok (.lstore_n 2, 1) := by decide +kernel
theorem dX1_damsReached_91 : decode cX1_damsReached 91 = .ok (.iinc 4 1, 3) := by decide +kernel
theorem dX1_damsReached_94 : decode cX1_damsReached 94 = .ok (.goto (-84), 3) := by decide +kernel
theorem dX1_damsReached_97 : decode cX1_damsReached 97 = .ok (.lload_n 2, 1) := by decide +kernel
theorem dX1_damsReached_98 : decode cX1_damsReached 98 = .ok (.lreturn, 1) := by decide +kernel
theorem dX1_endsOf_0 : decode cX1_endsOf 0 = .ok (.aload_n 0, 1) := by decide +kernel
theorem dX1_endsOf_1 : decode cX1_endsOf 1 = .ok (.getfield 33, 3) := by decide +kernel
theorem dX1_endsOf_4 : decode cX1_endsOf 4 = .ok (.getfield 54, 3) := by decide +kernel
theorem dX1_endsOf_7 : decode cX1_endsOf 7 = .ok (.iload_n 1, 1) := by decide +kernel
theorem dX1_endsOf_8 : decode cX1_endsOf 8 = .ok (.iaload, 1) := by decide +kernel
theorem dX1_endsOf_9 : decode cX1_endsOf 9 = .ok (.istore_n 2, 1) := by decide +kernel
theorem dX1_endsOf_10 : decode cX1_endsOf 10 = .ok (.aload_n 0, 1) := by decide +kernel
theorem dX1_endsOf_11 : decode cX1_endsOf 11 = .ok (.iload_n 2, 1) := by decide +kernel
theorem dX1_endsOf_12 : decode cX1_endsOf 12 = .ok (.aload_n 0, 1) := by decide +kernel
theorem dX1_endsOf_13 : decode cX1_endsOf 13 = .ok (.getfield 33, 3) := by decide +kernel
theorem dX1_endsOf_16 : decode cX1_endsOf 16 = .ok (.getfield 57, 3) := by decide +kernel
theorem dX1_endsOf_19 : decode cX1_endsOf 19 = .ok (.iload_n 1, 1) := by decide +kernel
theorem dX1_endsOf_20 : decode cX1_endsOf 20 = .ok (.iaload, 1) := by decide +kernel
theorem dX1_endsOf_21 : decode cX1_endsOf 21 = .ok (.invokevirtual 112, 3) := by decide +kernel
theorem dX1_endsOf_24 : decode cX1_endsOf 24 = .ok (.aload_n 0, 1) := by decide +kernel
theorem dX1_endsOf_25 : decode cX1_endsOf 25 = .ok (.iload_n 2, 1) := by decide +kernel
theorem dX1_endsOf_26 : decode cX1_endsOf 26 = .ok (.invokevirtual 115, 3) := by decide +kernel
theorem dX1_endsOf_29 : decode cX1_endsOf 29 = .ok (.ifCond .le 8, 3) := by decide +kernel
theorem dX1_endsOf_32 : decode cX1_endsOf 32 = .ok (.bipush 64, 2) := by decide +kernel
theorem dX1_endsOf_34 : decode cX1_endsOf 34 = .ok (.goto 4, 3) := by decide +kernel
theorem dX1_endsOf_37 : decode cX1_endsOf 37 = .ok (.iconst 0, 1) := by decide +kernel
theorem dX1_endsOf_38 : decode cX1_endsOf 38 = .ok (.istore_n 3, 1) := by decide +kernel
theorem dX1_endsOf_39 : decode cX1_endsOf 39 = .ok (.iconst 0, 1) := by decide +kernel
theorem dX1_endsOf_40 : decode cX1_endsOf 40 = .ok (.istore 4, 2) := by decide +kernel
theorem dX1_endsOf_42 : decode cX1_endsOf 42 = .ok (.iload 4, 2) := by decide +kernel
theorem dX1_endsOf_44 : decode cX1_endsOf 44 = .ok (.aload_n 0, 1) := by decide +kernel
theorem dX1_endsOf_45 : decode cX1_endsOf 45 = .ok (.getfield 29, 3) := by decide +kernel
theorem dX1_endsOf_48 : decode cX1_endsOf 48 = .ok (.getfield 83, 3) := by decide +kernel
theorem dX1_endsOf_51 : decode cX1_endsOf 51 = .ok (.if_icmp .ge 26, 3) := by decide +kernel
theorem dX1_endsOf_54 : decode cX1_endsOf 54 = .ok (.aload_n 0, 1) := by decide +kernel
theorem dX1_endsOf_55 : decode cX1_endsOf 55 = .ok (.iload_n 2, 1) := by decide +kernel
theorem dX1_endsOf_56 : decode cX1_endsOf 56 = .ok (.iload 4, 2) := by decide +kernel
theorem dX1_endsOf_58 : decode cX1_endsOf 58 = .ok (.invokevirtual 86, 3) := by decide +kernel
theorem dX1_endsOf_61 : decode cX1_endsOf 61 = .ok (.ifCond .le 10, 3) := by decide +kernel
theorem dX1_endsOf_64 : decode cX1_endsOf 64 = .ok (.iload_n 3, 1) := by decide +kernel
theorem dX1_endsOf_65 : decode cX1_endsOf 65 = .ok (.iconst 1, 1) := by decide +kernel
theorem dX1_endsOf_66 : decode cX1_endsOf 66 = .ok (.iload 4, 2) := by decide +kernel
theorem dX1_endsOf_68 : decode cX1_endsOf 68 = .ok (.ishl, 1) := by decide +kernel
theorem dX1_endsOf_69 : decode cX1_endsOf 69 = .ok (.ior, 1) := by decide +kernel
theorem dX1_endsOf_70 : decode cX1_endsOf 70 = .ok (.istore_n 3, 1) := by decide +kernel
theorem dX1_endsOf_71 : decode cX1_endsOf 71 = .ok (.iinc 4 1, 3) := by decide +kernel
theorem dX1_endsOf_74 : decode cX1_endsOf 74 = .ok (.goto (-32), 3) := by decide +kernel
theorem dX1_endsOf_77 : decode cX1_endsOf 77 = .ok (.iload_n 3, 1) := by decide +kernel
theorem dX1_endsOf_78 : decode cX1_endsOf 78 = .ok (.ireturn, 1) := by decide +kernel
theorem dX1_fairColumns_0 : decode cX1_fairColumns 0 = .ok (.iconst 0, 1) := by decide +kernel
theorem dX1_fairColumns_1 : decode cX1_fairColumns 1 = .ok (.istore_n 1, 1) := by decide +kernel
theorem dX1_fairColumns_2 : decode cX1_fairColumns 2 = .ok (.iconst 0, 1) := by decide +kernel
theorem dX1_fairColumns_3 : decode cX1_fairColumns 3 = .ok (.istore_n 2, 1) := by decide +kernel
theorem dX1_fairColumns_4 : decode cX1_fairColumns 4 = .ok (.iload_n 2, 1) := by decide +kernel
theorem dX1_fairColumns_5 : decode cX1_fairColumns 5 = .ok (.aload_n 0, 1) := by decide +kernel
theorem dX1_fairColumns_6 : decode cX1_fairColumns 6 = .ok (.getfield 29, 3) := by decide +kernel
theorem dX1_fairColumns_9 : decode cX1_fairColumns 9 = .ok (.getfield 83, 3) := by decide +kernel
theorem dX1_fairColumns_12 : decode cX1_fairColumns 12 = .ok (.if_icmp .ge 23, 3) := by decide +kernel
theorem dX1_fairColumns_15 : decode cX1_fairColumns 15 = .ok (.aload_n 0, 1) := by decide +kernel
theorem dX1_fairColumns_16 : decode cX1_fairColumns 16 = .ok (.iload_n 2, 1) := by decide +kernel
theorem dX1_fairColumns_17 : decode cX1_fairColumns 17 = .ok (.invokevirtual 130, 3) := by decide +kernel
theorem dX1_fairColumns_20 : decode cX1_fairColumns 20 = .ok (.ifCond .eq 9, 3) := by decide +kernel
theorem dX1_fairColumns_23 : decode cX1_fairColumns 23 = .ok (.iload_n 1, 1) := by decide +kernel
theorem dX1_fairColumns_24 : decode cX1_fairColumns 24 = .ok (.iconst 1, 1) := by decide +kernel
theorem dX1_fairColumns_25 : decode cX1_fairColumns 25 = .ok (.iload_n 2, 1) := by decide +kernel
theorem dX1_fairColumns_26 : decode cX1_fairColumns 26 = .ok (.ishl, 1) := by decide +kernel
theorem dX1_fairColumns_27 : decode cX1_fairColumns 27 = .ok (.ior, 1) := by decide +kernel
theorem dX1_fairColumns_28 : decode cX1_fairColumns 28 = .ok (.istore_n 1, 1) := by decide +kernel
theorem dX1_fairColumns_29 : decode cX1_fairColumns 29 = .ok (.iinc 2 1, 3) := by decide +kernel
theorem dX1_fairColumns_32 : decode cX1_fairColumns 32 = .ok (.goto (-28), 3) := by decide +kernel
theorem dX1_fairColumns_35 : decode cX1_fairColumns 35 = .ok (.iload_n 1, 1) := by decide +kernel
theorem dX1_fairColumns_36 : decode cX1_fairColumns 36 = .ok (.ireturn, 1) := by decide +kernel
theorem dX1_isFair_0 : decode cX1_isFair 0 = .ok (.aload_n 0, 1) := by decide +kernel
theorem dX1_isFair_1 : decode cX1_isFair 1 = .ok (.iconst 0, 1) := by decide +kernel
theorem dX1_isFair_2 : decode cX1_isFair 2 = .ok (.iload_n 1, 1) := by decide +kernel
theorem dX1_isFair_3 : decode cX1_isFair 3 = .ok (.invokevirtual 112, 3) := by decide +kernel
theorem dX1_isFair_6 : decode cX1_isFair 6 = .ok (.aload_n 0, 1) := by decide +kernel
theorem dX1_isFair_7 : decode cX1_isFair 7 = .ok (.getfield 26, 3) := by decide +kernel
theorem dX1_isFair_10 : decode cX1_isFair 10 = .ok (.iconst 0, 1) := by decide +kernel
theorem dX1_isFair_11 : decode cX1_isFair 11 = .ok (.invokestatic 37, 3) := by decide +kernel
theorem dX1_isFair_14 : decode cX1_isFair 14 = .ok (.iconst 0, 1) := by decide +kernel
theorem dX1_isFair_15 : decode cX1_isFair 15 = .ok (.istore_n 2, 1) := by decide +kernel
theorem dX1_isFair_16 : decode cX1_isFair 16 = .ok (.iload_n 2, 1) := by decide +kernel
theorem dX1_isFair_17 : decode cX1_isFair 17 = .ok (.aload_n 0, 1) := by decide +kernel
theorem dX1_isFair_18 : decode cX1_isFair 18 = .ok (.getfield 29, 3) := by decide +kernel
theorem dX1_isFair_21 : decode cX1_isFair 21 = .ok (.getfield 83, 3) := by decide +kernel
theorem dX1_isFair_24 : decode cX1_isFair 24 = .ok (.if_icmp .ge 32, 3) := by decide +kernel
theorem dX1_isFair_27 : decode cX1_isFair 27 = .ok (.aload_n 0, 1) := by decide +kernel
theorem dX1_isFair_28 : decode cX1_isFair 28 = .ok (.getfield 26, 3) := by decide +kernel
theorem dX1_isFair_31 : decode cX1_isFair 31 = .ok (.aload_n 0, 1) := by decide +kernel
theorem dX1_isFair_32 : decode cX1_isFair 32 = .ok (.getfield 29, 3) := by decide +kernel
theorem dX1_isFair_35 : decode cX1_isFair 35 = .ok (.getfield 93, 3) := by decide +kernel
theorem dX1_isFair_38 : decode cX1_isFair 38 = .ok (.iload_n 2, 1) := by decide +kernel
theorem dX1_isFair_39 : decode cX1_isFair 39 = .ok (.iaload, 1) := by decide +kernel
theorem dX1_isFair_40 : decode cX1_isFair 40 = .ok (.dup2, 1) := by decide +kernel
theorem dX1_isFair_41 : decode cX1_isFair 41 = .ok (.iaload, 1) := by decide +kernel
theorem dX1_isFair_42 : decode cX1_isFair 42 = .ok (.aload_n 0, 1) := by decide +kernel
theorem dX1_isFair_43 : decode cX1_isFair 43 = .ok (.iconst 0, 1) := by decide +kernel
theorem dX1_isFair_44 : decode cX1_isFair 44 = .ok (.iload_n 2, 1) := by decide +kernel
theorem dX1_isFair_45 : decode cX1_isFair 45 = .ok (.invokevirtual 86, 3) := by decide +kernel
theorem dX1_isFair_48 : decode cX1_isFair 48 = .ok (.iadd, 1) := by decide +kernel
theorem dX1_isFair_49 : decode cX1_isFair 49 = .ok (.iastore, 1) := by decide +kernel
theorem dX1_isFair_50 : decode cX1_isFair 50 = .ok (.iinc 2 1, 3) := by decide +kernel
theorem dX1_isFair_53 : decode cX1_isFair 53 = .ok (.goto (-37), 3) := by decide +kernel
theorem dX1_isFair_56 : decode cX1_isFair 56 = .ok (.aload_n 0, 1) := by decide +kernel
theorem dX1_isFair_57 : decode cX1_isFair 57 = .ok (.getfield 26, 3) := by decide +kernel
theorem dX1_isFair_60 : decode cX1_isFair 60 = .ok (.aload_n 0, 1) := by decide +kernel
theorem dX1_isFair_61 : decode cX1_isFair 61 = .ok (.getfield 29, 3) := by decide +kernel
theorem dX1_isFair_64 : decode cX1_isFair 64 = .ok (.getfield 93, 3) := by decide +kernel
theorem dX1_isFair_67 : decode cX1_isFair 67 = .ok (.iconst 0, 1) := by decide +kernel
theorem dX1_isFair_68 : decode cX1_isFair 68 = .ok (.iaload, 1) := by decide +kernel
theorem dX1_isFair_69 : decode cX1_isFair 69 = .ok (.iaload, 1) := by decide +kernel
theorem dX1_isFair_70 : decode cX1_isFair 70 = .ok (.istore_n 2, 1) := by decide +kernel
theorem dX1_isFair_71 : decode cX1_isFair 71 = .ok (.iconst 0, 1) := by decide +kernel
theorem dX1_isFair_72 : decode cX1_isFair 72 = .ok (.istore_n 3, 1) := by decide +kernel
theorem dX1_isFair_73 : decode cX1_isFair 73 = .ok (.iload_n 3, 1) := by decide +kernel
theorem dX1_isFair_74 : decode cX1_isFair 74 = .ok (.iconst 4, 1) := by decide +kernel
theorem dX1_isFair_75 : decode cX1_isFair 75 = .ok (.if_icmp .ge 32, 3) := by decide +kernel
theorem dX1_isFair_78 : decode cX1_isFair 78 = .ok (.aload_n 0, 1) := by decide +kernel
theorem dX1_isFair_79 : decode cX1_isFair 79 = .ok (.getfield 29, 3) := by decide +kernel
theorem dX1_isFair_82 : decode cX1_isFair 82 = .ok (.iload_n 3, 1) := by decide +kernel
theorem dX1_isFair_83 : decode cX1_isFair 83 = .ok (.invokevirtual 134, 3) := by decide +kernel
theorem dX1_isFair_86 : decode cX1_isFair 86 = .ok (.ifCond .eq 15, 3) := by decide +kernel
theorem dX1_isFair_89 : decode cX1_isFair 89 = .ok (.aload_n 0, 1) := by decide +kernel
theorem dX1_isFair_90 : decode cX1_isFair 90 = .ok (.getfield 26, 3) := by decide +kernel
theorem dX1_isFair_93 : decode cX1_isFair 93 = .ok (.iload_n 3, 1) := by decide +kernel
theorem dX1_isFair_94 : decode cX1_isFair 94 = .ok (.iaload, 1) := by decide +kernel
theorem dX1_isFair_95 : decode cX1_isFair 95 = .ok (.iload_n 2, 1) := by decide +kernel
theorem dX1_isFair_96 : decode cX1_isFair 96 = .ok (.if_icmp .eq 5, 3) := by decide +kernel
theorem dX1_isFair_99 : decode cX1_isFair 99 = .ok (.iconst 0, 1) := by decide +kernel
theorem dX1_isFair_100 : decode cX1_isFair 100 = .ok (.ireturn, 1) := by decide +kernel
theorem dX1_isFair_101 : decode cX1_isFair 101 = .ok (.iinc 3 1, 3) := by decide +kernel
theorem dX1_isFair_104 : decode cX1_isFair 104 = .ok (.goto (-31), 3) := by decide +kernel
theorem dX1_isFair_107 : decode cX1_isFair 107 = .ok (.iconst 1, 1) := by decide +kernel
theorem dX1_isFair_108 : decode cX1_isFair 108 = .ok (.ireturn, 1) := by decide +kernel
theorem dX2_init_0 : decode cX2_init 0 = .ok (.aload_n 0, 1) := by decide +kernel
theorem dX2_init_1 : decode cX2_init 1 = .ok (.invokespecial 3, 3) := by decide +kernel
theorem dX2_init_4 : decode cX2_init 4 = .ok (.aload_n 0, 1) := by decide +kernel
theorem dX2_init_5 : decode cX2_init 5 = .ok (.bipush 30, 2) := by decide +kernel
theorem dX2_init_7 : decode cX2_init 7 = .ok (.newarray .int, 2) := by decide +kernel
theorem dX2_init_9 : decode cX2_init 9 = .ok (.putfield 9, 3) := by decide +kernel
theorem dX2_init_12 : decode cX2_init 12 = .ok (.aload_n 0, 1) := by decide +kernel
theorem dX2_init_13 : decode cX2_init 13 = .ok (.bipush 6, 2) := by decide +kernel
theorem dX2_init_15 : decode cX2_init 15 = .ok (.newarray .int, 2) := by decide +kernel
theorem dX2_init_17 : decode cX2_init 17 = .ok (.putfield 15, 3) := by decide +kernel
theorem dX2_init_20 : decode cX2_init 20 = .ok (.aload_n 0, 1) := by decide +kernel
theorem dX2_init_21 : decode cX2_init 21 = .ok (.iconst 0, 1) := by decide +kernel
theorem dX2_init_22 : decode cX2_init 22 = .ok (.putfield 18, 3) := by decide +kernel
theorem dX2_init_25 : decode cX2_init 25 = .ok (.aload_n 0, 1) := by decide +kernel
theorem dX2_init_26 : decode cX2_init 26 = .ok (.iconst 0, 1) := by decide +kernel
theorem dX2_init_27 : decode cX2_init 27 = .ok (.putfield 22, 3) := by decide +kernel
theorem dX2_init_30 : decode cX2_init 30 = .ok (.aload_n 0, 1) := by decide +kernel
theorem dX2_init_31 : decode cX2_init 31 = .ok (.iconst 0, 1) := by decide +kernel
theorem dX2_init_32 : decode cX2_init 32 = .ok (.putfield 25, 3) := by decide +kernel
theorem dX2_init_35 : decode cX2_init 35 = .ok (.return_, 1) := by decide +kernel
theorem dX2_stands_0 : decode cX2_stands 0 = .ok (.aload_n 0, 1) := by decide +kernel
theorem dX2_stands_1 : decode cX2_stands 1 = .ok (.getfield 22, 3) := by decide +kernel
theorem dX2_stands_4 : decode cX2_stands 4 = .ok (.ifCond .le 7, 3) := by decide +kernel
theorem dX2_stands_7 : decode cX2_stands 7 = .ok (.iconst 1, 1) := by decide +kernel
theorem dX2_stands_8 : decode cX2_stands 8 = .ok (.goto 4, 3) := by decide +kernel
theorem dX2_stands_11 : decode cX2_stands 11 = .ok (.iconst 0, 1) := by decide +kernel
theorem dX2_stands_12 : decode cX2_stands 12 = .ok (.ireturn, 1) := by decide +kernel
theorem dX2_cells_0 : decode cX2_cells 0 = .ok (.aload_n 0, 1) := by decide +kernel
theorem dX2_cells_1 : decode cX2_cells 1 = .ok (.getfield 18, 3) := by decide +kernel
theorem dX2_cells_4 : decode cX2_cells 4 = .ok (.aload_n 0, 1) := by decide +kernel
theorem dX2_cells_5 : decode cX2_cells 5 = .ok (.getfield 22, 3) := by decide +kernel
theorem dX2_cells_8 : decode cX2_cells 8 = .ok (.imul, 1) := by decide +kernel
theorem dX2_cells_9 : decode cX2_cells 9 = .ok (.ireturn, 1) := by decide +kernel
theorem dX2_hasCell_0 : decode cX2_hasCell 0 = .ok (.iload_n 1, 1) := by decide +kernel
theorem dX2_hasCell_1 : decode cX2_hasCell 1 = .ok (.ifCond .lt 15, 3) := by decide +kernel
theorem dX2_hasCell_4 : decode cX2_hasCell 4 = .ok (.iload_n 1, 1) := by decide +kernel
theorem dX2_hasCell_5 : decode cX2_hasCell 5 = .ok (.aload_n 0, 1) := by decide +kernel
theorem dX2_hasCell_6 : decode cX2_hasCell 6 = .ok (.invokevirtual 29, 3) := by decide +kernel
theorem dX2_hasCell_9 : decode cX2_hasCell 9 = .ok (.if_icmp .ge 7, 3) := by decide +kernel
theorem dX2_hasCell_12 : decode cX2_hasCell 12 = .ok (.iconst 1, 1) := by decide +kernel
theorem dX2_hasCell_13 : decode cX2_hasCell 13 = .ok (.goto 4, 3) := by decide +kernel
theorem dX2_hasCell_16 : decode cX2_hasCell 16 = .ok (.iconst 0, 1) := by decide +kernel
theorem dX2_hasCell_17 : decode cX2_hasCell 17 = .ok (.ireturn, 1) := by decide +kernel
theorem dX2_hasColumn_0 : decode cX2_hasColumn 0 = .ok (.iload_n 1, 1) := by decide +kernel
theorem dX2_hasColumn_1 : decode cX2_hasColumn 1 = .ok (.ifCond .lt 15, 3) := by decide +kernel
theorem dX2_hasColumn_4 : decode cX2_hasColumn 4 = .ok (.iload_n 1, 1) := by decide +kernel
theorem dX2_hasColumn_5 : decode cX2_hasColumn 5 = .ok (.aload_n 0, 1) := by decide +kernel
theorem dX2_hasColumn_6 : decode cX2_hasColumn 6 = .ok (.getfield 22, 3) := by decide +kernel
theorem dX2_hasColumn_9 : decode cX2_hasColumn 9 = .ok (.if_icmp .ge 7, 3) := by decide +kernel
theorem dX2_hasColumn_12 : decode cX2_hasColumn 12 = .ok (.iconst 1, 1) := by decide +kernel
theorem dX2_hasColumn_13 : decode cX2_hasColumn 13 = .ok (.goto 4, 3) := by decide +kernel
theorem dX2_hasColumn_16 : decode cX2_hasColumn 16 = .ok (.iconst 0, 1) := by decide +kernel
theorem dX2_hasColumn_17 : decode cX2_hasColumn 17 = .ok (.ireturn, 1) := by decide +kernel
theorem dX2_hasTroughOf_0 : decode cX2_hasTroughOf 0 = .ok (.iconst 0, 1) := by decide +kernel
theorem dX2_hasTroughOf_1 : decode cX2_hasTroughOf 1 = .ok (.istore_n 2, 1) := by decide +kernel
theorem dX2_hasTroughOf_2 : decode cX2_hasTroughOf 2 = .ok (.iload_n 2, 1) := by decide +kernel
theorem dX2_hasTroughOf_3 : decode cX2_hasTroughOf 3 = .ok (.aload_n 0, 1) := by decide +kernel
theorem dX2_hasTroughOf_4 : decode cX2_hasTroughOf 4 = .ok (.getfield 22, 3) := by decide +kernel
theorem dX2_hasTroughOf_7 : decode cX2_hasTroughOf 7 = .ok (.if_icmp .ge 21, 3) := by decide +kernel
theorem dX2_hasTroughOf_10 : decode cX2_hasTroughOf 10 = .ok (.aload_n 0, 1) := by decide +kernel
theorem dX2_hasTroughOf_11 : decode cX2_hasTroughOf 11 = .ok (.getfield 15, 3) := by decide +kernel
theorem dX2_hasTroughOf_14 : decode cX2_hasTroughOf 14 = .ok (.iload_n 2, 1) := by decide +kernel
theorem dX2_hasTroughOf_15 : decode cX2_hasTroughOf 15 = .ok (.iaload, 1) := by decide +kernel
theorem dX2_hasTroughOf_16 : decode cX2_hasTroughOf 16 = .ok (.iload_n 1, 1) := by decide +kernel
theorem dX2_hasTroughOf_17 : decode cX2_hasTroughOf 17 = .ok (.if_icmp .ne 5, 3) := by decide +kernel
theorem dX2_hasTroughOf_20 : decode cX2_hasTroughOf 20 = .ok (.iconst 1, 1) := by decide +kernel
theorem dX2_hasTroughOf_21 : decode cX2_hasTroughOf 21 = .ok (.ireturn, 1) := by decide +kernel
theorem dX2_hasTroughOf_22 : decode cX2_hasTroughOf 22 = .ok (.iinc 2 1, 3) := by decide +kernel
theorem dX2_hasTroughOf_25 : decode cX2_hasTroughOf 25 = .ok (.goto (-23), 3) := by decide +kernel
theorem dX2_hasTroughOf_28 : decode cX2_hasTroughOf 28 = .ok (.iconst 0, 1) := by decide +kernel
theorem dX2_hasTroughOf_29 : decode cX2_hasTroughOf 29 = .ok (.ireturn, 1) := by decide +kernel
theorem dX2_firstFault_0 : decode cX2_firstFault 0 = .ok (.iconst 0, 1) := by decide +kernel
theorem dX2_firstFault_1 : decode cX2_firstFault 1 = .ok (.istore 4, 2) := by decide +kernel
theorem dX2_firstFault_3 : decode cX2_firstFault 3 = .ok (.iconst 0, 1) := by decide +kernel
theorem dX2_firstFault_4 : decode cX2_firstFault 4 = .ok (.istore 5, 2) := by decide +kernel
theorem dX2_firstFault_6 : decode cX2_firstFault 6 = .ok (.iconst 0, 1) := by decide +kernel
theorem dX2_firstFault_7 : decode cX2_firstFault 7 = .ok (.istore 6, 2) := by decide +kernel
theorem dX2_firstFault_9 : decode cX2_firstFault 9 = .ok (.iload 6, 2) := by decide +kernel
theorem dX2_firstFault_11 : decode cX2_firstFault 11 = .ok (.iload_n 3, 1) := by decide +kernel
theorem dX2_firstFault_12 : decode cX2_firstFault 12 = .ok (.if_icmp .ge 62, 3) := by decide +kernel
theorem dX2_firstFault_15 : decode cX2_firstFault 15 = .ok (.aload_n 1, 1) := by decide +kernel
theorem dX2_firstFault_16 : decode cX2_firstFault 16 = .ok (.iload_n 2, 1) := by decide +kernel
theorem dX2_firstFault_17 : decode cX2_firstFault 17 = .ok (.iload 6, 2) := by decide +kernel
theorem dX2_firstFault_19 : decode cX2_firstFault 19 = .ok (.iadd, 1) := by decide +kernel
theorem dX2_firstFault_20 : decode cX2_firstFault 20 = .ok (.invokevirtual 33, 3) := by decide +kernel
theorem dX2_firstFault_23 : decode cX2_firstFault 23 = .ok (.istore 7, 2) := by decide +kernel
theorem dX2_firstFault_25 : decode cX2_firstFault 25 = .ok (.iload 6, 2) := by decide +kernel
theorem dX2_firstFault_27 : decode cX2_firstFault 27 = .ok (.iload 7, 2) := by decide +kernel
theorem dX2_firstFault_29 : decode cX2_firstFault 29 = .ok (.iload 4, 2) := by decide +kernel
theorem dX2_firstFault_31 : decode cX2_firstFault 31 = .ok (.iload 5, 2) := by decide +kernel
theorem dX2_firstFault_33 : decode cX2_firstFault 33 = .ok (.invokestatic 39, 3) := by decide +kernel
theorem dX2_firstFault_36 : decode cX2_firstFault 36 = .ok (.ifCond .ne 6, 3) := by decide +kernel
theorem dX2_firstFault_39 : decode cX2_firstFault 39 = .ok (.iload 6, 2) := by decide +kernel
theorem dX2_firstFault_41 : decode cX2_firstFault 41 = .ok (.ireturn, 1) := by decide +kernel
theorem dX2_firstFault_42 : decode cX2_firstFault 42 = .ok (.iload 6, 2) := by decide +kernel
theorem dX2_firstFault_44 : decode cX2_firstFault 44 = .ok (.iconst 1, 1) := by decide +kernel
theorem dX2_firstFault_45 : decode cX2_firstFault 45 = .ok (.if_icmp .ne 10, 3) := by decide +kernel
theorem dX2_firstFault_48 : decode cX2_firstFault 48 = .ok (.iload 7, 2) := by decide +kernel
theorem dX2_firstFault_50 : decode cX2_firstFault 50 = .ok (.bipush 48, 2) := by decide +kernel
theorem dX2_firstFault_52 : decode cX2_firstFault 52 = .ok (.isub, 1) := by decide +kernel
theorem dX2_firstFault_53 : decode cX2_firstFault 53 = .ok (.istore 4, 2) := by decide +kernel
theorem dX2_firstFault_55 : decode cX2_firstFault 55 = .ok (.iload 6, 2) := by decide +kernel
theorem dX2_firstFault_57 : decode cX2_firstFault 57 = .ok (.iconst 2, 1) := by decide +kernel
theorem dX2_firstFault_58 : decode cX2_firstFault 58 = .ok (.if_icmp .ne 10, 3) := by decide +kernel
theorem dX2_firstFault_61 : decode cX2_firstFault 61 = .ok (.iload 7, 2) := by decide +kernel
theorem dX2_firstFault_63 : decode cX2_firstFault 63 = .ok (.bipush 48, 2) := by decide +kernel
theorem dX2_firstFault_65 : decode cX2_firstFault 65 = .ok (.isub, 1) := by decide +kernel
theorem dX2_firstFault_66 : decode cX2_firstFault 66 = .ok (.istore 5, 2) := by decide +kernel
theorem dX2_firstFault_68 : decode cX2_firstFault 68 = .ok (.iinc 6 1, 3) := by decide +kernel
theorem dX2_firstFault_71 : decode cX2_firstFault 71 = .ok (.goto (-62), 3) := by decide +kernel
theorem dX2_firstFault_74 : decode cX2_firstFault 74 = .ok (.iload_n 3, 1) := by decide +kernel
theorem dX2_firstFault_75 : decode cX2_firstFault 75 = .ok (.iload 4, 2) := by decide +kernel
theorem dX2_firstFault_77 : decode cX2_firstFault 77 = .ok (.iload 5, 2) := by decide +kernel
theorem dX2_firstFault_79 : decode cX2_firstFault 79 = .ok (.invokestatic 43, 3) := by decide +kernel
theorem dX2_firstFault_82 : decode cX2_firstFault 82 = .ok (.if_icmp .ge 7, 3) := by decide +kernel
theorem dX2_firstFault_85 : decode cX2_firstFault 85 = .ok (.iload_n 3, 1) := by decide +kernel
theorem dX2_firstFault_86 : decode cX2_firstFault 86 = .ok (.goto 4, 3) := by decide +kernel
theorem dX2_firstFault_89 : decode cX2_firstFault 89 = .ok (.iconst (-1), 1) := by decide +kernel
theorem dX2_firstFault_90 : decode cX2_firstFault 90 = .ok (.ireturn, 1) := by decide +kernel
theorem dX2_lengthOfText_0 : decode cX2_lengthOfText 0 = .ok (.iconst 3, 1) := by decide +kernel
theorem dX2_lengthOfText_1 : decode cX2_lengthOfText 1 = .ok (.iload_n 1, 1) := by decide +kernel
theorem dX2_lengthOfText_2 : decode cX2_lengthOfText 2 = .ok (.iadd, 1) := by decide +kernel
theorem dX2_lengthOfText_3 : decode cX2_lengthOfText 3 = .ok (.iload_n 0, 1) := by decide +kernel
theorem dX2_lengthOfText_4 : decode cX2_lengthOfText 4 = .ok (.iload_n 1, 1) := by decide +kernel
theorem dX2_lengthOfText_5 : decode cX2_lengthOfText 5 = .ok (.iconst 1, 1) := by decide +kernel
theorem dX2_lengthOfText_6 : decode cX2_lengthOfText 6 = .ok (.iadd, 1) := by decide +kernel
theorem dX2_lengthOfText_7 : decode cX2_lengthOfText 7 = .ok (.imul, 1) := by decide +kernel
theorem dX2_lengthOfText_8 : decode cX2_lengthOfText 8 = .ok (.iadd, 1) := by decide +kernel
theorem dX2_lengthOfText_9 : decode cX2_lengthOfText 9 = .ok (.ireturn, 1) := by decide +kernel
theorem dX2_goesOn_0 : decode cX2_goesOn 0 = .ok (.iload_n 0, 1) := by decide +kernel
theorem dX2_goesOn_1 : decode cX2_goesOn 1 = .ok (.tableswitch 75 0 2 #[27, 39, 57], 27) := by decide +kernel
theorem dX2_goesOn_28 : decode cX2_goesOn 28 = .ok (.iload_n 1, 1) := by decide +kernel
theorem dX2_goesOn_29 : decode cX2_goesOn 29 = .ok (.bipush 109, 2) := by decide +kernel
theorem dX2_goesOn_31 : decode cX2_goesOn 31 = .ok (.if_icmp .ne 7, 3) := by decide +kernel
theorem dX2_goesOn_34 : decode cX2_goesOn 34 = .ok (.iconst 1, 1) := by decide +kernel
theorem dX2_goesOn_35 : decode cX2_goesOn 35 = .ok (.goto 4, 3) := by decide +kernel
theorem dX2_goesOn_38 : decode cX2_goesOn 38 = .ok (.iconst 0, 1) := by decide +kernel
theorem dX2_goesOn_39 : decode cX2_goesOn 39 = .ok (.ireturn, 1) := by decide +kernel
theorem dX2_goesOn_40 : decode cX2_goesOn 40 = .ok (.iload_n 1, 1) := by decide +kernel
theorem dX2_goesOn_41 : decode cX2_goesOn 41 = .ok (.bipush 49, 2) := by decide +kernel
theorem dX2_goesOn_43 : decode cX2_goesOn 43 = .ok (.if_icmp .lt 13, 3) := by decide +kernel
theorem dX2_goesOn_46 : decode cX2_goesOn 46 = .ok (.iload_n 1, 1) := by decide +kernel
theorem dX2_goesOn_47 : decode cX2_goesOn 47 = .ok (.bipush 53, 2) := by decide +kernel
theorem dX2_goesOn_49 : decode cX2_goesOn 49 = .ok (.if_icmp .gt 7, 3) := by decide +kernel
theorem dX2_goesOn_52 : decode cX2_goesOn 52 = .ok (.iconst 1, 1) := by decide +kernel
theorem dX2_goesOn_53 : decode cX2_goesOn 53 = .ok (.goto 4, 3) := by decide +kernel
theorem dX2_goesOn_56 : decode cX2_goesOn 56 = .ok (.iconst 0, 1) := by decide +kernel
theorem dX2_goesOn_57 : decode cX2_goesOn 57 = .ok (.ireturn, 1) := by decide +kernel
theorem dX2_goesOn_58 : decode cX2_goesOn 58 = .ok (.iload_n 1, 1) := by decide +kernel
theorem dX2_goesOn_59 : decode cX2_goesOn 59 = .ok (.bipush 50, 2) := by decide +kernel
theorem dX2_goesOn_61 : decode cX2_goesOn 61 = .ok (.if_icmp .lt 13, 3) := by decide +kernel
theorem dX2_goesOn_64 : decode cX2_goesOn 64 = .ok (.iload_n 1, 1) := by decide +kernel
theorem dX2_goesOn_65 : decode cX2_goesOn 65 = .ok (.bipush 54, 2) := by decide +kernel
theorem dX2_goesOn_67 : decode cX2_goesOn 67 = .ok (.if_icmp .gt 7, 3) := by decide +kernel
theorem dX2_goesOn_70 : decode cX2_goesOn 70 = .ok (.iconst 1, 1) := by decide +kernel
theorem dX2_goesOn_71 : decode cX2_goesOn 71 = .ok (.goto 4, 3) := by decide +kernel
theorem dX2_goesOn_74 : decode cX2_goesOn 74 = .ok (.iconst 0, 1) := by decide +kernel
theorem dX2_goesOn_75 : decode cX2_goesOn 75 = .ok (.ireturn, 1) := by decide +kernel
theorem dX2_goesOn_76 : decode cX2_goesOn 76 = .ok (.iload_n 0, 1) := by decide +kernel
theorem dX2_goesOn_77 : decode cX2_goesOn 77 = .ok (.iconst 3, 1) := by decide +kernel
theorem dX2_goesOn_78 : decode cX2_goesOn 78 = .ok (.isub, 1) := by decide +kernel
theorem dX2_goesOn_79 : decode cX2_goesOn 79 = .ok (.iload_n 3, 1) := by decide +kernel
theorem dX2_goesOn_80 : decode cX2_goesOn 80 = .ok (.isub, 1) := by decide +kernel
theorem dX2_goesOn_81 : decode cX2_goesOn 81 = .ok (.istore 4, 2) := by decide +kernel
theorem dX2_goesOn_83 : decode cX2_goesOn 83 = .ok (.iload 4, 2) := by decide +kernel
theorem dX2_goesOn_85 : decode cX2_goesOn 85 = .ok (.ifCond .ge 21, 3) := by decide +kernel
theorem dX2_goesOn_88 : decode cX2_goesOn 88 = .ok (.iload_n 1, 1) := by decide +kernel
theorem dX2_goesOn_89 : decode cX2_goesOn 89 = .ok (.bipush 48, 2) := by decide +kernel
theorem dX2_goesOn_91 : decode cX2_goesOn 91 = .ok (.if_icmp .lt 13, 3) := by decide +kernel
theorem dX2_goesOn_94 : decode cX2_goesOn 94 = .ok (.iload_n 1, 1) := by decide +kernel
theorem dX2_goesOn_95 : decode cX2_goesOn 95 = .ok (.bipush 52, 2) := by decide +kernel
theorem dX2_goesOn_97 : decode cX2_goesOn 97 = .ok (.if_icmp .ge 7, 3) := by decide +kernel
theorem dX2_goesOn_100 : decode cX2_goesOn 100 = .ok (.iconst 1, 1) := by decide +kernel
theorem dX2_goesOn_101 : decode cX2_goesOn 101 = .ok (.goto 4, 3) := by decide +kernel
theorem dX2_goesOn_104 : decode cX2_goesOn 104 = .ok (.iconst 0, 1) := by decide +kernel
theorem dX2_goesOn_105 : decode cX2_goesOn 105 = .ok (.ireturn, 1) := by decide +kernel
theorem dX2_goesOn_106 : decode cX2_goesOn 106 = .ok (.iload_n 3, 1) := by decide +kernel
theorem dX2_goesOn_107 : decode cX2_goesOn 107 = .ok (.ifCond .le 12, 3) := by decide +kernel
theorem dX2_goesOn_110 : decode cX2_goesOn 110 = .ok (.iload_n 0, 1) := by decide +kernel
theorem dX2_goesOn_111 : decode cX2_goesOn 111 = .ok (.iload_n 2, 1) := by decide +kernel
theorem dX2_goesOn_112 : decode cX2_goesOn 112 = .ok (.iload_n 3, 1) := by decide +kernel
theorem dX2_goesOn_113 : decode cX2_goesOn 113 = .ok (.invokestatic 43, 3) := by decide +kernel
theorem dX2_goesOn_116 : decode cX2_goesOn 116 = .ok (.if_icmp .lt 5, 3) := by decide +kernel
theorem dX2_goesOn_119 : decode cX2_goesOn 119 = .ok (.iconst 0, 1) := by decide +kernel
theorem dX2_goesOn_120 : decode cX2_goesOn 120 = .ok (.ireturn, 1) := by decide +kernel
theorem dX2_goesOn_121 : decode cX2_goesOn 121 = .ok (.iload 4, 2) := by decide +kernel
theorem dX2_goesOn_123 : decode cX2_goesOn 123 = .ok (.iload_n 3, 1) := by decide +kernel
theorem dX2_goesOn_124 : decode cX2_goesOn 124 = .ok (.iconst 1, 1) := by decide +kernel
theorem dX2_goesOn_125 : decode cX2_goesOn 125 = .ok (.iadd, 1) := by decide +kernel
theorem dX2_goesOn_126 : decode cX2_goesOn 126 = .ok (.irem, 1) := by decide +kernel
theorem dX2_goesOn_127 : decode cX2_goesOn 127 = .ok (.ifCond .ne 17, 3) := by decide +kernel
theorem dX2_goesOn_130 : decode cX2_goesOn 130 = .ok (.iload_n 1, 1) := by decide +kernel
theorem dX2_goesOn_131 : decode cX2_goesOn 131 = .ok (.bipush 59, 2) := by decide +kernel
theorem dX2_goesOn_133 : decode cX2_goesOn 133 = .ok (.if_icmp .ne 7, 3) := by decide +kernel
theorem dX2_goesOn_136 : decode cX2_goesOn 136 = .ok (.iconst 1, 1) := by decide +kernel
theorem dX2_goesOn_137 : decode cX2_goesOn 137 = .ok (.goto 19, 3) := by decide +kernel
theorem dX2_goesOn_140 : decode cX2_goesOn 140 = .ok (.iconst 0, 1) := by decide +kernel
theorem dX2_goesOn_141 : decode cX2_goesOn 141 = .ok (.goto 15, 3) := by decide +kernel
theorem dX2_goesOn_144 : decode cX2_goesOn 144 = .ok (.iload_n 1, 1) := by decide +kernel
theorem dX2_goesOn_145 : decode cX2_goesOn 145 = .ok (.invokestatic 47, 3) := by decide +kernel
theorem dX2_goesOn_148 : decode cX2_goesOn 148 = .ok (.ifCond .lt 7, 3) := by decide +kernel
theorem dX2_goesOn_151 : decode cX2_goesOn 151 = .ok (.iconst 1, 1) := by decide +kernel
theorem dX2_goesOn_152 : decode cX2_goesOn 152 = .ok (.goto 4, 3) := by decide +kernel
theorem dX2_goesOn_155 : decode cX2_goesOn 155 = .ok (.iconst 0, 1) := by decide +kernel
theorem dX2_goesOn_156 : decode cX2_goesOn 156 = .ok (.ireturn, 1) := by decide +kernel
theorem dX2_signOf_0 : decode cX2_signOf 0 = .ok (.iload_n 0, 1) := by decide +kernel
theorem dX2_signOf_1 : decode cX2_signOf 1 = .ok (.lookupswitch 61 #[(35, 59), (46, 51), (108, 55), (112, 53), (114, 57)], 51) := by decide +kernel
theorem dX2_signOf_52 : decode cX2_signOf 52 = .ok (.iconst 0, 1) := by decide +kernel
theorem dX2_signOf_53 : decode cX2_signOf 53 = .ok (.ireturn, 1) := by decide +kernel
theorem dX2_signOf_54 : decode cX2_signOf 54 = .ok (.iconst 1, 1) := by decide +kernel
theorem dX2_signOf_55 : decode cX2_signOf 55 = .ok (.ireturn, 1) := by decide +kernel
theorem dX2_signOf_56 : decode cX2_signOf 56 = .ok (.iconst 2, 1) := by decide +kernel
theorem dX2_signOf_57 : decode cX2_signOf 57 = .ok (.ireturn, 1) := by decide +kernel
theorem dX2_signOf_58 : decode cX2_signOf 58 = .ok (.iconst 3, 1) := by decide +kernel
theorem dX2_signOf_59 : decode cX2_signOf 59 = .ok (.ireturn, 1) := by decide +kernel
theorem dX2_signOf_60 : decode cX2_signOf 60 = .ok (.iconst 4, 1) := by decide +kernel
theorem dX2_signOf_61 : decode cX2_signOf 61 = .ok (.ireturn, 1) := by decide +kernel
theorem dX2_signOf_62 : decode cX2_signOf 62 = .ok (.iconst (-1), 1) := by decide +kernel
theorem dX2_signOf_63 : decode cX2_signOf 63 = .ok (.ireturn, 1) := by decide +kernel
theorem dX2_build_0 : decode cX2_build 0 = .ok (.aload_n 0, 1) := by decide +kernel
theorem dX2_build_1 : decode cX2_build 1 = .ok (.aload_n 1, 1) := by decide +kernel
theorem dX2_build_2 : decode cX2_build 2 = .ok (.iload_n 2, 1) := by decide +kernel
theorem dX2_build_3 : decode cX2_build 3 = .ok (.iconst 1, 1) := by decide +kernel
theorem dX2_build_4 : decode cX2_build 4 = .ok (.iadd, 1) := by decide +kernel
theorem dX2_build_5 : decode cX2_build 5 = .ok (.invokevirtual 33, 3) := by decide +kernel
theorem dX2_build_8 : decode cX2_build 8 = .ok (.bipush 48, 2) := by decide +kernel
theorem dX2_build_10 : decode cX2_build 10 = .ok (.isub, 1) := by decide +kernel
theorem dX2_build_11 : decode cX2_build 11 = .ok (.putfield 18, 3) := by decide +kernel
theorem dX2_build_14 : decode cX2_build 14 = .ok (.aload_n 0, 1) := by decide +kernel
theorem dX2_build_15 : decode cX2_build 15 = .ok (.aload_n 1, 1) := by decide +kernel
theorem dX2_build_16 : decode cX2_build 16 = .ok (.iload_n 2, 1) := by decide +kernel
theorem dX2_build_17 : decode cX2_build 17 = .ok (.iconst 2, 1) := by decide +kernel
theorem dX2_build_18 : decode cX2_build 18 = .ok (.iadd, 1) := by decide +kernel
theorem dX2_build_19 : decode cX2_build 19 = .ok (.invokevirtual 33, 3) := by decide +kernel
theorem dX2_build_22 : decode cX2_build 22 = .ok (.bipush 48, 2) := by decide +kernel
theorem dX2_build_24 : decode cX2_build 24 = .ok (.isub, 1) := by decide +kernel
theorem dX2_build_25 : decode cX2_build 25 = .ok (.putfield 22, 3) := by decide +kernel
theorem dX2_build_28 : decode cX2_build 28 = .ok (.aload_n 0, 1) := by decide +kernel
theorem dX2_build_29 : decode cX2_build 29 = .ok (.iconst 0, 1) := by decide +kernel
theorem dX2_build_30 : decode cX2_build 30 = .ok (.putfield 25, 3) := by decide +kernel
theorem dX2_build_33 : decode cX2_build 33 = .ok (.iconst 0, 1) := by decide +kernel
theorem dX2_build_34 : decode cX2_build 34 = .ok (.istore_n 3, 1) := by decide +kernel
theorem dX2_build_35 : decode cX2_build 35 = .ok (.iload_n 3, 1) := by decide +kernel
theorem dX2_build_36 : decode cX2_build 36 = .ok (.aload_n 0, 1) := by decide +kernel
theorem dX2_build_37 : decode cX2_build 37 = .ok (.getfield 22, 3) := by decide +kernel
theorem dX2_build_40 : decode cX2_build 40 = .ok (.if_icmp .ge 27, 3) := by decide +kernel
theorem dX2_build_43 : decode cX2_build 43 = .ok (.aload_n 0, 1) := by decide +kernel
theorem dX2_build_44 : decode cX2_build 44 = .ok (.getfield 15, 3) := by decide +kernel
theorem dX2_build_47 : decode cX2_build 47 = .ok (.iload_n 3, 1) := by decide +kernel
theorem dX2_build_48 : decode cX2_build 48 = .ok (.aload_n 1, 1) := by decide +kernel
theorem dX2_build_49 : decode cX2_build 49 = .ok (.iload_n 2, 1) := by decide +kernel
theorem dX2_build_50 : decode cX2_build 50 = .ok (.iconst 3, 1) := by decide +kernel
theorem dX2_build_51 : decode cX2_build 51 = .ok (.iadd, 1) := by decide +kernel
theorem dX2_build_52 : decode cX2_build 52 = .ok (.iload_n 3, 1) := by decide +kernel
theorem dX2_build_53 : decode cX2_build 53 = .ok (.iadd, 1) := by decide +kernel
theorem dX2_build_54 : decode cX2_build 54 = .ok (.invokevirtual 33, 3) := by decide +kernel
theorem dX2_build_57 : decode cX2_build 57 = .ok (.bipush 48, 2) := by decide +kernel
theorem dX2_build_59 : decode cX2_build 59 = .ok (.isub, 1) := by decide +kernel
theorem dX2_build_60 : decode cX2_build 60 = .ok (.iastore, 1) := by decide +kernel
theorem dX2_build_61 : decode cX2_build 61 = .ok (.iinc 3 1, 3) := by decide +kernel
theorem dX2_build_64 : decode cX2_build 64 = .ok (.goto (-29), 3) := by decide +kernel
theorem dX2_build_67 : decode cX2_build 67 = .ok (.iconst 0, 1) := by decide +kernel
theorem dX2_build_68 : decode cX2_build 68 = .ok (.istore_n 3, 1) := by decide +kernel
theorem dX2_build_69 : decode cX2_build 69 = .ok (.iload_n 3, 1) := by decide +kernel
theorem dX2_build_70 : decode cX2_build 70 = .ok (.aload_n 0, 1) := by decide +kernel
theorem dX2_build_71 : decode cX2_build 71 = .ok (.getfield 18, 3) := by decide +kernel
theorem dX2_build_74 : decode cX2_build 74 = .ok (.if_icmp .ge 67, 3) := by decide +kernel
theorem dX2_build_77 : decode cX2_build 77 = .ok (.iload_n 2, 1) := by decide +kernel
theorem dX2_build_78 : decode cX2_build 78 = .ok (.iload_n 3, 1) := by decide +kernel
theorem dX2_build_79 : decode cX2_build 79 = .ok (.aload_n 0, 1) := by decide +kernel
theorem dX2_build_80 : decode cX2_build 80 = .ok (.getfield 22, 3) := by decide +kernel
theorem dX2_build_83 : decode cX2_build 83 = .ok (.invokestatic 43, 3) := by decide +kernel
theorem dX2_build_86 : decode cX2_build 86 = .ok (.iadd, 1) := by decide +kernel
theorem dX2_build_87 : decode cX2_build 87 = .ok (.iconst 1, 1) := by decide +kernel
theorem dX2_build_88 : decode cX2_build 88 = .ok (.iadd, 1) := by decide +kernel
theorem dX2_build_89 : decode cX2_build 89 = .ok (.istore 4, 2) := by decide +kernel
theorem dX2_build_91 : decode cX2_build 91 = .ok (.iconst 0, 1) := by decide +kernel
theorem dX2_build_92 : decode cX2_build 92 = .ok (.istore 5, 2) := by decide +kernel
theorem dX2_build_94 : decode cX2_build 94 = .ok (.iload 5, 2) := by decide +kernel
theorem dX2_build_96 : decode cX2_build 96 = .ok (.aload_n 0, 1) := by decide +kernel
theorem dX2_build_97 : decode cX2_build 97 = .ok (.getfield 22, 3) := by decide +kernel
theorem dX2_build_100 : decode cX2_build 100 = .ok (.if_icmp .ge 35, 3) := by decide +kernel
theorem dX2_build_103 : decode cX2_build 103 = .ok (.aload_n 0, 1) := by decide +kernel
theorem dX2_build_104 : decode cX2_build 104 = .ok (.getfield 9, 3) := by decide +kernel
theorem dX2_build_107 : decode cX2_build 107 = .ok (.iload_n 3, 1) := by decide +kernel
theorem dX2_build_108 : decode cX2_build 108 = .ok (.aload_n 0, 1) := by decide +kernel
theorem dX2_build_109 : decode cX2_build 109 = .ok (.getfield 22, 3) := by decide +kernel
theorem dX2_build_112 : decode cX2_build 112 = .ok (.imul, 1) := by decide +kernel
theorem dX2_build_113 : decode cX2_build 113 = .ok (.iload 5, 2) := by decide +kernel
theorem dX2_build_115 : decode cX2_build 115 = .ok (.iadd, 1) := by decide +kernel
theorem dX2_build_116 : decode cX2_build 116 = .ok (.aload_n 1, 1) := by decide +kernel
theorem dX2_build_117 : decode cX2_build 117 = .ok (.iload 4, 2) := by decide +kernel
theorem dX2_build_119 : decode cX2_build 119 = .ok (.iload 5, 2) := by decide +kernel
theorem dX2_build_121 : decode cX2_build 121 = .ok (.iadd, 1) := by decide +kernel
theorem dX2_build_122 : decode cX2_build 122 = .ok (.invokevirtual 33, 3) := by decide +kernel
theorem dX2_build_125 : decode cX2_build 125 = .ok (.invokestatic 47, 3) := by decide +kernel
theorem dX2_build_128 : decode cX2_build 128 = .ok (.iastore, 1) := by decide +kernel
theorem dX2_build_129 : decode cX2_build 129 = .ok (.iinc 5 1, 3) := by decide +kernel
theorem dX2_build_132 : decode cX2_build 132 = .ok (.goto (-38), 3) := by decide +kernel
theorem dX2_build_135 : decode cX2_build 135 = .ok (.iinc 3 1, 3) := by decide +kernel
theorem dX2_build_138 : decode cX2_build 138 = .ok (.goto (-69), 3) := by decide +kernel
theorem dX2_build_141 : decode cX2_build 141 = .ok (.return_, 1) := by decide +kernel
theorem dX2_partsLeft_0 : decode cX2_partsLeft 0 = .ok (.iload_n 2, 1) := by decide +kernel
theorem dX2_partsLeft_1 : decode cX2_partsLeft 1 = .ok (.iconst 2, 1) := by decide +kernel
theorem dX2_partsLeft_2 : decode cX2_partsLeft 2 = .ok (.if_icmp .ne 5, 3) := by decide +kernel
theorem dX2_partsLeft_5 : decode cX2_partsLeft 5 = .ok (.iconst 0, 1) := by decide +kernel
theorem dX2_partsLeft_6 : decode cX2_partsLeft 6 = .ok (.ireturn, 1) := by decide +kernel
theorem dX2_partsLeft_7 : decode cX2_partsLeft 7 = .ok (.iload_n 1, 1) := by decide +kernel
theorem dX2_partsLeft_8 : decode cX2_partsLeft 8 = .ok (.iconst 1, 1) := by decide +kernel
theorem dX2_partsLeft_9 : decode cX2_partsLeft 9 = .ok (.if_icmp .ne 28, 3) := by decide +kernel
theorem dX2_partsLeft_12 : decode cX2_partsLeft 12 = .ok (.iload_n 2, 1) := by decide +kernel
theorem dX2_partsLeft_13 : decode cX2_partsLeft 13 = .ok (.ifCond .ne 7, 3) := by decide +kernel
theorem dX2_partsLeft_16 : decode cX2_partsLeft 16 = .ok (.iconst 4, 1) := by decide +kernel
theorem dX2_partsLeft_17 : decode cX2_partsLeft 17 = .ok (.goto 4, 3) := by decide +kernel
theorem dX2_partsLeft_20 : decode cX2_partsLeft 20 = .ok (.iconst 2, 1) := by decide +kernel
theorem dX2_partsLeft_21 : decode cX2_partsLeft 21 = .ok (.istore_n 3, 1) := by decide +kernel
theorem dX2_partsLeft_22 : decode cX2_partsLeft 22 = .ok (.aload_n 0, 1) := by decide +kernel
theorem dX2_partsLeft_23 : decode cX2_partsLeft 23 = .ok (.getfield 25, 3) := by decide +kernel
theorem dX2_partsLeft_26 : decode cX2_partsLeft 26 = .ok (.ifCond .eq 9, 3) := by decide +kernel
theorem dX2_partsLeft_29 : decode cX2_partsLeft 29 = .ok (.iload_n 3, 1) := by decide +kernel
theorem dX2_partsLeft_30 : decode cX2_partsLeft 30 = .ok (.iconst 1, 1) := by decide +kernel
theorem dX2_partsLeft_31 : decode cX2_partsLeft 31 = .ok (.iadd, 1) := by decide +kernel
theorem dX2_partsLeft_32 : decode cX2_partsLeft 32 = .ok (.goto 4, 3) := by decide +kernel
theorem dX2_partsLeft_35 : decode cX2_partsLeft 35 = .ok (.iload_n 3, 1) := by decide +kernel
theorem dX2_partsLeft_36 : decode cX2_partsLeft 36 = .ok (.ireturn, 1) := by decide +kernel
theorem dX2_partsLeft_37 : decode cX2_partsLeft 37 = .ok (.iload_n 1, 1) := by decide +kernel
theorem dX2_partsLeft_38 : decode cX2_partsLeft 38 = .ok (.iconst 2, 1) := by decide +kernel
theorem dX2_partsLeft_39 : decode cX2_partsLeft 39 = .ok (.if_icmp .ne 8, 3) := by decide +kernel
theorem dX2_partsLeft_42 : decode cX2_partsLeft 42 = .ok (.bipush 8, 2) := by decide +kernel
theorem dX2_partsLeft_44 : decode cX2_partsLeft 44 = .ok (.goto 4, 3) := by decide +kernel
theorem dX2_partsLeft_47 : decode cX2_partsLeft 47 = .ok (.iconst 0, 1) := by decide +kernel
theorem dX2_partsLeft_48 : decode cX2_partsLeft 48 = .ok (.ireturn, 1) := by decide +kernel
theorem dX2_partsRight_0 : decode cX2_partsRight 0 = .ok (.iload_n 2, 1) := by decide +kernel
theorem dX2_partsRight_1 : decode cX2_partsRight 1 = .ok (.iconst 2, 1) := by decide +kernel
theorem dX2_partsRight_2 : decode cX2_partsRight 2 = .ok (.if_icmp .ne 5, 3) := by decide +kernel
theorem dX2_partsRight_5 : decode cX2_partsRight 5 = .ok (.iconst 0, 1) := by decide +kernel
theorem dX2_partsRight_6 : decode cX2_partsRight 6 = .ok (.ireturn, 1) := by decide +kernel
theorem dX2_partsRight_7 : decode cX2_partsRight 7 = .ok (.iload_n 1, 1) := by decide +kernel
theorem dX2_partsRight_8 : decode cX2_partsRight 8 = .ok (.iconst 1, 1) := by decide +kernel
theorem dX2_partsRight_9 : decode cX2_partsRight 9 = .ok (.if_icmp .ne 28, 3) := by decide +kernel
theorem dX2_partsRight_12 : decode cX2_partsRight 12 = .ok (.iload_n 2, 1) := by decide +kernel
theorem dX2_partsRight_13 : decode cX2_partsRight 13 = .ok (.ifCond .ne 7, 3) := by decide +kernel
theorem dX2_partsRight_16 : decode cX2_partsRight 16 = .ok (.iconst 4, 1) := by decide +kernel
theorem dX2_partsRight_17 : decode cX2_partsRight 17 = .ok (.goto 4, 3) := by decide +kernel
theorem dX2_partsRight_20 : decode cX2_partsRight 20 = .ok (.iconst 2, 1) := by decide +kernel
theorem dX2_partsRight_21 : decode cX2_partsRight 21 = .ok (.istore_n 3, 1) := by decide +kernel
theorem dX2_partsRight_22 : decode cX2_partsRight 22 = .ok (.aload_n 0, 1) := by decide +kernel
theorem dX2_partsRight_23 : decode cX2_partsRight 23 = .ok (.getfield 25, 3) := by decide +kernel
theorem dX2_partsRight_26 : decode cX2_partsRight 26 = .ok (.ifCond .eq 9, 3) := by decide +kernel
theorem dX2_partsRight_29 : decode cX2_partsRight 29 = .ok (.iload_n 3, 1) := by decide +kernel
theorem dX2_partsRight_30 : decode cX2_partsRight 30 = .ok (.iconst 1, 1) := by decide +kernel
theorem dX2_partsRight_31 : decode cX2_partsRight 31 = .ok (.isub, 1) := by decide +kernel
theorem dX2_partsRight_32 : decode cX2_partsRight 32 = .ok (.goto 4, 3) := by decide +kernel
theorem dX2_partsRight_35 : decode cX2_partsRight 35 = .ok (.iload_n 3, 1) := by decide +kernel
theorem dX2_partsRight_36 : decode cX2_partsRight 36 = .ok (.ireturn, 1) := by decide +kernel
theorem dX2_partsRight_37 : decode cX2_partsRight 37 = .ok (.iload_n 1, 1) := by decide +kernel
theorem dX2_partsRight_38 : decode cX2_partsRight 38 = .ok (.iconst 3, 1) := by decide +kernel
theorem dX2_partsRight_39 : decode cX2_partsRight 39 = .ok (.if_icmp .ne 8, 3) := by decide +kernel
theorem dX2_partsRight_42 : decode cX2_partsRight 42 = .ok (.bipush 8, 2) := by decide +kernel
theorem dX2_partsRight_44 : decode cX2_partsRight 44 = .ok (.goto 4, 3) := by decide +kernel
theorem dX2_partsRight_47 : decode cX2_partsRight 47 = .ok (.iconst 0, 1) := by decide +kernel
theorem dX2_partsRight_48 : decode cX2_partsRight 48 = .ok (.ireturn, 1) := by decide +kernel
theorem dX2_below_0 : decode cX2_below 0 = .ok (.iload 4, 2) := by decide +kernel
theorem dX2_below_2 : decode cX2_below 2 = .ok (.aload_n 0, 1) := by decide +kernel
theorem dX2_below_3 : decode cX2_below 3 = .ok (.iload_n 2, 1) := by decide +kernel
theorem dX2_below_4 : decode cX2_below 4 = .ok (.iload_n 3, 1) := by decide +kernel
theorem dX2_below_5 : decode cX2_below 5 = .ok (.invokevirtual 50, 3) := by decide +kernel
theorem dX2_below_8 : decode cX2_below 8 = .ok (.if_icmp .ge 9, 3) := by decide +kernel
theorem dX2_below_11 : decode cX2_below 11 = .ok (.aload_n 0, 1) := by decide +kernel
theorem dX2_below_12 : decode cX2_below 12 = .ok (.iload_n 1, 1) := by decide +kernel
theorem dX2_below_13 : decode cX2_below 13 = .ok (.invokevirtual 53, 3) := by decide +kernel
theorem dX2_below_16 : decode cX2_below 16 = .ok (.ireturn, 1) := by decide +kernel
theorem dX2_below_17 : decode cX2_below 17 = .ok (.iload 4, 2) := by decide +kernel
theorem dX2_below_19 : decode cX2_below 19 = .ok (.bipush 8, 2) := by decide +kernel
theorem dX2_below_21 : decode cX2_below 21 = .ok (.aload_n 0, 1) := by decide +kernel
theorem dX2_below_22 : decode cX2_below 22 = .ok (.iload_n 2, 1) := by decide +kernel
theorem dX2_below_23 : decode cX2_below 23 = .ok (.iload_n 3, 1) := by decide +kernel
theorem dX2_below_24 : decode cX2_below 24 = .ok (.invokevirtual 56, 3) := by decide +kernel
theorem dX2_below_27 : decode cX2_below 27 = .ok (.isub, 1) := by decide +kernel
theorem dX2_below_28 : decode cX2_below 28 = .ok (.if_icmp .ge 12, 3) := by decide +kernel
theorem dX2_below_31 : decode cX2_below 31 = .ok (.iload_n 1, 1) := by decide +kernel
theorem dX2_below_32 : decode cX2_below 32 = .ok (.aload_n 0, 1) := by decide +kernel
theorem dX2_below_33 : decode cX2_below 33 = .ok (.getfield 22, 3) := by decide +kernel
theorem dX2_below_36 : decode cX2_below 36 = .ok (.iadd, 1) := by decide +kernel
theorem dX2_below_37 : decode cX2_below 37 = .ok (.goto 8, 3) := by decide +kernel
theorem dX2_below_40 : decode cX2_below 40 = .ok (.aload_n 0, 1) := by decide +kernel
theorem dX2_below_41 : decode cX2_below 41 = .ok (.iload_n 1, 1) := by decide +kernel
theorem dX2_below_42 : decode cX2_below 42 = .ok (.invokevirtual 59, 3) := by decide +kernel
theorem dX2_below_45 : decode cX2_below 45 = .ok (.ireturn, 1) := by decide +kernel
theorem dX2_belowLeft_0 : decode cX2_belowLeft 0 = .ok (.aload_n 0, 1) := by decide +kernel
theorem dX2_belowLeft_1 : decode cX2_belowLeft 1 = .ok (.getfield 22, 3) := by decide +kernel
theorem dX2_belowLeft_4 : decode cX2_belowLeft 4 = .ok (.ifCond .le 16, 3) := by decide +kernel
theorem dX2_belowLeft_7 : decode cX2_belowLeft 7 = .ok (.iload_n 1, 1) := by decide +kernel
theorem dX2_belowLeft_8 : decode cX2_belowLeft 8 = .ok (.aload_n 0, 1) := by decide +kernel
theorem dX2_belowLeft_9 : decode cX2_belowLeft 9 = .ok (.getfield 22, 3) := by decide +kernel
theorem dX2_belowLeft_12 : decode cX2_belowLeft 12 = .ok (.irem, 1) := by decide +kernel
theorem dX2_belowLeft_13 : decode cX2_belowLeft 13 = .ok (.ifCond .le 7, 3) := by decide +kernel
theorem dX2_belowLeft_16 : decode cX2_belowLeft 16 = .ok (.iconst 1, 1) := by decide +kernel
theorem dX2_belowLeft_17 : decode cX2_belowLeft 17 = .ok (.goto 4, 3) := by decide +kernel
theorem dX2_belowLeft_20 : decode cX2_belowLeft 20 = .ok (.iconst 0, 1) := by decide +kernel
theorem dX2_belowLeft_21 : decode cX2_belowLeft 21 = .ok (.istore_n 2, 1) := by decide +kernel
theorem dX2_belowLeft_22 : decode cX2_belowLeft 22 = .ok (.iload_n 2, 1) := by decide +kernel
theorem dX2_belowLeft_23 : decode cX2_belowLeft 23 = .ok (.ifCond .eq 14, 3) := by decide +kernel
theorem dX2_belowLeft_26 : decode cX2_belowLeft 26 = .ok (.iload_n 1, 1) := by decide +kernel
theorem dX2_belowLeft_27 : decode cX2_belowLeft 27 = .ok (.aload_n 0, 1) := by decide +kernel
theorem dX2_belowLeft_28 : decode cX2_belowLeft 28 = .ok (.getfield 22, 3) := by decide +kernel
theorem dX2_belowLeft_31 : decode cX2_belowLeft 31 = .ok (.iadd, 1) := by decide +kernel
theorem dX2_belowLeft_32 : decode cX2_belowLeft 32 = .ok (.iconst 1, 1) := by decide +kernel
theorem dX2_belowLeft_33 : decode cX2_belowLeft 33 = .ok (.isub, 1) := by decide +kernel
theorem dX2_belowLeft_34 : decode cX2_belowLeft 34 = .ok (.goto 9, 3) := by decide +kernel
theorem dX2_belowLeft_37 : decode cX2_belowLeft 37 = .ok (.iload_n 1, 1) := by decide +kernel
theorem dX2_belowLeft_38 : decode cX2_belowLeft 38 = .ok (.aload_n 0, 1) := by decide +kernel
theorem dX2_belowLeft_39 : decode cX2_belowLeft 39 = .ok (.getfield 22, 3) := by decide +kernel
theorem dX2_belowLeft_42 : decode cX2_belowLeft 42 = .ok (.iadd, 1) := by decide +kernel
theorem dX2_belowLeft_43 : decode cX2_belowLeft 43 = .ok (.ireturn, 1) := by decide +kernel
theorem dX2_belowRight_0 : decode cX2_belowRight 0 = .ok (.aload_n 0, 1) := by decide +kernel
theorem dX2_belowRight_1 : decode cX2_belowRight 1 = .ok (.getfield 22, 3) := by decide +kernel
theorem dX2_belowRight_4 : decode cX2_belowRight 4 = .ok (.ifCond .le 22, 3) := by decide +kernel
theorem dX2_belowRight_7 : decode cX2_belowRight 7 = .ok (.iload_n 1, 1) := by decide +kernel
theorem dX2_belowRight_8 : decode cX2_belowRight 8 = .ok (.aload_n 0, 1) := by decide +kernel
theorem dX2_belowRight_9 : decode cX2_belowRight 9 = .ok (.getfield 22, 3) := by decide +kernel
theorem dX2_belowRight_12 : decode cX2_belowRight 12 = .ok (.irem, 1) := by decide +kernel
theorem dX2_belowRight_13 : decode cX2_belowRight 13 = .ok (.aload_n 0, 1) := by decide +kernel
theorem dX2_belowRight_14 : decode cX2_belowRight 14 = .ok (.getfield 22, 3) := by decide +kernel
theorem dX2_belowRight_17 : decode cX2_belowRight 17 = .ok (.iconst 1, 1) := by decide +kernel
theorem dX2_belowRight_18 : decode cX2_belowRight 18 = .ok (.isub, 1) := by decide +kernel
theorem dX2_belowRight_19 : decode cX2_belowRight 19 = .ok (.if_icmp .ge 7, 3) := by decide +kernel
theorem dX2_belowRight_22 : decode cX2_belowRight 22 = .ok (.iconst 1, 1) := by decide +kernel
theorem dX2_belowRight_23 : decode cX2_belowRight 23 = .ok (.goto 4, 3) := by decide +kernel
theorem dX2_belowRight_26 : decode cX2_belowRight 26 = .ok (.iconst 0, 1) := by decide +kernel
theorem dX2_belowRight_27 : decode cX2_belowRight 27 = .ok (.istore_n 2, 1) := by decide +kernel
theorem dX2_belowRight_28 : decode cX2_belowRight 28 = .ok (.iload_n 2, 1) := by decide +kernel
theorem dX2_belowRight_29 : decode cX2_belowRight 29 = .ok (.ifCond .eq 14, 3) := by decide +kernel
theorem dX2_belowRight_32 : decode cX2_belowRight 32 = .ok (.iload_n 1, 1) := by decide +kernel
theorem dX2_belowRight_33 : decode cX2_belowRight 33 = .ok (.aload_n 0, 1) := by decide +kernel
theorem dX2_belowRight_34 : decode cX2_belowRight 34 = .ok (.getfield 22, 3) := by decide +kernel
theorem dX2_belowRight_37 : decode cX2_belowRight 37 = .ok (.iadd, 1) := by decide +kernel
theorem dX2_belowRight_38 : decode cX2_belowRight 38 = .ok (.iconst 1, 1) := by decide +kernel
theorem dX2_belowRight_39 : decode cX2_belowRight 39 = .ok (.iadd, 1) := by decide +kernel
theorem dX2_belowRight_40 : decode cX2_belowRight 40 = .ok (.goto 9, 3) := by decide +kernel
theorem dX2_belowRight_43 : decode cX2_belowRight 43 = .ok (.iload_n 1, 1) := by decide +kernel
theorem dX2_belowRight_44 : decode cX2_belowRight 44 = .ok (.aload_n 0, 1) := by decide +kernel
theorem dX2_belowRight_45 : decode cX2_belowRight 45 = .ok (.getfield 22, 3) := by decide +kernel
theorem dX2_belowRight_48 : decode cX2_belowRight 48 = .ok (.iadd, 1) := by decide +kernel
theorem dX2_belowRight_49 : decode cX2_belowRight 49 = .ok (.ireturn, 1) := by decide +kernel
theorem dX3_init_0 : decode cX3_init 0 = .ok (.aload_n 0, 1) := by decide +kernel
theorem dX3_init_1 : decode cX3_init 1 = .ok (.invokespecial 3, 3) := by decide +kernel
theorem dX3_init_4 : decode cX3_init 4 = .ok (.aload_n 0, 1) := by decide +kernel
theorem dX3_init_5 : decode cX3_init 5 = .ok (.bipush 60, 2) := by decide +kernel
theorem dX3_init_7 : decode cX3_init 7 = .ok (.newarray .int, 2) := by decide +kernel
theorem dX3_init_9 : decode cX3_init 9 = .ok (.putfield 9, 3) := by decide +kernel
theorem dX3_init_12 : decode cX3_init 12 = .ok (.aload_n 0, 1) := by decide +kernel
theorem dX3_init_13 : decode cX3_init 13 = .ok (.iconst 0, 1) := by decide +kernel
theorem dX3_init_14 : decode cX3_init 14 = .ok (.putfield 15, 3) := by decide +kernel
theorem dX3_init_17 : decode cX3_init 17 = .ok (.aload_n 0, 1) := by decide +kernel
theorem dX3_init_18 : decode cX3_init 18 = .ok (.iconst 0, 1) := by decide +kernel
theorem dX3_init_19 : decode cX3_init 19 = .ok (.putfield 19, 3) := by decide +kernel
theorem dX3_init_22 : decode cX3_init 22 = .ok (.aload_n 0, 1) := by decide +kernel
theorem dX3_init_23 : decode cX3_init 23 = .ok (.iconst 0, 1) := by decide +kernel
theorem dX3_init_24 : decode cX3_init 24 = .ok (.putfield 23, 3) := by decide +kernel
theorem dX3_init_27 : decode cX3_init 27 = .ok (.return_, 1) := by decide +kernel
theorem dX3_renew_0 : decode cX3_renew 0 = .ok (.aload_n 0, 1) := by decide +kernel
theorem dX3_renew_1 : decode cX3_renew 1 = .ok (.iconst 1, 1) := by decide +kernel
theorem dX3_renew_2 : decode cX3_renew 2 = .ok (.putfield 15, 3) := by decide +kernel
theorem dX3_renew_5 : decode cX3_renew 5 = .ok (.aload_n 0, 1) := by decide +kernel
theorem dX3_renew_6 : decode cX3_renew 6 = .ok (.iload_n 1, 1) := by decide +kernel
theorem dX3_renew_7 : decode cX3_renew 7 = .ok (.putfield 19, 3) := by decide +kernel
theorem dX3_renew_10 : decode cX3_renew 10 = .ok (.aload_n 0, 1) := by decide +kernel
theorem dX3_renew_11 : decode cX3_renew 11 = .ok (.iload_n 2, 1) := by decide +kernel
theorem dX3_renew_12 : decode cX3_renew 12 = .ok (.putfield 23, 3) := by decide +kernel
theorem dX3_renew_15 : decode cX3_renew 15 = .ok (.aload_n 0, 1) := by decide +kernel
theorem dX3_renew_16 : decode cX3_renew 16 = .ok (.getfield 9, 3) := by decide +kernel
theorem dX3_renew_19 : decode cX3_renew 19 = .ok (.iconst 0, 1) := by decide +kernel
theorem dX3_renew_20 : decode cX3_renew 20 = .ok (.invokestatic 26, 3) := by decide +kernel
theorem dX3_renew_23 : decode cX3_renew 23 = .ok (.return_, 1) := by decide +kernel
theorem dX3_faultAs_0 : decode cX3_faultAs 0 = .ok (.aload_n 0, 1) := by decide +kernel
theorem dX3_faultAs_1 : decode cX3_faultAs 1 = .ok (.getfield 15, 3) := by decide +kernel
theorem dX3_faultAs_4 : decode cX3_faultAs 4 = .ok (.ifCond .ne 5, 3) := by decide +kernel
theorem dX3_faultAs_7 : decode cX3_faultAs 7 = .ok (.iconst 1, 1) := by decide +kernel
theorem dX3_faultAs_8 : decode cX3_faultAs 8 = .ok (.ireturn, 1) := by decide +kernel
theorem dX3_faultAs_9 : decode cX3_faultAs 9 = .ok (.aload_n 0, 1) := by decide +kernel
theorem dX3_faultAs_10 : decode cX3_faultAs 10 = .ok (.getfield 19, 3) := by decide +kernel
theorem dX3_faultAs_13 : decode cX3_faultAs 13 = .ok (.iload_n 1, 1) := by decide +kernel
theorem dX3_faultAs_14 : decode cX3_faultAs 14 = .ok (.if_icmp .ne 7, 3) := by decide +kernel
theorem dX3_faultAs_17 : decode cX3_faultAs 17 = .ok (.iconst 0, 1) := by decide +kernel
theorem dX3_faultAs_18 : decode cX3_faultAs 18 = .ok (.goto 4, 3) := by decide +kernel
theorem dX3_faultAs_21 : decode cX3_faultAs 21 = .ok (.iconst 2, 1) := by decide +kernel
theorem dX3_faultAs_22 : decode cX3_faultAs 22 = .ok (.ireturn, 1) := by decide +kernel
theorem dX3_has_0 : decode cX3_has 0 = .ok (.aload_n 0, 1) := by decide +kernel
theorem dX3_has_1 : decode cX3_has 1 = .ok (.getfield 15, 3) := by decide +kernel
theorem dX3_has_4 : decode cX3_has 4 = .ok (.ifCond .eq 19, 3) := by decide +kernel
theorem dX3_has_7 : decode cX3_has 7 = .ok (.iload_n 1, 1) := by decide +kernel
theorem dX3_has_8 : decode cX3_has 8 = .ok (.ifCond .lt 15, 3) := by decide +kernel
theorem dX3_has_11 : decode cX3_has 11 = .ok (.iload_n 1, 1) := by decide +kernel
theorem dX3_has_12 : decode cX3_has 12 = .ok (.aload_n 0, 1) := by decide +kernel
theorem dX3_has_13 : decode cX3_has 13 = .ok (.getfield 23, 3) := by decide +kernel
theorem dX3_has_16 : decode cX3_has 16 = .ok (.if_icmp .ge 7, 3) := by decide +kernel
theorem dX3_has_19 : decode cX3_has 19 = .ok (.iconst 1, 1) := by decide +kernel
theorem dX3_has_20 : decode cX3_has 20 = .ok (.goto 4, 3) := by decide +kernel
theorem dX3_has_23 : decode cX3_has 23 = .ok (.iconst 0, 1) := by decide +kernel
theorem dX3_has_24 : decode cX3_has 24 = .ok (.ireturn, 1) := by decide +kernel
theorem dX3_spans_0 : decode cX3_spans 0 = .ok (.aload_n 0, 1) := by decide +kernel
theorem dX3_spans_1 : decode cX3_spans 1 = .ok (.getfield 15, 3) := by decide +kernel
theorem dX3_spans_4 : decode cX3_spans 4 = .ok (.ifCond .eq 33, 3) := by decide +kernel
theorem dX3_spans_7 : decode cX3_spans 7 = .ok (.iload_n 1, 1) := by decide +kernel
theorem dX3_spans_8 : decode cX3_spans 8 = .ok (.ifCond .lt 29, 3) := by decide +kernel
theorem dX3_spans_11 : decode cX3_spans 11 = .ok (.iload_n 2, 1) := by decide +kernel
theorem dX3_spans_12 : decode cX3_spans 12 = .ok (.ifCond .lt 25, 3) := by decide +kernel
theorem dX3_spans_15 : decode cX3_spans 15 = .ok (.iload_n 1, 1) := by decide +kernel
theorem dX3_spans_16 : decode cX3_spans 16 = .ok (.aload_n 0, 1) := by decide +kernel
theorem dX3_spans_17 : decode cX3_spans 17 = .ok (.getfield 23, 3) := by decide +kernel
theorem dX3_spans_20 : decode cX3_spans 20 = .ok (.if_icmp .gt 17, 3) := by decide +kernel
theorem dX3_spans_23 : decode cX3_spans 23 = .ok (.iload_n 2, 1) := by decide +kernel
theorem dX3_spans_24 : decode cX3_spans 24 = .ok (.aload_n 0, 1) := by decide +kernel
theorem dX3_spans_25 : decode cX3_spans 25 = .ok (.getfield 23, 3) := by decide +kernel
theorem dX3_spans_28 : decode cX3_spans 28 = .ok (.iload_n 1, 1) := by decide +kernel
theorem dX3_spans_29 : decode cX3_spans 29 = .ok (.isub, 1) := by decide +kernel
theorem dX3_spans_30 : decode cX3_spans 30 = .ok (.if_icmp .gt 7, 3) := by decide +kernel
theorem dX3_spans_33 : decode cX3_spans 33 = .ok (.iconst 1, 1) := by decide +kernel
theorem dX3_spans_34 : decode cX3_spans 34 = .ok (.goto 4, 3) := by decide +kernel
theorem dX3_spans_37 : decode cX3_spans 37 = .ok (.iconst 0, 1) := by decide +kernel
theorem dX3_spans_38 : decode cX3_spans 38 = .ok (.ireturn, 1) := by decide +kernel
theorem dX3_at_0 : decode cX3_at 0 = .ok (.aload_n 0, 1) := by decide +kernel
theorem dX3_at_1 : decode cX3_at 1 = .ok (.iload_n 1, 1) := by decide +kernel
theorem dX3_at_2 : decode cX3_at 2 = .ok (.invokevirtual 32, 3) := by decide +kernel
theorem dX3_at_5 : decode cX3_at 5 = .ok (.ifCond .eq 12, 3) := by decide +kernel
theorem dX3_at_8 : decode cX3_at 8 = .ok (.aload_n 0, 1) := by decide +kernel
theorem dX3_at_9 : decode cX3_at 9 = .ok (.getfield 9, 3) := by decide +kernel
theorem dX3_at_12 : decode cX3_at 12 = .ok (.iload_n 1, 1) := by decide +kernel
theorem dX3_at_13 : decode cX3_at 13 = .ok (.iaload, 1) := by decide +kernel
theorem dX3_at_14 : decode cX3_at 14 = .ok (.goto 4, 3) := by decide +kernel
theorem dX3_at_17 : decode cX3_at 17 = .ok (.iconst 0, 1) := by decide +kernel
theorem dX3_at_18 : decode cX3_at 18 = .ok (.ireturn, 1) := by decide +kernel
theorem dX3_write_0 : decode cX3_write 0 = .ok (.aload_n 0, 1) := by decide +kernel
theorem dX3_write_1 : decode cX3_write 1 = .ok (.iload_n 1, 1) := by decide +kernel
theorem dX3_write_2 : decode cX3_write 2 = .ok (.invokevirtual 32, 3) := by decide +kernel
theorem dX3_write_5 : decode cX3_write 5 = .ok (.ifCond .eq 14, 3) := by decide +kernel
theorem dX3_write_8 : decode cX3_write 8 = .ok (.aload_n 0, 1) := by decide +kernel
theorem dX3_write_9 : decode cX3_write 9 = .ok (.getfield 9, 3) := by decide +kernel
theorem dX3_write_12 : decode cX3_write 12 = .ok (.iload_n 1, 1) := by decide +kernel
theorem dX3_write_13 : decode cX3_write 13 = .ok (.aload_n 0, 1) := by decide +kernel
theorem dX3_write_14 : decode cX3_write 14 = .ok (.iload_n 2, 1) := by decide +kernel
theorem dX3_write_15 : decode cX3_write 15 = .ok (.invokevirtual 36, 3) := by decide +kernel
theorem dX3_write_18 : decode cX3_write 18 = .ok (.iastore, 1) := by decide +kernel
theorem dX3_write_19 : decode cX3_write 19 = .ok (.return_, 1) := by decide +kernel
theorem dX3_cut_0 : decode cX3_cut 0 = .ok (.aload_n 0, 1) := by decide +kernel
theorem dX3_cut_1 : decode cX3_cut 1 = .ok (.getfield 19, 3) := by decide +kernel
theorem dX3_cut_4 : decode cX3_cut 4 = .ok (.lookupswitch 34 #[(0, 28), (1, 31)], 28) := by decide +kernel
theorem dX3_cut_32 : decode cX3_cut 32 = .ok (.iload_n 1, 1) := by decide +kernel
theorem dX3_cut_33 : decode cX3_cut 33 = .ok (.i2b, 1) := by decide +kernel
theorem dX3_cut_34 : decode cX3_cut 34 = .ok (.ireturn, 1) := by decide +kernel
theorem dX3_cut_35 : decode cX3_cut 35 = .ok (.iload_n 1, 1) := by decide +kernel
theorem dX3_cut_36 : decode cX3_cut 36 = .ok (.i2s, 1) := by decide +kernel
theorem dX3_cut_37 : decode cX3_cut 37 = .ok (.ireturn, 1) := by decide +kernel
theorem dX3_cut_38 : decode cX3_cut 38 = .ok (.iload_n 1, 1) := by decide +kernel
theorem dX3_cut_39 : decode cX3_cut 39 = .ok (.ireturn, 1) := by decide +kernel
theorem dX4_init_0 : decode cX4_init 0 = .ok (.aload_n 0, 1) := by decide +kernel
theorem dX4_init_1 : decode cX4_init 1 = .ok (.invokespecial 3, 3) := by decide +kernel
theorem dX4_init_4 : decode cX4_init 4 = .ok (.aload_n 0, 1) := by decide +kernel
theorem dX4_init_5 : decode cX4_init 5 = .ok (.bipush 8, 2) := by decide +kernel
theorem dX4_init_7 : decode cX4_init 7 = .ok (.newarray .int, 2) := by decide +kernel
theorem dX4_init_9 : decode cX4_init 9 = .ok (.putfield 9, 3) := by decide +kernel
theorem dX4_init_12 : decode cX4_init 12 = .ok (.aload_n 0, 1) := by decide +kernel
theorem dX4_init_13 : decode cX4_init 13 = .ok (.bipush 8, 2) := by decide +kernel
theorem dX4_init_15 : decode cX4_init 15 = .ok (.newarray .int, 2) := by decide +kernel
theorem dX4_init_17 : decode cX4_init 17 = .ok (.putfield 15, 3) := by decide +kernel
theorem dX4_init_20 : decode cX4_init 20 = .ok (.aload_n 0, 1) := by decide +kernel
theorem dX4_init_21 : decode cX4_init 21 = .ok (.iconst 0, 1) := by decide +kernel
theorem dX4_init_22 : decode cX4_init 22 = .ok (.putfield 18, 3) := by decide +kernel
theorem dX4_init_25 : decode cX4_init 25 = .ok (.return_, 1) := by decide +kernel
theorem dX4_has_0 : decode cX4_has 0 = .ok (.iload_n 1, 1) := by decide +kernel
theorem dX4_has_1 : decode cX4_has 1 = .ok (.ifCond .lt 15, 3) := by decide +kernel
theorem dX4_has_4 : decode cX4_has 4 = .ok (.iload_n 1, 1) := by decide +kernel
theorem dX4_has_5 : decode cX4_has 5 = .ok (.aload_n 0, 1) := by decide +kernel
theorem dX4_has_6 : decode cX4_has 6 = .ok (.getfield 18, 3) := by decide +kernel
theorem dX4_has_9 : decode cX4_has 9 = .ok (.if_icmp .ge 7, 3) := by decide +kernel
theorem dX4_has_12 : decode cX4_has 12 = .ok (.iconst 1, 1) := by decide +kernel
theorem dX4_has_13 : decode cX4_has 13 = .ok (.goto 4, 3) := by decide +kernel
theorem dX4_has_16 : decode cX4_has 16 = .ok (.iconst 0, 1) := by decide +kernel
theorem dX4_has_17 : decode cX4_has 17 = .ok (.ireturn, 1) := by decide +kernel
theorem dX4_add_0 : decode cX4_add 0 = .ok (.aload_n 0, 1) := by decide +kernel
theorem dX4_add_1 : decode cX4_add 1 = .ok (.getfield 18, 3) := by decide +kernel
theorem dX4_add_4 : decode cX4_add 4 = .ok (.istore_n 3, 1) := by decide +kernel
theorem dX4_add_5 : decode cX4_add 5 = .ok (.aload_n 0, 1) := by decide +kernel
theorem dX4_add_6 : decode cX4_add 6 = .ok (.getfield 9, 3) := by decide +kernel
theorem dX4_add_9 : decode cX4_add 9 = .ok (.iload_n 3, 1) := by decide +kernel
theorem dX4_add_10 : decode cX4_add 10 = .ok (.iload_n 1, 1) := by decide +kernel
theorem dX4_add_11 : decode cX4_add 11 = .ok (.iastore, 1) := by decide +kernel
theorem dX4_add_12 : decode cX4_add 12 = .ok (.aload_n 0, 1) := by decide +kernel
theorem dX4_add_13 : decode cX4_add 13 = .ok (.getfield 15, 3) := by decide +kernel
theorem dX4_add_16 : decode cX4_add 16 = .ok (.iload_n 3, 1) := by decide +kernel
theorem dX4_add_17 : decode cX4_add 17 = .ok (.iload_n 2, 1) := by decide +kernel
theorem dX4_add_18 : decode cX4_add 18 = .ok (.iastore, 1) := by decide +kernel
theorem dX4_add_19 : decode cX4_add 19 = .ok (.aload_n 0, 1) := by decide +kernel
theorem dX4_add_20 : decode cX4_add 20 = .ok (.dup, 1) := by decide +kernel
theorem dX4_add_21 : decode cX4_add 21 = .ok (.getfield 18, 3) := by decide +kernel
theorem dX4_add_24 : decode cX4_add 24 = .ok (.iconst 1, 1) := by decide +kernel
theorem dX4_add_25 : decode cX4_add 25 = .ok (.iadd, 1) := by decide +kernel
theorem dX4_add_26 : decode cX4_add 26 = .ok (.putfield 18, 3) := by decide +kernel
theorem dX4_add_29 : decode cX4_add 29 = .ok (.iload_n 3, 1) := by decide +kernel
theorem dX4_add_30 : decode cX4_add 30 = .ok (.ireturn, 1) := by decide +kernel
theorem dX5_init_0 : decode cX5_init 0 = .ok (.aload_n 0, 1) := by decide +kernel
theorem dX5_init_1 : decode cX5_init 1 = .ok (.invokespecial 5, 3) := by decide +kernel
theorem dX5_init_4 : decode cX5_init 4 = .ok (.aload_n 0, 1) := by decide +kernel
theorem dX5_init_5 : decode cX5_init 5 = .ok (.new 11, 3) := by decide +kernel
theorem dX5_init_8 : decode cX5_init 8 = .ok (.dup, 1) := by decide +kernel
theorem dX5_init_9 : decode cX5_init 9 = .ok (.invokespecial 13, 3) := by decide +kernel
theorem dX5_init_12 : decode cX5_init 12 = .ok (.putfield 14, 3) := by decide +kernel
theorem dX5_init_15 : decode cX5_init 15 = .ok (.aload_n 0, 1) := by decide +kernel
theorem dX5_init_16 : decode cX5_init 16 = .ok (.new 18, 3) := by decide +kernel
theorem dX5_init_19 : decode cX5_init 19 = .ok (.dup, 1) := by decide +kernel
theorem dX5_init_20 : decode cX5_init 20 = .ok (.invokespecial 20, 3) := by decide +kernel
theorem dX5_init_23 : decode cX5_init 23 = .ok (.putfield 21, 3) := by decide +kernel
theorem dX5_init_26 : decode cX5_init 26 = .ok (.aload_n 0, 1) := by decide +kernel
theorem dX5_init_27 : decode cX5_init 27 = .ok (.new 25, 3) := by decide +kernel
theorem dX5_init_30 : decode cX5_init 30 = .ok (.dup, 1) := by decide +kernel
theorem dX5_init_31 : decode cX5_init 31 = .ok (.aload_n 0, 1) := by decide +kernel
theorem dX5_init_32 : decode cX5_init 32 = .ok (.getfield 14, 3) := by decide +kernel
theorem dX5_init_35 : decode cX5_init 35 = .ok (.aload_n 0, 1) := by decide +kernel
theorem dX5_init_36 : decode cX5_init 36 = .ok (.getfield 21, 3) := by decide +kernel
theorem dX5_init_39 : decode cX5_init 39 = .ok (.invokespecial 27, 3) := by decide +kernel
theorem dX5_init_42 : decode cX5_init 42 = .ok (.putfield 30, 3) := by decide +kernel
theorem dX5_init_45 : decode cX5_init 45 = .ok (.aload_n 0, 1) := by decide +kernel
theorem dX5_init_46 : decode cX5_init 46 = .ok (.new 34, 3) := by decide +kernel
theorem dX5_init_49 : decode cX5_init 49 = .ok (.dup, 1) := by decide +kernel
theorem dX5_init_50 : decode cX5_init 50 = .ok (.invokespecial 36, 3) := by decide +kernel
theorem dX5_init_53 : decode cX5_init 53 = .ok (.putfield 37, 3) := by decide +kernel
theorem dX5_init_56 : decode cX5_init 56 = .ok (.aload_n 0, 1) := by decide +kernel
theorem dX5_init_57 : decode cX5_init 57 = .ok (.iconst 4, 1) := by decide +kernel
theorem dX5_init_58 : decode cX5_init 58 = .ok (.anewarray 41, 3) := by decide +kernel
theorem dX5_init_61 : decode cX5_init 61 = .ok (.putfield 43, 3) := by decide +kernel
theorem dX5_init_64 : decode cX5_init 64 = .ok (.iconst 0, 1) := by decide +kernel
theorem dX5_init_65 : decode cX5_init 65 = .ok (.istore_n 1, 1) := by decide +kernel
theorem dX5_init_66 : decode cX5_init 66 = .ok (.iload_n 1, 1) := by decide +kernel
theorem dX5_init_67 : decode cX5_init 67 = .ok (.iconst 4, 1) := by decide +kernel
theorem dX5_init_68 : decode cX5_init 68 = .ok (.if_icmp .ge 22, 3) := by decide +kernel
theorem dX5_init_71 : decode cX5_init 71 = .ok (.aload_n 0, 1) := by decide +kernel
theorem dX5_init_72 : decode cX5_init 72 = .ok (.getfield 43, 3) := by decide +kernel
theorem dX5_init_75 : decode cX5_init 75 = .ok (.iload_n 1, 1) := by decide +kernel
theorem dX5_init_76 : decode cX5_init 76 = .ok (.new 41, 3) := by decide +kernel
theorem dX5_init_79 : decode cX5_init 79 = .ok (.dup, 1) := by decide +kernel
theorem dX5_init_80 : decode cX5_init 80 = .ok (.invokespecial 47, 3) := by decide +kernel
theorem dX5_init_83 : decode cX5_init 83 = .ok (.aastore, 1) := by decide +kernel
theorem dX5_init_84 : decode cX5_init 84 = .ok (.iinc 1 1, 3) := by decide +kernel
theorem dX5_init_87 : decode cX5_init 87 = .ok (.goto (-21), 3) := by decide +kernel
theorem dX5_init_90 : decode cX5_init 90 = .ok (.aload_n 0, 1) := by decide +kernel
theorem dX5_init_91 : decode cX5_init 91 = .ok (.iconst 0, 1) := by decide +kernel
theorem dX5_init_92 : decode cX5_init 92 = .ok (.putfield 48, 3) := by decide +kernel
theorem dX5_init_95 : decode cX5_init 95 = .ok (.aload_n 0, 1) := by decide +kernel
theorem dX5_init_96 : decode cX5_init 96 = .ok (.iconst 0, 1) := by decide +kernel
theorem dX5_init_97 : decode cX5_init 97 = .ok (.putfield 52, 3) := by decide +kernel
theorem dX5_init_100 : decode cX5_init 100 = .ok (.return_, 1) := by decide +kernel
theorem dX5_hill_0 : decode cX5_hill 0 = .ok (.aload_n 0, 1) := by decide +kernel
theorem dX5_hill_1 : decode cX5_hill 1 = .ok (.iconst 0, 1) := by decide +kernel
theorem dX5_hill_2 : decode cX5_hill 2 = .ok (.putfield 52, 3) := by decide +kernel
theorem dX5_hill_5 : decode cX5_hill 5 = .ok (.iload_n 1, 1) := by decide +kernel
theorem dX5_hill_6 : decode cX5_hill 6 = .ok (.invokestatic 55, 3) := by decide +kernel
theorem dX5_hill_9 : decode cX5_hill 9 = .ok (.ifCond .ne 5, 3) := by decide +kernel
theorem dX5_hill_12 : decode cX5_hill 12 = .ok (.iconst (-1), 1) := by decide +kernel
theorem dX5_hill_13 : decode cX5_hill 13 = .ok (.ireturn, 1) := by decide +kernel
theorem dX5_hill_14 : decode cX5_hill 14 = .ok (.iload_n 2, 1) := by decide +kernel
theorem dX5_hill_15 : decode cX5_hill 15 = .ok (.invokestatic 59, 3) := by decide +kernel
theorem dX5_hill_18 : decode cX5_hill 18 = .ok (.ifCond .ne 6, 3) := by decide +kernel
theorem dX5_hill_21 : decode cX5_hill 21 = .ok (.bipush (-2), 2) := by decide +kernel
theorem dX5_hill_23 : decode cX5_hill 23 = .ok (.ireturn, 1) := by decide +kernel
theorem dX5_hill_24 : decode cX5_hill 24 = .ok (.aload_n 0, 1) := by decide +kernel
theorem dX5_hill_25 : decode cX5_hill 25 = .ok (.getfield 43, 3) := by decide +kernel
theorem dX5_hill_28 : decode cX5_hill 28 = .ok (.iload_n 1, 1) := by decide +kernel
theorem dX5_hill_29 : decode cX5_hill 29 = .ok (.aaload, 1) := by decide +kernel
theorem dX5_hill_30 : decode cX5_hill 30 = .ok (.astore 5, 2) := by decide +kernel
theorem dX5_hill_32 : decode cX5_hill 32 = .ok (.aload 5, 2) := by decide +kernel
theorem dX5_hill_34 : decode cX5_hill 34 = .ok (.iload_n 2, 1) := by decide +kernel
theorem dX5_hill_35 : decode cX5_hill 35 = .ok (.invokevirtual 62, 3) := by decide +kernel
theorem dX5_hill_38 : decode cX5_hill 38 = .ok (.istore 6, 2) := by decide +kernel
theorem dX5_hill_40 : decode cX5_hill 40 = .ok (.iload 6, 2) := by decide +kernel
theorem dX5_hill_42 : decode cX5_hill 42 = .ok (.ifCond .ne 11, 3) := by decide +kernel
theorem dX5_hill_45 : decode cX5_hill 45 = .ok (.iload 4, 2) := by decide +kernel
theorem dX5_hill_47 : decode cX5_hill 47 = .ok (.ifCond .ge 6, 3) := by decide +kernel
theorem dX5_hill_50 : decode cX5_hill 50 = .ok (.iconst 4, 1) := by decide +kernel
theorem dX5_hill_51 : decode cX5_hill 51 = .ok (.istore 6, 2) := by decide +kernel
theorem dX5_hill_53 : decode cX5_hill 53 = .ok (.iload 6, 2) := by decide +kernel
theorem dX5_hill_55 : decode cX5_hill 55 = .ok (.ifCond .ne 17, 3) := by decide +kernel
theorem dX5_hill_58 : decode cX5_hill 58 = .ok (.aload 5, 2) := by decide +kernel
theorem dX5_hill_60 : decode cX5_hill 60 = .ok (.iload_n 3, 1) := by decide +kernel
theorem dX5_hill_61 : decode cX5_hill 61 = .ok (.iload 4, 2) := by decide +kernel
theorem dX5_hill_63 : decode cX5_hill 63 = .ok (.invokevirtual 66, 3) := by decide +kernel
theorem dX5_hill_66 : decode cX5_hill 66 = .ok (.ifCond .ne 6, 3) := by decide +kernel
theorem dX5_hill_69 : decode cX5_hill 69 = .ok (.iconst 3, 1) := by decide +kernel
theorem dX5_hill_70 : decode cX5_hill 70 = .ok (.istore 6, 2) := by decide +kernel
theorem dX5_hill_72 : decode cX5_hill 72 = .ok (.iload 6, 2) := by decide +kernel
theorem dX5_hill_74 : decode cX5_hill 74 = .ok (.ifCond .eq 10, 3) := by decide +kernel
theorem dX5_hill_77 : decode cX5_hill 77 = .ok (.aload_n 0, 1) := by decide +kernel
theorem dX5_hill_78 : decode cX5_hill 78 = .ok (.iload 6, 2) := by decide +kernel
theorem dX5_hill_80 : decode cX5_hill 80 = .ok (.invokevirtual 70, 3) := by decide +kernel
theorem dX5_hill_83 : decode cX5_hill 83 = .ok (.ireturn, 1) := by decide +kernel
theorem dX5_hill_84 : decode cX5_hill 84 = .ok (.aload_n 0, 1) := by decide +kernel
theorem dX5_hill_85 : decode cX5_hill 85 = .ok (.getfield 14, 3) := by decide +kernel
theorem dX5_hill_88 : decode cX5_hill 88 = .ok (.aload 5, 2) := by decide +kernel
theorem dX5_hill_90 : decode cX5_hill 90 = .ok (.iload_n 3, 1) := by decide +kernel
theorem dX5_hill_91 : decode cX5_hill 91 = .ok (.iload 4, 2) := by decide +kernel
theorem dX5_hill_93 : decode cX5_hill 93 = .ok (.invokevirtual 73, 3) := by decide +kernel
theorem dX5_hill_96 : decode cX5_hill 96 = .ok (.istore 7, 2) := by decide +kernel
theorem dX5_hill_98 : decode cX5_hill 98 = .ok (.iload 7, 2) := by decide +kernel
theorem dX5_hill_100 : decode cX5_hill 100 = .ok (.ifCond .lt 9, 3) := by decide +kernel
theorem dX5_hill_103 : decode cX5_hill 103 = .ok (.bipush (-100), 2) := by decide +kernel
theorem dX5_hill_105 : decode cX5_hill 105 = .ok (.iload 7, 2) := by decide +kernel
theorem dX5_hill_107 : decode cX5_hill 107 = .ok (.isub, 1) := by decide +kernel
theorem dX5_hill_108 : decode cX5_hill 108 = .ok (.ireturn, 1) := by decide +kernel
theorem dX5_hill_109 : decode cX5_hill 109 = .ok (.aload_n 0, 1) := by decide +kernel
theorem dX5_hill_110 : decode cX5_hill 110 = .ok (.getfield 14, 3) := by decide +kernel
theorem dX5_hill_113 : decode cX5_hill 113 = .ok (.aload 5, 2) := by decide +kernel
theorem dX5_hill_115 : decode cX5_hill 115 = .ok (.iload_n 3, 1) := by decide +kernel
theorem dX5_hill_116 : decode cX5_hill 116 = .ok (.invokevirtual 77, 3) := by decide +kernel
theorem dX5_hill_119 : decode cX5_hill 119 = .ok (.aload_n 0, 1) := by decide +kernel
theorem dX5_hill_120 : decode cX5_hill 120 = .ok (.getfield 21, 3) := by decide +kernel
theorem dX5_hill_123 : decode cX5_hill 123 = .ok (.iconst 0, 1) := by decide +kernel
theorem dX5_hill_124 : decode cX5_hill 124 = .ok (.putfield 81, 3) := by decide +kernel
theorem dX5_hill_127 : decode cX5_hill 127 = .ok (.aload_n 0, 1) := by decide +kernel
theorem dX5_hill_128 : decode cX5_hill 128 = .ok (.getfield 14, 3) := by decide +kernel
theorem dX5_hill_131 : decode cX5_hill 131 = .ok (.invokevirtual 83, 3) := by decide +kernel
theorem dX5_hill_134 : decode cX5_hill 134 = .ok (.ireturn, 1) := by decide +kernel
theorem dX5_sign_0 : decode cX5_sign 0 = .ok (.aload_n 0, 1) := by decide +kernel
theorem dX5_sign_1 : decode cX5_sign 1 = .ok (.getfield 14, 3) := by decide +kernel
theorem dX5_sign_4 : decode cX5_sign 4 = .ok (.iload_n 1, 1) := by decide +kernel
theorem dX5_sign_5 : decode cX5_sign 5 = .ok (.invokevirtual 87, 3) := by decide +kernel
theorem dX5_sign_8 : decode cX5_sign 8 = .ok (.ifCond .eq 15, 3) := by decide +kernel
theorem dX5_sign_11 : decode cX5_sign 11 = .ok (.aload_n 0, 1) := by decide +kernel
theorem dX5_sign_12 : decode cX5_sign 12 = .ok (.getfield 14, 3) := by decide +kernel
theorem dX5_sign_15 : decode cX5_sign 15 = .ok (.getfield 90, 3) := by decide +kernel
theorem dX5_sign_18 : decode cX5_sign 18 = .ok (.iload_n 1, 1) := by decide +kernel
theorem dX5_sign_19 : decode cX5_sign 19 = .ok (.iaload, 1) := by decide +kernel
theorem dX5_sign_20 : decode cX5_sign 20 = .ok (.goto 4, 3) := by decide +kernel
theorem dX5_sign_23 : decode cX5_sign 23 = .ok (.iconst (-1), 1) := by decide +kernel
theorem dX5_sign_24 : decode cX5_sign 24 = .ok (.ireturn, 1) := by decide +kernel
theorem dX5_set_0 : decode cX5_set 0 = .ok (.aload_n 0, 1) := by decide +kernel
theorem dX5_set_1 : decode cX5_set 1 = .ok (.getfield 14, 3) := by decide +kernel
theorem dX5_set_4 : decode cX5_set 4 = .ok (.iload_n 1, 1) := by decide +kernel
theorem dX5_set_5 : decode cX5_set 5 = .ok (.invokevirtual 87, 3) := by decide +kernel
theorem dX5_set_8 : decode cX5_set 8 = .ok (.ifCond .ne 5, 3) := by decide +kernel
theorem dX5_set_11 : decode cX5_set 11 = .ok (.iconst (-1), 1) := by decide +kernel
theorem dX5_set_12 : decode cX5_set 12 = .ok (.ireturn, 1) := by decide +kernel
theorem dX5_set_13 : decode cX5_set 13 = .ok (.iload_n 2, 1) := by decide +kernel
theorem dX5_set_14 : decode cX5_set 14 = .ok (.ifCond .lt 8, 3) := by decide +kernel
theorem dX5_set_17 : decode cX5_set 17 = .ok (.iload_n 2, 1) := by decide +kernel
theorem dX5_set_18 : decode cX5_set 18 = .ok (.iconst 5, 1) := by decide +kernel
theorem dX5_set_19 : decode cX5_set 19 = .ok (.if_icmp .lt 6, 3) := by decide +kernel
theorem dX5_set_22 : decode cX5_set 22 = .ok (.bipush (-2), 2) := by decide +kernel
theorem dX5_set_24 : decode cX5_set 24 = .ok (.ireturn, 1) := by decide +kernel
theorem dX5_set_25 : decode cX5_set 25 = .ok (.aload_n 0, 1) := by decide +kernel
theorem dX5_set_26 : decode cX5_set 26 = .ok (.getfield 14, 3) := by decide +kernel
theorem dX5_set_29 : decode cX5_set 29 = .ok (.getfield 90, 3) := by decide +kernel
theorem dX5_set_32 : decode cX5_set 32 = .ok (.iload_n 1, 1) := by decide +kernel
theorem dX5_set_33 : decode cX5_set 33 = .ok (.iaload, 1) := by decide +kernel
theorem dX5_set_34 : decode cX5_set 34 = .ok (.istore_n 3, 1) := by decide +kernel
theorem dX5_set_35 : decode cX5_set 35 = .ok (.aload_n 0, 1) := by decide +kernel
theorem dX5_set_36 : decode cX5_set 36 = .ok (.getfield 14, 3) := by decide +kernel
theorem dX5_set_39 : decode cX5_set 39 = .ok (.getfield 90, 3) := by decide +kernel
theorem dX5_set_42 : decode cX5_set 42 = .ok (.iload_n 1, 1) := by decide +kernel
theorem dX5_set_43 : decode cX5_set 43 = .ok (.iload_n 2, 1) := by decide +kernel
theorem dX5_set_44 : decode cX5_set 44 = .ok (.iastore, 1) := by decide +kernel
theorem dX5_set_45 : decode cX5_set 45 = .ok (.iload_n 3, 1) := by decide +kernel
theorem dX5_set_46 : decode cX5_set 46 = .ok (.ireturn, 1) := by decide +kernel
theorem dX5_party_0 : decode cX5_party 0 = .ok (.aload_n 0, 1) := by decide +kernel
theorem dX5_party_1 : decode cX5_party 1 = .ok (.getfield 14, 3) := by decide +kernel
theorem dX5_party_4 : decode cX5_party 4 = .ok (.iload_n 1, 1) := by decide +kernel
theorem dX5_party_5 : decode cX5_party 5 = .ok (.invokevirtual 94, 3) := by decide +kernel
theorem dX5_party_8 : decode cX5_party 8 = .ok (.ifCond .eq 15, 3) := by decide +kernel
theorem dX5_party_11 : decode cX5_party 11 = .ok (.aload_n 0, 1) := by decide +kernel
theorem dX5_party_12 : decode cX5_party 12 = .ok (.getfield 14, 3) := by decide +kernel
theorem dX5_party_15 : decode cX5_party 15 = .ok (.getfield 97, 3) := by decide +kernel
theorem dX5_party_18 : decode cX5_party 18 = .ok (.iload_n 1, 1) := by decide +kernel
theorem dX5_party_19 : decode cX5_party 19 = .ok (.iaload, 1) := by decide +kernel
theorem dX5_party_20 : decode cX5_party 20 = .ok (.goto 4, 3) := by decide +kernel
theorem dX5_party_23 : decode cX5_party 23 = .ok (.iconst (-1), 1) := by decide +kernel
theorem dX5_party_24 : decode cX5_party 24 = .ok (.ireturn, 1) := by decide +kernel
theorem dX5_wet_0 : decode cX5_wet 0 = .ok (.aload_n 0, 1) := by decide +kernel
theorem dX5_wet_1 : decode cX5_wet 1 = .ok (.getfield 14, 3) := by decide +kernel
theorem dX5_wet_4 : decode cX5_wet 4 = .ok (.invokevirtual 100, 3) := by decide +kernel
theorem dX5_wet_7 : decode cX5_wet 7 = .ok (.ifCond .ne 6, 3) := by decide +kernel
theorem dX5_wet_10 : decode cX5_wet 10 = .ok (.bipush (-3), 2) := by decide +kernel
theorem dX5_wet_12 : decode cX5_wet 12 = .ok (.ireturn, 1) := by decide +kernel
theorem dX5_wet_13 : decode cX5_wet 13 = .ok (.aload_n 0, 1) := by decide +kernel
theorem dX5_wet_14 : decode cX5_wet 14 = .ok (.getfield 14, 3) := by decide +kernel
theorem dX5_wet_17 : decode cX5_wet 17 = .ok (.getfield 104, 3) := by decide +kernel
theorem dX5_wet_20 : decode cX5_wet 20 = .ok (.istore_n 2, 1) := by decide +kernel
theorem dX5_wet_21 : decode cX5_wet 21 = .ok (.aload_n 0, 1) := by decide +kernel
theorem dX5_wet_22 : decode cX5_wet 22 = .ok (.getfield 14, 3) := by decide +kernel
theorem dX5_wet_25 : decode cX5_wet 25 = .ok (.iload_n 1, 1) := by decide +kernel
theorem dX5_wet_26 : decode cX5_wet 26 = .ok (.putfield 104, 3) := by decide +kernel
theorem dX5_wet_29 : decode cX5_wet 29 = .ok (.iload_n 2, 1) := by decide +kernel
theorem dX5_wet_30 : decode cX5_wet 30 = .ok (.iload_n 1, 1) := by decide +kernel
theorem dX5_wet_31 : decode cX5_wet 31 = .ok (.if_icmp .ne 7, 3) := by decide +kernel
theorem dX5_wet_34 : decode cX5_wet 34 = .ok (.iconst 0, 1) := by decide +kernel
theorem dX5_wet_35 : decode cX5_wet 35 = .ok (.goto 4, 3) := by decide +kernel
theorem dX5_wet_38 : decode cX5_wet 38 = .ok (.iconst 1, 1) := by decide +kernel
theorem dX5_wet_39 : decode cX5_wet 39 = .ok (.ireturn, 1) := by decide +kernel
theorem dX5_vote_0 : decode cX5_vote 0 = .ok (.aload_n 0, 1) := by decide +kernel
theorem dX5_vote_1 : decode cX5_vote 1 = .ok (.getfield 14, 3) := by decide +kernel
theorem dX5_vote_4 : decode cX5_vote 4 = .ok (.iload_n 2, 1) := by decide +kernel
theorem dX5_vote_5 : decode cX5_vote 5 = .ok (.invokevirtual 94, 3) := by decide +kernel
theorem dX5_vote_8 : decode cX5_vote 8 = .ok (.ifCond .ne 5, 3) := by decide +kernel
theorem dX5_vote_11 : decode cX5_vote 11 = .ok (.iconst (-1), 1) := by decide +kernel
theorem dX5_vote_12 : decode cX5_vote 12 = .ok (.ireturn, 1) := by decide +kernel
theorem dX5_vote_13 : decode cX5_vote 13 = .ok (.iload_n 1, 1) := by decide +kernel
theorem dX5_vote_14 : decode cX5_vote 14 = .ok (.invokestatic 108, 3) := by decide +kernel
theorem dX5_vote_17 : decode cX5_vote 17 = .ok (.ifCond .ne 6, 3) := by decide +kernel
theorem dX5_vote_20 : decode cX5_vote 20 = .ok (.bipush (-2), 2) := by decide +kernel
theorem dX5_vote_22 : decode cX5_vote 22 = .ok (.ireturn, 1) := by decide +kernel
theorem dX5_vote_23 : decode cX5_vote 23 = .ok (.aload_n 0, 1) := by decide +kernel
theorem dX5_vote_24 : decode cX5_vote 24 = .ok (.getfield 21, 3) := by decide +kernel
theorem dX5_vote_27 : decode cX5_vote 27 = .ok (.getfield 81, 3) := by decide +kernel
theorem dX5_vote_30 : decode cX5_vote 30 = .ok (.bipush 8, 2) := by decide +kernel
theorem dX5_vote_32 : decode cX5_vote 32 = .ok (.if_icmp .lt 6, 3) := by decide +kernel
theorem dX5_vote_35 : decode cX5_vote 35 = .ok (.bipush (-4), 2) := by decide +kernel
theorem dX5_vote_37 : decode cX5_vote 37 = .ok (.ireturn, 1) := by decide +kernel
theorem dX5_vote_38 : decode cX5_vote 38 = .ok (.aload_n 0, 1) := by decide +kernel
theorem dX5_vote_39 : decode cX5_vote 39 = .ok (.getfield 21, 3) := by decide +kernel
theorem dX5_vote_42 : decode cX5_vote 42 = .ok (.iload_n 1, 1) := by decide +kernel
theorem dX5_vote_43 : decode cX5_vote 43 = .ok (.iload_n 2, 1) := by decide +kernel
theorem dX5_vote_44 : decode cX5_vote 44 = .ok (.invokevirtual 111, 3) := by decide +kernel
theorem dX5_vote_47 : decode cX5_vote 47 = .ok (.ireturn, 1) := by decide +kernel
theorem dX5_ofVote_0 : decode cX5_ofVote 0 = .ok (.aload_n 0, 1) := by decide +kernel
theorem dX5_ofVote_1 : decode cX5_ofVote 1 = .ok (.getfield 21, 3) := by decide +kernel
theorem dX5_ofVote_4 : decode cX5_ofVote 4 = .ok (.iload_n 1, 1) := by decide +kernel
theorem dX5_ofVote_5 : decode cX5_ofVote 5 = .ok (.invokevirtual 115, 3) := by decide +kernel
theorem dX5_ofVote_8 : decode cX5_ofVote 8 = .ok (.ifCond .ne 5, 3) := by decide +kernel
theorem dX5_ofVote_11 : decode cX5_ofVote 11 = .ok (.iconst (-1), 1) := by decide +kernel
theorem dX5_ofVote_12 : decode cX5_ofVote 12 = .ok (.ireturn, 1) := by decide +kernel
theorem dX5_ofVote_13 : decode cX5_ofVote 13 = .ok (.iload_n 2, 1) := by decide +kernel
theorem dX5_ofVote_14 : decode cX5_ofVote 14 = .ok (.tableswitch 86 0 3 #[30, 40, 50, 68], 30) := by decide +kernel
theorem dX5_ofVote_44 : decode cX5_ofVote 44 = .ok (.aload_n 0, 1) := by decide +kernel
theorem dX5_ofVote_45 : decode cX5_ofVote 45 = .ok (.getfield 21, 3) := by decide +kernel
theorem dX5_ofVote_48 : decode cX5_ofVote 48 = .ok (.getfield 118, 3) := by decide +kernel
theorem dX5_ofVote_51 : decode cX5_ofVote 51 = .ok (.iload_n 1, 1) := by decide +kernel
theorem dX5_ofVote_52 : decode cX5_ofVote 52 = .ok (.iaload, 1) := by decide +kernel
theorem dX5_ofVote_53 : decode cX5_ofVote 53 = .ok (.ireturn, 1) := by decide +kernel
theorem dX5_ofVote_54 : decode cX5_ofVote 54 = .ok (.aload_n 0, 1) := by decide +kernel
theorem dX5_ofVote_55 : decode cX5_ofVote 55 = .ok (.getfield 21, 3) := by decide +kernel
theorem dX5_ofVote_58 : decode cX5_ofVote 58 = .ok (.getfield 121, 3) := by decide +kernel
theorem dX5_ofVote_61 : decode cX5_ofVote 61 = .ok (.iload_n 1, 1) := by decide +kernel
theorem dX5_ofVote_62 : decode cX5_ofVote 62 = .ok (.iaload, 1) := by decide +kernel
theorem dX5_ofVote_63 : decode cX5_ofVote 63 = .ok (.ireturn, 1) := by decide +kernel
theorem dX5_ofVote_64 : decode cX5_ofVote 64 = .ok (.aload_n 0, 1) := by decide +kernel
theorem dX5_ofVote_65 : decode cX5_ofVote 65 = .ok (.getfield 14, 3) := by decide +kernel
theorem dX5_ofVote_68 : decode cX5_ofVote 68 = .ok (.iconst 1, 1) := by decide +kernel
theorem dX5_ofVote_69 : decode cX5_ofVote 69 = .ok (.aload_n 0, 1) := by decide +kernel
theorem dX5_ofVote_70 : decode cX5_ofVote 70 = .ok (.getfield 21, 3) := by decide +kernel
theorem dX5_ofVote_73 : decode cX5_ofVote 73 = .ok (.getfield 118, 3) := by decide +kernel
theorem dX5_ofVote_76 : decode cX5_ofVote 76 = .ok (.iload_n 1, 1) := by decide +kernel
theorem dX5_ofVote_77 : decode cX5_ofVote 77 = .ok (.iaload, 1) := by decide +kernel
theorem dX5_ofVote_78 : decode cX5_ofVote 78 = .ok (.invokevirtual 124, 3) := by decide +kernel
theorem dX5_ofVote_81 : decode cX5_ofVote 81 = .ok (.ireturn, 1) := by decide +kernel
theorem dX5_ofVote_82 : decode cX5_ofVote 82 = .ok (.aload_n 0, 1) := by decide +kernel
theorem dX5_ofVote_83 : decode cX5_ofVote 83 = .ok (.getfield 14, 3) := by decide +kernel
theorem dX5_ofVote_86 : decode cX5_ofVote 86 = .ok (.iconst 1, 1) := by decide +kernel
theorem dX5_ofVote_87 : decode cX5_ofVote 87 = .ok (.aload_n 0, 1) := by decide +kernel
theorem dX5_ofVote_88 : decode cX5_ofVote 88 = .ok (.getfield 21, 3) := by decide +kernel
theorem dX5_ofVote_91 : decode cX5_ofVote 91 = .ok (.getfield 118, 3) := by decide +kernel
theorem dX5_ofVote_94 : decode cX5_ofVote 94 = .ok (.iload_n 1, 1) := by decide +kernel
theorem dX5_ofVote_95 : decode cX5_ofVote 95 = .ok (.iaload, 1) := by decide +kernel
theorem dX5_ofVote_96 : decode cX5_ofVote 96 = .ok (.invokevirtual 127, 3) := by decide +kernel
theorem dX5_ofVote_99 : decode cX5_ofVote 99 = .ok (.ireturn, 1) := by decide +kernel
theorem dX5_ofVote_100 : decode cX5_ofVote 100 = .ok (.bipush (-2), 2) := by decide +kernel
theorem dX5_ofVote_102 : decode cX5_ofVote 102 = .ok (.ireturn, 1) := by decide +kernel
theorem dX5_back_0 : decode cX5_back 0 = .ok (.iload_n 1, 1) := by decide +kernel
theorem dX5_back_1 : decode cX5_back 1 = .ok (.ifCond .lt 14, 3) := by decide +kernel
theorem dX5_back_4 : decode cX5_back 4 = .ok (.iload_n 1, 1) := by decide +kernel
theorem dX5_back_5 : decode cX5_back 5 = .ok (.aload_n 0, 1) := by decide +kernel
theorem dX5_back_6 : decode cX5_back 6 = .ok (.getfield 21, 3) := by decide +kernel
theorem dX5_back_9 : decode cX5_back 9 = .ok (.getfield 81, 3) := by decide +kernel
theorem dX5_back_12 : decode cX5_back 12 = .ok (.if_icmp .le 6, 3) := by decide +kernel
theorem dX5_back_15 : decode cX5_back 15 = .ok (.bipush (-2), 2) := by decide +kernel
theorem dX5_back_17 : decode cX5_back 17 = .ok (.ireturn, 1) := by decide +kernel
theorem dX5_back_18 : decode cX5_back 18 = .ok (.aload_n 0, 1) := by decide +kernel
theorem dX5_back_19 : decode cX5_back 19 = .ok (.getfield 21, 3) := by decide +kernel
theorem dX5_back_22 : decode cX5_back 22 = .ok (.dup, 1) := by decide +kernel
theorem dX5_back_23 : decode cX5_back 23 = .ok (.getfield 81, 3) := by decide +kernel
theorem dX5_back_26 : decode cX5_back 26 = .ok (.iload_n 1, 1) := by decide +kernel
theorem dX5_back_27 : decode cX5_back 27 = .ok (.isub, 1) := by decide +kernel
theorem dX5_back_28 : decode cX5_back 28 = .ok (.putfield 81, 3) := by decide +kernel
theorem dX5_back_31 : decode cX5_back 31 = .ok (.aload_n 0, 1) := by decide +kernel
theorem dX5_back_32 : decode cX5_back 32 = .ok (.getfield 21, 3) := by decide +kernel
theorem dX5_back_35 : decode cX5_back 35 = .ok (.getfield 81, 3) := by decide +kernel
theorem dX5_back_38 : decode cX5_back 38 = .ok (.ireturn, 1) := by decide +kernel
theorem dX5_roll_0 : decode cX5_roll 0 = .ok (.aload_n 0, 1) := by decide +kernel
theorem dX5_roll_1 : decode cX5_roll 1 = .ok (.iconst 0, 1) := by decide +kernel
theorem dX5_roll_2 : decode cX5_roll 2 = .ok (.putfield 52, 3) := by decide +kernel
theorem dX5_roll_5 : decode cX5_roll 5 = .ok (.aload_n 0, 1) := by decide +kernel
theorem dX5_roll_6 : decode cX5_roll 6 = .ok (.getfield 21, 3) := by decide +kernel
theorem dX5_roll_9 : decode cX5_roll 9 = .ok (.iload_n 1, 1) := by decide +kernel
theorem dX5_roll_10 : decode cX5_roll 10 = .ok (.invokevirtual 115, 3) := by decide +kernel
theorem dX5_roll_13 : decode cX5_roll 13 = .ok (.ifCond .eq 10, 3) := by decide +kernel
theorem dX5_roll_16 : decode cX5_roll 16 = .ok (.iload_n 2, 1) := by decide +kernel
theorem dX5_roll_17 : decode cX5_roll 17 = .ok (.invokestatic 55, 3) := by decide +kernel
theorem dX5_roll_20 : decode cX5_roll 20 = .ok (.ifCond .ne 5, 3) := by decide +kernel
theorem dX5_roll_23 : decode cX5_roll 23 = .ok (.iconst (-1), 1) := by decide +kernel
theorem dX5_roll_24 : decode cX5_roll 24 = .ok (.ireturn, 1) := by decide +kernel
theorem dX5_roll_25 : decode cX5_roll 25 = .ok (.iload_n 3, 1) := by decide +kernel
theorem dX5_roll_26 : decode cX5_roll 26 = .ok (.invokestatic 59, 3) := by decide +kernel
theorem dX5_roll_29 : decode cX5_roll 29 = .ok (.ifCond .ne 6, 3) := by decide +kernel
theorem dX5_roll_32 : decode cX5_roll 32 = .ok (.bipush (-2), 2) := by decide +kernel
theorem dX5_roll_34 : decode cX5_roll 34 = .ok (.ireturn, 1) := by decide +kernel
theorem dX5_roll_35 : decode cX5_roll 35 = .ok (.aload_n 0, 1) := by decide +kernel
theorem dX5_roll_36 : decode cX5_roll 36 = .ok (.getfield 43, 3) := by decide +kernel
theorem dX5_roll_39 : decode cX5_roll 39 = .ok (.iload_n 2, 1) := by decide +kernel
theorem dX5_roll_40 : decode cX5_roll 40 = .ok (.aaload, 1) := by decide +kernel
theorem dX5_roll_41 : decode cX5_roll 41 = .ok (.astore 5, 2) := by decide +kernel
theorem dX5_roll_43 : decode cX5_roll 43 = .ok (.aload 5, 2) := by decide +kernel
theorem dX5_roll_45 : decode cX5_roll 45 = .ok (.iload_n 3, 1) := by decide +kernel
theorem dX5_roll_46 : decode cX5_roll 46 = .ok (.invokevirtual 62, 3) := by decide +kernel
theorem dX5_roll_49 : decode cX5_roll 49 = .ok (.istore 6, 2) := by decide +kernel
theorem dX5_roll_51 : decode cX5_roll 51 = .ok (.iload 6, 2) := by decide +kernel
theorem dX5_roll_53 : decode cX5_roll 53 = .ok (.ifCond .ne 17, 3) := by decide +kernel
theorem dX5_roll_56 : decode cX5_roll 56 = .ok (.aload 5, 2) := by decide +kernel
theorem dX5_roll_58 : decode cX5_roll 58 = .ok (.iload 4, 2) := by decide +kernel
theorem dX5_roll_60 : decode cX5_roll 60 = .ok (.iconst 0, 1) := by decide +kernel
theorem dX5_roll_61 : decode cX5_roll 61 = .ok (.invokevirtual 66, 3) := by decide +kernel
theorem dX5_roll_64 : decode cX5_roll 64 = .ok (.ifCond .ne 6, 3) := by decide +kernel
theorem dX5_roll_67 : decode cX5_roll 67 = .ok (.iconst 3, 1) := by decide +kernel
theorem dX5_roll_68 : decode cX5_roll 68 = .ok (.istore 6, 2) := by decide +kernel
theorem dX5_roll_70 : decode cX5_roll 70 = .ok (.iload 6, 2) := by decide +kernel
theorem dX5_roll_72 : decode cX5_roll 72 = .ok (.ifCond .ne 15, 3) := by decide +kernel
theorem dX5_roll_75 : decode cX5_roll 75 = .ok (.aload_n 0, 1) := by decide +kernel
theorem dX5_roll_76 : decode cX5_roll 76 = .ok (.iload_n 1, 1) := by decide +kernel
theorem dX5_roll_77 : decode cX5_roll 77 = .ok (.aload 5, 2) := by decide +kernel
theorem dX5_roll_79 : decode cX5_roll 79 = .ok (.iload 4, 2) := by decide +kernel
theorem dX5_roll_81 : decode cX5_roll 81 = .ok (.invokevirtual 130, 3) := by decide +kernel
theorem dX5_roll_84 : decode cX5_roll 84 = .ok (.goto 9, 3) := by decide +kernel
theorem dX5_roll_87 : decode cX5_roll 87 = .ok (.aload_n 0, 1) := by decide +kernel
theorem dX5_roll_88 : decode cX5_roll 88 = .ok (.iload 6, 2) := by decide +kernel
theorem dX5_roll_90 : decode cX5_roll 90 = .ok (.invokevirtual 70, 3) := by decide +kernel
theorem dX5_roll_93 : decode cX5_roll 93 = .ok (.ireturn, 1) := by decide +kernel
theorem dX5_rollBy_0 : decode cX5_rollBy 0 = .ok (.aload_n 0, 1) := by decide +kernel
theorem dX5_rollBy_1 : decode cX5_rollBy 1 = .ok (.getfield 21, 3) := by decide +kernel
theorem dX5_rollBy_4 : decode cX5_rollBy 4 = .ok (.getfield 118, 3) := by decide +kernel
theorem dX5_rollBy_7 : decode cX5_rollBy 7 = .ok (.iload_n 1, 1) := by decide +kernel
theorem dX5_rollBy_8 : decode cX5_rollBy 8 = .ok (.iaload, 1) := by decide +kernel
theorem dX5_rollBy_9 : decode cX5_rollBy 9 = .ok (.istore 4, 2) := by decide +kernel
theorem dX5_rollBy_11 : decode cX5_rollBy 11 = .ok (.aload_n 0, 1) := by decide +kernel
theorem dX5_rollBy_12 : decode cX5_rollBy 12 = .ok (.getfield 21, 3) := by decide +kernel
theorem dX5_rollBy_15 : decode cX5_rollBy 15 = .ok (.getfield 121, 3) := by decide +kernel
theorem dX5_rollBy_18 : decode cX5_rollBy 18 = .ok (.iload_n 1, 1) := by decide +kernel
theorem dX5_rollBy_19 : decode cX5_rollBy 19 = .ok (.iaload, 1) := by decide +kernel
theorem dX5_rollBy_20 : decode cX5_rollBy 20 = .ok (.istore 5, 2) := by decide +kernel
theorem dX5_rollBy_22 : decode cX5_rollBy 22 = .ok (.iload_n 3, 1) := by decide +kernel
theorem dX5_rollBy_23 : decode cX5_rollBy 23 = .ok (.istore 6, 2) := by decide +kernel
theorem dX5_rollBy_25 : decode cX5_rollBy 25 = .ok (.iconst 0, 1) := by decide +kernel
theorem dX5_rollBy_26 : decode cX5_rollBy 26 = .ok (.istore 7, 2) := by decide +kernel
theorem dX5_rollBy_28 : decode cX5_rollBy 28 = .ok (.iload 7, 2) := by decide +kernel
theorem dX5_rollBy_30 : decode cX5_rollBy 30 = .ok (.aload_n 0, 1) := by decide +kernel
theorem dX5_rollBy_31 : decode cX5_rollBy 31 = .ok (.getfield 14, 3) := by decide +kernel
theorem dX5_rollBy_34 : decode cX5_rollBy 34 = .ok (.getfield 134, 3) := by decide +kernel
theorem dX5_rollBy_37 : decode cX5_rollBy 37 = .ok (.if_icmp .ge 97, 3) := by decide +kernel
theorem dX5_rollBy_40 : decode cX5_rollBy 40 = .ok (.aload_n 0, 1) := by decide +kernel
theorem dX5_rollBy_41 : decode cX5_rollBy 41 = .ok (.getfield 14, 3) := by decide +kernel
theorem dX5_rollBy_44 : decode cX5_rollBy 44 = .ok (.getfield 90, 3) := by decide +kernel
theorem dX5_rollBy_47 : decode cX5_rollBy 47 = .ok (.iload 5, 2) := by decide +kernel
theorem dX5_rollBy_49 : decode cX5_rollBy 49 = .ok (.iaload, 1) := by decide +kernel
theorem dX5_rollBy_50 : decode cX5_rollBy 50 = .ok (.istore 8, 2) := by decide +kernel
theorem dX5_rollBy_52 : decode cX5_rollBy 52 = .ok (.iload 8, 2) := by decide +kernel
theorem dX5_rollBy_54 : decode cX5_rollBy 54 = .ok (.iconst 4, 1) := by decide +kernel
theorem dX5_rollBy_55 : decode cX5_rollBy 55 = .ok (.if_icmp .ne 6, 3) := by decide +kernel
theorem dX5_rollBy_58 : decode cX5_rollBy 58 = .ok (.bipush (-9), 2) := by decide +kernel
theorem dX5_rollBy_60 : decode cX5_rollBy 60 = .ok (.ireturn, 1) := by decide +kernel
theorem dX5_rollBy_61 : decode cX5_rollBy 61 = .ok (.iconst 0, 1) := by decide +kernel
theorem dX5_rollBy_62 : decode cX5_rollBy 62 = .ok (.istore 9, 2) := by decide +kernel
theorem dX5_rollBy_64 : decode cX5_rollBy 64 = .ok (.iload 8, 2) := by decide +kernel
theorem dX5_rollBy_66 : decode cX5_rollBy 66 = .ok (.iconst 1, 1) := by decide +kernel
theorem dX5_rollBy_67 : decode cX5_rollBy 67 = .ok (.if_icmp .ne 29, 3) := by decide +kernel
theorem dX5_rollBy_70 : decode cX5_rollBy 70 = .ok (.aload_n 2, 1) := by decide +kernel
theorem dX5_rollBy_71 : decode cX5_rollBy 71 = .ok (.iload 6, 2) := by decide +kernel
theorem dX5_rollBy_73 : decode cX5_rollBy 73 = .ok (.invokevirtual 137, 3) := by decide +kernel
theorem dX5_rollBy_76 : decode cX5_rollBy 76 = .ok (.ifCond .ne 9, 3) := by decide +kernel
theorem dX5_rollBy_79 : decode cX5_rollBy 79 = .ok (.aload_n 0, 1) := by decide +kernel
theorem dX5_rollBy_80 : decode cX5_rollBy 80 = .ok (.iconst 3, 1) := by decide +kernel
theorem dX5_rollBy_81 : decode cX5_rollBy 81 = .ok (.invokevirtual 70, 3) := by decide +kernel
theorem dX5_rollBy_84 : decode cX5_rollBy 84 = .ok (.ireturn, 1) := by decide +kernel
theorem dX5_rollBy_85 : decode cX5_rollBy 85 = .ok (.aload_n 2, 1) := by decide +kernel
theorem dX5_rollBy_86 : decode cX5_rollBy 86 = .ok (.iload 6, 2) := by decide +kernel
theorem dX5_rollBy_88 : decode cX5_rollBy 88 = .ok (.invokevirtual 138, 3) := by decide +kernel
theorem dX5_rollBy_91 : decode cX5_rollBy 91 = .ok (.istore 9, 2) := by decide +kernel
theorem dX5_rollBy_93 : decode cX5_rollBy 93 = .ok (.iinc 6 1, 3) := by decide +kernel
theorem dX5_rollBy_96 : decode cX5_rollBy 96 = .ok (.iload 9, 2) := by decide +kernel
theorem dX5_rollBy_98 : decode cX5_rollBy 98 = .ok (.ifCond .lt 10, 3) := by decide +kernel
theorem dX5_rollBy_101 : decode cX5_rollBy 101 = .ok (.iload 9, 2) := by decide +kernel
theorem dX5_rollBy_103 : decode cX5_rollBy 103 = .ok (.bipush 8, 2) := by decide +kernel
theorem dX5_rollBy_105 : decode cX5_rollBy 105 = .ok (.if_icmp .lt 6, 3) := by decide +kernel
theorem dX5_rollBy_108 : decode cX5_rollBy 108 = .ok (.bipush (-2), 2) := by decide +kernel
theorem dX5_rollBy_110 : decode cX5_rollBy 110 = .ok (.ireturn, 1) := by decide +kernel
theorem dX5_rollBy_111 : decode cX5_rollBy 111 = .ok (.aload_n 0, 1) := by decide +kernel
theorem dX5_rollBy_112 : decode cX5_rollBy 112 = .ok (.getfield 14, 3) := by decide +kernel
theorem dX5_rollBy_115 : decode cX5_rollBy 115 = .ok (.iload 5, 2) := by decide +kernel
theorem dX5_rollBy_117 : decode cX5_rollBy 117 = .ok (.iload 8, 2) := by decide +kernel
theorem dX5_rollBy_119 : decode cX5_rollBy 119 = .ok (.iload 4, 2) := by decide +kernel
theorem dX5_rollBy_121 : decode cX5_rollBy 121 = .ok (.iload 9, 2) := by decide +kernel
theorem dX5_rollBy_123 : decode cX5_rollBy 123 = .ok (.invokevirtual 141, 3) := by decide +kernel
theorem dX5_rollBy_126 : decode cX5_rollBy 126 = .ok (.istore 5, 2) := by decide +kernel
theorem dX5_rollBy_128 : decode cX5_rollBy 128 = .ok (.iinc 7 1, 3) := by decide +kernel
theorem dX5_rollBy_131 : decode cX5_rollBy 131 = .ok (.goto (-103), 3) := by decide +kernel
theorem dX5_rollBy_134 : decode cX5_rollBy 134 = .ok (.iload 5, 2) := by decide +kernel
theorem dX5_rollBy_136 : decode cX5_rollBy 136 = .ok (.aload_n 0, 1) := by decide +kernel
theorem dX5_rollBy_137 : decode cX5_rollBy 137 = .ok (.getfield 14, 3) := by decide +kernel
theorem dX5_rollBy_140 : decode cX5_rollBy 140 = .ok (.invokevirtual 83, 3) := by decide +kernel
theorem dX5_rollBy_143 : decode cX5_rollBy 143 = .ok (.isub, 1) := by decide +kernel
theorem dX5_rollBy_144 : decode cX5_rollBy 144 = .ok (.ireturn, 1) := by decide +kernel
theorem dX5_chance_0 : decode cX5_chance 0 = .ok (.aload_n 0, 1) := by decide +kernel
theorem dX5_chance_1 : decode cX5_chance 1 = .ok (.getfield 21, 3) := by decide +kernel
theorem dX5_chance_4 : decode cX5_chance 4 = .ok (.iload_n 1, 1) := by decide +kernel
theorem dX5_chance_5 : decode cX5_chance 5 = .ok (.invokevirtual 115, 3) := by decide +kernel
theorem dX5_chance_8 : decode cX5_chance 8 = .ok (.ifCond .eq 19, 3) := by decide +kernel
theorem dX5_chance_11 : decode cX5_chance 11 = .ok (.iload_n 2, 1) := by decide +kernel
theorem dX5_chance_12 : decode cX5_chance 12 = .ok (.iconst (-1), 1) := by decide +kernel
theorem dX5_chance_13 : decode cX5_chance 13 = .ok (.if_icmp .eq 18, 3) := by decide +kernel
theorem dX5_chance_16 : decode cX5_chance 16 = .ok (.aload_n 0, 1) := by decide +kernel
theorem dX5_chance_17 : decode cX5_chance 17 = .ok (.getfield 14, 3) := by decide +kernel
theorem dX5_chance_20 : decode cX5_chance 20 = .ok (.iload_n 2, 1) := by decide +kernel
theorem dX5_chance_21 : decode cX5_chance 21 = .ok (.invokevirtual 94, 3) := by decide +kernel
theorem dX5_chance_24 : decode cX5_chance 24 = .ok (.ifCond .ne 7, 3) := by decide +kernel
theorem dX5_chance_27 : decode cX5_chance 27 = .ok (.ldc2_w 145, 3) := by decide +kernel
theorem dX5_chance_30 : decode cX5_chance 30 = .ok (.lreturn, 1) := by decide +kernel
theorem dX5_chance_31 : decode cX5_chance 31 = .ok (.iload_n 3, 1) := by decide +kernel
theorem dX5_chance_32 : decode cX5_chance 32 = .ok (.ifCond .lt 8, 3) := by decide +kernel
theorem dX5_chance_35 : decode cX5_chance 35 = .ok (.iload_n 3, 1) := by decide +kernel
theorem dX5_chance_36 : decode cX5_chance 36 = .ok (.iconst 1, 1) := by decide +kernel
theorem dX5_chance_37 : decode cX5_chance 37 = .ok (.if_icmp .le 7, 3) := by decide +kernel
theorem dX5_chance_40 : decode cX5_chance 40 = .ok (.ldc2_w 145, 3) := by decide +kernel
theorem dX5_chance_43 : decode cX5_chance 43 = .ok (.lreturn, 1) := by decide +kernel
theorem dX5_chance_44 : decode cX5_chance 44 = .ok (.aload_n 0, 1) := by decide +kernel
theorem dX5_chance_45 : decode cX5_chance 45 = .ok (.getfield 30, 3) := by decide +kernel
theorem dX5_chance_48 : decode cX5_chance 48 = .ok (.aload_n 0, 1) := by decide +kernel
theorem dX5_chance_49 : decode cX5_chance 49 = .ok (.getfield 21, 3) := by decide +kernel
theorem dX5_chance_52 : decode cX5_chance 52 = .ok (.getfield 118, 3) := by decide +kernel
theorem dX5_chance_55 : decode cX5_chance 55 = .ok (.iload_n 1, 1) := by decide +kernel
theorem dX5_chance_56 : decode cX5_chance 56 = .ok (.iaload, 1) := by decide +kernel
theorem dX5_chance_57 : decode cX5_chance 57 = .ok (.aload_n 0, 1) := by decide +kernel
theorem dX5_chance_58 : decode cX5_chance 58 = .ok (.getfield 21, 3) := by decide +kernel
theorem dX5_chance_61 : decode cX5_chance 61 = .ok (.getfield 121, 3) := by decide +kernel
theorem dX5_chance_64 : decode cX5_chance 64 = .ok (.iload_n 1, 1) := by decide +kernel
theorem dX5_chance_65 : decode cX5_chance 65 = .ok (.iaload, 1) := by decide +kernel
theorem dX5_chance_66 : decode cX5_chance 66 = .ok (.invokevirtual 147, 3) := by decide +kernel
theorem dX5_chance_69 : decode cX5_chance 69 = .ok (.iload_n 2, 1) := by decide +kernel
theorem dX5_chance_70 : decode cX5_chance 70 = .ok (.iconst (-1), 1) := by decide +kernel
theorem dX5_chance_71 : decode cX5_chance 71 = .ok (.if_icmp .ne 22, 3) := by decide +kernel
theorem dX5_chance_74 : decode cX5_chance 74 = .ok (.aload_n 0, 1) := by decide +kernel
theorem dX5_chance_75 : decode cX5_chance 75 = .ok (.getfield 30, 3) := by decide +kernel
theorem dX5_chance_78 : decode cX5_chance 78 = .ok (.aload_n 0, 1) := by decide +kernel
theorem dX5_chance_79 : decode cX5_chance 79 = .ok (.getfield 21, 3) := by decide +kernel
theorem dX5_chance_82 : decode cX5_chance 82 = .ok (.getfield 118, 3) := by decide +kernel
theorem dX5_chance_85 : decode cX5_chance 85 = .ok (.iload_n 1, 1) := by decide +kernel
theorem dX5_chance_86 : decode cX5_chance 86 = .ok (.iaload, 1) := by decide +kernel
theorem dX5_chance_87 : decode cX5_chance 87 = .ok (.invokevirtual 151, 3) := by decide +kernel
theorem dX5_chance_90 : decode cX5_chance 90 = .ok (.goto 20, 3) := by decide +kernel
theorem dX5_chance_93 : decode cX5_chance 93 = .ok (.aload_n 0, 1) := by decide +kernel
theorem dX5_chance_94 : decode cX5_chance 94 = .ok (.getfield 30, 3) := by decide +kernel
theorem dX5_chance_97 : decode cX5_chance 97 = .ok (.aload_n 0, 1) := by decide +kernel
theorem dX5_chance_98 : decode cX5_chance 98 = .ok (.getfield 21, 3) := by decide +kernel
theorem dX5_chance_101 : decode cX5_chance 101 = .ok (.getfield 118, 3) := by decide +kernel
theorem dX5_chance_104 : decode cX5_chance 104 = .ok (.iload_n 1, 1) := by decide +kernel
theorem dX5_chance_105 : decode cX5_chance 105 = .ok (.iaload, 1) := by decide +kernel
theorem dX5_chance_106 : decode cX5_chance 106 = .ok (.iload_n 2, 1) := by decide +kernel
theorem dX5_chance_107 : decode cX5_chance 107 = .ok (.invokevirtual 154, 3) := by decide +kernel
theorem dX5_chance_110 : decode cX5_chance 110 = .ok (.istore 4, 2) := by decide +kernel
theorem dX5_chance_112 : decode cX5_chance 112 = .ok (.iload 4, 2) := by decide +kernel
theorem dX5_chance_114 : decode cX5_chance 114 = .ok (.iload_n 3, 1) := by decide +kernel
theorem dX5_chance_115 : decode cX5_chance 115 = .ok (.invokestatic 157, 3) := by decide +kernel
theorem dX5_chance_118 : decode cX5_chance 118 = .ok (.i2l, 1) := by decide +kernel
theorem dX5_chance_119 : decode cX5_chance 119 = .ok (.lreturn, 1) := by decide +kernel
theorem dX5_expects_0 : decode cX5_expects 0 = .ok (.iload_n 1, 1) := by decide +kernel
theorem dX5_expects_1 : decode cX5_expects 1 = .ok (.invokestatic 160, 3) := by decide +kernel
theorem dX5_expects_4 : decode cX5_expects 4 = .ok (.ifCond .eq 22, 3) := by decide +kernel
theorem dX5_expects_7 : decode cX5_expects 7 = .ok (.iload_n 2, 1) := by decide +kernel
theorem dX5_expects_8 : decode cX5_expects 8 = .ok (.ifCond .lt 18, 3) := by decide +kernel
theorem dX5_expects_11 : decode cX5_expects 11 = .ok (.iload_n 2, 1) := by decide +kernel
theorem dX5_expects_12 : decode cX5_expects 12 = .ok (.iconst 1, 1) := by decide +kernel
theorem dX5_expects_13 : decode cX5_expects 13 = .ok (.if_icmp .gt 13, 3) := by decide +kernel
theorem dX5_expects_16 : decode cX5_expects 16 = .ok (.aload_n 0, 1) := by decide +kernel
theorem dX5_expects_17 : decode cX5_expects 17 = .ok (.getfield 14, 3) := by decide +kernel
theorem dX5_expects_20 : decode cX5_expects 20 = .ok (.invokevirtual 100, 3) := by decide +kernel
theorem dX5_expects_23 : decode cX5_expects 23 = .ok (.ifCond .ne 7, 3) := by decide +kernel
theorem dX5_expects_26 : decode cX5_expects 26 = .ok (.ldc2_w 145, 3) := by decide +kernel
theorem dX5_expects_29 : decode cX5_expects 29 = .ok (.lreturn, 1) := by decide +kernel
theorem dX5_expects_30 : decode cX5_expects 30 = .ok (.aload_n 0, 1) := by decide +kernel
theorem dX5_expects_31 : decode cX5_expects 31 = .ok (.getfield 30, 3) := by decide +kernel
theorem dX5_expects_34 : decode cX5_expects 34 = .ok (.iload_n 1, 1) := by decide +kernel
theorem dX5_expects_35 : decode cX5_expects 35 = .ok (.invokevirtual 163, 3) := by decide +kernel
theorem dX5_expects_38 : decode cX5_expects 38 = .ok (.iload_n 2, 1) := by decide +kernel
theorem dX5_expects_39 : decode cX5_expects 39 = .ok (.invokestatic 157, 3) := by decide +kernel
theorem dX5_expects_42 : decode cX5_expects 42 = .ok (.i2l, 1) := by decide +kernel
theorem dX5_expects_43 : decode cX5_expects 43 = .ok (.lreturn, 1) := by decide +kernel
theorem dX5_leastTerms_0 : decode cX5_leastTerms 0 = .ok (.iload_n 0, 1) := by decide +kernel
theorem dX5_leastTerms_1 : decode cX5_leastTerms 1 = .ok (.istore_n 2, 1) := by decide +kernel
theorem dX5_leastTerms_2 : decode cX5_leastTerms 2 = .ok (.ldc 166, 2) := by decide +kernel
theorem dX5_leastTerms_4 : decode cX5_leastTerms 4 = .ok (.istore_n 3, 1) := by decide +kernel
theorem dX5_leastTerms_5 : decode cX5_leastTerms 5 = .ok (.iload_n 3, 1) := by decide +kernel
theorem dX5_leastTerms_6 : decode cX5_leastTerms 6 = .ok (.iconst 1, 1) := by decide +kernel
theorem dX5_leastTerms_7 : decode cX5_leastTerms 7 = .ok (.if_icmp .le 20, 3) := by decide +kernel
theorem dX5_leastTerms_10 : decode cX5_leastTerms 10 = .ok (.iload_n 2, 1) := by decide +kernel
theorem dX5_leastTerms_11 : decode cX5_leastTerms 11 = .ok (.iconst 2, 1) := by decide +kernel
theorem dX5_leastTerms_12 : decode cX5_leastTerms 12 = .ok (.irem, 1) := by decide +kernel
theorem dX5_leastTerms_13 : decode cX5_leastTerms 13 = .ok (.ifCond .ne 14, 3) := by decide +kernel
theorem dX5_leastTerms_16 : decode cX5_leastTerms 16 = .ok (.iload_n 2, 1) := by decide +kernel
theorem dX5_leastTerms_17 : decode cX5_leastTerms 17 = .ok (.iconst 2, 1) := by decide +kernel
theorem dX5_leastTerms_18 : decode cX5_leastTerms 18 = .ok (.idiv, 1) := by decide +kernel
theorem dX5_leastTerms_19 : decode cX5_leastTerms 19 = .ok (.istore_n 2, 1) := by decide +kernel
theorem dX5_leastTerms_20 : decode cX5_leastTerms 20 = .ok (.iload_n 3, 1) := by decide +kernel
theorem dX5_leastTerms_21 : decode cX5_leastTerms 21 = .ok (.iconst 2, 1) := by decide +kernel
theorem dX5_leastTerms_22 : decode cX5_leastTerms 22 = .ok (.idiv, 1) := by decide +kernel
theorem dX5_leastTerms_23 : decode cX5_leastTerms 23 = .ok (.istore_n 3, 1) := by decide +kernel
theorem dX5_leastTerms_24 : decode cX5_leastTerms 24 = .ok (.goto (-19), 3) := by decide +kernel
theorem dX5_leastTerms_27 : decode cX5_leastTerms 27 = .ok (.iload_n 1, 1) := by decide +kernel
theorem dX5_leastTerms_28 : decode cX5_leastTerms 28 = .ok (.ifCond .ne 7, 3) := by decide +kernel
theorem dX5_leastTerms_31 : decode cX5_leastTerms 31 = .ok (.iload_n 2, 1) := by decide +kernel
theorem dX5_leastTerms_32 : decode cX5_leastTerms 32 = .ok (.goto 4, 3) := by decide +kernel
theorem dX5_leastTerms_35 : decode cX5_leastTerms 35 = .ok (.iload_n 3, 1) := by decide +kernel
theorem dX5_leastTerms_36 : decode cX5_leastTerms 36 = .ok (.ireturn, 1) := by decide +kernel
theorem dX5_start_0 : decode cX5_start 0 = .ok (.aload_n 0, 1) := by decide +kernel
theorem dX5_start_1 : decode cX5_start 1 = .ok (.getfield 21, 3) := by decide +kernel
theorem dX5_start_4 : decode cX5_start 4 = .ok (.iload_n 1, 1) := by decide +kernel
theorem dX5_start_5 : decode cX5_start 5 = .ok (.invokevirtual 115, 3) := by decide +kernel
theorem dX5_start_8 : decode cX5_start 8 = .ok (.ifCond .eq 10, 3) := by decide +kernel
theorem dX5_start_11 : decode cX5_start 11 = .ok (.iload_n 2, 1) := by decide +kernel
theorem dX5_start_12 : decode cX5_start 12 = .ok (.invokestatic 160, 3) := by decide +kernel
theorem dX5_start_15 : decode cX5_start 15 = .ok (.ifCond .ne 5, 3) := by decide +kernel
theorem dX5_start_18 : decode cX5_start 18 = .ok (.iconst (-1), 1) := by decide +kernel
theorem dX5_start_19 : decode cX5_start 19 = .ok (.ireturn, 1) := by decide +kernel
theorem dX5_start_20 : decode cX5_start 20 = .ok (.aload_n 0, 1) := by decide +kernel
theorem dX5_start_21 : decode cX5_start 21 = .ok (.getfield 30, 3) := by decide +kernel
theorem dX5_start_24 : decode cX5_start 24 = .ok (.aload_n 0, 1) := by decide +kernel
theorem dX5_start_25 : decode cX5_start 25 = .ok (.getfield 21, 3) := by decide +kernel
theorem dX5_start_28 : decode cX5_start 28 = .ok (.getfield 118, 3) := by decide +kernel
theorem dX5_start_31 : decode cX5_start 31 = .ok (.iload_n 1, 1) := by decide +kernel
theorem dX5_start_32 : decode cX5_start 32 = .ok (.iaload, 1) := by decide +kernel
theorem dX5_start_33 : decode cX5_start 33 = .ok (.iload_n 2, 1) := by decide +kernel
theorem dX5_start_34 : decode cX5_start 34 = .ok (.invokevirtual 167, 3) := by decide +kernel
theorem dX5_start_37 : decode cX5_start 37 = .ok (.ireturn, 1) := by decide +kernel
theorem dX5_move_0 : decode cX5_move 0 = .ok (.iload_n 1, 1) := by decide +kernel
theorem dX5_move_1 : decode cX5_move 1 = .ok (.invokestatic 160, 3) := by decide +kernel
theorem dX5_move_4 : decode cX5_move 4 = .ok (.ifCond .ne 5, 3) := by decide +kernel
theorem dX5_move_7 : decode cX5_move 7 = .ok (.iconst (-1), 1) := by decide +kernel
theorem dX5_move_8 : decode cX5_move 8 = .ok (.ireturn, 1) := by decide +kernel
theorem dX5_move_9 : decode cX5_move 9 = .ok (.aload_n 0, 1) := by decide +kernel
theorem dX5_move_10 : decode cX5_move 10 = .ok (.getfield 14, 3) := by decide +kernel
theorem dX5_move_13 : decode cX5_move 13 = .ok (.invokevirtual 100, 3) := by decide +kernel
theorem dX5_move_16 : decode cX5_move 16 = .ok (.ifCond .eq 14, 3) := by decide +kernel
theorem dX5_move_19 : decode cX5_move 19 = .ok (.aload_n 0, 1) := by decide +kernel
theorem dX5_move_20 : decode cX5_move 20 = .ok (.getfield 30, 3) := by decide +kernel
theorem dX5_move_23 : decode cX5_move 23 = .ok (.iload_n 1, 1) := by decide +kernel
theorem dX5_move_24 : decode cX5_move 24 = .ok (.invokevirtual 170, 3) := by decide +kernel
theorem dX5_move_27 : decode cX5_move 27 = .ok (.goto 5, 3) := by decide +kernel
theorem dX5_move_30 : decode cX5_move 30 = .ok (.bipush (-3), 2) := by decide +kernel
theorem dX5_move_32 : decode cX5_move 32 = .ok (.ireturn, 1) := by decide +kernel
theorem dX5_answer_0 : decode cX5_answer 0 = .ok (.iload_n 1, 1) := by decide +kernel
theorem dX5_answer_1 : decode cX5_answer 1 = .ok (.invokestatic 160, 3) := by decide +kernel
theorem dX5_answer_4 : decode cX5_answer 4 = .ok (.ifCond .eq 10, 3) := by decide +kernel
theorem dX5_answer_7 : decode cX5_answer 7 = .ok (.iload_n 2, 1) := by decide +kernel
theorem dX5_answer_8 : decode cX5_answer 8 = .ok (.invokestatic 160, 3) := by decide +kernel
theorem dX5_answer_11 : decode cX5_answer 11 = .ok (.ifCond .ne 5, 3) := by decide +kernel
theorem dX5_answer_14 : decode cX5_answer 14 = .ok (.iconst (-1), 1) := by decide +kernel
theorem dX5_answer_15 : decode cX5_answer 15 = .ok (.ireturn, 1) := by decide +kernel
theorem dX5_answer_16 : decode cX5_answer 16 = .ok (.iload_n 1, 1) := by decide +kernel
theorem dX5_answer_17 : decode cX5_answer 17 = .ok (.iload_n 2, 1) := by decide +kernel
theorem dX5_answer_18 : decode cX5_answer 18 = .ok (.if_icmp .ne 6, 3) := by decide +kernel
theorem dX5_answer_21 : decode cX5_answer 21 = .ok (.bipush (-2), 2) := by decide +kernel
theorem dX5_answer_23 : decode cX5_answer 23 = .ok (.ireturn, 1) := by decide +kernel
theorem dX5_answer_24 : decode cX5_answer 24 = .ok (.aload_n 0, 1) := by decide +kernel
theorem dX5_answer_25 : decode cX5_answer 25 = .ok (.getfield 14, 3) := by decide +kernel
theorem dX5_answer_28 : decode cX5_answer 28 = .ok (.invokevirtual 100, 3) := by decide +kernel
theorem dX5_answer_31 : decode cX5_answer 31 = .ok (.ifCond .ne 6, 3) := by decide +kernel
theorem dX5_answer_34 : decode cX5_answer 34 = .ok (.bipush (-3), 2) := by decide +kernel
theorem dX5_answer_36 : decode cX5_answer 36 = .ok (.ireturn, 1) := by decide +kernel
theorem dX5_answer_37 : decode cX5_answer 37 = .ok (.aload_n 0, 1) := by decide +kernel
theorem dX5_answer_38 : decode cX5_answer 38 = .ok (.getfield 30, 3) := by decide +kernel
theorem dX5_answer_41 : decode cX5_answer 41 = .ok (.iload_n 1, 1) := by decide +kernel
theorem dX5_answer_42 : decode cX5_answer 42 = .ok (.invokevirtual 170, 3) := by decide +kernel
theorem dX5_answer_45 : decode cX5_answer 45 = .ok (.istore_n 3, 1) := by decide +kernel
theorem dX5_answer_46 : decode cX5_answer 46 = .ok (.iload_n 3, 1) := by decide +kernel
theorem dX5_answer_47 : decode cX5_answer 47 = .ok (.bipush (-9), 2) := by decide +kernel
theorem dX5_answer_49 : decode cX5_answer 49 = .ok (.if_icmp .ne 12, 3) := by decide +kernel
theorem dX5_answer_52 : decode cX5_answer 52 = .ok (.aload_n 0, 1) := by decide +kernel
theorem dX5_answer_53 : decode cX5_answer 53 = .ok (.getfield 30, 3) := by decide +kernel
theorem dX5_answer_56 : decode cX5_answer 56 = .ok (.iload_n 2, 1) := by decide +kernel
theorem dX5_answer_57 : decode cX5_answer 57 = .ok (.invokevirtual 170, 3) := by decide +kernel
theorem dX5_answer_60 : decode cX5_answer 60 = .ok (.ireturn, 1) := by decide +kernel
theorem dX5_answer_61 : decode cX5_answer 61 = .ok (.iload_n 3, 1) := by decide +kernel
theorem dX5_answer_62 : decode cX5_answer 62 = .ok (.bipush 10, 2) := by decide +kernel
theorem dX5_answer_64 : decode cX5_answer 64 = .ok (.idiv, 1) := by decide +kernel
theorem dX5_answer_65 : decode cX5_answer 65 = .ok (.istore 4, 2) := by decide +kernel
theorem dX5_answer_67 : decode cX5_answer 67 = .ok (.aload_n 0, 1) := by decide +kernel
theorem dX5_answer_68 : decode cX5_answer 68 = .ok (.getfield 14, 3) := by decide +kernel
theorem dX5_answer_71 : decode cX5_answer 71 = .ok (.getfield 90, 3) := by decide +kernel
theorem dX5_answer_74 : decode cX5_answer 74 = .ok (.iload 4, 2) := by decide +kernel
theorem dX5_answer_76 : decode cX5_answer 76 = .ok (.iaload, 1) := by decide +kernel
theorem dX5_answer_77 : decode cX5_answer 77 = .ok (.istore 5, 2) := by decide +kernel
theorem dX5_answer_79 : decode cX5_answer 79 = .ok (.aload_n 0, 1) := by decide +kernel
theorem dX5_answer_80 : decode cX5_answer 80 = .ok (.getfield 14, 3) := by decide +kernel
theorem dX5_answer_83 : decode cX5_answer 83 = .ok (.getfield 90, 3) := by decide +kernel
theorem dX5_answer_86 : decode cX5_answer 86 = .ok (.iload 4, 2) := by decide +kernel
theorem dX5_answer_88 : decode cX5_answer 88 = .ok (.iload_n 3, 1) := by decide +kernel
theorem dX5_answer_89 : decode cX5_answer 89 = .ok (.bipush 10, 2) := by decide +kernel
theorem dX5_answer_91 : decode cX5_answer 91 = .ok (.irem, 1) := by decide +kernel
theorem dX5_answer_92 : decode cX5_answer 92 = .ok (.iastore, 1) := by decide +kernel
theorem dX5_answer_93 : decode cX5_answer 93 = .ok (.aload_n 0, 1) := by decide +kernel
theorem dX5_answer_94 : decode cX5_answer 94 = .ok (.getfield 30, 3) := by decide +kernel
theorem dX5_answer_97 : decode cX5_answer 97 = .ok (.iload_n 2, 1) := by decide +kernel
theorem dX5_answer_98 : decode cX5_answer 98 = .ok (.invokevirtual 170, 3) := by decide +kernel
theorem dX5_answer_101 : decode cX5_answer 101 = .ok (.istore 6, 2) := by decide +kernel
theorem dX5_answer_103 : decode cX5_answer 103 = .ok (.aload_n 0, 1) := by decide +kernel
theorem dX5_answer_104 : decode cX5_answer 104 = .ok (.getfield 14, 3) := by decide +kernel
theorem dX5_answer_107 : decode cX5_answer 107 = .ok (.getfield 90, 3) := by decide +kernel
theorem dX5_answer_110 : decode cX5_answer 110 = .ok (.iload 4, 2) := by decide +kernel
theorem dX5_answer_112 : decode cX5_answer 112 = .ok (.iload 5, 2) := by decide +kernel
theorem dX5_answer_114 : decode cX5_answer 114 = .ok (.iastore, 1) := by decide +kernel
theorem dX5_answer_115 : decode cX5_answer 115 = .ok (.iload 6, 2) := by decide +kernel
theorem dX5_answer_117 : decode cX5_answer 117 = .ok (.ireturn, 1) := by decide +kernel
theorem dX5_likeliest_0 : decode cX5_likeliest 0 = .ok (.aload_n 0, 1) := by decide +kernel
theorem dX5_likeliest_1 : decode cX5_likeliest 1 = .ok (.getfield 21, 3) := by decide +kernel
theorem dX5_likeliest_4 : decode cX5_likeliest 4 = .ok (.iload_n 1, 1) := by decide +kernel
theorem dX5_likeliest_5 : decode cX5_likeliest 5 = .ok (.invokevirtual 115, 3) := by decide +kernel
theorem dX5_likeliest_8 : decode cX5_likeliest 8 = .ok (.ifCond .ne 5, 3) := by decide +kernel
theorem dX5_likeliest_11 : decode cX5_likeliest 11 = .ok (.iconst (-1), 1) := by decide +kernel
theorem dX5_likeliest_12 : decode cX5_likeliest 12 = .ok (.ireturn, 1) := by decide +kernel
theorem dX5_likeliest_13 : decode cX5_likeliest 13 = .ok (.aload_n 0, 1) := by decide +kernel
theorem dX5_likeliest_14 : decode cX5_likeliest 14 = .ok (.getfield 30, 3) := by decide +kernel
theorem dX5_likeliest_17 : decode cX5_likeliest 17 = .ok (.iload_n 1, 1) := by decide +kernel
theorem dX5_likeliest_18 : decode cX5_likeliest 18 = .ok (.invokevirtual 173, 3) := by decide +kernel
theorem dX5_likeliest_21 : decode cX5_likeliest 21 = .ok (.istore_n 2, 1) := by decide +kernel
theorem dX5_likeliest_22 : decode cX5_likeliest 22 = .ok (.iload_n 2, 1) := by decide +kernel
theorem dX5_likeliest_23 : decode cX5_likeliest 23 = .ok (.bipush 6, 2) := by decide +kernel
theorem dX5_likeliest_25 : decode cX5_likeliest 25 = .ok (.if_icmp .ne 8, 3) := by decide +kernel
theorem dX5_likeliest_28 : decode cX5_likeliest 28 = .ok (.bipush (-9), 2) := by decide +kernel
theorem dX5_likeliest_30 : decode cX5_likeliest 30 = .ok (.goto 4, 3) := by decide +kernel
theorem dX5_likeliest_33 : decode cX5_likeliest 33 = .ok (.iload_n 2, 1) := by decide +kernel
theorem dX5_likeliest_34 : decode cX5_likeliest 34 = .ok (.ireturn, 1) := by decide +kernel
theorem dX5_tally_0 : decode cX5_tally 0 = .ok (.iload_n 1, 1) := by decide +kernel
theorem dX5_tally_1 : decode cX5_tally 1 = .ok (.invokestatic 160, 3) := by decide +kernel
theorem dX5_tally_4 : decode cX5_tally 4 = .ok (.ifCond .ne 5, 3) := by decide +kernel
theorem dX5_tally_7 : decode cX5_tally 7 = .ok (.iconst (-1), 1) := by decide +kernel
theorem dX5_tally_8 : decode cX5_tally 8 = .ok (.ireturn, 1) := by decide +kernel
theorem dX5_tally_9 : decode cX5_tally 9 = .ok (.aload_n 0, 1) := by decide +kernel
theorem dX5_tally_10 : decode cX5_tally 10 = .ok (.getfield 14, 3) := by decide +kernel
theorem dX5_tally_13 : decode cX5_tally 13 = .ok (.invokevirtual 100, 3) := by decide +kernel
theorem dX5_tally_16 : decode cX5_tally 16 = .ok (.ifCond .eq 14, 3) := by decide +kernel
theorem dX5_tally_19 : decode cX5_tally 19 = .ok (.aload_n 0, 1) := by decide +kernel
theorem dX5_tally_20 : decode cX5_tally 20 = .ok (.getfield 30, 3) := by decide +kernel
theorem dX5_tally_23 : decode cX5_tally 23 = .ok (.iload_n 1, 1) := by decide +kernel
theorem dX5_tally_24 : decode cX5_tally 24 = .ok (.invokevirtual 176, 3) := by decide +kernel
theorem dX5_tally_27 : decode cX5_tally 27 = .ok (.goto 5, 3) := by decide +kernel
theorem dX5_tally_30 : decode cX5_tally 30 = .ok (.bipush (-3), 2) := by decide +kernel
theorem dX5_tally_32 : decode cX5_tally 32 = .ok (.ireturn, 1) := by decide +kernel
theorem dX5_winner_0 : decode cX5_winner 0 = .ok (.iload_n 1, 1) := by decide +kernel
theorem dX5_winner_1 : decode cX5_winner 1 = .ok (.ifCond .lt 8, 3) := by decide +kernel
theorem dX5_winner_4 : decode cX5_winner 4 = .ok (.iload_n 1, 1) := by decide +kernel
theorem dX5_winner_5 : decode cX5_winner 5 = .ok (.iconst 1, 1) := by decide +kernel
theorem dX5_winner_6 : decode cX5_winner 6 = .ok (.if_icmp .le 6, 3) := by decide +kernel
theorem dX5_winner_9 : decode cX5_winner 9 = .ok (.bipush (-2), 2) := by decide +kernel
theorem dX5_winner_11 : decode cX5_winner 11 = .ok (.ireturn, 1) := by decide +kernel
theorem dX5_winner_12 : decode cX5_winner 12 = .ok (.aload_n 0, 1) := by decide +kernel
theorem dX5_winner_13 : decode cX5_winner 13 = .ok (.getfield 14, 3) := by decide +kernel
theorem dX5_winner_16 : decode cX5_winner 16 = .ok (.invokevirtual 100, 3) := by decide +kernel
theorem dX5_winner_19 : decode cX5_winner 19 = .ok (.ifCond .ne 6, 3) := by decide +kernel
theorem dX5_winner_22 : decode cX5_winner 22 = .ok (.bipush (-3), 2) := by decide +kernel
theorem dX5_winner_24 : decode cX5_winner 24 = .ok (.ireturn, 1) := by decide +kernel
theorem dX5_winner_25 : decode cX5_winner 25 = .ok (.iload_n 1, 1) := by decide +kernel
theorem dX5_winner_26 : decode cX5_winner 26 = .ok (.ifCond .ne 13, 3) := by decide +kernel
theorem dX5_winner_29 : decode cX5_winner 29 = .ok (.aload_n 0, 1) := by decide +kernel
theorem dX5_winner_30 : decode cX5_winner 30 = .ok (.getfield 30, 3) := by decide +kernel
theorem dX5_winner_33 : decode cX5_winner 33 = .ok (.invokevirtual 179, 3) := by decide +kernel
theorem dX5_winner_36 : decode cX5_winner 36 = .ok (.goto 10, 3) := by decide +kernel
theorem dX5_winner_39 : decode cX5_winner 39 = .ok (.aload_n 0, 1) := by decide +kernel
theorem dX5_winner_40 : decode cX5_winner 40 = .ok (.getfield 30, 3) := by decide +kernel
theorem dX5_winner_43 : decode cX5_winner 43 = .ok (.invokevirtual 182, 3) := by decide +kernel
theorem dX5_winner_46 : decode cX5_winner 46 = .ok (.ireturn, 1) := by decide +kernel
theorem dX5_dams_0 : decode cX5_dams 0 = .ok (.iload_n 1, 1) := by decide +kernel
theorem dX5_dams_1 : decode cX5_dams 1 = .ok (.ifCond .lt 18, 3) := by decide +kernel
theorem dX5_dams_4 : decode cX5_dams 4 = .ok (.iload_n 1, 1) := by decide +kernel
theorem dX5_dams_5 : decode cX5_dams 5 = .ok (.iconst 1, 1) := by decide +kernel
theorem dX5_dams_6 : decode cX5_dams 6 = .ok (.if_icmp .gt 13, 3) := by decide +kernel
theorem dX5_dams_9 : decode cX5_dams 9 = .ok (.aload_n 0, 1) := by decide +kernel
theorem dX5_dams_10 : decode cX5_dams 10 = .ok (.getfield 14, 3) := by decide +kernel
theorem dX5_dams_13 : decode cX5_dams 13 = .ok (.invokevirtual 100, 3) := by decide +kernel
theorem dX5_dams_16 : decode cX5_dams 16 = .ok (.ifCond .ne 7, 3) := by decide +kernel
theorem dX5_dams_19 : decode cX5_dams 19 = .ok (.ldc2_w 145, 3) := by decide +kernel
theorem dX5_dams_22 : decode cX5_dams 22 = .ok (.lreturn, 1) := by decide +kernel
theorem dX5_dams_23 : decode cX5_dams 23 = .ok (.aload_n 0, 1) := by decide +kernel
theorem dX5_dams_24 : decode cX5_dams 24 = .ok (.getfield 30, 3) := by decide +kernel
theorem dX5_dams_27 : decode cX5_dams 27 = .ok (.iload_n 1, 1) := by decide +kernel
theorem dX5_dams_28 : decode cX5_dams 28 = .ok (.ifCond .ne 7, 3) := by decide +kernel
theorem dX5_dams_31 : decode cX5_dams 31 = .ok (.iconst 1, 1) := by decide +kernel
theorem dX5_dams_32 : decode cX5_dams 32 = .ok (.goto 4, 3) := by decide +kernel
theorem dX5_dams_35 : decode cX5_dams 35 = .ok (.iconst 0, 1) := by decide +kernel
theorem dX5_dams_36 : decode cX5_dams 36 = .ok (.invokevirtual 185, 3) := by decide +kernel
theorem dX5_dams_39 : decode cX5_dams 39 = .ok (.lreturn, 1) := by decide +kernel
theorem dX5_ways_0 : decode cX5_ways 0 = .ok (.aload_n 0, 1) := by decide +kernel
theorem dX5_ways_1 : decode cX5_ways 1 = .ok (.iconst 0, 1) := by decide +kernel
theorem dX5_ways_2 : decode cX5_ways 2 = .ok (.putfield 52, 3) := by decide +kernel
theorem dX5_ways_5 : decode cX5_ways 5 = .ok (.iload_n 1, 1) := by decide +kernel
theorem dX5_ways_6 : decode cX5_ways 6 = .ok (.iconst (-1), 1) := by decide +kernel
theorem dX5_ways_7 : decode cX5_ways 7 = .ok (.if_icmp .eq 14, 3) := by decide +kernel
theorem dX5_ways_10 : decode cX5_ways 10 = .ok (.aload_n 0, 1) := by decide +kernel
theorem dX5_ways_11 : decode cX5_ways 11 = .ok (.getfield 21, 3) := by decide +kernel
theorem dX5_ways_14 : decode cX5_ways 14 = .ok (.iload_n 1, 1) := by decide +kernel
theorem dX5_ways_15 : decode cX5_ways 15 = .ok (.invokevirtual 115, 3) := by decide +kernel
theorem dX5_ways_18 : decode cX5_ways 18 = .ok (.ifCond .eq 10, 3) := by decide +kernel
theorem dX5_ways_21 : decode cX5_ways 21 = .ok (.iload_n 2, 1) := by decide +kernel
theorem dX5_ways_22 : decode cX5_ways 22 = .ok (.invokestatic 55, 3) := by decide +kernel
theorem dX5_ways_25 : decode cX5_ways 25 = .ok (.ifCond .ne 5, 3) := by decide +kernel
theorem dX5_ways_28 : decode cX5_ways 28 = .ok (.iconst (-1), 1) := by decide +kernel
theorem dX5_ways_29 : decode cX5_ways 29 = .ok (.ireturn, 1) := by decide +kernel
theorem dX5_ways_30 : decode cX5_ways 30 = .ok (.iload_n 3, 1) := by decide +kernel
theorem dX5_ways_31 : decode cX5_ways 31 = .ok (.invokestatic 59, 3) := by decide +kernel
theorem dX5_ways_34 : decode cX5_ways 34 = .ok (.ifCond .ne 6, 3) := by decide +kernel
theorem dX5_ways_37 : decode cX5_ways 37 = .ok (.bipush (-2), 2) := by decide +kernel
theorem dX5_ways_39 : decode cX5_ways 39 = .ok (.ireturn, 1) := by decide +kernel
theorem dX5_ways_40 : decode cX5_ways 40 = .ok (.aload_n 0, 1) := by decide +kernel
theorem dX5_ways_41 : decode cX5_ways 41 = .ok (.getfield 14, 3) := by decide +kernel
theorem dX5_ways_44 : decode cX5_ways 44 = .ok (.invokevirtual 100, 3) := by decide +kernel
theorem dX5_ways_47 : decode cX5_ways 47 = .ok (.ifCond .ne 6, 3) := by decide +kernel
theorem dX5_ways_50 : decode cX5_ways 50 = .ok (.bipush (-3), 2) := by decide +kernel
theorem dX5_ways_52 : decode cX5_ways 52 = .ok (.ireturn, 1) := by decide +kernel
theorem dX5_ways_53 : decode cX5_ways 53 = .ok (.aload_n 0, 1) := by decide +kernel
theorem dX5_ways_54 : decode cX5_ways 54 = .ok (.getfield 43, 3) := by decide +kernel
theorem dX5_ways_57 : decode cX5_ways 57 = .ok (.iload_n 2, 1) := by decide +kernel
theorem dX5_ways_58 : decode cX5_ways 58 = .ok (.aaload, 1) := by decide +kernel
theorem dX5_ways_59 : decode cX5_ways 59 = .ok (.astore 5, 2) := by decide +kernel
theorem dX5_ways_61 : decode cX5_ways 61 = .ok (.aload 5, 2) := by decide +kernel
theorem dX5_ways_63 : decode cX5_ways 63 = .ok (.iload_n 3, 1) := by decide +kernel
theorem dX5_ways_64 : decode cX5_ways 64 = .ok (.invokevirtual 62, 3) := by decide +kernel
theorem dX5_ways_67 : decode cX5_ways 67 = .ok (.istore 6, 2) := by decide +kernel
theorem dX5_ways_69 : decode cX5_ways 69 = .ok (.iload 6, 2) := by decide +kernel
theorem dX5_ways_71 : decode cX5_ways 71 = .ok (.ifCond .ne 25, 3) := by decide +kernel
theorem dX5_ways_74 : decode cX5_ways 74 = .ok (.aload 5, 2) := by decide +kernel
theorem dX5_ways_76 : decode cX5_ways 76 = .ok (.iload 4, 2) := by decide +kernel
theorem dX5_ways_78 : decode cX5_ways 78 = .ok (.aload_n 0, 1) := by decide +kernel
theorem dX5_ways_79 : decode cX5_ways 79 = .ok (.getfield 14, 3) := by decide +kernel
theorem dX5_ways_82 : decode cX5_ways 82 = .ok (.getfield 189, 3) := by decide +kernel
theorem dX5_ways_85 : decode cX5_ways 85 = .ok (.iconst 1, 1) := by decide +kernel
theorem dX5_ways_86 : decode cX5_ways 86 = .ok (.iadd, 1) := by decide +kernel
theorem dX5_ways_87 : decode cX5_ways 87 = .ok (.invokevirtual 66, 3) := by decide +kernel
theorem dX5_ways_90 : decode cX5_ways 90 = .ok (.ifCond .ne 6, 3) := by decide +kernel
theorem dX5_ways_93 : decode cX5_ways 93 = .ok (.iconst 3, 1) := by decide +kernel
theorem dX5_ways_94 : decode cX5_ways 94 = .ok (.istore 6, 2) := by decide +kernel
theorem dX5_ways_96 : decode cX5_ways 96 = .ok (.iload 6, 2) := by decide +kernel
theorem dX5_ways_98 : decode cX5_ways 98 = .ok (.ifCond .eq 10, 3) := by decide +kernel
theorem dX5_ways_101 : decode cX5_ways 101 = .ok (.aload_n 0, 1) := by decide +kernel
theorem dX5_ways_102 : decode cX5_ways 102 = .ok (.iload 6, 2) := by decide +kernel
theorem dX5_ways_104 : decode cX5_ways 104 = .ok (.invokevirtual 70, 3) := by decide +kernel
theorem dX5_ways_107 : decode cX5_ways 107 = .ok (.ireturn, 1) := by decide +kernel
theorem dX5_ways_108 : decode cX5_ways 108 = .ok (.aload_n 0, 1) := by decide +kernel
theorem dX5_ways_109 : decode cX5_ways 109 = .ok (.getfield 37, 3) := by decide +kernel
theorem dX5_ways_112 : decode cX5_ways 112 = .ok (.aload 5, 2) := by decide +kernel
theorem dX5_ways_114 : decode cX5_ways 114 = .ok (.iload 4, 2) := by decide +kernel
theorem dX5_ways_116 : decode cX5_ways 116 = .ok (.aload_n 0, 1) := by decide +kernel
theorem dX5_ways_117 : decode cX5_ways 117 = .ok (.getfield 14, 3) := by decide +kernel
theorem dX5_ways_120 : decode cX5_ways 120 = .ok (.getfield 189, 3) := by decide +kernel
theorem dX5_ways_123 : decode cX5_ways 123 = .ok (.aload_n 0, 1) := by decide +kernel
theorem dX5_ways_124 : decode cX5_ways 124 = .ok (.getfield 21, 3) := by decide +kernel
theorem dX5_ways_127 : decode cX5_ways 127 = .ok (.getfield 81, 3) := by decide +kernel
theorem dX5_ways_130 : decode cX5_ways 130 = .ok (.invokevirtual 192, 3) := by decide +kernel
theorem dX5_ways_133 : decode cX5_ways 133 = .ok (.ifCond .ne 5, 3) := by decide +kernel
theorem dX5_ways_136 : decode cX5_ways 136 = .ok (.iconst 0, 1) := by decide +kernel
theorem dX5_ways_137 : decode cX5_ways 137 = .ok (.ireturn, 1) := by decide +kernel
theorem dX5_ways_138 : decode cX5_ways 138 = .ok (.iconst 0, 1) := by decide +kernel
theorem dX5_ways_139 : decode cX5_ways 139 = .ok (.istore 7, 2) := by decide +kernel
theorem dX5_ways_141 : decode cX5_ways 141 = .ok (.iload 7, 2) := by decide +kernel
theorem dX5_ways_143 : decode cX5_ways 143 = .ok (.aload_n 0, 1) := by decide +kernel
theorem dX5_ways_144 : decode cX5_ways 144 = .ok (.getfield 21, 3) := by decide +kernel
theorem dX5_ways_147 : decode cX5_ways 147 = .ok (.getfield 81, 3) := by decide +kernel
theorem dX5_ways_150 : decode cX5_ways 150 = .ok (.if_icmp .ge 28, 3) := by decide +kernel
theorem dX5_ways_153 : decode cX5_ways 153 = .ok (.aload_n 0, 1) := by decide +kernel
theorem dX5_ways_154 : decode cX5_ways 154 = .ok (.getfield 37, 3) := by decide +kernel
theorem dX5_ways_157 : decode cX5_ways 157 = .ok (.getfield 196, 3) := by decide +kernel
theorem dX5_ways_160 : decode cX5_ways 160 = .ok (.iload 7, 2) := by decide +kernel
theorem dX5_ways_162 : decode cX5_ways 162 = .ok (.aload_n 0, 1) := by decide +kernel
theorem dX5_ways_163 : decode cX5_ways 163 = .ok (.getfield 30, 3) := by decide +kernel
theorem dX5_ways_166 : decode cX5_ways 166 = .ok (.iload 7, 2) := by decide +kernel
theorem dX5_ways_168 : decode cX5_ways 168 = .ok (.invokevirtual 199, 3) := by decide +kernel
theorem dX5_ways_171 : decode cX5_ways 171 = .ok (.iastore, 1) := by decide +kernel
theorem dX5_ways_172 : decode cX5_ways 172 = .ok (.iinc 7 1, 3) := by decide +kernel
theorem dX5_ways_175 : decode cX5_ways 175 = .ok (.goto (-34), 3) := by decide +kernel
theorem dX5_ways_178 : decode cX5_ways 178 = .ok (.iload_n 1, 1) := by decide +kernel
theorem dX5_ways_179 : decode cX5_ways 179 = .ok (.iconst (-1), 1) := by decide +kernel
theorem dX5_ways_180 : decode cX5_ways 180 = .ok (.if_icmp .ne 13, 3) := by decide +kernel
theorem dX5_ways_183 : decode cX5_ways 183 = .ok (.aload_n 0, 1) := by decide +kernel
theorem dX5_ways_184 : decode cX5_ways 184 = .ok (.getfield 37, 3) := by decide +kernel
theorem dX5_ways_187 : decode cX5_ways 187 = .ok (.invokevirtual 202, 3) := by decide +kernel
theorem dX5_ways_190 : decode cX5_ways 190 = .ok (.goto 11, 3) := by decide +kernel
theorem dX5_ways_193 : decode cX5_ways 193 = .ok (.aload_n 0, 1) := by decide +kernel
theorem dX5_ways_194 : decode cX5_ways 194 = .ok (.getfield 37, 3) := by decide +kernel
theorem dX5_ways_197 : decode cX5_ways 197 = .ok (.iload_n 1, 1) := by decide +kernel
theorem dX5_ways_198 : decode cX5_ways 198 = .ok (.invokevirtual 205, 3) := by decide +kernel
theorem dX5_ways_201 : decode cX5_ways 201 = .ok (.ireturn, 1) := by decide +kernel
theorem dX5_fair_0 : decode cX5_fair 0 = .ok (.aload_n 0, 1) := by decide +kernel
theorem dX5_fair_1 : decode cX5_fair 1 = .ok (.getfield 14, 3) := by decide +kernel
theorem dX5_fair_4 : decode cX5_fair 4 = .ok (.invokevirtual 100, 3) := by decide +kernel
theorem dX5_fair_7 : decode cX5_fair 7 = .ok (.ifCond .eq 13, 3) := by decide +kernel
theorem dX5_fair_10 : decode cX5_fair 10 = .ok (.aload_n 0, 1) := by decide +kernel
theorem dX5_fair_11 : decode cX5_fair 11 = .ok (.getfield 30, 3) := by decide +kernel
theorem dX5_fair_14 : decode cX5_fair 14 = .ok (.invokevirtual 208, 3) := by decide +kernel
theorem dX5_fair_17 : decode cX5_fair 17 = .ok (.goto 5, 3) := by decide +kernel
theorem dX5_fair_20 : decode cX5_fair 20 = .ok (.bipush (-3), 2) := by decide +kernel
theorem dX5_fair_22 : decode cX5_fair 22 = .ok (.ireturn, 1) := by decide +kernel
theorem dX5_sheet_0 : decode cX5_sheet 0 = .ok (.aload_n 0, 1) := by decide +kernel
theorem dX5_sheet_1 : decode cX5_sheet 1 = .ok (.iconst 0, 1) := by decide +kernel
theorem dX5_sheet_2 : decode cX5_sheet 2 = .ok (.putfield 52, 3) := by decide +kernel
theorem dX5_sheet_5 : decode cX5_sheet 5 = .ok (.iload_n 1, 1) := by decide +kernel
theorem dX5_sheet_6 : decode cX5_sheet 6 = .ok (.invokestatic 55, 3) := by decide +kernel
theorem dX5_sheet_9 : decode cX5_sheet 9 = .ok (.ifCond .ne 5, 3) := by decide +kernel
theorem dX5_sheet_12 : decode cX5_sheet 12 = .ok (.iconst (-1), 1) := by decide +kernel
theorem dX5_sheet_13 : decode cX5_sheet 13 = .ok (.ireturn, 1) := by decide +kernel
theorem dX5_sheet_14 : decode cX5_sheet 14 = .ok (.iload_n 2, 1) := by decide +kernel
theorem dX5_sheet_15 : decode cX5_sheet 15 = .ok (.invokestatic 59, 3) := by decide +kernel
theorem dX5_sheet_18 : decode cX5_sheet 18 = .ok (.ifCond .eq 9, 3) := by decide +kernel
theorem dX5_sheet_21 : decode cX5_sheet 21 = .ok (.iload_n 3, 1) := by decide +kernel
theorem dX5_sheet_22 : decode cX5_sheet 22 = .ok (.bipush 60, 2) := by decide +kernel
theorem dX5_sheet_24 : decode cX5_sheet 24 = .ok (.if_icmp .le 6, 3) := by decide +kernel
theorem dX5_sheet_27 : decode cX5_sheet 27 = .ok (.bipush (-2), 2) := by decide +kernel
theorem dX5_sheet_29 : decode cX5_sheet 29 = .ok (.ireturn, 1) := by decide +kernel
theorem dX5_sheet_30 : decode cX5_sheet 30 = .ok (.iload_n 3, 1) := by decide +kernel
theorem dX5_sheet_31 : decode cX5_sheet 31 = .ok (.ifCond .ge 9, 3) := by decide +kernel
theorem dX5_sheet_34 : decode cX5_sheet 34 = .ok (.aload_n 0, 1) := by decide +kernel
theorem dX5_sheet_35 : decode cX5_sheet 35 = .ok (.iconst 4, 1) := by decide +kernel
theorem dX5_sheet_36 : decode cX5_sheet 36 = .ok (.invokevirtual 70, 3) := by decide +kernel
theorem dX5_sheet_39 : decode cX5_sheet 39 = .ok (.ireturn, 1) := by decide +kernel
theorem dX5_sheet_40 : decode cX5_sheet 40 = .ok (.aload_n 0, 1) := by decide +kernel
theorem dX5_sheet_41 : decode cX5_sheet 41 = .ok (.getfield 43, 3) := by decide +kernel
theorem dX5_sheet_44 : decode cX5_sheet 44 = .ok (.iload_n 1, 1) := by decide +kernel
theorem dX5_sheet_45 : decode cX5_sheet 45 = .ok (.aaload, 1) := by decide +kernel
theorem dX5_sheet_46 : decode cX5_sheet 46 = .ok (.iload_n 2, 1) := by decide +kernel
theorem dX5_sheet_47 : decode cX5_sheet 47 = .ok (.iload_n 3, 1) := by decide +kernel
theorem dX5_sheet_48 : decode cX5_sheet 48 = .ok (.invokevirtual 211, 3) := by decide +kernel
theorem dX5_sheet_51 : decode cX5_sheet 51 = .ok (.iconst 1, 1) := by decide +kernel
theorem dX5_sheet_52 : decode cX5_sheet 52 = .ok (.ireturn, 1) := by decide +kernel
theorem dX5_lose_0 : decode cX5_lose 0 = .ok (.iload_n 1, 1) := by decide +kernel
theorem dX5_lose_1 : decode cX5_lose 1 = .ok (.invokestatic 55, 3) := by decide +kernel
theorem dX5_lose_4 : decode cX5_lose 4 = .ok (.ifCond .ne 5, 3) := by decide +kernel
theorem dX5_lose_7 : decode cX5_lose 7 = .ok (.iconst (-1), 1) := by decide +kernel
theorem dX5_lose_8 : decode cX5_lose 8 = .ok (.ireturn, 1) := by decide +kernel
theorem dX5_lose_9 : decode cX5_lose 9 = .ok (.aload_n 0, 1) := by decide +kernel
theorem dX5_lose_10 : decode cX5_lose 10 = .ok (.getfield 43, 3) := by decide +kernel
theorem dX5_lose_13 : decode cX5_lose 13 = .ok (.iload_n 1, 1) := by decide +kernel
theorem dX5_lose_14 : decode cX5_lose 14 = .ok (.aaload, 1) := by decide +kernel
theorem dX5_lose_15 : decode cX5_lose 15 = .ok (.getfield 214, 3) := by decide +kernel
theorem dX5_lose_18 : decode cX5_lose 18 = .ok (.istore_n 2, 1) := by decide +kernel
theorem dX5_lose_19 : decode cX5_lose 19 = .ok (.aload_n 0, 1) := by decide +kernel
theorem dX5_lose_20 : decode cX5_lose 20 = .ok (.getfield 43, 3) := by decide +kernel
theorem dX5_lose_23 : decode cX5_lose 23 = .ok (.iload_n 1, 1) := by decide +kernel
theorem dX5_lose_24 : decode cX5_lose 24 = .ok (.aaload, 1) := by decide +kernel
theorem dX5_lose_25 : decode cX5_lose 25 = .ok (.iconst 0, 1) := by decide +kernel
theorem dX5_lose_26 : decode cX5_lose 26 = .ok (.putfield 214, 3) := by decide +kernel
theorem dX5_lose_29 : decode cX5_lose 29 = .ok (.iload_n 2, 1) := by decide +kernel
theorem dX5_lose_30 : decode cX5_lose 30 = .ok (.ifCond .eq 7, 3) := by decide +kernel
theorem dX5_lose_33 : decode cX5_lose 33 = .ok (.iconst 1, 1) := by decide +kernel
theorem dX5_lose_34 : decode cX5_lose 34 = .ok (.goto 4, 3) := by decide +kernel
theorem dX5_lose_37 : decode cX5_lose 37 = .ok (.iconst 0, 1) := by decide +kernel
theorem dX5_lose_38 : decode cX5_lose 38 = .ok (.ireturn, 1) := by decide +kernel
theorem dX5_put_0 : decode cX5_put 0 = .ok (.aload_n 0, 1) := by decide +kernel
theorem dX5_put_1 : decode cX5_put 1 = .ok (.iconst 0, 1) := by decide +kernel
theorem dX5_put_2 : decode cX5_put 2 = .ok (.putfield 52, 3) := by decide +kernel
theorem dX5_put_5 : decode cX5_put 5 = .ok (.iload_n 1, 1) := by decide +kernel
theorem dX5_put_6 : decode cX5_put 6 = .ok (.invokestatic 55, 3) := by decide +kernel
theorem dX5_put_9 : decode cX5_put 9 = .ok (.ifCond .ne 5, 3) := by decide +kernel
theorem dX5_put_12 : decode cX5_put 12 = .ok (.iconst (-1), 1) := by decide +kernel
theorem dX5_put_13 : decode cX5_put 13 = .ok (.ireturn, 1) := by decide +kernel
theorem dX5_put_14 : decode cX5_put 14 = .ok (.aload_n 0, 1) := by decide +kernel
theorem dX5_put_15 : decode cX5_put 15 = .ok (.getfield 43, 3) := by decide +kernel
theorem dX5_put_18 : decode cX5_put 18 = .ok (.iload_n 1, 1) := by decide +kernel
theorem dX5_put_19 : decode cX5_put 19 = .ok (.aaload, 1) := by decide +kernel
theorem dX5_put_20 : decode cX5_put 20 = .ok (.getfield 214, 3) := by decide +kernel
theorem dX5_put_23 : decode cX5_put 23 = .ok (.ifCond .ne 9, 3) := by decide +kernel
theorem dX5_put_26 : decode cX5_put 26 = .ok (.aload_n 0, 1) := by decide +kernel
theorem dX5_put_27 : decode cX5_put 27 = .ok (.iconst 1, 1) := by decide +kernel
theorem dX5_put_28 : decode cX5_put 28 = .ok (.invokevirtual 70, 3) := by decide +kernel
theorem dX5_put_31 : decode cX5_put 31 = .ok (.ireturn, 1) := by decide +kernel
theorem dX5_put_32 : decode cX5_put 32 = .ok (.aload_n 0, 1) := by decide +kernel
theorem dX5_put_33 : decode cX5_put 33 = .ok (.getfield 43, 3) := by decide +kernel
theorem dX5_put_36 : decode cX5_put 36 = .ok (.iload_n 1, 1) := by decide +kernel
theorem dX5_put_37 : decode cX5_put 37 = .ok (.aaload, 1) := by decide +kernel
theorem dX5_put_38 : decode cX5_put 38 = .ok (.iload_n 2, 1) := by decide +kernel
theorem dX5_put_39 : decode cX5_put 39 = .ok (.invokevirtual 137, 3) := by decide +kernel
theorem dX5_put_42 : decode cX5_put 42 = .ok (.ifCond .ne 9, 3) := by decide +kernel
theorem dX5_put_45 : decode cX5_put 45 = .ok (.aload_n 0, 1) := by decide +kernel
theorem dX5_put_46 : decode cX5_put 46 = .ok (.iconst 3, 1) := by decide +kernel
theorem dX5_put_47 : decode cX5_put 47 = .ok (.invokevirtual 70, 3) := by decide +kernel
theorem dX5_put_50 : decode cX5_put 50 = .ok (.ireturn, 1) := by decide +kernel
theorem dX5_put_51 : decode cX5_put 51 = .ok (.aload_n 0, 1) := by decide +kernel
theorem dX5_put_52 : decode cX5_put 52 = .ok (.getfield 43, 3) := by decide +kernel
theorem dX5_put_55 : decode cX5_put 55 = .ok (.iload_n 1, 1) := by decide +kernel
theorem dX5_put_56 : decode cX5_put 56 = .ok (.aaload, 1) := by decide +kernel
theorem dX5_put_57 : decode cX5_put 57 = .ok (.iload_n 2, 1) := by decide +kernel
theorem dX5_put_58 : decode cX5_put 58 = .ok (.iload_n 3, 1) := by decide +kernel
theorem dX5_put_59 : decode cX5_put 59 = .ok (.invokevirtual 217, 3) := by decide +kernel
theorem dX5_put_62 : decode cX5_put 62 = .ok (.iconst 1, 1) := by decide +kernel
theorem dX5_put_63 : decode cX5_put 63 = .ok (.ireturn, 1) := by decide +kernel
theorem dX5_cell_0 : decode cX5_cell 0 = .ok (.aload_n 0, 1) := by decide +kernel
theorem dX5_cell_1 : decode cX5_cell 1 = .ok (.iconst 0, 1) := by decide +kernel
theorem dX5_cell_2 : decode cX5_cell 2 = .ok (.putfield 52, 3) := by decide +kernel
theorem dX5_cell_5 : decode cX5_cell 5 = .ok (.iload_n 1, 1) := by decide +kernel
theorem dX5_cell_6 : decode cX5_cell 6 = .ok (.invokestatic 55, 3) := by decide +kernel
theorem dX5_cell_9 : decode cX5_cell 9 = .ok (.ifCond .eq 10, 3) := by decide +kernel
theorem dX5_cell_12 : decode cX5_cell 12 = .ok (.iload_n 3, 1) := by decide +kernel
theorem dX5_cell_13 : decode cX5_cell 13 = .ok (.invokestatic 59, 3) := by decide +kernel
theorem dX5_cell_16 : decode cX5_cell 16 = .ok (.ifCond .ne 7, 3) := by decide +kernel
theorem dX5_cell_19 : decode cX5_cell 19 = .ok (.ldc2_w 145, 3) := by decide +kernel
theorem dX5_cell_22 : decode cX5_cell 22 = .ok (.lreturn, 1) := by decide +kernel
theorem dX5_cell_23 : decode cX5_cell 23 = .ok (.aload_n 0, 1) := by decide +kernel
theorem dX5_cell_24 : decode cX5_cell 24 = .ok (.getfield 43, 3) := by decide +kernel
theorem dX5_cell_27 : decode cX5_cell 27 = .ok (.iload_n 1, 1) := by decide +kernel
theorem dX5_cell_28 : decode cX5_cell 28 = .ok (.aaload, 1) := by decide +kernel
theorem dX5_cell_29 : decode cX5_cell 29 = .ok (.iload_n 3, 1) := by decide +kernel
theorem dX5_cell_30 : decode cX5_cell 30 = .ok (.invokevirtual 62, 3) := by decide +kernel
theorem dX5_cell_33 : decode cX5_cell 33 = .ok (.istore 4, 2) := by decide +kernel
theorem dX5_cell_35 : decode cX5_cell 35 = .ok (.iload 4, 2) := by decide +kernel
theorem dX5_cell_37 : decode cX5_cell 37 = .ok (.ifCond .ne 19, 3) := by decide +kernel
theorem dX5_cell_40 : decode cX5_cell 40 = .ok (.aload_n 0, 1) := by decide +kernel
theorem dX5_cell_41 : decode cX5_cell 41 = .ok (.getfield 43, 3) := by decide +kernel
theorem dX5_cell_44 : decode cX5_cell 44 = .ok (.iload_n 1, 1) := by decide +kernel
theorem dX5_cell_45 : decode cX5_cell 45 = .ok (.aaload, 1) := by decide +kernel
theorem dX5_cell_46 : decode cX5_cell 46 = .ok (.iload_n 2, 1) := by decide +kernel
theorem dX5_cell_47 : decode cX5_cell 47 = .ok (.invokevirtual 137, 3) := by decide +kernel
theorem dX5_cell_50 : decode cX5_cell 50 = .ok (.ifCond .ne 6, 3) := by decide +kernel
theorem dX5_cell_53 : decode cX5_cell 53 = .ok (.iconst 3, 1) := by decide +kernel
theorem dX5_cell_54 : decode cX5_cell 54 = .ok (.istore 4, 2) := by decide +kernel
theorem dX5_cell_56 : decode cX5_cell 56 = .ok (.aload_n 0, 1) := by decide +kernel
theorem dX5_cell_57 : decode cX5_cell 57 = .ok (.iload 4, 2) := by decide +kernel
theorem dX5_cell_59 : decode cX5_cell 59 = .ok (.putfield 52, 3) := by decide +kernel
theorem dX5_cell_62 : decode cX5_cell 62 = .ok (.iload 4, 2) := by decide +kernel
theorem dX5_cell_64 : decode cX5_cell 64 = .ok (.ifCond .ne 17, 3) := by decide +kernel
theorem dX5_cell_67 : decode cX5_cell 67 = .ok (.aload_n 0, 1) := by decide +kernel
theorem dX5_cell_68 : decode cX5_cell 68 = .ok (.getfield 43, 3) := by decide +kernel
theorem dX5_cell_71 : decode cX5_cell 71 = .ok (.iload_n 1, 1) := by decide +kernel
theorem dX5_cell_72 : decode cX5_cell 72 = .ok (.aaload, 1) := by decide +kernel
theorem dX5_cell_73 : decode cX5_cell 73 = .ok (.iload_n 2, 1) := by decide +kernel
theorem dX5_cell_74 : decode cX5_cell 74 = .ok (.invokevirtual 138, 3) := by decide +kernel
theorem dX5_cell_77 : decode cX5_cell 77 = .ok (.i2l, 1) := by decide +kernel
theorem dX5_cell_78 : decode cX5_cell 78 = .ok (.goto 6, 3) := by decide +kernel
theorem dX5_cell_81 : decode cX5_cell 81 = .ok (.ldc2_w 145, 3) := by decide +kernel
theorem dX5_cell_84 : decode cX5_cell 84 = .ok (.lreturn, 1) := by decide +kernel
theorem dX5_copy_0 : decode cX5_copy 0 = .ok (.aload_n 0, 1) := by decide +kernel
theorem dX5_copy_1 : decode cX5_copy 1 = .ok (.iconst 0, 1) := by decide +kernel
theorem dX5_copy_2 : decode cX5_copy 2 = .ok (.putfield 52, 3) := by decide +kernel
theorem dX5_copy_5 : decode cX5_copy 5 = .ok (.iload_n 1, 1) := by decide +kernel
theorem dX5_copy_6 : decode cX5_copy 6 = .ok (.invokestatic 55, 3) := by decide +kernel
theorem dX5_copy_9 : decode cX5_copy 9 = .ok (.ifCond .eq 10, 3) := by decide +kernel
theorem dX5_copy_12 : decode cX5_copy 12 = .ok (.iload_n 3, 1) := by decide +kernel
theorem dX5_copy_13 : decode cX5_copy 13 = .ok (.invokestatic 55, 3) := by decide +kernel
theorem dX5_copy_16 : decode cX5_copy 16 = .ok (.ifCond .ne 5, 3) := by decide +kernel
theorem dX5_copy_19 : decode cX5_copy 19 = .ok (.iconst (-1), 1) := by decide +kernel
theorem dX5_copy_20 : decode cX5_copy 20 = .ok (.ireturn, 1) := by decide +kernel
theorem dX5_copy_21 : decode cX5_copy 21 = .ok (.aload_n 0, 1) := by decide +kernel
theorem dX5_copy_22 : decode cX5_copy 22 = .ok (.getfield 43, 3) := by decide +kernel
theorem dX5_copy_25 : decode cX5_copy 25 = .ok (.iload_n 1, 1) := by decide +kernel
theorem dX5_copy_26 : decode cX5_copy 26 = .ok (.aaload, 1) := by decide +kernel
theorem dX5_copy_27 : decode cX5_copy 27 = .ok (.astore 6, 2) := by decide +kernel
theorem dX5_copy_29 : decode cX5_copy 29 = .ok (.aload_n 0, 1) := by decide +kernel
theorem dX5_copy_30 : decode cX5_copy 30 = .ok (.getfield 43, 3) := by decide +kernel
theorem dX5_copy_33 : decode cX5_copy 33 = .ok (.iload_n 3, 1) := by decide +kernel
theorem dX5_copy_34 : decode cX5_copy 34 = .ok (.aaload, 1) := by decide +kernel
theorem dX5_copy_35 : decode cX5_copy 35 = .ok (.astore 7, 2) := by decide +kernel
theorem dX5_copy_37 : decode cX5_copy 37 = .ok (.aload 6, 2) := by decide +kernel
theorem dX5_copy_39 : decode cX5_copy 39 = .ok (.getfield 214, 3) := by decide +kernel
theorem dX5_copy_42 : decode cX5_copy 42 = .ok (.ifCond .eq 11, 3) := by decide +kernel
theorem dX5_copy_45 : decode cX5_copy 45 = .ok (.aload 7, 2) := by decide +kernel
theorem dX5_copy_47 : decode cX5_copy 47 = .ok (.getfield 214, 3) := by decide +kernel
theorem dX5_copy_50 : decode cX5_copy 50 = .ok (.ifCond .ne 9, 3) := by decide +kernel
theorem dX5_copy_53 : decode cX5_copy 53 = .ok (.aload_n 0, 1) := by decide +kernel
theorem dX5_copy_54 : decode cX5_copy 54 = .ok (.iconst 1, 1) := by decide +kernel
theorem dX5_copy_55 : decode cX5_copy 55 = .ok (.invokevirtual 70, 3) := by decide +kernel
theorem dX5_copy_58 : decode cX5_copy 58 = .ok (.ireturn, 1) := by decide +kernel
theorem dX5_copy_59 : decode cX5_copy 59 = .ok (.aload 6, 2) := by decide +kernel
theorem dX5_copy_61 : decode cX5_copy 61 = .ok (.getfield 220, 3) := by decide +kernel
theorem dX5_copy_64 : decode cX5_copy 64 = .ok (.aload 7, 2) := by decide +kernel
theorem dX5_copy_66 : decode cX5_copy 66 = .ok (.getfield 220, 3) := by decide +kernel
theorem dX5_copy_69 : decode cX5_copy 69 = .ok (.if_icmp .eq 9, 3) := by decide +kernel
theorem dX5_copy_72 : decode cX5_copy 72 = .ok (.aload_n 0, 1) := by decide +kernel
theorem dX5_copy_73 : decode cX5_copy 73 = .ok (.iconst 2, 1) := by decide +kernel
theorem dX5_copy_74 : decode cX5_copy 74 = .ok (.invokevirtual 70, 3) := by decide +kernel
theorem dX5_copy_77 : decode cX5_copy 77 = .ok (.ireturn, 1) := by decide +kernel
theorem dX5_copy_78 : decode cX5_copy 78 = .ok (.aload 6, 2) := by decide +kernel
theorem dX5_copy_80 : decode cX5_copy 80 = .ok (.iload_n 2, 1) := by decide +kernel
theorem dX5_copy_81 : decode cX5_copy 81 = .ok (.iload 5, 2) := by decide +kernel
theorem dX5_copy_83 : decode cX5_copy 83 = .ok (.invokevirtual 66, 3) := by decide +kernel
theorem dX5_copy_86 : decode cX5_copy 86 = .ok (.ifCond .eq 15, 3) := by decide +kernel
theorem dX5_copy_89 : decode cX5_copy 89 = .ok (.aload 7, 2) := by decide +kernel
theorem dX5_copy_91 : decode cX5_copy 91 = .ok (.iload 4, 2) := by decide +kernel
theorem dX5_copy_93 : decode cX5_copy 93 = .ok (.iload 5, 2) := by decide +kernel
theorem dX5_copy_95 : decode cX5_copy 95 = .ok (.invokevirtual 66, 3) := by decide +kernel
theorem dX5_copy_98 : decode cX5_copy 98 = .ok (.ifCond .ne 9, 3) := by decide +kernel
theorem dX5_copy_101 : decode cX5_copy 101 = .ok (.aload_n 0, 1) := by decide +kernel
theorem dX5_copy_102 : decode cX5_copy 102 = .ok (.iconst 3, 1) := by decide +kernel
theorem dX5_copy_103 : decode cX5_copy 103 = .ok (.invokevirtual 70, 3) := by decide +kernel
theorem dX5_copy_106 : decode cX5_copy 106 = .ok (.ireturn, 1) := by decide +kernel
theorem dX5_copy_107 : decode cX5_copy 107 = .ok (.aload 6, 2) := by decide +kernel
theorem dX5_copy_109 : decode cX5_copy 109 = .ok (.getfield 223, 3) := by decide +kernel
theorem dX5_copy_112 : decode cX5_copy 112 = .ok (.iload_n 2, 1) := by decide +kernel
theorem dX5_copy_113 : decode cX5_copy 113 = .ok (.aload 7, 2) := by decide +kernel
theorem dX5_copy_115 : decode cX5_copy 115 = .ok (.getfield 223, 3) := by decide +kernel
theorem dX5_copy_118 : decode cX5_copy 118 = .ok (.iload 4, 2) := by decide +kernel
theorem dX5_copy_120 : decode cX5_copy 120 = .ok (.iload 5, 2) := by decide +kernel
theorem dX5_copy_122 : decode cX5_copy 122 = .ok (.invokestatic 226, 3) := by decide +kernel
theorem dX5_copy_125 : decode cX5_copy 125 = .ok (.iload 5, 2) := by decide +kernel
theorem dX5_copy_127 : decode cX5_copy 127 = .ok (.ireturn, 1) := by decide +kernel
theorem dX5_tell_0 : decode cX5_tell 0 = .ok (.aload_n 0, 1) := by decide +kernel
theorem dX5_tell_1 : decode cX5_tell 1 = .ok (.getfield 21, 3) := by decide +kernel
theorem dX5_tell_4 : decode cX5_tell 4 = .ok (.iload_n 1, 1) := by decide +kernel
theorem dX5_tell_5 : decode cX5_tell 5 = .ok (.invokevirtual 115, 3) := by decide +kernel
theorem dX5_tell_8 : decode cX5_tell 8 = .ok (.ifCond .ne 5, 3) := by decide +kernel
theorem dX5_tell_11 : decode cX5_tell 11 = .ok (.iconst (-1), 1) := by decide +kernel
theorem dX5_tell_12 : decode cX5_tell 12 = .ok (.ireturn, 1) := by decide +kernel
theorem dX5_tell_13 : decode cX5_tell 13 = .ok (.aload_n 0, 1) := by decide +kernel
theorem dX5_tell_14 : decode cX5_tell 14 = .ok (.getfield 21, 3) := by decide +kernel
theorem dX5_tell_17 : decode cX5_tell 17 = .ok (.getfield 118, 3) := by decide +kernel
theorem dX5_tell_20 : decode cX5_tell 20 = .ok (.iload_n 1, 1) := by decide +kernel
theorem dX5_tell_21 : decode cX5_tell 21 = .ok (.iaload, 1) := by decide +kernel
theorem dX5_tell_22 : decode cX5_tell 22 = .ok (.lookupswitch 38 #[(1, 32), (2, 26)], 26) := by decide +kernel
theorem dX5_tell_48 : decode cX5_tell 48 = .ok (.aload_n 0, 1) := by decide +kernel
theorem dX5_tell_49 : decode cX5_tell 49 = .ok (.iload_n 1, 1) := by decide +kernel
theorem dX5_tell_50 : decode cX5_tell 50 = .ok (.invokevirtual 232, 3) := by decide +kernel
theorem dX5_tell_53 : decode cX5_tell 53 = .ok (.ireturn, 1) := by decide +kernel
theorem dX5_tell_54 : decode cX5_tell 54 = .ok (.aload_n 0, 1) := by decide +kernel
theorem dX5_tell_55 : decode cX5_tell 55 = .ok (.iload_n 1, 1) := by decide +kernel
theorem dX5_tell_56 : decode cX5_tell 56 = .ok (.invokevirtual 235, 3) := by decide +kernel
theorem dX5_tell_59 : decode cX5_tell 59 = .ok (.ireturn, 1) := by decide +kernel
theorem dX5_tell_60 : decode cX5_tell 60 = .ok (.aload_n 0, 1) := by decide +kernel
theorem dX5_tell_61 : decode cX5_tell 61 = .ok (.iload_n 1, 1) := by decide +kernel
theorem dX5_tell_62 : decode cX5_tell 62 = .ok (.invokevirtual 238, 3) := by decide +kernel
theorem dX5_tell_65 : decode cX5_tell 65 = .ok (.ireturn, 1) := by decide +kernel
theorem dX5_toldByMarble_0 : decode cX5_toldByMarble 0 = .ok (.aload_n 0, 1) := by decide +kernel
theorem dX5_toldByMarble_1 : decode cX5_toldByMarble 1 = .ok (.iconst 1, 1) := by decide +kernel
theorem dX5_toldByMarble_2 : decode cX5_toldByMarble 2 = .ok (.invokevirtual 241, 3) := by decide +kernel
theorem dX5_toldByMarble_5 : decode cX5_toldByMarble 5 = .ok (.aload_n 0, 1) := by decide +kernel
theorem dX5_toldByMarble_6 : decode cX5_toldByMarble 6 = .ok (.getfield 21, 3) := by decide +kernel
theorem dX5_toldByMarble_9 : decode cX5_toldByMarble 9 = .ok (.getfield 121, 3) := by decide +kernel
theorem dX5_toldByMarble_12 : decode cX5_toldByMarble 12 = .ok (.iload_n 1, 1) := by decide +kernel
theorem dX5_toldByMarble_13 : decode cX5_toldByMarble 13 = .ok (.iaload, 1) := by decide +kernel
theorem dX5_toldByMarble_14 : decode cX5_toldByMarble 14 = .ok (.ireturn, 1) := by decide +kernel
theorem dX5_toldByHeavy_0 : decode cX5_toldByHeavy 0 = .ok (.aload_n 0, 1) := by decide +kernel
theorem dX5_toldByHeavy_1 : decode cX5_toldByHeavy 1 = .ok (.iconst 2, 1) := by decide +kernel
theorem dX5_toldByHeavy_2 : decode cX5_toldByHeavy 2 = .ok (.invokevirtual 241, 3) := by decide +kernel
theorem dX5_toldByHeavy_5 : decode cX5_toldByHeavy 5 = .ok (.aload_n 0, 1) := by decide +kernel
theorem dX5_toldByHeavy_6 : decode cX5_toldByHeavy 6 = .ok (.iload_n 1, 1) := by decide +kernel
theorem dX5_toldByHeavy_7 : decode cX5_toldByHeavy 7 = .ok (.invokevirtual 238, 3) := by decide +kernel
theorem dX5_toldByHeavy_10 : decode cX5_toldByHeavy 10 = .ok (.bipush 100, 2) := by decide +kernel
theorem dX5_toldByHeavy_12 : decode cX5_toldByHeavy 12 = .ok (.iadd, 1) := by decide +kernel
theorem dX5_toldByHeavy_13 : decode cX5_toldByHeavy 13 = .ok (.ireturn, 1) := by decide +kernel
theorem dX5_toldByLead_0 : decode cX5_toldByLead 0 = .ok (.aload_n 0, 1) := by decide +kernel
theorem dX5_toldByLead_1 : decode cX5_toldByLead 1 = .ok (.iconst 3, 1) := by decide +kernel
theorem dX5_toldByLead_2 : decode cX5_toldByLead 2 = .ok (.invokevirtual 241, 3) := by decide +kernel
theorem dX5_toldByLead_5 : decode cX5_toldByLead 5 = .ok (.aload_n 0, 1) := by decide +kernel
theorem dX5_toldByLead_6 : decode cX5_toldByLead 6 = .ok (.iload_n 1, 1) := by decide +kernel
theorem dX5_toldByLead_7 : decode cX5_toldByLead 7 = .ok (.invokevirtual 235, 3) := by decide +kernel
theorem dX5_toldByLead_10 : decode cX5_toldByLead 10 = .ok (.istore_n 2, 1) := by decide +kernel
theorem dX5_toldByLead_11 : decode cX5_toldByLead 11 = .ok (.iload_n 2, 1) := by decide +kernel
theorem dX5_toldByLead_12 : decode cX5_toldByLead 12 = .ok (.aload_n 0, 1) := by decide +kernel
theorem dX5_toldByLead_13 : decode cX5_toldByLead 13 = .ok (.iload_n 1, 1) := by decide +kernel
theorem dX5_toldByLead_14 : decode cX5_toldByLead 14 = .ok (.invokevirtual 238, 3) := by decide +kernel
theorem dX5_toldByLead_17 : decode cX5_toldByLead 17 = .ok (.iadd, 1) := by decide +kernel
theorem dX5_toldByLead_18 : decode cX5_toldByLead 18 = .ok (.ireturn, 1) := by decide +kernel
theorem dX5_weigh_0 : decode cX5_weigh 0 = .ok (.aload_n 0, 1) := by decide +kernel
theorem dX5_weigh_1 : decode cX5_weigh 1 = .ok (.getfield 21, 3) := by decide +kernel
theorem dX5_weigh_4 : decode cX5_weigh 4 = .ok (.iload_n 1, 1) := by decide +kernel
theorem dX5_weigh_5 : decode cX5_weigh 5 = .ok (.invokevirtual 115, 3) := by decide +kernel
theorem dX5_weigh_8 : decode cX5_weigh 8 = .ok (.ifCond .ne 5, 3) := by decide +kernel
theorem dX5_weigh_11 : decode cX5_weigh 11 = .ok (.iconst (-1), 1) := by decide +kernel
theorem dX5_weigh_12 : decode cX5_weigh 12 = .ok (.ireturn, 1) := by decide +kernel
theorem dX5_weigh_13 : decode cX5_weigh 13 = .ok (.aload_n 0, 1) := by decide +kernel
theorem dX5_weigh_14 : decode cX5_weigh 14 = .ok (.getfield 21, 3) := by decide +kernel
theorem dX5_weigh_17 : decode cX5_weigh 17 = .ok (.getfield 118, 3) := by decide +kernel
theorem dX5_weigh_20 : decode cX5_weigh 20 = .ok (.iload_n 1, 1) := by decide +kernel
theorem dX5_weigh_21 : decode cX5_weigh 21 = .ok (.iaload, 1) := by decide +kernel
theorem dX5_weigh_22 : decode cX5_weigh 22 = .ok (.iconst 2, 1) := by decide +kernel
theorem dX5_weigh_23 : decode cX5_weigh 23 = .ok (.if_icmp .ne 11, 3) := by decide +kernel
theorem dX5_weigh_26 : decode cX5_weigh 26 = .ok (.aload_n 0, 1) := by decide +kernel
theorem dX5_weigh_27 : decode cX5_weigh 27 = .ok (.iconst 5, 1) := by decide +kernel
theorem dX5_weigh_28 : decode cX5_weigh 28 = .ok (.invokevirtual 241, 3) := by decide +kernel
theorem dX5_weigh_31 : decode cX5_weigh 31 = .ok (.bipush 60, 2) := by decide +kernel
theorem dX5_weigh_33 : decode cX5_weigh 33 = .ok (.ireturn, 1) := by decide +kernel
theorem dX5_weigh_34 : decode cX5_weigh 34 = .ok (.aload_n 0, 1) := by decide +kernel
theorem dX5_weigh_35 : decode cX5_weigh 35 = .ok (.iconst 4, 1) := by decide +kernel
theorem dX5_weigh_36 : decode cX5_weigh 36 = .ok (.invokevirtual 241, 3) := by decide +kernel
theorem dX5_weigh_39 : decode cX5_weigh 39 = .ok (.iload_n 1, 1) := by decide +kernel
theorem dX5_weigh_40 : decode cX5_weigh 40 = .ok (.ireturn, 1) := by decide +kernel
theorem dX5_as_0 : decode cX5_as 0 = .ok (.aload_n 0, 1) := by decide +kernel
theorem dX5_as_1 : decode cX5_as 1 = .ok (.iconst 0, 1) := by decide +kernel
theorem dX5_as_2 : decode cX5_as 2 = .ok (.putfield 52, 3) := by decide +kernel
theorem dX5_as_5 : decode cX5_as 5 = .ok (.aload_n 0, 1) := by decide +kernel
theorem dX5_as_6 : decode cX5_as 6 = .ok (.getfield 21, 3) := by decide +kernel
theorem dX5_as_9 : decode cX5_as 9 = .ok (.iload_n 1, 1) := by decide +kernel
theorem dX5_as_10 : decode cX5_as 10 = .ok (.invokevirtual 115, 3) := by decide +kernel
theorem dX5_as_13 : decode cX5_as 13 = .ok (.ifCond .ne 5, 3) := by decide +kernel
theorem dX5_as_16 : decode cX5_as 16 = .ok (.iconst (-1), 1) := by decide +kernel
theorem dX5_as_17 : decode cX5_as 17 = .ok (.ireturn, 1) := by decide +kernel
theorem dX5_as_18 : decode cX5_as 18 = .ok (.iload_n 2, 1) := by decide +kernel
theorem dX5_as_19 : decode cX5_as 19 = .ok (.invokestatic 108, 3) := by decide +kernel
theorem dX5_as_22 : decode cX5_as 22 = .ok (.ifCond .ne 6, 3) := by decide +kernel
theorem dX5_as_25 : decode cX5_as 25 = .ok (.bipush (-2), 2) := by decide +kernel
theorem dX5_as_27 : decode cX5_as 27 = .ok (.ireturn, 1) := by decide +kernel
theorem dX5_as_28 : decode cX5_as 28 = .ok (.aload_n 0, 1) := by decide +kernel
theorem dX5_as_29 : decode cX5_as 29 = .ok (.getfield 21, 3) := by decide +kernel
theorem dX5_as_32 : decode cX5_as 32 = .ok (.getfield 118, 3) := by decide +kernel
theorem dX5_as_35 : decode cX5_as 35 = .ok (.iload_n 1, 1) := by decide +kernel
theorem dX5_as_36 : decode cX5_as 36 = .ok (.iaload, 1) := by decide +kernel
theorem dX5_as_37 : decode cX5_as 37 = .ok (.iload_n 2, 1) := by decide +kernel
theorem dX5_as_38 : decode cX5_as 38 = .ok (.if_icmp .lt 7, 3) := by decide +kernel
theorem dX5_as_41 : decode cX5_as 41 = .ok (.iconst 1, 1) := by decide +kernel
theorem dX5_as_42 : decode cX5_as 42 = .ok (.goto 8, 3) := by decide +kernel
theorem dX5_as_45 : decode cX5_as 45 = .ok (.aload_n 0, 1) := by decide +kernel
theorem dX5_as_46 : decode cX5_as 46 = .ok (.iconst 2, 1) := by decide +kernel
theorem dX5_as_47 : decode cX5_as 47 = .ok (.invokevirtual 70, 3) := by decide +kernel
theorem dX5_as_50 : decode cX5_as 50 = .ok (.ireturn, 1) := by decide +kernel
theorem dX5_trace_0 : decode cX5_trace 0 = .ok (.aload_n 0, 1) := by decide +kernel
theorem dX5_trace_1 : decode cX5_trace 1 = .ok (.getfield 48, 3) := by decide +kernel
theorem dX5_trace_4 : decode cX5_trace 4 = .ok (.ireturn, 1) := by decide +kernel
theorem dX5_fault_0 : decode cX5_fault 0 = .ok (.aload_n 0, 1) := by decide +kernel
theorem dX5_fault_1 : decode cX5_fault 1 = .ok (.getfield 52, 3) := by decide +kernel
theorem dX5_fault_4 : decode cX5_fault 4 = .ok (.ireturn, 1) := by decide +kernel
theorem dX5_many_0 : decode cX5_many 0 = .ok (.iload_n 1, 1) := by decide +kernel
theorem dX5_many_1 : decode cX5_many 1 = .ok (.tableswitch 71 0 3 #[31, 39, 47, 55], 31) := by decide +kernel
theorem dX5_many_32 : decode cX5_many 32 = .ok (.aload_n 0, 1) := by decide +kernel
theorem dX5_many_33 : decode cX5_many 33 = .ok (.getfield 14, 3) := by decide +kernel
theorem dX5_many_36 : decode cX5_many 36 = .ok (.invokevirtual 83, 3) := by decide +kernel
theorem dX5_many_39 : decode cX5_many 39 = .ok (.ireturn, 1) := by decide +kernel
theorem dX5_many_40 : decode cX5_many 40 = .ok (.aload_n 0, 1) := by decide +kernel
theorem dX5_many_41 : decode cX5_many 41 = .ok (.getfield 14, 3) := by decide +kernel
theorem dX5_many_44 : decode cX5_many 44 = .ok (.getfield 189, 3) := by decide +kernel
theorem dX5_many_47 : decode cX5_many 47 = .ok (.ireturn, 1) := by decide +kernel
theorem dX5_many_48 : decode cX5_many 48 = .ok (.aload_n 0, 1) := by decide +kernel
theorem dX5_many_49 : decode cX5_many 49 = .ok (.getfield 21, 3) := by decide +kernel
theorem dX5_many_52 : decode cX5_many 52 = .ok (.getfield 81, 3) := by decide +kernel
theorem dX5_many_55 : decode cX5_many 55 = .ok (.ireturn, 1) := by decide +kernel
theorem dX5_many_56 : decode cX5_many 56 = .ok (.aload_n 0, 1) := by decide +kernel
theorem dX5_many_57 : decode cX5_many 57 = .ok (.getfield 14, 3) := by decide +kernel
theorem dX5_many_60 : decode cX5_many 60 = .ok (.getfield 104, 3) := by decide +kernel
theorem dX5_many_63 : decode cX5_many 63 = .ok (.ifCond .eq 7, 3) := by decide +kernel
theorem dX5_many_66 : decode cX5_many 66 = .ok (.iconst 1, 1) := by decide +kernel
theorem dX5_many_67 : decode cX5_many 67 = .ok (.goto 4, 3) := by decide +kernel
theorem dX5_many_70 : decode cX5_many 70 = .ok (.iconst 0, 1) := by decide +kernel
theorem dX5_many_71 : decode cX5_many 71 = .ok (.ireturn, 1) := by decide +kernel
theorem dX5_many_72 : decode cX5_many 72 = .ok (.bipush (-2), 2) := by decide +kernel
theorem dX5_many_74 : decode cX5_many 74 = .ok (.ireturn, 1) := by decide +kernel
theorem dX5_leaveTrace_0 : decode cX5_leaveTrace 0 = .ok (.aload_n 0, 1) := by decide +kernel
theorem dX5_leaveTrace_1 : decode cX5_leaveTrace 1 = .ok (.bipush 31, 2) := by decide +kernel
theorem dX5_leaveTrace_3 : decode cX5_leaveTrace 3 = .ok (.aload_n 0, 1) := by decide +kernel
theorem dX5_leaveTrace_4 : decode cX5_leaveTrace 4 = .ok (.getfield 48, 3) := by decide +kernel
theorem dX5_leaveTrace_7 : decode cX5_leaveTrace 7 = .ok (.imul, 1) := by decide +kernel
theorem dX5_leaveTrace_8 : decode cX5_leaveTrace 8 = .ok (.iload_n 1, 1) := by decide +kernel
theorem dX5_leaveTrace_9 : decode cX5_leaveTrace 9 = .ok (.iadd, 1) := by decide +kernel
theorem dX5_leaveTrace_10 : decode cX5_leaveTrace 10 = .ok (.putfield 48, 3) := by decide +kernel
theorem dX5_leaveTrace_13 : decode cX5_leaveTrace 13 = .ok (.return_, 1) := by decide +kernel
theorem dX5_failed_0 : decode cX5_failed 0 = .ok (.aload_n 0, 1) := by decide +kernel
theorem dX5_failed_1 : decode cX5_failed 1 = .ok (.iload_n 1, 1) := by decide +kernel
theorem dX5_failed_2 : decode cX5_failed 2 = .ok (.putfield 52, 3) := by decide +kernel
theorem dX5_failed_5 : decode cX5_failed 5 = .ok (.bipush (-10), 2) := by decide +kernel
theorem dX5_failed_7 : decode cX5_failed 7 = .ok (.iload_n 1, 1) := by decide +kernel
theorem dX5_failed_8 : decode cX5_failed 8 = .ok (.isub, 1) := by decide +kernel
theorem dX5_failed_9 : decode cX5_failed 9 = .ok (.ireturn, 1) := by decide +kernel
theorem dX5_isSheet_0 : decode cX5_isSheet 0 = .ok (.iload_n 0, 1) := by decide +kernel
theorem dX5_isSheet_1 : decode cX5_isSheet 1 = .ok (.ifCond .lt 12, 3) := by decide +kernel
theorem dX5_isSheet_4 : decode cX5_isSheet 4 = .ok (.iload_n 0, 1) := by decide +kernel
theorem dX5_isSheet_5 : decode cX5_isSheet 5 = .ok (.iconst 4, 1) := by decide +kernel
theorem dX5_isSheet_6 : decode cX5_isSheet 6 = .ok (.if_icmp .ge 7, 3) := by decide +kernel
theorem dX5_isSheet_9 : decode cX5_isSheet 9 = .ok (.iconst 1, 1) := by decide +kernel
theorem dX5_isSheet_10 : decode cX5_isSheet 10 = .ok (.goto 4, 3) := by decide +kernel
theorem dX5_isSheet_13 : decode cX5_isSheet 13 = .ok (.iconst 0, 1) := by decide +kernel
theorem dX5_isSheet_14 : decode cX5_isSheet 14 = .ok (.ireturn, 1) := by decide +kernel
theorem dX5_isLane_0 : decode cX5_isLane 0 = .ok (.iload_n 0, 1) := by decide +kernel
theorem dX5_isLane_1 : decode cX5_isLane 1 = .ok (.ifCond .lt 12, 3) := by decide +kernel
theorem dX5_isLane_4 : decode cX5_isLane 4 = .ok (.iload_n 0, 1) := by decide +kernel
theorem dX5_isLane_5 : decode cX5_isLane 5 = .ok (.iconst 3, 1) := by decide +kernel
theorem dX5_isLane_6 : decode cX5_isLane 6 = .ok (.if_icmp .ge 7, 3) := by decide +kernel
theorem dX5_isLane_9 : decode cX5_isLane 9 = .ok (.iconst 1, 1) := by decide +kernel
theorem dX5_isLane_10 : decode cX5_isLane 10 = .ok (.goto 4, 3) := by decide +kernel
theorem dX5_isLane_13 : decode cX5_isLane 13 = .ok (.iconst 0, 1) := by decide +kernel
theorem dX5_isLane_14 : decode cX5_isLane 14 = .ok (.ireturn, 1) := by decide +kernel
theorem dX5_isKind_0 : decode cX5_isKind 0 = .ok (.iload_n 0, 1) := by decide +kernel
theorem dX5_isKind_1 : decode cX5_isKind 1 = .ok (.ifCond .lt 12, 3) := by decide +kernel
theorem dX5_isKind_4 : decode cX5_isKind 4 = .ok (.iload_n 0, 1) := by decide +kernel
theorem dX5_isKind_5 : decode cX5_isKind 5 = .ok (.iconst 3, 1) := by decide +kernel
theorem dX5_isKind_6 : decode cX5_isKind 6 = .ok (.if_icmp .ge 7, 3) := by decide +kernel
theorem dX5_isKind_9 : decode cX5_isKind 9 = .ok (.iconst 1, 1) := by decide +kernel
theorem dX5_isKind_10 : decode cX5_isKind 10 = .ok (.goto 4, 3) := by decide +kernel
theorem dX5_isKind_13 : decode cX5_isKind 13 = .ok (.iconst 0, 1) := by decide +kernel
theorem dX5_isKind_14 : decode cX5_isKind 14 = .ok (.ireturn, 1) := by decide +kernel
theorem dX5_isParty_0 : decode cX5_isParty 0 = .ok (.iload_n 0, 1) := by decide +kernel
theorem dX5_isParty_1 : decode cX5_isParty 1 = .ok (.ifCond .lt 12, 3) := by decide +kernel
theorem dX5_isParty_4 : decode cX5_isParty 4 = .ok (.iload_n 0, 1) := by decide +kernel
theorem dX5_isParty_5 : decode cX5_isParty 5 = .ok (.iconst 4, 1) := by decide +kernel
theorem dX5_isParty_6 : decode cX5_isParty 6 = .ok (.if_icmp .ge 7, 3) := by decide +kernel
theorem dX5_isParty_9 : decode cX5_isParty 9 = .ok (.iconst 1, 1) := by decide +kernel
theorem dX5_isParty_10 : decode cX5_isParty 10 = .ok (.goto 4, 3) := by decide +kernel
theorem dX5_isParty_13 : decode cX5_isParty 13 = .ok (.iconst 0, 1) := by decide +kernel
theorem dX5_isParty_14 : decode cX5_isParty 14 = .ok (.ireturn, 1) := by decide +kernel
theorem dX6_init_0 : decode cX6_init 0 = .ok (.aload_n 0, 1) := by decide +kernel
theorem dX6_init_1 : decode cX6_init 1 = .ok (.invokespecial 1, 3) := by decide +kernel
theorem dX6_init_4 : decode cX6_init 4 = .ok (.aload_n 0, 1) := by decide +kernel
theorem dX6_init_5 : decode cX6_init 5 = .ok (.bipush 6, 2) := by decide +kernel
theorem dX6_init_7 : decode cX6_init 7 = .ok (.newarray .int, 2) := by decide +kernel
theorem dX6_init_9 : decode cX6_init 9 = .ok (.putfield 7, 3) := by decide +kernel
theorem dX6_init_12 : decode cX6_init 12 = .ok (.aload_n 0, 1) := by decide +kernel
theorem dX6_init_13 : decode cX6_init 13 = .ok (.bipush 30, 2) := by decide +kernel
theorem dX6_init_15 : decode cX6_init 15 = .ok (.newarray .int, 2) := by decide +kernel
theorem dX6_init_17 : decode cX6_init 17 = .ok (.putfield 13, 3) := by decide +kernel
theorem dX6_init_20 : decode cX6_init 20 = .ok (.aload_n 0, 1) := by decide +kernel
theorem dX6_init_21 : decode cX6_init 21 = .ok (.bipush 6, 2) := by decide +kernel
theorem dX6_init_23 : decode cX6_init 23 = .ok (.newarray .int, 2) := by decide +kernel
theorem dX6_init_25 : decode cX6_init 25 = .ok (.putfield 16, 3) := by decide +kernel
theorem dX6_init_28 : decode cX6_init 28 = .ok (.aload_n 0, 1) := by decide +kernel
theorem dX6_init_29 : decode cX6_init 29 = .ok (.bipush 30, 2) := by decide +kernel
theorem dX6_init_31 : decode cX6_init 31 = .ok (.newarray .int, 2) := by decide +kernel
theorem dX6_init_33 : decode cX6_init 33 = .ok (.putfield 19, 3) := by decide +kernel
theorem dX6_init_36 : decode cX6_init 36 = .ok (.aload_n 0, 1) := by decide +kernel
theorem dX6_init_37 : decode cX6_init 37 = .ok (.bipush 8, 2) := by decide +kernel
theorem dX6_init_39 : decode cX6_init 39 = .ok (.newarray .int, 2) := by decide +kernel
theorem dX6_init_41 : decode cX6_init 41 = .ok (.putfield 22, 3) := by decide +kernel
theorem dX6_init_44 : decode cX6_init 44 = .ok (.aload_n 0, 1) := by decide +kernel
theorem dX6_init_45 : decode cX6_init 45 = .ok (.bipush 8, 2) := by decide +kernel
theorem dX6_init_47 : decode cX6_init 47 = .ok (.newarray .int, 2) := by decide +kernel
theorem dX6_init_49 : decode cX6_init 49 = .ok (.putfield 25, 3) := by decide +kernel
theorem dX6_init_52 : decode cX6_init 52 = .ok (.aload_n 0, 1) := by decide +kernel
theorem dX6_init_53 : decode cX6_init 53 = .ok (.bipush 6, 2) := by decide +kernel
theorem dX6_init_55 : decode cX6_init 55 = .ok (.newarray .long, 2) := by decide +kernel
theorem dX6_init_57 : decode cX6_init 57 = .ok (.putfield 28, 3) := by decide +kernel
theorem dX6_init_60 : decode cX6_init 60 = .ok (.aload_n 0, 1) := by decide +kernel
theorem dX6_init_61 : decode cX6_init 61 = .ok (.bipush 6, 2) := by decide +kernel
theorem dX6_init_63 : decode cX6_init 63 = .ok (.newarray .long, 2) := by decide +kernel
theorem dX6_init_65 : decode cX6_init 65 = .ok (.putfield 32, 3) := by decide +kernel
theorem dX6_init_68 : decode cX6_init 68 = .ok (.aload_n 0, 1) := by decide +kernel
theorem dX6_init_69 : decode cX6_init 69 = .ok (.bipush 7, 2) := by decide +kernel
theorem dX6_init_71 : decode cX6_init 71 = .ok (.newarray .long, 2) := by decide +kernel
theorem dX6_init_73 : decode cX6_init 73 = .ok (.putfield 35, 3) := by decide +kernel
theorem dX6_init_76 : decode cX6_init 76 = .ok (.aload_n 0, 1) := by decide +kernel
theorem dX6_init_77 : decode cX6_init 77 = .ok (.bipush 7, 2) := by decide +kernel
theorem dX6_init_79 : decode cX6_init 79 = .ok (.newarray .int, 2) := by decide +kernel
theorem dX6_init_81 : decode cX6_init 81 = .ok (.putfield 38, 3) := by decide +kernel
theorem dX6_init_84 : decode cX6_init 84 = .ok (.aload_n 0, 1) := by decide +kernel
theorem dX6_init_85 : decode cX6_init 85 = .ok (.sipush 256, 3) := by decide +kernel
theorem dX6_init_88 : decode cX6_init 88 = .ok (.newarray .int, 2) := by decide +kernel
theorem dX6_init_90 : decode cX6_init 90 = .ok (.putfield 41, 3) := by decide +kernel
theorem dX6_init_93 : decode cX6_init 93 = .ok (.aload_n 0, 1) := by decide +kernel
theorem dX6_init_94 : decode cX6_init 94 = .ok (.sipush 256, 3) := by decide +kernel
theorem dX6_init_97 : decode cX6_init 97 = .ok (.newarray .int, 2) := by decide +kernel
theorem dX6_init_99 : decode cX6_init 99 = .ok (.putfield 44, 3) := by decide +kernel
theorem dX6_init_102 : decode cX6_init 102 = .ok (.aload_n 0, 1) := by decide +kernel
theorem dX6_init_103 : decode cX6_init 103 = .ok (.iconst 4, 1) := by decide +kernel
theorem dX6_init_104 : decode cX6_init 104 = .ok (.newarray .int, 2) := by decide +kernel
theorem dX6_init_106 : decode cX6_init 106 = .ok (.putfield 47, 3) := by decide +kernel
theorem dX6_init_109 : decode cX6_init 109 = .ok (.aload_n 0, 1) := by decide +kernel
theorem dX6_init_110 : decode cX6_init 110 = .ok (.iconst 4, 1) := by decide +kernel
theorem dX6_init_111 : decode cX6_init 111 = .ok (.newarray .int, 2) := by decide +kernel
theorem dX6_init_113 : decode cX6_init 113 = .ok (.putfield 50, 3) := by decide +kernel
theorem dX6_init_116 : decode cX6_init 116 = .ok (.aload_n 0, 1) := by decide +kernel
theorem dX6_init_117 : decode cX6_init 117 = .ok (.sipush 240, 3) := by decide +kernel
theorem dX6_init_120 : decode cX6_init 120 = .ok (.newarray .int, 2) := by decide +kernel
theorem dX6_init_122 : decode cX6_init 122 = .ok (.putfield 53, 3) := by decide +kernel
theorem dX6_init_125 : decode cX6_init 125 = .ok (.aload_n 0, 1) := by decide +kernel
theorem dX6_init_126 : decode cX6_init 126 = .ok (.bipush 60, 2) := by decide +kernel
theorem dX6_init_128 : decode cX6_init 128 = .ok (.newarray .int, 2) := by decide +kernel
theorem dX6_init_130 : decode cX6_init 130 = .ok (.putfield 56, 3) := by decide +kernel
theorem dX6_init_133 : decode cX6_init 133 = .ok (.iconst 0, 1) := by decide +kernel
theorem dX6_init_134 : decode cX6_init 134 = .ok (.istore_n 1, 1) := by decide +kernel
theorem dX6_init_135 : decode cX6_init 135 = .ok (.iload_n 1, 1) := by decide +kernel
theorem dX6_init_136 : decode cX6_init 136 = .ok (.iconst 4, 1) := by decide +kernel
theorem dX6_init_137 : decode cX6_init 137 = .ok (.if_icmp .ge 16, 3) := by decide +kernel
theorem dX6_init_140 : decode cX6_init 140 = .ok (.aload_n 0, 1) := by decide +kernel
theorem dX6_init_141 : decode cX6_init 141 = .ok (.getfield 47, 3) := by decide +kernel
theorem dX6_init_144 : decode cX6_init 144 = .ok (.iload_n 1, 1) := by decide +kernel
theorem dX6_init_145 : decode cX6_init 145 = .ok (.iconst (-1), 1) := by decide +kernel
theorem dX6_init_146 : decode cX6_init 146 = .ok (.iastore, 1) := by decide +kernel
theorem dX6_init_147 : decode cX6_init 147 = .ok (.iinc 1 1, 3) := by decide +kernel
theorem dX6_init_150 : decode cX6_init 150 = .ok (.goto (-15), 3) := by decide +kernel
theorem dX6_init_153 : decode cX6_init 153 = .ok (.return_, 1) := by decide +kernel
theorem dX6_in_0 : decode cX6_in 0 = .ok (.lload_n 0, 1) := by decide +kernel
theorem dX6_in_1 : decode cX6_in 1 = .ok (.lload_n 2, 1) := by decide +kernel
theorem dX6_in_2 : decode cX6_in 2 = .ok (.lcmp, 1) := by decide +kernel
theorem dX6_in_3 : decode cX6_in 3 = .ok (.ifCond .lt 14, 3) := by decide +kernel
theorem dX6_in_6 : decode cX6_in 6 = .ok (.lload_n 0, 1) := by decide +kernel
theorem dX6_in_7 : decode cX6_in 7 = .ok (.lload 4, 2) := by decide +kernel
theorem dX6_in_9 : decode cX6_in 9 = .ok (.lcmp, 1) := by decide +kernel
theorem dX6_in_10 : decode cX6_in 10 = .ok (.ifCond .gt 7, 3) := by decide +kernel
theorem dX6_in_13 : decode cX6_in 13 = .ok (.iconst 1, 1) := by decide +kernel
theorem dX6_in_14 : decode cX6_in 14 = .ok (.goto 4, 3) := by decide +kernel
theorem dX6_in_17 : decode cX6_in 17 = .ok (.iconst 0, 1) := by decide +kernel
theorem dX6_in_18 : decode cX6_in 18 = .ok (.ireturn, 1) := by decide +kernel
theorem dX6_lost_0 : decode cX6_lost 0 = .ok (.ldc2_w 59, 3) := by decide +kernel
theorem dX6_lost_3 : decode cX6_lost 3 = .ok (.lreturn, 1) := by decide +kernel
theorem dX6_isIn_0 : decode cX6_isIn 0 = .ok (.iload_n 0, 1) := by decide +kernel
theorem dX6_isIn_1 : decode cX6_isIn 1 = .ok (.iload_n 1, 1) := by decide +kernel
theorem dX6_isIn_2 : decode cX6_isIn 2 = .ok (.ishr, 1) := by decide +kernel
theorem dX6_isIn_3 : decode cX6_isIn 3 = .ok (.iconst 1, 1) := by decide +kernel
theorem dX6_isIn_4 : decode cX6_isIn 4 = .ok (.iand, 1) := by decide +kernel
theorem dX6_isIn_5 : decode cX6_isIn 5 = .ok (.iconst 1, 1) := by decide +kernel
theorem dX6_isIn_6 : decode cX6_isIn 6 = .ok (.if_icmp .ne 7, 3) := by decide +kernel
theorem dX6_isIn_9 : decode cX6_isIn 9 = .ok (.iconst 1, 1) := by decide +kernel
theorem dX6_isIn_10 : decode cX6_isIn 10 = .ok (.goto 4, 3) := by decide +kernel
theorem dX6_isIn_13 : decode cX6_isIn 13 = .ok (.iconst 0, 1) := by decide +kernel
theorem dX6_isIn_14 : decode cX6_isIn 14 = .ok (.ireturn, 1) := by decide +kernel
theorem dX6_bits_0 : decode cX6_bits 0 = .ok (.iconst 0, 1) := by decide +kernel
theorem dX6_bits_1 : decode cX6_bits 1 = .ok (.istore_n 1, 1) := by decide +kernel
theorem dX6_bits_2 : decode cX6_bits 2 = .ok (.iload_n 0, 1) := by decide +kernel
theorem dX6_bits_3 : decode cX6_bits 3 = .ok (.istore_n 2, 1) := by decide +kernel
theorem dX6_bits_4 : decode cX6_bits 4 = .ok (.iload_n 2, 1) := by decide +kernel
theorem dX6_bits_5 : decode cX6_bits 5 = .ok (.ifCond .le 16, 3) := by decide +kernel
theorem dX6_bits_8 : decode cX6_bits 8 = .ok (.iload_n 1, 1) := by decide +kernel
theorem dX6_bits_9 : decode cX6_bits 9 = .ok (.iload_n 2, 1) := by decide +kernel
theorem dX6_bits_10 : decode cX6_bits 10 = .ok (.iconst 1, 1) := by decide +kernel
theorem dX6_bits_11 : decode cX6_bits 11 = .ok (.iand, 1) := by decide +kernel
theorem dX6_bits_12 : decode cX6_bits 12 = .ok (.iadd, 1) := by decide +kernel
theorem dX6_bits_13 : decode cX6_bits 13 = .ok (.istore_n 1, 1) := by decide +kernel
theorem dX6_bits_14 : decode cX6_bits 14 = .ok (.iload_n 2, 1) := by decide +kernel
theorem dX6_bits_15 : decode cX6_bits 15 = .ok (.iconst 1, 1) := by decide +kernel
theorem dX6_bits_16 : decode cX6_bits 16 = .ok (.ishr, 1) := by decide +kernel
theorem dX6_bits_17 : decode cX6_bits 17 = .ok (.istore_n 2, 1) := by decide +kernel
theorem dX6_bits_18 : decode cX6_bits 18 = .ok (.goto (-14), 3) := by decide +kernel
theorem dX6_bits_21 : decode cX6_bits 21 = .ok (.iload_n 1, 1) := by decide +kernel
theorem dX6_bits_22 : decode cX6_bits 22 = .ok (.ireturn, 1) := by decide +kernel
theorem dX6_told_0 : decode cX6_told 0 = .ok (.lload_n 0, 1) := by decide +kernel
theorem dX6_told_1 : decode cX6_told 1 = .ok (.lstore 5, 2) := by decide +kernel
theorem dX6_told_3 : decode cX6_told 3 = .ok (.lload_n 2, 1) := by decide +kernel
theorem dX6_told_4 : decode cX6_told 4 = .ok (.lstore 7, 2) := by decide +kernel
theorem dX6_told_6 : decode cX6_told 6 = .ok (.lload 7, 2) := by decide +kernel
theorem dX6_told_8 : decode cX6_told 8 = .ok (.lconst 0, 1) := by decide +kernel
theorem dX6_told_9 : decode cX6_told 9 = .ok (.lcmp, 1) := by decide +kernel
theorem dX6_told_10 : decode cX6_told 10 = .ok (.ifCond .eq 21, 3) := by decide +kernel
theorem dX6_told_13 : decode cX6_told 13 = .ok (.lload 5, 2) := by decide +kernel
theorem dX6_told_15 : decode cX6_told 15 = .ok (.lload 7, 2) := by decide +kernel
theorem dX6_told_17 : decode cX6_told 17 = .ok (.lrem, 1) := by decide +kernel
theorem dX6_told_18 : decode cX6_told 18 = .ok (.lstore 9, 2) := by decide +kernel
theorem dX6_told_20 : decode cX6_told 20 = .ok (.lload 7, 2) := by decide +kernel
theorem dX6_told_22 : decode cX6_told 22 = .ok (.lstore 5, 2) := by decide +kernel
theorem dX6_told_24 : decode cX6_told 24 = .ok (.lload 9, 2) := by decide +kernel
theorem dX6_told_26 : decode cX6_told 26 = .ok (.lstore 7, 2) := by decide +kernel
theorem dX6_told_28 : decode cX6_told 28 = .ok (.goto (-22), 3) := by decide +kernel
theorem dX6_told_31 : decode cX6_told 31 = .ok (.iload 4, 2) := by decide +kernel
theorem dX6_told_33 : decode cX6_told 33 = .ok (.ifCond .ne 7, 3) := by decide +kernel
theorem dX6_told_36 : decode cX6_told 36 = .ok (.lload_n 0, 1) := by decide +kernel
theorem dX6_told_37 : decode cX6_told 37 = .ok (.goto 4, 3) := by decide +kernel
theorem dX6_told_40 : decode cX6_told 40 = .ok (.lload_n 2, 1) := by decide +kernel
theorem dX6_told_41 : decode cX6_told 41 = .ok (.lload 5, 2) := by decide +kernel
theorem dX6_told_43 : decode cX6_told 43 = .ok (.ldiv, 1) := by decide +kernel
theorem dX6_told_44 : decode cX6_told 44 = .ok (.lreturn, 1) := by decide +kernel
theorem dX6_refused_0 : decode cX6_refused 0 = .ok (.aload_n 0, 1) := by decide +kernel
theorem dX6_refused_1 : decode cX6_refused 1 = .ok (.iconst 0, 1) := by decide +kernel
theorem dX6_refused_2 : decode cX6_refused 2 = .ok (.putfield 61, 3) := by decide +kernel
theorem dX6_refused_5 : decode cX6_refused 5 = .ok (.iload_n 1, 1) := by decide +kernel
theorem dX6_refused_6 : decode cX6_refused 6 = .ok (.ireturn, 1) := by decide +kernel
theorem dX6_failed_0 : decode cX6_failed 0 = .ok (.aload_n 0, 1) := by decide +kernel
theorem dX6_failed_1 : decode cX6_failed 1 = .ok (.iload_n 1, 1) := by decide +kernel
theorem dX6_failed_2 : decode cX6_failed 2 = .ok (.putfield 61, 3) := by decide +kernel
theorem dX6_failed_5 : decode cX6_failed 5 = .ok (.bipush (-10), 2) := by decide +kernel
theorem dX6_failed_7 : decode cX6_failed 7 = .ok (.iload_n 1, 1) := by decide +kernel
theorem dX6_failed_8 : decode cX6_failed 8 = .ok (.isub, 1) := by decide +kernel
theorem dX6_failed_9 : decode cX6_failed 9 = .ok (.ireturn, 1) := by decide +kernel
theorem dX6_failedLong_0 : decode cX6_failedLong 0 = .ok (.aload_n 0, 1) := by decide +kernel
theorem dX6_failedLong_1 : decode cX6_failedLong 1 = .ok (.iload_n 1, 1) := by decide +kernel
theorem dX6_failedLong_2 : decode cX6_failedLong 2 = .ok (.putfield 61, 3) := by decide +kernel
theorem dX6_failedLong_5 : decode cX6_failedLong 5 = .ok (.invokestatic 65, 3) := by decide +kernel
theorem dX6_failedLong_8 : decode cX6_failedLong 8 = .ok (.lreturn, 1) := by decide +kernel
theorem dX6_cells_0 : decode cX6_cells 0 = .ok (.aload_n 0, 1) := by decide +kernel
theorem dX6_cells_1 : decode cX6_cells 1 = .ok (.getfield 69, 3) := by decide +kernel
theorem dX6_cells_4 : decode cX6_cells 4 = .ok (.aload_n 0, 1) := by decide +kernel
theorem dX6_cells_5 : decode cX6_cells 5 = .ok (.getfield 72, 3) := by decide +kernel
theorem dX6_cells_8 : decode cX6_cells 8 = .ok (.imul, 1) := by decide +kernel
theorem dX6_cells_9 : decode cX6_cells 9 = .ok (.ireturn, 1) := by decide +kernel
theorem dX6_noCell_0 : decode cX6_noCell 0 = .ok (.iload_n 1, 1) := by decide +kernel
theorem dX6_noCell_1 : decode cX6_noCell 1 = .ok (.i2l, 1) := by decide +kernel
theorem dX6_noCell_2 : decode cX6_noCell 2 = .ok (.lconst 0, 1) := by decide +kernel
theorem dX6_noCell_3 : decode cX6_noCell 3 = .ok (.aload_n 0, 1) := by decide +kernel
theorem dX6_noCell_4 : decode cX6_noCell 4 = .ok (.invokevirtual 75, 3) := by decide +kernel
theorem dX6_noCell_7 : decode cX6_noCell 7 = .ok (.i2l, 1) := by decide +kernel
theorem dX6_noCell_8 : decode cX6_noCell 8 = .ok (.lconst 1, 1) := by decide +kernel
theorem dX6_noCell_9 : decode cX6_noCell 9 = .ok (.lsub, 1) := by decide +kernel
theorem dX6_noCell_10 : decode cX6_noCell 10 = .ok (.invokestatic 79, 3) := by decide +kernel
theorem dX6_noCell_13 : decode cX6_noCell 13 = .ok (.ifCond .ne 7, 3) := by decide +kernel
theorem dX6_noCell_16 : decode cX6_noCell 16 = .ok (.iconst 1, 1) := by decide +kernel
theorem dX6_noCell_17 : decode cX6_noCell 17 = .ok (.goto 4, 3) := by decide +kernel
theorem dX6_noCell_20 : decode cX6_noCell 20 = .ok (.iconst 0, 1) := by decide +kernel
theorem dX6_noCell_21 : decode cX6_noCell 21 = .ok (.ireturn, 1) := by decide +kernel
theorem dX6_noColumn_0 : decode cX6_noColumn 0 = .ok (.iload_n 1, 1) := by decide +kernel
theorem dX6_noColumn_1 : decode cX6_noColumn 1 = .ok (.i2l, 1) := by decide +kernel
theorem dX6_noColumn_2 : decode cX6_noColumn 2 = .ok (.lconst 0, 1) := by decide +kernel
theorem dX6_noColumn_3 : decode cX6_noColumn 3 = .ok (.aload_n 0, 1) := by decide +kernel
theorem dX6_noColumn_4 : decode cX6_noColumn 4 = .ok (.getfield 72, 3) := by decide +kernel
theorem dX6_noColumn_7 : decode cX6_noColumn 7 = .ok (.i2l, 1) := by decide +kernel
theorem dX6_noColumn_8 : decode cX6_noColumn 8 = .ok (.lconst 1, 1) := by decide +kernel
theorem dX6_noColumn_9 : decode cX6_noColumn 9 = .ok (.lsub, 1) := by decide +kernel
theorem dX6_noColumn_10 : decode cX6_noColumn 10 = .ok (.invokestatic 79, 3) := by decide +kernel
theorem dX6_noColumn_13 : decode cX6_noColumn 13 = .ok (.ifCond .ne 7, 3) := by decide +kernel
theorem dX6_noColumn_16 : decode cX6_noColumn 16 = .ok (.iconst 1, 1) := by decide +kernel
theorem dX6_noColumn_17 : decode cX6_noColumn 17 = .ok (.goto 4, 3) := by decide +kernel
theorem dX6_noColumn_20 : decode cX6_noColumn 20 = .ok (.iconst 0, 1) := by decide +kernel
theorem dX6_noColumn_21 : decode cX6_noColumn 21 = .ok (.ireturn, 1) := by decide +kernel
theorem dX6_noParty_0 : decode cX6_noParty 0 = .ok (.iload_n 0, 1) := by decide +kernel
theorem dX6_noParty_1 : decode cX6_noParty 1 = .ok (.i2l, 1) := by decide +kernel
theorem dX6_noParty_2 : decode cX6_noParty 2 = .ok (.lconst 0, 1) := by decide +kernel
theorem dX6_noParty_3 : decode cX6_noParty 3 = .ok (.ldc2_w 83, 3) := by decide +kernel
theorem dX6_noParty_6 : decode cX6_noParty 6 = .ok (.invokestatic 79, 3) := by decide +kernel
theorem dX6_noParty_9 : decode cX6_noParty 9 = .ok (.ifCond .ne 7, 3) := by decide +kernel
theorem dX6_noParty_12 : decode cX6_noParty 12 = .ok (.iconst 1, 1) := by decide +kernel
theorem dX6_noParty_13 : decode cX6_noParty 13 = .ok (.goto 4, 3) := by decide +kernel
theorem dX6_noParty_16 : decode cX6_noParty 16 = .ok (.iconst 0, 1) := by decide +kernel
theorem dX6_noParty_17 : decode cX6_noParty 17 = .ok (.ireturn, 1) := by decide +kernel
theorem dX6_codeAt_0 : decode cX6_codeAt 0 = .ok (.aload_n 0, 1) := by decide +kernel
theorem dX6_codeAt_1 : decode cX6_codeAt 1 = .ok (.getfield 85, 3) := by decide +kernel
theorem dX6_codeAt_4 : decode cX6_codeAt 4 = .ok (.iload_n 2, 1) := by decide +kernel
theorem dX6_codeAt_5 : decode cX6_codeAt 5 = .ok (.if_icmp .ge 17, 3) := by decide +kernel
theorem dX6_codeAt_8 : decode cX6_codeAt 8 = .ok (.aload_n 0, 1) := by decide +kernel
theorem dX6_codeAt_9 : decode cX6_codeAt 9 = .ok (.getfield 53, 3) := by decide +kernel
theorem dX6_codeAt_12 : decode cX6_codeAt 12 = .ok (.iload_n 1, 1) := by decide +kernel
theorem dX6_codeAt_13 : decode cX6_codeAt 13 = .ok (.aload_n 0, 1) := by decide +kernel
theorem dX6_codeAt_14 : decode cX6_codeAt 14 = .ok (.getfield 85, 3) := by decide +kernel
theorem dX6_codeAt_17 : decode cX6_codeAt 17 = .ok (.iadd, 1) := by decide +kernel
theorem dX6_codeAt_18 : decode cX6_codeAt 18 = .ok (.iaload, 1) := by decide +kernel
theorem dX6_codeAt_19 : decode cX6_codeAt 19 = .ok (.goto 5, 3) := by decide +kernel
theorem dX6_codeAt_22 : decode cX6_codeAt 22 = .ok (.bipush (-9), 2) := by decide +kernel
theorem dX6_codeAt_24 : decode cX6_codeAt 24 = .ok (.ireturn, 1) := by decide +kernel
theorem dX6_figure_0 : decode cX6_figure 0 = .ok (.aload_n 0, 1) := by decide +kernel
theorem dX6_figure_1 : decode cX6_figure 1 = .ok (.iload_n 1, 1) := by decide +kernel
theorem dX6_figure_2 : decode cX6_figure 2 = .ok (.iload_n 2, 1) := by decide +kernel
theorem dX6_figure_3 : decode cX6_figure 3 = .ok (.invokevirtual 88, 3) := by decide +kernel
theorem dX6_figure_6 : decode cX6_figure 6 = .ok (.bipush 48, 2) := by decide +kernel
theorem dX6_figure_8 : decode cX6_figure 8 = .ok (.isub, 1) := by decide +kernel
theorem dX6_figure_9 : decode cX6_figure 9 = .ok (.istore 5, 2) := by decide +kernel
theorem dX6_figure_11 : decode cX6_figure 11 = .ok (.iload 5, 2) := by decide +kernel
theorem dX6_figure_13 : decode cX6_figure 13 = .ok (.i2l, 1) := by decide +kernel
theorem dX6_figure_14 : decode cX6_figure 14 = .ok (.iload_n 3, 1) := by decide +kernel
theorem dX6_figure_15 : decode cX6_figure 15 = .ok (.i2l, 1) := by decide +kernel
theorem dX6_figure_16 : decode cX6_figure 16 = .ok (.iload 4, 2) := by decide +kernel
theorem dX6_figure_18 : decode cX6_figure 18 = .ok (.i2l, 1) := by decide +kernel
theorem dX6_figure_19 : decode cX6_figure 19 = .ok (.invokestatic 79, 3) := by decide +kernel
theorem dX6_figure_22 : decode cX6_figure 22 = .ok (.istore 6, 2) := by decide +kernel
theorem dX6_figure_24 : decode cX6_figure 24 = .ok (.aload_n 0, 1) := by decide +kernel
theorem dX6_figure_25 : decode cX6_figure 25 = .ok (.dup, 1) := by decide +kernel
theorem dX6_figure_26 : decode cX6_figure 26 = .ok (.getfield 85, 3) := by decide +kernel
theorem dX6_figure_29 : decode cX6_figure 29 = .ok (.iload 6, 2) := by decide +kernel
theorem dX6_figure_31 : decode cX6_figure 31 = .ok (.ifCond .eq 7, 3) := by decide +kernel
theorem dX6_figure_34 : decode cX6_figure 34 = .ok (.iconst 1, 1) := by decide +kernel
theorem dX6_figure_35 : decode cX6_figure 35 = .ok (.goto 4, 3) := by decide +kernel
theorem dX6_figure_38 : decode cX6_figure 38 = .ok (.iconst 0, 1) := by decide +kernel
theorem dX6_figure_39 : decode cX6_figure 39 = .ok (.iadd, 1) := by decide +kernel
theorem dX6_figure_40 : decode cX6_figure 40 = .ok (.putfield 85, 3) := by decide +kernel
theorem dX6_figure_43 : decode cX6_figure 43 = .ok (.iload 6, 2) := by decide +kernel
theorem dX6_figure_45 : decode cX6_figure 45 = .ok (.ifCond .eq 8, 3) := by decide +kernel
theorem dX6_figure_48 : decode cX6_figure 48 = .ok (.iload 5, 2) := by decide +kernel
theorem dX6_figure_50 : decode cX6_figure 50 = .ok (.goto 5, 3) := by decide +kernel
theorem dX6_figure_53 : decode cX6_figure 53 = .ok (.bipush (-9), 2) := by decide +kernel
theorem dX6_figure_55 : decode cX6_figure 55 = .ok (.ireturn, 1) := by decide +kernel
theorem dX6_signBy_0 : decode cX6_signBy 0 = .ok (.iload_n 0, 1) := by decide +kernel
theorem dX6_signBy_1 : decode cX6_signBy 1 = .ok (.lookupswitch 61 #[(35, 59), (46, 51), (108, 55), (112, 53), (114, 57)], 51) := by decide +kernel
theorem dX6_signBy_52 : decode cX6_signBy 52 = .ok (.iconst 0, 1) := by decide +kernel
theorem dX6_signBy_53 : decode cX6_signBy 53 = .ok (.ireturn, 1) := by decide +kernel
theorem dX6_signBy_54 : decode cX6_signBy 54 = .ok (.iconst 1, 1) := by decide +kernel
theorem dX6_signBy_55 : decode cX6_signBy 55 = .ok (.ireturn, 1) := by decide +kernel
theorem dX6_signBy_56 : decode cX6_signBy 56 = .ok (.iconst 2, 1) := by decide +kernel
theorem dX6_signBy_57 : decode cX6_signBy 57 = .ok (.ireturn, 1) := by decide +kernel
theorem dX6_signBy_58 : decode cX6_signBy 58 = .ok (.iconst 3, 1) := by decide +kernel
theorem dX6_signBy_59 : decode cX6_signBy 59 = .ok (.ireturn, 1) := by decide +kernel
theorem dX6_signBy_60 : decode cX6_signBy 60 = .ok (.iconst 4, 1) := by decide +kernel
theorem dX6_signBy_61 : decode cX6_signBy 61 = .ok (.ireturn, 1) := by decide +kernel
theorem dX6_signBy_62 : decode cX6_signBy 62 = .ok (.bipush (-9), 2) := by decide +kernel
theorem dX6_signBy_64 : decode cX6_signBy 64 = .ok (.ireturn, 1) := by decide +kernel
theorem dX6_readsCell_0 : decode cX6_readsCell 0 = .ok (.aload_n 0, 1) := by decide +kernel
theorem dX6_readsCell_1 : decode cX6_readsCell 1 = .ok (.getfield 19, 3) := by decide +kernel
theorem dX6_readsCell_4 : decode cX6_readsCell 4 = .ok (.iload_n 3, 1) := by decide +kernel
theorem dX6_readsCell_5 : decode cX6_readsCell 5 = .ok (.aload_n 0, 1) := by decide +kernel
theorem dX6_readsCell_6 : decode cX6_readsCell 6 = .ok (.iload_n 1, 1) := by decide +kernel
theorem dX6_readsCell_7 : decode cX6_readsCell 7 = .ok (.iload_n 2, 1) := by decide +kernel
theorem dX6_readsCell_8 : decode cX6_readsCell 8 = .ok (.invokevirtual 88, 3) := by decide +kernel
theorem dX6_readsCell_11 : decode cX6_readsCell 11 = .ok (.invokestatic 92, 3) := by decide +kernel
theorem dX6_readsCell_14 : decode cX6_readsCell 14 = .ok (.iastore, 1) := by decide +kernel
theorem dX6_readsCell_15 : decode cX6_readsCell 15 = .ok (.aload_n 0, 1) := by decide +kernel
theorem dX6_readsCell_16 : decode cX6_readsCell 16 = .ok (.getfield 19, 3) := by decide +kernel
theorem dX6_readsCell_19 : decode cX6_readsCell 19 = .ok (.iload_n 3, 1) := by decide +kernel
theorem dX6_readsCell_20 : decode cX6_readsCell 20 = .ok (.iaload, 1) := by decide +kernel
theorem dX6_readsCell_21 : decode cX6_readsCell 21 = .ok (.ifCond .lt 7, 3) := by decide +kernel
theorem dX6_readsCell_24 : decode cX6_readsCell 24 = .ok (.iconst 1, 1) := by decide +kernel
theorem dX6_readsCell_25 : decode cX6_readsCell 25 = .ok (.goto 4, 3) := by decide +kernel
theorem dX6_readsCell_28 : decode cX6_readsCell 28 = .ok (.iconst 0, 1) := by decide +kernel
theorem dX6_readsCell_29 : decode cX6_readsCell 29 = .ok (.istore 4, 2) := by decide +kernel
theorem dX6_readsCell_31 : decode cX6_readsCell 31 = .ok (.aload_n 0, 1) := by decide +kernel
theorem dX6_readsCell_32 : decode cX6_readsCell 32 = .ok (.dup, 1) := by decide +kernel
theorem dX6_readsCell_33 : decode cX6_readsCell 33 = .ok (.getfield 85, 3) := by decide +kernel
theorem dX6_readsCell_36 : decode cX6_readsCell 36 = .ok (.iload 4, 2) := by decide +kernel
theorem dX6_readsCell_38 : decode cX6_readsCell 38 = .ok (.ifCond .eq 7, 3) := by decide +kernel
theorem dX6_readsCell_41 : decode cX6_readsCell 41 = .ok (.iconst 1, 1) := by decide +kernel
theorem dX6_readsCell_42 : decode cX6_readsCell 42 = .ok (.goto 4, 3) := by decide +kernel
theorem dX6_readsCell_45 : decode cX6_readsCell 45 = .ok (.iconst 0, 1) := by decide +kernel
theorem dX6_readsCell_46 : decode cX6_readsCell 46 = .ok (.iadd, 1) := by decide +kernel
theorem dX6_readsCell_47 : decode cX6_readsCell 47 = .ok (.putfield 85, 3) := by decide +kernel
theorem dX6_readsCell_50 : decode cX6_readsCell 50 = .ok (.iload 4, 2) := by decide +kernel
theorem dX6_readsCell_52 : decode cX6_readsCell 52 = .ok (.ireturn, 1) := by decide +kernel
theorem dX6_readsHill_0 : decode cX6_readsHill 0 = .ok (.aload_n 0, 1) := by decide +kernel
theorem dX6_readsHill_1 : decode cX6_readsHill 1 = .ok (.iconst 0, 1) := by decide +kernel
theorem dX6_readsHill_2 : decode cX6_readsHill 2 = .ok (.putfield 85, 3) := by decide +kernel
theorem dX6_readsHill_5 : decode cX6_readsHill 5 = .ok (.aload_n 0, 1) := by decide +kernel
theorem dX6_readsHill_6 : decode cX6_readsHill 6 = .ok (.iload_n 1, 1) := by decide +kernel
theorem dX6_readsHill_7 : decode cX6_readsHill 7 = .ok (.iload_n 2, 1) := by decide +kernel
theorem dX6_readsHill_8 : decode cX6_readsHill 8 = .ok (.invokevirtual 88, 3) := by decide +kernel
theorem dX6_readsHill_11 : decode cX6_readsHill 11 = .ok (.bipush 109, 2) := by decide +kernel
theorem dX6_readsHill_13 : decode cX6_readsHill 13 = .ok (.if_icmp .ne 7, 3) := by decide +kernel
theorem dX6_readsHill_16 : decode cX6_readsHill 16 = .ok (.iconst 1, 1) := by decide +kernel
theorem dX6_readsHill_17 : decode cX6_readsHill 17 = .ok (.goto 4, 3) := by decide +kernel
theorem dX6_readsHill_20 : decode cX6_readsHill 20 = .ok (.iconst 0, 1) := by decide +kernel
theorem dX6_readsHill_21 : decode cX6_readsHill 21 = .ok (.istore_n 3, 1) := by decide +kernel
theorem dX6_readsHill_22 : decode cX6_readsHill 22 = .ok (.aload_n 0, 1) := by decide +kernel
theorem dX6_readsHill_23 : decode cX6_readsHill 23 = .ok (.dup, 1) := by decide +kernel
theorem dX6_readsHill_24 : decode cX6_readsHill 24 = .ok (.getfield 85, 3) := by decide +kernel
theorem dX6_readsHill_27 : decode cX6_readsHill 27 = .ok (.iload_n 3, 1) := by decide +kernel
theorem dX6_readsHill_28 : decode cX6_readsHill 28 = .ok (.ifCond .eq 7, 3) := by decide +kernel
theorem dX6_readsHill_31 : decode cX6_readsHill 31 = .ok (.iconst 1, 1) := by decide +kernel
theorem dX6_readsHill_32 : decode cX6_readsHill 32 = .ok (.goto 4, 3) := by decide +kernel
theorem dX6_readsHill_35 : decode cX6_readsHill 35 = .ok (.iconst 0, 1) := by decide +kernel
theorem dX6_readsHill_36 : decode cX6_readsHill 36 = .ok (.iadd, 1) := by decide +kernel
theorem dX6_readsHill_37 : decode cX6_readsHill 37 = .ok (.putfield 85, 3) := by decide +kernel
theorem dX6_readsHill_40 : decode cX6_readsHill 40 = .ok (.aload_n 0, 1) := by decide +kernel
theorem dX6_readsHill_41 : decode cX6_readsHill 41 = .ok (.iload_n 3, 1) := by decide +kernel
theorem dX6_readsHill_42 : decode cX6_readsHill 42 = .ok (.ifCond .eq 14, 3) := by decide +kernel
theorem dX6_readsHill_45 : decode cX6_readsHill 45 = .ok (.aload_n 0, 1) := by decide +kernel
theorem dX6_readsHill_46 : decode cX6_readsHill 46 = .ok (.iload_n 1, 1) := by decide +kernel
theorem dX6_readsHill_47 : decode cX6_readsHill 47 = .ok (.iload_n 2, 1) := by decide +kernel
theorem dX6_readsHill_48 : decode cX6_readsHill 48 = .ok (.iconst 1, 1) := by decide +kernel
theorem dX6_readsHill_49 : decode cX6_readsHill 49 = .ok (.iconst 5, 1) := by decide +kernel
theorem dX6_readsHill_50 : decode cX6_readsHill 50 = .ok (.invokevirtual 96, 3) := by decide +kernel
theorem dX6_readsHill_53 : decode cX6_readsHill 53 = .ok (.goto 5, 3) := by decide +kernel
theorem dX6_readsHill_56 : decode cX6_readsHill 56 = .ok (.bipush (-9), 2) := by decide +kernel
theorem dX6_readsHill_58 : decode cX6_readsHill 58 = .ok (.putfield 100, 3) := by decide +kernel
theorem dX6_readsHill_61 : decode cX6_readsHill 61 = .ok (.aload_n 0, 1) := by decide +kernel
theorem dX6_readsHill_62 : decode cX6_readsHill 62 = .ok (.aload_n 0, 1) := by decide +kernel
theorem dX6_readsHill_63 : decode cX6_readsHill 63 = .ok (.getfield 100, 3) := by decide +kernel
theorem dX6_readsHill_66 : decode cX6_readsHill 66 = .ok (.ifCond .le 15, 3) := by decide +kernel
theorem dX6_readsHill_69 : decode cX6_readsHill 69 = .ok (.aload_n 0, 1) := by decide +kernel
theorem dX6_readsHill_70 : decode cX6_readsHill 70 = .ok (.iload_n 1, 1) := by decide +kernel
theorem dX6_readsHill_71 : decode cX6_readsHill 71 = .ok (.iload_n 2, 1) := by decide +kernel
theorem dX6_readsHill_72 : decode cX6_readsHill 72 = .ok (.iconst 2, 1) := by decide +kernel
theorem dX6_readsHill_73 : decode cX6_readsHill 73 = .ok (.bipush 6, 2) := by decide +kernel
theorem dX6_readsHill_75 : decode cX6_readsHill 75 = .ok (.invokevirtual 96, 3) := by decide +kernel
theorem dX6_readsHill_78 : decode cX6_readsHill 78 = .ok (.goto 5, 3) := by decide +kernel
theorem dX6_readsHill_81 : decode cX6_readsHill 81 = .ok (.bipush (-9), 2) := by decide +kernel
theorem dX6_readsHill_83 : decode cX6_readsHill 83 = .ok (.putfield 103, 3) := by decide +kernel
theorem dX6_readsHill_86 : decode cX6_readsHill 86 = .ok (.aload_n 0, 1) := by decide +kernel
theorem dX6_readsHill_87 : decode cX6_readsHill 87 = .ok (.getfield 103, 3) := by decide +kernel
theorem dX6_readsHill_90 : decode cX6_readsHill 90 = .ok (.ifCond .le 7, 3) := by decide +kernel
theorem dX6_readsHill_93 : decode cX6_readsHill 93 = .ok (.iconst 1, 1) := by decide +kernel
theorem dX6_readsHill_94 : decode cX6_readsHill 94 = .ok (.goto 4, 3) := by decide +kernel
theorem dX6_readsHill_97 : decode cX6_readsHill 97 = .ok (.iconst 0, 1) := by decide +kernel
theorem dX6_readsHill_98 : decode cX6_readsHill 98 = .ok (.istore_n 3, 1) := by decide +kernel
theorem dX6_readsHill_99 : decode cX6_readsHill 99 = .ok (.iconst 0, 1) := by decide +kernel
theorem dX6_readsHill_100 : decode cX6_readsHill 100 = .ok (.istore 4, 2) := by decide +kernel
theorem dX6_readsHill_102 : decode cX6_readsHill 102 = .ok (.iload_n 3, 1) := by decide +kernel
theorem dX6_readsHill_103 : decode cX6_readsHill 103 = .ok (.ifCond .eq 49, 3) := by decide +kernel
theorem dX6_readsHill_106 : decode cX6_readsHill 106 = .ok (.iload 4, 2) := by decide +kernel
theorem dX6_readsHill_108 : decode cX6_readsHill 108 = .ok (.aload_n 0, 1) := by decide +kernel
theorem dX6_readsHill_109 : decode cX6_readsHill 109 = .ok (.getfield 103, 3) := by decide +kernel
theorem dX6_readsHill_112 : decode cX6_readsHill 112 = .ok (.if_icmp .ge 40, 3) := by decide +kernel
theorem dX6_readsHill_115 : decode cX6_readsHill 115 = .ok (.aload_n 0, 1) := by decide +kernel
theorem dX6_readsHill_116 : decode cX6_readsHill 116 = .ok (.getfield 16, 3) := by decide +kernel
theorem dX6_readsHill_119 : decode cX6_readsHill 119 = .ok (.iload 4, 2) := by decide +kernel
theorem dX6_readsHill_121 : decode cX6_readsHill 121 = .ok (.aload_n 0, 1) := by decide +kernel
theorem dX6_readsHill_122 : decode cX6_readsHill 122 = .ok (.iload_n 1, 1) := by decide +kernel
theorem dX6_readsHill_123 : decode cX6_readsHill 123 = .ok (.iload_n 2, 1) := by decide +kernel
theorem dX6_readsHill_124 : decode cX6_readsHill 124 = .ok (.iconst 0, 1) := by decide +kernel
theorem dX6_readsHill_125 : decode cX6_readsHill 125 = .ok (.iconst 3, 1) := by decide +kernel
theorem dX6_readsHill_126 : decode cX6_readsHill 126 = .ok (.invokevirtual 96, 3) := by decide +kernel
theorem dX6_readsHill_129 : decode cX6_readsHill 129 = .ok (.iastore, 1) := by decide +kernel
theorem dX6_readsHill_130 : decode cX6_readsHill 130 = .ok (.aload_n 0, 1) := by decide +kernel
theorem dX6_readsHill_131 : decode cX6_readsHill 131 = .ok (.getfield 16, 3) := by decide +kernel
theorem dX6_readsHill_134 : decode cX6_readsHill 134 = .ok (.iload 4, 2) := by decide +kernel
theorem dX6_readsHill_136 : decode cX6_readsHill 136 = .ok (.iaload, 1) := by decide +kernel
theorem dX6_readsHill_137 : decode cX6_readsHill 137 = .ok (.ifCond .lt 7, 3) := by decide +kernel
theorem dX6_readsHill_140 : decode cX6_readsHill 140 = .ok (.iconst 1, 1) := by decide +kernel
theorem dX6_readsHill_141 : decode cX6_readsHill 141 = .ok (.goto 4, 3) := by decide +kernel
theorem dX6_readsHill_144 : decode cX6_readsHill 144 = .ok (.iconst 0, 1) := by decide +kernel
theorem dX6_readsHill_145 : decode cX6_readsHill 145 = .ok (.istore_n 3, 1) := by decide +kernel
theorem dX6_readsHill_146 : decode cX6_readsHill 146 = .ok (.iinc 4 1, 3) := by decide +kernel
theorem dX6_readsHill_149 : decode cX6_readsHill 149 = .ok (.goto (-47), 3) := by decide +kernel
theorem dX6_readsHill_152 : decode cX6_readsHill 152 = .ok (.iconst 0, 1) := by decide +kernel
theorem dX6_readsHill_153 : decode cX6_readsHill 153 = .ok (.istore 4, 2) := by decide +kernel
theorem dX6_readsHill_155 : decode cX6_readsHill 155 = .ok (.iload_n 3, 1) := by decide +kernel
theorem dX6_readsHill_156 : decode cX6_readsHill 156 = .ok (.ifCond .eq 89, 3) := by decide +kernel
theorem dX6_readsHill_159 : decode cX6_readsHill 159 = .ok (.iload 4, 2) := by decide +kernel
theorem dX6_readsHill_161 : decode cX6_readsHill 161 = .ok (.aload_n 0, 1) := by decide +kernel
theorem dX6_readsHill_162 : decode cX6_readsHill 162 = .ok (.getfield 100, 3) := by decide +kernel
theorem dX6_readsHill_165 : decode cX6_readsHill 165 = .ok (.aload_n 0, 1) := by decide +kernel
theorem dX6_readsHill_166 : decode cX6_readsHill 166 = .ok (.getfield 103, 3) := by decide +kernel
theorem dX6_readsHill_169 : decode cX6_readsHill 169 = .ok (.imul, 1) := by decide +kernel
theorem dX6_readsHill_170 : decode cX6_readsHill 170 = .ok (.if_icmp .ge 75, 3) := by decide +kernel
theorem dX6_readsHill_173 : decode cX6_readsHill 173 = .ok (.iload 4, 2) := by decide +kernel
theorem dX6_readsHill_175 : decode cX6_readsHill 175 = .ok (.aload_n 0, 1) := by decide +kernel
theorem dX6_readsHill_176 : decode cX6_readsHill 176 = .ok (.getfield 103, 3) := by decide +kernel
theorem dX6_readsHill_179 : decode cX6_readsHill 179 = .ok (.irem, 1) := by decide +kernel
theorem dX6_readsHill_180 : decode cX6_readsHill 180 = .ok (.ifCond .ne 38, 3) := by decide +kernel
theorem dX6_readsHill_183 : decode cX6_readsHill 183 = .ok (.aload_n 0, 1) := by decide +kernel
theorem dX6_readsHill_184 : decode cX6_readsHill 184 = .ok (.iload_n 1, 1) := by decide +kernel
theorem dX6_readsHill_185 : decode cX6_readsHill 185 = .ok (.iload_n 2, 1) := by decide +kernel
theorem dX6_readsHill_186 : decode cX6_readsHill 186 = .ok (.invokevirtual 88, 3) := by decide +kernel
theorem dX6_readsHill_189 : decode cX6_readsHill 189 = .ok (.bipush 59, 2) := by decide +kernel
theorem dX6_readsHill_191 : decode cX6_readsHill 191 = .ok (.if_icmp .ne 7, 3) := by decide +kernel
theorem dX6_readsHill_194 : decode cX6_readsHill 194 = .ok (.iconst 1, 1) := by decide +kernel
theorem dX6_readsHill_195 : decode cX6_readsHill 195 = .ok (.goto 4, 3) := by decide +kernel
theorem dX6_readsHill_198 : decode cX6_readsHill 198 = .ok (.iconst 0, 1) := by decide +kernel
theorem dX6_readsHill_199 : decode cX6_readsHill 199 = .ok (.istore_n 3, 1) := by decide +kernel
theorem dX6_readsHill_200 : decode cX6_readsHill 200 = .ok (.aload_n 0, 1) := by decide +kernel
theorem dX6_readsHill_201 : decode cX6_readsHill 201 = .ok (.dup, 1) := by decide +kernel
theorem dX6_readsHill_202 : decode cX6_readsHill 202 = .ok (.getfield 85, 3) := by decide +kernel
theorem dX6_readsHill_205 : decode cX6_readsHill 205 = .ok (.iload_n 3, 1) := by decide +kernel
theorem dX6_readsHill_206 : decode cX6_readsHill 206 = .ok (.ifCond .eq 7, 3) := by decide +kernel
theorem dX6_readsHill_209 : decode cX6_readsHill 209 = .ok (.iconst 1, 1) := by decide +kernel
theorem dX6_readsHill_210 : decode cX6_readsHill 210 = .ok (.goto 4, 3) := by decide +kernel
theorem dX6_readsHill_213 : decode cX6_readsHill 213 = .ok (.iconst 0, 1) := by decide +kernel
theorem dX6_readsHill_214 : decode cX6_readsHill 214 = .ok (.iadd, 1) := by decide +kernel
theorem dX6_readsHill_215 : decode cX6_readsHill 215 = .ok (.putfield 85, 3) := by decide +kernel
theorem dX6_readsHill_218 : decode cX6_readsHill 218 = .ok (.iload_n 3, 1) := by decide +kernel
theorem dX6_readsHill_219 : decode cX6_readsHill 219 = .ok (.ifCond .eq 18, 3) := by decide +kernel
theorem dX6_readsHill_222 : decode cX6_readsHill 222 = .ok (.aload_n 0, 1) := by decide +kernel
theorem dX6_readsHill_223 : decode cX6_readsHill 223 = .ok (.iload_n 1, 1) := by decide +kernel
theorem dX6_readsHill_224 : decode cX6_readsHill 224 = .ok (.iload_n 2, 1) := by decide +kernel
theorem dX6_readsHill_225 : decode cX6_readsHill 225 = .ok (.iload 4, 2) := by decide +kernel
theorem dX6_readsHill_227 : decode cX6_readsHill 227 = .ok (.invokevirtual 106, 3) := by decide +kernel
theorem dX6_readsHill_230 : decode cX6_readsHill 230 = .ok (.ifCond .eq 7, 3) := by decide +kernel
theorem dX6_readsHill_233 : decode cX6_readsHill 233 = .ok (.iconst 1, 1) := by decide +kernel
theorem dX6_readsHill_234 : decode cX6_readsHill 234 = .ok (.goto 4, 3) := by decide +kernel
theorem dX6_readsHill_237 : decode cX6_readsHill 237 = .ok (.iconst 0, 1) := by decide +kernel
theorem dX6_readsHill_238 : decode cX6_readsHill 238 = .ok (.istore_n 3, 1) := by decide +kernel
theorem dX6_readsHill_239 : decode cX6_readsHill 239 = .ok (.iinc 4 1, 3) := by decide +kernel
theorem dX6_readsHill_242 : decode cX6_readsHill 242 = .ok (.goto (-87), 3) := by decide +kernel
theorem dX6_readsHill_245 : decode cX6_readsHill 245 = .ok (.iload_n 3, 1) := by decide +kernel
theorem dX6_readsHill_246 : decode cX6_readsHill 246 = .ok (.ifCond .eq 15, 3) := by decide +kernel
theorem dX6_readsHill_249 : decode cX6_readsHill 249 = .ok (.aload_n 0, 1) := by decide +kernel
theorem dX6_readsHill_250 : decode cX6_readsHill 250 = .ok (.getfield 85, 3) := by decide +kernel
theorem dX6_readsHill_253 : decode cX6_readsHill 253 = .ok (.iload_n 2, 1) := by decide +kernel
theorem dX6_readsHill_254 : decode cX6_readsHill 254 = .ok (.if_icmp .ne 7, 3) := by decide +kernel
theorem dX6_readsHill_257 : decode cX6_readsHill 257 = .ok (.iconst 1, 1) := by decide +kernel
theorem dX6_readsHill_258 : decode cX6_readsHill 258 = .ok (.goto 4, 3) := by decide +kernel
theorem dX6_readsHill_261 : decode cX6_readsHill 261 = .ok (.iconst 0, 1) := by decide +kernel
theorem dX6_readsHill_262 : decode cX6_readsHill 262 = .ok (.ireturn, 1) := by decide +kernel
theorem dX6_cellsBarred_0 : decode cX6_cellsBarred 0 = .ok (.aload_n 0, 1) := by decide +kernel
theorem dX6_cellsBarred_1 : decode cX6_cellsBarred 1 = .ok (.getfield 47, 3) := by decide +kernel
theorem dX6_cellsBarred_4 : decode cX6_cellsBarred 4 = .ok (.iload_n 1, 1) := by decide +kernel
theorem dX6_cellsBarred_5 : decode cX6_cellsBarred 5 = .ok (.iaload, 1) := by decide +kernel
theorem dX6_cellsBarred_6 : decode cX6_cellsBarred 6 = .ok (.ifCond .lt 19, 3) := by decide +kernel
theorem dX6_cellsBarred_9 : decode cX6_cellsBarred 9 = .ok (.aload_n 0, 1) := by decide +kernel
theorem dX6_cellsBarred_10 : decode cX6_cellsBarred 10 = .ok (.getfield 50, 3) := by decide +kernel
theorem dX6_cellsBarred_13 : decode cX6_cellsBarred 13 = .ok (.iload_n 1, 1) := by decide +kernel
theorem dX6_cellsBarred_14 : decode cX6_cellsBarred 14 = .ok (.iaload, 1) := by decide +kernel
theorem dX6_cellsBarred_15 : decode cX6_cellsBarred 15 = .ok (.iload_n 2, 1) := by decide +kernel
theorem dX6_cellsBarred_16 : decode cX6_cellsBarred 16 = .ok (.if_icmp .eq 9, 3) := by decide +kernel
theorem dX6_cellsBarred_19 : decode cX6_cellsBarred 19 = .ok (.aload_n 0, 1) := by decide +kernel
theorem dX6_cellsBarred_20 : decode cX6_cellsBarred 20 = .ok (.iconst 2, 1) := by decide +kernel
theorem dX6_cellsBarred_21 : decode cX6_cellsBarred 21 = .ok (.invokevirtual 110, 3) := by decide +kernel
theorem dX6_cellsBarred_24 : decode cX6_cellsBarred 24 = .ok (.ireturn, 1) := by decide +kernel
theorem dX6_cellsBarred_25 : decode cX6_cellsBarred 25 = .ok (.aload_n 0, 1) := by decide +kernel
theorem dX6_cellsBarred_26 : decode cX6_cellsBarred 26 = .ok (.getfield 47, 3) := by decide +kernel
theorem dX6_cellsBarred_29 : decode cX6_cellsBarred 29 = .ok (.iload_n 1, 1) := by decide +kernel
theorem dX6_cellsBarred_30 : decode cX6_cellsBarred 30 = .ok (.iaload, 1) := by decide +kernel
theorem dX6_cellsBarred_31 : decode cX6_cellsBarred 31 = .ok (.ifCond .ge 9, 3) := by decide +kernel
theorem dX6_cellsBarred_34 : decode cX6_cellsBarred 34 = .ok (.aload_n 0, 1) := by decide +kernel
theorem dX6_cellsBarred_35 : decode cX6_cellsBarred 35 = .ok (.iconst 1, 1) := by decide +kernel
theorem dX6_cellsBarred_36 : decode cX6_cellsBarred 36 = .ok (.invokevirtual 110, 3) := by decide +kernel
theorem dX6_cellsBarred_39 : decode cX6_cellsBarred 39 = .ok (.ireturn, 1) := by decide +kernel
theorem dX6_cellsBarred_40 : decode cX6_cellsBarred 40 = .ok (.lload 4, 2) := by decide +kernel
theorem dX6_cellsBarred_42 : decode cX6_cellsBarred 42 = .ok (.lconst 0, 1) := by decide +kernel
theorem dX6_cellsBarred_43 : decode cX6_cellsBarred 43 = .ok (.lcmp, 1) := by decide +kernel
theorem dX6_cellsBarred_44 : decode cX6_cellsBarred 44 = .ok (.ifCond .ge 9, 3) := by decide +kernel
theorem dX6_cellsBarred_47 : decode cX6_cellsBarred 47 = .ok (.aload_n 0, 1) := by decide +kernel
theorem dX6_cellsBarred_48 : decode cX6_cellsBarred 48 = .ok (.iconst 4, 1) := by decide +kernel
theorem dX6_cellsBarred_49 : decode cX6_cellsBarred 49 = .ok (.invokevirtual 110, 3) := by decide +kernel
theorem dX6_cellsBarred_52 : decode cX6_cellsBarred 52 = .ok (.ireturn, 1) := by decide +kernel
theorem dX6_cellsBarred_53 : decode cX6_cellsBarred 53 = .ok (.iload_n 3, 1) := by decide +kernel
theorem dX6_cellsBarred_54 : decode cX6_cellsBarred 54 = .ok (.lload 4, 2) := by decide +kernel
theorem dX6_cellsBarred_56 : decode cX6_cellsBarred 56 = .ok (.aload_n 0, 1) := by decide +kernel
theorem dX6_cellsBarred_57 : decode cX6_cellsBarred 57 = .ok (.getfield 47, 3) := by decide +kernel
theorem dX6_cellsBarred_60 : decode cX6_cellsBarred 60 = .ok (.iload_n 1, 1) := by decide +kernel
theorem dX6_cellsBarred_61 : decode cX6_cellsBarred 61 = .ok (.iaload, 1) := by decide +kernel
theorem dX6_cellsBarred_62 : decode cX6_cellsBarred 62 = .ok (.invokestatic 113, 3) := by decide +kernel
theorem dX6_cellsBarred_65 : decode cX6_cellsBarred 65 = .ok (.ifCond .eq 11, 3) := by decide +kernel
theorem dX6_cellsBarred_68 : decode cX6_cellsBarred 68 = .ok (.aload_n 0, 1) := by decide +kernel
theorem dX6_cellsBarred_69 : decode cX6_cellsBarred 69 = .ok (.iconst 3, 1) := by decide +kernel
theorem dX6_cellsBarred_70 : decode cX6_cellsBarred 70 = .ok (.invokevirtual 110, 3) := by decide +kernel
theorem dX6_cellsBarred_73 : decode cX6_cellsBarred 73 = .ok (.goto 4, 3) := by decide +kernel
theorem dX6_cellsBarred_76 : decode cX6_cellsBarred 76 = .ok (.iconst 0, 1) := by decide +kernel
theorem dX6_cellsBarred_77 : decode cX6_cellsBarred 77 = .ok (.ireturn, 1) := by decide +kernel
theorem dX6_hill_0 : decode cX6_hill 0 = .ok (.iload_n 1, 1) := by decide +kernel
theorem dX6_hill_1 : decode cX6_hill 1 = .ok (.invokestatic 117, 3) := by decide +kernel
theorem dX6_hill_4 : decode cX6_hill 4 = .ok (.ifCond .eq 9, 3) := by decide +kernel
theorem dX6_hill_7 : decode cX6_hill 7 = .ok (.aload_n 0, 1) := by decide +kernel
theorem dX6_hill_8 : decode cX6_hill 8 = .ok (.iconst (-1), 1) := by decide +kernel
theorem dX6_hill_9 : decode cX6_hill 9 = .ok (.invokevirtual 121, 3) := by decide +kernel
theorem dX6_hill_12 : decode cX6_hill 12 = .ok (.ireturn, 1) := by decide +kernel
theorem dX6_hill_13 : decode cX6_hill 13 = .ok (.iload_n 2, 1) := by decide +kernel
theorem dX6_hill_14 : decode cX6_hill 14 = .ok (.i2l, 1) := by decide +kernel
theorem dX6_hill_15 : decode cX6_hill 15 = .ok (.lconst 0, 1) := by decide +kernel
theorem dX6_hill_16 : decode cX6_hill 16 = .ok (.ldc2_w 124, 3) := by decide +kernel
theorem dX6_hill_19 : decode cX6_hill 19 = .ok (.invokestatic 79, 3) := by decide +kernel
theorem dX6_hill_22 : decode cX6_hill 22 = .ok (.ifCond .ne 10, 3) := by decide +kernel
theorem dX6_hill_25 : decode cX6_hill 25 = .ok (.aload_n 0, 1) := by decide +kernel
theorem dX6_hill_26 : decode cX6_hill 26 = .ok (.bipush (-2), 2) := by decide +kernel
theorem dX6_hill_28 : decode cX6_hill 28 = .ok (.invokevirtual 121, 3) := by decide +kernel
theorem dX6_hill_31 : decode cX6_hill 31 = .ok (.ireturn, 1) := by decide +kernel
theorem dX6_hill_32 : decode cX6_hill 32 = .ok (.aload_n 0, 1) := by decide +kernel
theorem dX6_hill_33 : decode cX6_hill 33 = .ok (.iload_n 1, 1) := by decide +kernel
theorem dX6_hill_34 : decode cX6_hill 34 = .ok (.iload_n 2, 1) := by decide +kernel
theorem dX6_hill_35 : decode cX6_hill 35 = .ok (.iload_n 3, 1) := by decide +kernel
theorem dX6_hill_36 : decode cX6_hill 36 = .ok (.iload 4, 2) := by decide +kernel
theorem dX6_hill_38 : decode cX6_hill 38 = .ok (.i2l, 1) := by decide +kernel
theorem dX6_hill_39 : decode cX6_hill 39 = .ok (.invokevirtual 126, 3) := by decide +kernel
theorem dX6_hill_42 : decode cX6_hill 42 = .ok (.istore 5, 2) := by decide +kernel
theorem dX6_hill_44 : decode cX6_hill 44 = .ok (.iload 5, 2) := by decide +kernel
theorem dX6_hill_46 : decode cX6_hill 46 = .ok (.ifCond .ge 6, 3) := by decide +kernel
theorem dX6_hill_49 : decode cX6_hill 49 = .ok (.iload 5, 2) := by decide +kernel
theorem dX6_hill_51 : decode cX6_hill 51 = .ok (.ireturn, 1) := by decide +kernel
theorem dX6_hill_52 : decode cX6_hill 52 = .ok (.aload_n 0, 1) := by decide +kernel
theorem dX6_hill_53 : decode cX6_hill 53 = .ok (.bipush 60, 2) := by decide +kernel
theorem dX6_hill_55 : decode cX6_hill 55 = .ok (.iload_n 1, 1) := by decide +kernel
theorem dX6_hill_56 : decode cX6_hill 56 = .ok (.imul, 1) := by decide +kernel
theorem dX6_hill_57 : decode cX6_hill 57 = .ok (.iload_n 3, 1) := by decide +kernel
theorem dX6_hill_58 : decode cX6_hill 58 = .ok (.iadd, 1) := by decide +kernel
theorem dX6_hill_59 : decode cX6_hill 59 = .ok (.iload 4, 2) := by decide +kernel
theorem dX6_hill_61 : decode cX6_hill 61 = .ok (.invokevirtual 130, 3) := by decide +kernel
theorem dX6_hill_64 : decode cX6_hill 64 = .ok (.ifCond .ne 15, 3) := by decide +kernel
theorem dX6_hill_67 : decode cX6_hill 67 = .ok (.aload_n 0, 1) := by decide +kernel
theorem dX6_hill_68 : decode cX6_hill 68 = .ok (.bipush (-100), 2) := by decide +kernel
theorem dX6_hill_70 : decode cX6_hill 70 = .ok (.aload_n 0, 1) := by decide +kernel
theorem dX6_hill_71 : decode cX6_hill 71 = .ok (.getfield 85, 3) := by decide +kernel
theorem dX6_hill_74 : decode cX6_hill 74 = .ok (.isub, 1) := by decide +kernel
theorem dX6_hill_75 : decode cX6_hill 75 = .ok (.invokevirtual 121, 3) := by decide +kernel
theorem dX6_hill_78 : decode cX6_hill 78 = .ok (.ireturn, 1) := by decide +kernel
theorem dX6_hill_79 : decode cX6_hill 79 = .ok (.aload_n 0, 1) := by decide +kernel
theorem dX6_hill_80 : decode cX6_hill 80 = .ok (.aload_n 0, 1) := by decide +kernel
theorem dX6_hill_81 : decode cX6_hill 81 = .ok (.getfield 100, 3) := by decide +kernel
theorem dX6_hill_84 : decode cX6_hill 84 = .ok (.putfield 69, 3) := by decide +kernel
theorem dX6_hill_87 : decode cX6_hill 87 = .ok (.aload_n 0, 1) := by decide +kernel
theorem dX6_hill_88 : decode cX6_hill 88 = .ok (.aload_n 0, 1) := by decide +kernel
theorem dX6_hill_89 : decode cX6_hill 89 = .ok (.getfield 103, 3) := by decide +kernel
theorem dX6_hill_92 : decode cX6_hill 92 = .ok (.putfield 72, 3) := by decide +kernel
theorem dX6_hill_95 : decode cX6_hill 95 = .ok (.iconst 0, 1) := by decide +kernel
theorem dX6_hill_96 : decode cX6_hill 96 = .ok (.istore 6, 2) := by decide +kernel
theorem dX6_hill_98 : decode cX6_hill 98 = .ok (.iload 6, 2) := by decide +kernel
theorem dX6_hill_100 : decode cX6_hill 100 = .ok (.aload_n 0, 1) := by decide +kernel
theorem dX6_hill_101 : decode cX6_hill 101 = .ok (.getfield 72, 3) := by decide +kernel
theorem dX6_hill_104 : decode cX6_hill 104 = .ok (.if_icmp .ge 23, 3) := by decide +kernel
theorem dX6_hill_107 : decode cX6_hill 107 = .ok (.aload_n 0, 1) := by decide +kernel
theorem dX6_hill_108 : decode cX6_hill 108 = .ok (.getfield 7, 3) := by decide +kernel
theorem dX6_hill_111 : decode cX6_hill 111 = .ok (.iload 6, 2) := by decide +kernel
theorem dX6_hill_113 : decode cX6_hill 113 = .ok (.aload_n 0, 1) := by decide +kernel
theorem dX6_hill_114 : decode cX6_hill 114 = .ok (.getfield 16, 3) := by decide +kernel
theorem dX6_hill_117 : decode cX6_hill 117 = .ok (.iload 6, 2) := by decide +kernel
theorem dX6_hill_119 : decode cX6_hill 119 = .ok (.iaload, 1) := by decide +kernel
theorem dX6_hill_120 : decode cX6_hill 120 = .ok (.iastore, 1) := by decide +kernel
theorem dX6_hill_121 : decode cX6_hill 121 = .ok (.iinc 6 1, 3) := by decide +kernel
theorem dX6_hill_124 : decode cX6_hill 124 = .ok (.goto (-26), 3) := by decide +kernel
theorem dX6_hill_127 : decode cX6_hill 127 = .ok (.iconst 0, 1) := by decide +kernel
theorem dX6_hill_128 : decode cX6_hill 128 = .ok (.istore 6, 2) := by decide +kernel
theorem dX6_hill_130 : decode cX6_hill 130 = .ok (.iload 6, 2) := by decide +kernel
theorem dX6_hill_132 : decode cX6_hill 132 = .ok (.aload_n 0, 1) := by decide +kernel
theorem dX6_hill_133 : decode cX6_hill 133 = .ok (.invokevirtual 75, 3) := by decide +kernel
theorem dX6_hill_136 : decode cX6_hill 136 = .ok (.if_icmp .ge 23, 3) := by decide +kernel
theorem dX6_hill_139 : decode cX6_hill 139 = .ok (.aload_n 0, 1) := by decide +kernel
theorem dX6_hill_140 : decode cX6_hill 140 = .ok (.getfield 13, 3) := by decide +kernel
theorem dX6_hill_143 : decode cX6_hill 143 = .ok (.iload 6, 2) := by decide +kernel
theorem dX6_hill_145 : decode cX6_hill 145 = .ok (.aload_n 0, 1) := by decide +kernel
theorem dX6_hill_146 : decode cX6_hill 146 = .ok (.getfield 19, 3) := by decide +kernel
theorem dX6_hill_149 : decode cX6_hill 149 = .ok (.iload 6, 2) := by decide +kernel
theorem dX6_hill_151 : decode cX6_hill 151 = .ok (.iaload, 1) := by decide +kernel
theorem dX6_hill_152 : decode cX6_hill 152 = .ok (.iastore, 1) := by decide +kernel
theorem dX6_hill_153 : decode cX6_hill 153 = .ok (.iinc 6 1, 3) := by decide +kernel
theorem dX6_hill_156 : decode cX6_hill 156 = .ok (.goto (-26), 3) := by decide +kernel
theorem dX6_hill_159 : decode cX6_hill 159 = .ok (.aload_n 0, 1) := by decide +kernel
theorem dX6_hill_160 : decode cX6_hill 160 = .ok (.iconst 0, 1) := by decide +kernel
theorem dX6_hill_161 : decode cX6_hill 161 = .ok (.putfield 134, 3) := by decide +kernel
theorem dX6_hill_164 : decode cX6_hill 164 = .ok (.aload_n 0, 1) := by decide +kernel
theorem dX6_hill_165 : decode cX6_hill 165 = .ok (.iconst 0, 1) := by decide +kernel
theorem dX6_hill_166 : decode cX6_hill 166 = .ok (.putfield 138, 3) := by decide +kernel
theorem dX6_hill_169 : decode cX6_hill 169 = .ok (.aload_n 0, 1) := by decide +kernel
theorem dX6_hill_170 : decode cX6_hill 170 = .ok (.aload_n 0, 1) := by decide +kernel
theorem dX6_hill_171 : decode cX6_hill 171 = .ok (.invokevirtual 75, 3) := by decide +kernel
theorem dX6_hill_174 : decode cX6_hill 174 = .ok (.invokevirtual 121, 3) := by decide +kernel
theorem dX6_hill_177 : decode cX6_hill 177 = .ok (.ireturn, 1) := by decide +kernel
theorem dX6_sign_0 : decode cX6_sign 0 = .ok (.aload_n 0, 1) := by decide +kernel
theorem dX6_sign_1 : decode cX6_sign 1 = .ok (.iload_n 1, 1) := by decide +kernel
theorem dX6_sign_2 : decode cX6_sign 2 = .ok (.invokevirtual 141, 3) := by decide +kernel
theorem dX6_sign_5 : decode cX6_sign 5 = .ok (.ifCond .eq 7, 3) := by decide +kernel
theorem dX6_sign_8 : decode cX6_sign 8 = .ok (.iconst (-1), 1) := by decide +kernel
theorem dX6_sign_9 : decode cX6_sign 9 = .ok (.goto 9, 3) := by decide +kernel
theorem dX6_sign_12 : decode cX6_sign 12 = .ok (.aload_n 0, 1) := by decide +kernel
theorem dX6_sign_13 : decode cX6_sign 13 = .ok (.getfield 13, 3) := by decide +kernel
theorem dX6_sign_16 : decode cX6_sign 16 = .ok (.iload_n 1, 1) := by decide +kernel
theorem dX6_sign_17 : decode cX6_sign 17 = .ok (.iaload, 1) := by decide +kernel
theorem dX6_sign_18 : decode cX6_sign 18 = .ok (.ireturn, 1) := by decide +kernel
theorem dX6_set_0 : decode cX6_set 0 = .ok (.aload_n 0, 1) := by decide +kernel
theorem dX6_set_1 : decode cX6_set 1 = .ok (.iload_n 1, 1) := by decide +kernel
theorem dX6_set_2 : decode cX6_set 2 = .ok (.invokevirtual 141, 3) := by decide +kernel
theorem dX6_set_5 : decode cX6_set 5 = .ok (.ifCond .eq 5, 3) := by decide +kernel
theorem dX6_set_8 : decode cX6_set 8 = .ok (.iconst (-1), 1) := by decide +kernel
theorem dX6_set_9 : decode cX6_set 9 = .ok (.ireturn, 1) := by decide +kernel
theorem dX6_set_10 : decode cX6_set 10 = .ok (.iload_n 2, 1) := by decide +kernel
theorem dX6_set_11 : decode cX6_set 11 = .ok (.i2l, 1) := by decide +kernel
theorem dX6_set_12 : decode cX6_set 12 = .ok (.lconst 0, 1) := by decide +kernel
theorem dX6_set_13 : decode cX6_set 13 = .ok (.ldc2_w 144, 3) := by decide +kernel
theorem dX6_set_16 : decode cX6_set 16 = .ok (.invokestatic 79, 3) := by decide +kernel
theorem dX6_set_19 : decode cX6_set 19 = .ok (.ifCond .ne 6, 3) := by decide +kernel
theorem dX6_set_22 : decode cX6_set 22 = .ok (.bipush (-2), 2) := by decide +kernel
theorem dX6_set_24 : decode cX6_set 24 = .ok (.ireturn, 1) := by decide +kernel
theorem dX6_set_25 : decode cX6_set 25 = .ok (.aload_n 0, 1) := by decide +kernel
theorem dX6_set_26 : decode cX6_set 26 = .ok (.getfield 13, 3) := by decide +kernel
theorem dX6_set_29 : decode cX6_set 29 = .ok (.iload_n 1, 1) := by decide +kernel
theorem dX6_set_30 : decode cX6_set 30 = .ok (.iaload, 1) := by decide +kernel
theorem dX6_set_31 : decode cX6_set 31 = .ok (.istore_n 3, 1) := by decide +kernel
theorem dX6_set_32 : decode cX6_set 32 = .ok (.aload_n 0, 1) := by decide +kernel
theorem dX6_set_33 : decode cX6_set 33 = .ok (.getfield 13, 3) := by decide +kernel
theorem dX6_set_36 : decode cX6_set 36 = .ok (.iload_n 1, 1) := by decide +kernel
theorem dX6_set_37 : decode cX6_set 37 = .ok (.iload_n 2, 1) := by decide +kernel
theorem dX6_set_38 : decode cX6_set 38 = .ok (.iastore, 1) := by decide +kernel
theorem dX6_set_39 : decode cX6_set 39 = .ok (.iload_n 3, 1) := by decide +kernel
theorem dX6_set_40 : decode cX6_set 40 = .ok (.ireturn, 1) := by decide +kernel
theorem dX6_party_0 : decode cX6_party 0 = .ok (.aload_n 0, 1) := by decide +kernel
theorem dX6_party_1 : decode cX6_party 1 = .ok (.iload_n 1, 1) := by decide +kernel
theorem dX6_party_2 : decode cX6_party 2 = .ok (.invokevirtual 146, 3) := by decide +kernel
theorem dX6_party_5 : decode cX6_party 5 = .ok (.ifCond .eq 7, 3) := by decide +kernel
theorem dX6_party_8 : decode cX6_party 8 = .ok (.iconst (-1), 1) := by decide +kernel
theorem dX6_party_9 : decode cX6_party 9 = .ok (.goto 9, 3) := by decide +kernel
theorem dX6_party_12 : decode cX6_party 12 = .ok (.aload_n 0, 1) := by decide +kernel
theorem dX6_party_13 : decode cX6_party 13 = .ok (.getfield 7, 3) := by decide +kernel
theorem dX6_party_16 : decode cX6_party 16 = .ok (.iload_n 1, 1) := by decide +kernel
theorem dX6_party_17 : decode cX6_party 17 = .ok (.iaload, 1) := by decide +kernel
theorem dX6_party_18 : decode cX6_party 18 = .ok (.ireturn, 1) := by decide +kernel
theorem dX6_wet_0 : decode cX6_wet 0 = .ok (.aload_n 0, 1) := by decide +kernel
theorem dX6_wet_1 : decode cX6_wet 1 = .ok (.getfield 69, 3) := by decide +kernel
theorem dX6_wet_4 : decode cX6_wet 4 = .ok (.ifCond .ne 6, 3) := by decide +kernel
theorem dX6_wet_7 : decode cX6_wet 7 = .ok (.bipush (-3), 2) := by decide +kernel
theorem dX6_wet_9 : decode cX6_wet 9 = .ok (.ireturn, 1) := by decide +kernel
theorem dX6_wet_10 : decode cX6_wet 10 = .ok (.aload_n 0, 1) := by decide +kernel
theorem dX6_wet_11 : decode cX6_wet 11 = .ok (.getfield 134, 3) := by decide +kernel
theorem dX6_wet_14 : decode cX6_wet 14 = .ok (.istore_n 2, 1) := by decide +kernel
theorem dX6_wet_15 : decode cX6_wet 15 = .ok (.aload_n 0, 1) := by decide +kernel
theorem dX6_wet_16 : decode cX6_wet 16 = .ok (.iload_n 1, 1) := by decide +kernel
theorem dX6_wet_17 : decode cX6_wet 17 = .ok (.putfield 134, 3) := by decide +kernel
theorem dX6_wet_20 : decode cX6_wet 20 = .ok (.iload_n 2, 1) := by decide +kernel
theorem dX6_wet_21 : decode cX6_wet 21 = .ok (.iload_n 1, 1) := by decide +kernel
theorem dX6_wet_22 : decode cX6_wet 22 = .ok (.if_icmp .ne 7, 3) := by decide +kernel
theorem dX6_wet_25 : decode cX6_wet 25 = .ok (.iconst 0, 1) := by decide +kernel
theorem dX6_wet_26 : decode cX6_wet 26 = .ok (.goto 4, 3) := by decide +kernel
theorem dX6_wet_29 : decode cX6_wet 29 = .ok (.iconst 1, 1) := by decide +kernel
theorem dX6_wet_30 : decode cX6_wet 30 = .ok (.ireturn, 1) := by decide +kernel
theorem dX6_noVote_0 : decode cX6_noVote 0 = .ok (.iload_n 1, 1) := by decide +kernel
theorem dX6_noVote_1 : decode cX6_noVote 1 = .ok (.i2l, 1) := by decide +kernel
theorem dX6_noVote_2 : decode cX6_noVote 2 = .ok (.lconst 0, 1) := by decide +kernel
theorem dX6_noVote_3 : decode cX6_noVote 3 = .ok (.aload_n 0, 1) := by decide +kernel
theorem dX6_noVote_4 : decode cX6_noVote 4 = .ok (.getfield 138, 3) := by decide +kernel
theorem dX6_noVote_7 : decode cX6_noVote 7 = .ok (.i2l, 1) := by decide +kernel
theorem dX6_noVote_8 : decode cX6_noVote 8 = .ok (.lconst 1, 1) := by decide +kernel
theorem dX6_noVote_9 : decode cX6_noVote 9 = .ok (.lsub, 1) := by decide +kernel
theorem dX6_noVote_10 : decode cX6_noVote 10 = .ok (.invokestatic 79, 3) := by decide +kernel
theorem dX6_noVote_13 : decode cX6_noVote 13 = .ok (.ifCond .ne 7, 3) := by decide +kernel
theorem dX6_noVote_16 : decode cX6_noVote 16 = .ok (.iconst 1, 1) := by decide +kernel
theorem dX6_noVote_17 : decode cX6_noVote 17 = .ok (.goto 4, 3) := by decide +kernel
theorem dX6_noVote_20 : decode cX6_noVote 20 = .ok (.iconst 0, 1) := by decide +kernel
theorem dX6_noVote_21 : decode cX6_noVote 21 = .ok (.ireturn, 1) := by decide +kernel
theorem dX6_vote_0 : decode cX6_vote 0 = .ok (.aload_n 0, 1) := by decide +kernel
theorem dX6_vote_1 : decode cX6_vote 1 = .ok (.iload_n 2, 1) := by decide +kernel
theorem dX6_vote_2 : decode cX6_vote 2 = .ok (.invokevirtual 146, 3) := by decide +kernel
theorem dX6_vote_5 : decode cX6_vote 5 = .ok (.ifCond .eq 5, 3) := by decide +kernel
theorem dX6_vote_8 : decode cX6_vote 8 = .ok (.iconst (-1), 1) := by decide +kernel
theorem dX6_vote_9 : decode cX6_vote 9 = .ok (.ireturn, 1) := by decide +kernel
theorem dX6_vote_10 : decode cX6_vote 10 = .ok (.iload_n 1, 1) := by decide +kernel
theorem dX6_vote_11 : decode cX6_vote 11 = .ok (.i2l, 1) := by decide +kernel
theorem dX6_vote_12 : decode cX6_vote 12 = .ok (.lconst 0, 1) := by decide +kernel
theorem dX6_vote_13 : decode cX6_vote 13 = .ok (.ldc2_w 124, 3) := by decide +kernel
theorem dX6_vote_16 : decode cX6_vote 16 = .ok (.invokestatic 79, 3) := by decide +kernel
theorem dX6_vote_19 : decode cX6_vote 19 = .ok (.ifCond .ne 6, 3) := by decide +kernel
theorem dX6_vote_22 : decode cX6_vote 22 = .ok (.bipush (-2), 2) := by decide +kernel
theorem dX6_vote_24 : decode cX6_vote 24 = .ok (.ireturn, 1) := by decide +kernel
theorem dX6_vote_25 : decode cX6_vote 25 = .ok (.aload_n 0, 1) := by decide +kernel
theorem dX6_vote_26 : decode cX6_vote 26 = .ok (.getfield 138, 3) := by decide +kernel
theorem dX6_vote_29 : decode cX6_vote 29 = .ok (.bipush 8, 2) := by decide +kernel
theorem dX6_vote_31 : decode cX6_vote 31 = .ok (.if_icmp .ne 6, 3) := by decide +kernel
theorem dX6_vote_34 : decode cX6_vote 34 = .ok (.bipush (-4), 2) := by decide +kernel
theorem dX6_vote_36 : decode cX6_vote 36 = .ok (.ireturn, 1) := by decide +kernel
theorem dX6_vote_37 : decode cX6_vote 37 = .ok (.aload_n 0, 1) := by decide +kernel
theorem dX6_vote_38 : decode cX6_vote 38 = .ok (.getfield 22, 3) := by decide +kernel
theorem dX6_vote_41 : decode cX6_vote 41 = .ok (.aload_n 0, 1) := by decide +kernel
theorem dX6_vote_42 : decode cX6_vote 42 = .ok (.getfield 138, 3) := by decide +kernel
theorem dX6_vote_45 : decode cX6_vote 45 = .ok (.iload_n 1, 1) := by decide +kernel
theorem dX6_vote_46 : decode cX6_vote 46 = .ok (.iastore, 1) := by decide +kernel
theorem dX6_vote_47 : decode cX6_vote 47 = .ok (.aload_n 0, 1) := by decide +kernel
theorem dX6_vote_48 : decode cX6_vote 48 = .ok (.getfield 25, 3) := by decide +kernel
theorem dX6_vote_51 : decode cX6_vote 51 = .ok (.aload_n 0, 1) := by decide +kernel
theorem dX6_vote_52 : decode cX6_vote 52 = .ok (.getfield 138, 3) := by decide +kernel
theorem dX6_vote_55 : decode cX6_vote 55 = .ok (.iload_n 2, 1) := by decide +kernel
theorem dX6_vote_56 : decode cX6_vote 56 = .ok (.iastore, 1) := by decide +kernel
theorem dX6_vote_57 : decode cX6_vote 57 = .ok (.aload_n 0, 1) := by decide +kernel
theorem dX6_vote_58 : decode cX6_vote 58 = .ok (.dup, 1) := by decide +kernel
theorem dX6_vote_59 : decode cX6_vote 59 = .ok (.getfield 138, 3) := by decide +kernel
theorem dX6_vote_62 : decode cX6_vote 62 = .ok (.iconst 1, 1) := by decide +kernel
theorem dX6_vote_63 : decode cX6_vote 63 = .ok (.iadd, 1) := by decide +kernel
theorem dX6_vote_64 : decode cX6_vote 64 = .ok (.putfield 138, 3) := by decide +kernel
theorem dX6_vote_67 : decode cX6_vote 67 = .ok (.aload_n 0, 1) := by decide +kernel
theorem dX6_vote_68 : decode cX6_vote 68 = .ok (.getfield 138, 3) := by decide +kernel
theorem dX6_vote_71 : decode cX6_vote 71 = .ok (.iconst 1, 1) := by decide +kernel
theorem dX6_vote_72 : decode cX6_vote 72 = .ok (.isub, 1) := by decide +kernel
theorem dX6_vote_73 : decode cX6_vote 73 = .ok (.ireturn, 1) := by decide +kernel
theorem dX6_leftOf_0 : decode cX6_leftOf 0 = .ok (.iload_n 1, 1) := by decide +kernel
theorem dX6_leftOf_1 : decode cX6_leftOf 1 = .ok (.iconst 2, 1) := by decide +kernel
theorem dX6_leftOf_2 : decode cX6_leftOf 2 = .ok (.if_icmp .ne 7, 3) := by decide +kernel
theorem dX6_leftOf_5 : decode cX6_leftOf 5 = .ok (.iconst 0, 1) := by decide +kernel
theorem dX6_leftOf_6 : decode cX6_leftOf 6 = .ok (.goto 25, 3) := by decide +kernel
theorem dX6_leftOf_9 : decode cX6_leftOf 9 = .ok (.iload_n 1, 1) := by decide +kernel
theorem dX6_leftOf_10 : decode cX6_leftOf 10 = .ok (.ifCond .ne 7, 3) := by decide +kernel
theorem dX6_leftOf_13 : decode cX6_leftOf 13 = .ok (.iconst 4, 1) := by decide +kernel
theorem dX6_leftOf_14 : decode cX6_leftOf 14 = .ok (.goto 4, 3) := by decide +kernel
theorem dX6_leftOf_17 : decode cX6_leftOf 17 = .ok (.iconst 2, 1) := by decide +kernel
theorem dX6_leftOf_18 : decode cX6_leftOf 18 = .ok (.aload_n 0, 1) := by decide +kernel
theorem dX6_leftOf_19 : decode cX6_leftOf 19 = .ok (.getfield 134, 3) := by decide +kernel
theorem dX6_leftOf_22 : decode cX6_leftOf 22 = .ok (.ifCond .eq 7, 3) := by decide +kernel
theorem dX6_leftOf_25 : decode cX6_leftOf 25 = .ok (.iconst 1, 1) := by decide +kernel
theorem dX6_leftOf_26 : decode cX6_leftOf 26 = .ok (.goto 4, 3) := by decide +kernel
theorem dX6_leftOf_29 : decode cX6_leftOf 29 = .ok (.iconst 0, 1) := by decide +kernel
theorem dX6_leftOf_30 : decode cX6_leftOf 30 = .ok (.iadd, 1) := by decide +kernel
theorem dX6_leftOf_31 : decode cX6_leftOf 31 = .ok (.ireturn, 1) := by decide +kernel
theorem dX6_rightOf_0 : decode cX6_rightOf 0 = .ok (.iload_n 1, 1) := by decide +kernel
theorem dX6_rightOf_1 : decode cX6_rightOf 1 = .ok (.iconst 2, 1) := by decide +kernel
theorem dX6_rightOf_2 : decode cX6_rightOf 2 = .ok (.if_icmp .ne 7, 3) := by decide +kernel
theorem dX6_rightOf_5 : decode cX6_rightOf 5 = .ok (.iconst 0, 1) := by decide +kernel
theorem dX6_rightOf_6 : decode cX6_rightOf 6 = .ok (.goto 25, 3) := by decide +kernel
theorem dX6_rightOf_9 : decode cX6_rightOf 9 = .ok (.iload_n 1, 1) := by decide +kernel
theorem dX6_rightOf_10 : decode cX6_rightOf 10 = .ok (.ifCond .ne 7, 3) := by decide +kernel
theorem dX6_rightOf_13 : decode cX6_rightOf 13 = .ok (.iconst 4, 1) := by decide +kernel
theorem dX6_rightOf_14 : decode cX6_rightOf 14 = .ok (.goto 4, 3) := by decide +kernel
theorem dX6_rightOf_17 : decode cX6_rightOf 17 = .ok (.iconst 2, 1) := by decide +kernel
theorem dX6_rightOf_18 : decode cX6_rightOf 18 = .ok (.aload_n 0, 1) := by decide +kernel
theorem dX6_rightOf_19 : decode cX6_rightOf 19 = .ok (.getfield 134, 3) := by decide +kernel
theorem dX6_rightOf_22 : decode cX6_rightOf 22 = .ok (.ifCond .eq 7, 3) := by decide +kernel
theorem dX6_rightOf_25 : decode cX6_rightOf 25 = .ok (.iconst 1, 1) := by decide +kernel
theorem dX6_rightOf_26 : decode cX6_rightOf 26 = .ok (.goto 4, 3) := by decide +kernel
theorem dX6_rightOf_29 : decode cX6_rightOf 29 = .ok (.iconst 0, 1) := by decide +kernel
theorem dX6_rightOf_30 : decode cX6_rightOf 30 = .ok (.isub, 1) := by decide +kernel
theorem dX6_rightOf_31 : decode cX6_rightOf 31 = .ok (.ireturn, 1) := by decide +kernel
theorem dX6_ofVote_0 : decode cX6_ofVote 0 = .ok (.aload_n 0, 1) := by decide +kernel
theorem dX6_ofVote_1 : decode cX6_ofVote 1 = .ok (.iload_n 1, 1) := by decide +kernel
theorem dX6_ofVote_2 : decode cX6_ofVote 2 = .ok (.invokevirtual 149, 3) := by decide +kernel
theorem dX6_ofVote_5 : decode cX6_ofVote 5 = .ok (.ifCond .eq 5, 3) := by decide +kernel
theorem dX6_ofVote_8 : decode cX6_ofVote 8 = .ok (.iconst (-1), 1) := by decide +kernel
theorem dX6_ofVote_9 : decode cX6_ofVote 9 = .ok (.ireturn, 1) := by decide +kernel
theorem dX6_ofVote_10 : decode cX6_ofVote 10 = .ok (.iload_n 2, 1) := by decide +kernel
theorem dX6_ofVote_11 : decode cX6_ofVote 11 = .ok (.tableswitch 65 0 3 #[29, 36, 43, 54], 29) := by decide +kernel
theorem dX6_ofVote_40 : decode cX6_ofVote 40 = .ok (.aload_n 0, 1) := by decide +kernel
theorem dX6_ofVote_41 : decode cX6_ofVote 41 = .ok (.getfield 22, 3) := by decide +kernel
theorem dX6_ofVote_44 : decode cX6_ofVote 44 = .ok (.iload_n 1, 1) := by decide +kernel
theorem dX6_ofVote_45 : decode cX6_ofVote 45 = .ok (.iaload, 1) := by decide +kernel
theorem dX6_ofVote_46 : decode cX6_ofVote 46 = .ok (.ireturn, 1) := by decide +kernel
theorem dX6_ofVote_47 : decode cX6_ofVote 47 = .ok (.aload_n 0, 1) := by decide +kernel
theorem dX6_ofVote_48 : decode cX6_ofVote 48 = .ok (.getfield 25, 3) := by decide +kernel
theorem dX6_ofVote_51 : decode cX6_ofVote 51 = .ok (.iload_n 1, 1) := by decide +kernel
theorem dX6_ofVote_52 : decode cX6_ofVote 52 = .ok (.iaload, 1) := by decide +kernel
theorem dX6_ofVote_53 : decode cX6_ofVote 53 = .ok (.ireturn, 1) := by decide +kernel
theorem dX6_ofVote_54 : decode cX6_ofVote 54 = .ok (.aload_n 0, 1) := by decide +kernel
theorem dX6_ofVote_55 : decode cX6_ofVote 55 = .ok (.aload_n 0, 1) := by decide +kernel
theorem dX6_ofVote_56 : decode cX6_ofVote 56 = .ok (.getfield 22, 3) := by decide +kernel
theorem dX6_ofVote_59 : decode cX6_ofVote 59 = .ok (.iload_n 1, 1) := by decide +kernel
theorem dX6_ofVote_60 : decode cX6_ofVote 60 = .ok (.iaload, 1) := by decide +kernel
theorem dX6_ofVote_61 : decode cX6_ofVote 61 = .ok (.invokevirtual 152, 3) := by decide +kernel
theorem dX6_ofVote_64 : decode cX6_ofVote 64 = .ok (.ireturn, 1) := by decide +kernel
theorem dX6_ofVote_65 : decode cX6_ofVote 65 = .ok (.aload_n 0, 1) := by decide +kernel
theorem dX6_ofVote_66 : decode cX6_ofVote 66 = .ok (.aload_n 0, 1) := by decide +kernel
theorem dX6_ofVote_67 : decode cX6_ofVote 67 = .ok (.getfield 22, 3) := by decide +kernel
theorem dX6_ofVote_70 : decode cX6_ofVote 70 = .ok (.iload_n 1, 1) := by decide +kernel
theorem dX6_ofVote_71 : decode cX6_ofVote 71 = .ok (.iaload, 1) := by decide +kernel
theorem dX6_ofVote_72 : decode cX6_ofVote 72 = .ok (.invokevirtual 155, 3) := by decide +kernel
theorem dX6_ofVote_75 : decode cX6_ofVote 75 = .ok (.ireturn, 1) := by decide +kernel
theorem dX6_ofVote_76 : decode cX6_ofVote 76 = .ok (.bipush (-2), 2) := by decide +kernel
theorem dX6_ofVote_78 : decode cX6_ofVote 78 = .ok (.ireturn, 1) := by decide +kernel
theorem dX6_back_0 : decode cX6_back 0 = .ok (.iload_n 1, 1) := by decide +kernel
theorem dX6_back_1 : decode cX6_back 1 = .ok (.i2l, 1) := by decide +kernel
theorem dX6_back_2 : decode cX6_back 2 = .ok (.lconst 0, 1) := by decide +kernel
theorem dX6_back_3 : decode cX6_back 3 = .ok (.aload_n 0, 1) := by decide +kernel
theorem dX6_back_4 : decode cX6_back 4 = .ok (.getfield 138, 3) := by decide +kernel
theorem dX6_back_7 : decode cX6_back 7 = .ok (.i2l, 1) := by decide +kernel
theorem dX6_back_8 : decode cX6_back 8 = .ok (.invokestatic 79, 3) := by decide +kernel
theorem dX6_back_11 : decode cX6_back 11 = .ok (.ifCond .ne 6, 3) := by decide +kernel
theorem dX6_back_14 : decode cX6_back 14 = .ok (.bipush (-2), 2) := by decide +kernel
theorem dX6_back_16 : decode cX6_back 16 = .ok (.ireturn, 1) := by decide +kernel
theorem dX6_back_17 : decode cX6_back 17 = .ok (.aload_n 0, 1) := by decide +kernel
theorem dX6_back_18 : decode cX6_back 18 = .ok (.dup, 1) := by decide +kernel
theorem dX6_back_19 : decode cX6_back 19 = .ok (.getfield 138, 3) := by decide +kernel
theorem dX6_back_22 : decode cX6_back 22 = .ok (.iload_n 1, 1) := by decide +kernel
theorem dX6_back_23 : decode cX6_back 23 = .ok (.isub, 1) := by decide +kernel
theorem dX6_back_24 : decode cX6_back 24 = .ok (.putfield 138, 3) := by decide +kernel
theorem dX6_back_27 : decode cX6_back 27 = .ok (.aload_n 0, 1) := by decide +kernel
theorem dX6_back_28 : decode cX6_back 28 = .ok (.getfield 138, 3) := by decide +kernel
theorem dX6_back_31 : decode cX6_back 31 = .ok (.ireturn, 1) := by decide +kernel
theorem dX6_leftBy_0 : decode cX6_leftBy 0 = .ok (.iload_n 1, 1) := by decide +kernel
theorem dX6_leftBy_1 : decode cX6_leftBy 1 = .ok (.ifCond .le 9, 3) := by decide +kernel
theorem dX6_leftBy_4 : decode cX6_leftBy 4 = .ok (.iload_n 1, 1) := by decide +kernel
theorem dX6_leftBy_5 : decode cX6_leftBy 5 = .ok (.iconst 1, 1) := by decide +kernel
theorem dX6_leftBy_6 : decode cX6_leftBy 6 = .ok (.isub, 1) := by decide +kernel
theorem dX6_leftBy_7 : decode cX6_leftBy 7 = .ok (.goto 4, 3) := by decide +kernel
theorem dX6_leftBy_10 : decode cX6_leftBy 10 = .ok (.iload_n 1, 1) := by decide +kernel
theorem dX6_leftBy_11 : decode cX6_leftBy 11 = .ok (.ireturn, 1) := by decide +kernel
theorem dX6_rightBy_0 : decode cX6_rightBy 0 = .ok (.iload_n 1, 1) := by decide +kernel
theorem dX6_rightBy_1 : decode cX6_rightBy 1 = .ok (.iconst 1, 1) := by decide +kernel
theorem dX6_rightBy_2 : decode cX6_rightBy 2 = .ok (.iadd, 1) := by decide +kernel
theorem dX6_rightBy_3 : decode cX6_rightBy 3 = .ok (.aload_n 0, 1) := by decide +kernel
theorem dX6_rightBy_4 : decode cX6_rightBy 4 = .ok (.getfield 72, 3) := by decide +kernel
theorem dX6_rightBy_7 : decode cX6_rightBy 7 = .ok (.if_icmp .ge 9, 3) := by decide +kernel
theorem dX6_rightBy_10 : decode cX6_rightBy 10 = .ok (.iload_n 1, 1) := by decide +kernel
theorem dX6_rightBy_11 : decode cX6_rightBy 11 = .ok (.iconst 1, 1) := by decide +kernel
theorem dX6_rightBy_12 : decode cX6_rightBy 12 = .ok (.iadd, 1) := by decide +kernel
theorem dX6_rightBy_13 : decode cX6_rightBy 13 = .ok (.goto 4, 3) := by decide +kernel
theorem dX6_rightBy_16 : decode cX6_rightBy 16 = .ok (.iload_n 1, 1) := by decide +kernel
theorem dX6_rightBy_17 : decode cX6_rightBy 17 = .ok (.ireturn, 1) := by decide +kernel
theorem dX6_goesOn_0 : decode cX6_goesOn 0 = .ok (.iload_n 2, 1) := by decide +kernel
theorem dX6_goesOn_1 : decode cX6_goesOn 1 = .ok (.iconst 2, 1) := by decide +kernel
theorem dX6_goesOn_2 : decode cX6_goesOn 2 = .ok (.if_icmp .eq 7, 3) := by decide +kernel
theorem dX6_goesOn_5 : decode cX6_goesOn 5 = .ok (.iload_n 1, 1) := by decide +kernel
theorem dX6_goesOn_6 : decode cX6_goesOn 6 = .ok (.ifCond .ne 5, 3) := by decide +kernel
theorem dX6_goesOn_9 : decode cX6_goesOn 9 = .ok (.iload_n 3, 1) := by decide +kernel
theorem dX6_goesOn_10 : decode cX6_goesOn 10 = .ok (.ireturn, 1) := by decide +kernel
theorem dX6_goesOn_11 : decode cX6_goesOn 11 = .ok (.iload_n 1, 1) := by decide +kernel
theorem dX6_goesOn_12 : decode cX6_goesOn 12 = .ok (.iconst 2, 1) := by decide +kernel
theorem dX6_goesOn_13 : decode cX6_goesOn 13 = .ok (.if_icmp .ne 11, 3) := by decide +kernel
theorem dX6_goesOn_16 : decode cX6_goesOn 16 = .ok (.aload_n 0, 1) := by decide +kernel
theorem dX6_goesOn_17 : decode cX6_goesOn 17 = .ok (.iload_n 3, 1) := by decide +kernel
theorem dX6_goesOn_18 : decode cX6_goesOn 18 = .ok (.invokevirtual 158, 3) := by decide +kernel
theorem dX6_goesOn_21 : decode cX6_goesOn 21 = .ok (.goto 8, 3) := by decide +kernel
theorem dX6_goesOn_24 : decode cX6_goesOn 24 = .ok (.aload_n 0, 1) := by decide +kernel
theorem dX6_goesOn_25 : decode cX6_goesOn 25 = .ok (.iload_n 3, 1) := by decide +kernel
theorem dX6_goesOn_26 : decode cX6_goesOn 26 = .ok (.invokevirtual 161, 3) := by decide +kernel
theorem dX6_goesOn_29 : decode cX6_goesOn 29 = .ok (.ireturn, 1) := by decide +kernel
theorem dX6_roll_0 : decode cX6_roll 0 = .ok (.aload_n 0, 1) := by decide +kernel
theorem dX6_roll_1 : decode cX6_roll 1 = .ok (.iload_n 1, 1) := by decide +kernel
theorem dX6_roll_2 : decode cX6_roll 2 = .ok (.invokevirtual 149, 3) := by decide +kernel
theorem dX6_roll_5 : decode cX6_roll 5 = .ok (.ifCond .ne 10, 3) := by decide +kernel
theorem dX6_roll_8 : decode cX6_roll 8 = .ok (.iload_n 2, 1) := by decide +kernel
theorem dX6_roll_9 : decode cX6_roll 9 = .ok (.invokestatic 117, 3) := by decide +kernel
theorem dX6_roll_12 : decode cX6_roll 12 = .ok (.ifCond .eq 9, 3) := by decide +kernel
theorem dX6_roll_15 : decode cX6_roll 15 = .ok (.aload_n 0, 1) := by decide +kernel
theorem dX6_roll_16 : decode cX6_roll 16 = .ok (.iconst (-1), 1) := by decide +kernel
theorem dX6_roll_17 : decode cX6_roll 17 = .ok (.invokevirtual 121, 3) := by decide +kernel
theorem dX6_roll_20 : decode cX6_roll 20 = .ok (.ireturn, 1) := by decide +kernel
theorem dX6_roll_21 : decode cX6_roll 21 = .ok (.iload_n 3, 1) := by decide +kernel
theorem dX6_roll_22 : decode cX6_roll 22 = .ok (.i2l, 1) := by decide +kernel
theorem dX6_roll_23 : decode cX6_roll 23 = .ok (.lconst 0, 1) := by decide +kernel
theorem dX6_roll_24 : decode cX6_roll 24 = .ok (.ldc2_w 124, 3) := by decide +kernel
theorem dX6_roll_27 : decode cX6_roll 27 = .ok (.invokestatic 79, 3) := by decide +kernel
theorem dX6_roll_30 : decode cX6_roll 30 = .ok (.ifCond .ne 10, 3) := by decide +kernel
theorem dX6_roll_33 : decode cX6_roll 33 = .ok (.aload_n 0, 1) := by decide +kernel
theorem dX6_roll_34 : decode cX6_roll 34 = .ok (.bipush (-2), 2) := by decide +kernel
theorem dX6_roll_36 : decode cX6_roll 36 = .ok (.invokevirtual 121, 3) := by decide +kernel
theorem dX6_roll_39 : decode cX6_roll 39 = .ok (.ireturn, 1) := by decide +kernel
theorem dX6_roll_40 : decode cX6_roll 40 = .ok (.aload_n 0, 1) := by decide +kernel
theorem dX6_roll_41 : decode cX6_roll 41 = .ok (.iload_n 2, 1) := by decide +kernel
theorem dX6_roll_42 : decode cX6_roll 42 = .ok (.iload_n 3, 1) := by decide +kernel
theorem dX6_roll_43 : decode cX6_roll 43 = .ok (.iload 4, 2) := by decide +kernel
theorem dX6_roll_45 : decode cX6_roll 45 = .ok (.lconst 0, 1) := by decide +kernel
theorem dX6_roll_46 : decode cX6_roll 46 = .ok (.invokevirtual 126, 3) := by decide +kernel
theorem dX6_roll_49 : decode cX6_roll 49 = .ok (.istore 5, 2) := by decide +kernel
theorem dX6_roll_51 : decode cX6_roll 51 = .ok (.iload 5, 2) := by decide +kernel
theorem dX6_roll_53 : decode cX6_roll 53 = .ok (.ifCond .ge 6, 3) := by decide +kernel
theorem dX6_roll_56 : decode cX6_roll 56 = .ok (.iload 5, 2) := by decide +kernel
theorem dX6_roll_58 : decode cX6_roll 58 = .ok (.ireturn, 1) := by decide +kernel
theorem dX6_roll_59 : decode cX6_roll 59 = .ok (.aload_n 0, 1) := by decide +kernel
theorem dX6_roll_60 : decode cX6_roll 60 = .ok (.getfield 22, 3) := by decide +kernel
theorem dX6_roll_63 : decode cX6_roll 63 = .ok (.iload_n 1, 1) := by decide +kernel
theorem dX6_roll_64 : decode cX6_roll 64 = .ok (.iaload, 1) := by decide +kernel
theorem dX6_roll_65 : decode cX6_roll 65 = .ok (.istore 6, 2) := by decide +kernel
theorem dX6_roll_67 : decode cX6_roll 67 = .ok (.aload_n 0, 1) := by decide +kernel
theorem dX6_roll_68 : decode cX6_roll 68 = .ok (.getfield 25, 3) := by decide +kernel
theorem dX6_roll_71 : decode cX6_roll 71 = .ok (.iload_n 1, 1) := by decide +kernel
theorem dX6_roll_72 : decode cX6_roll 72 = .ok (.iaload, 1) := by decide +kernel
theorem dX6_roll_73 : decode cX6_roll 73 = .ok (.istore 7, 2) := by decide +kernel
theorem dX6_roll_75 : decode cX6_roll 75 = .ok (.iload 4, 2) := by decide +kernel
theorem dX6_roll_77 : decode cX6_roll 77 = .ok (.istore 8, 2) := by decide +kernel
theorem dX6_roll_79 : decode cX6_roll 79 = .ok (.iconst 0, 1) := by decide +kernel
theorem dX6_roll_80 : decode cX6_roll 80 = .ok (.istore 9, 2) := by decide +kernel
theorem dX6_roll_82 : decode cX6_roll 82 = .ok (.iload 9, 2) := by decide +kernel
theorem dX6_roll_84 : decode cX6_roll 84 = .ok (.aload_n 0, 1) := by decide +kernel
theorem dX6_roll_85 : decode cX6_roll 85 = .ok (.getfield 69, 3) := by decide +kernel
theorem dX6_roll_88 : decode cX6_roll 88 = .ok (.if_icmp .ge 161, 3) := by decide +kernel
theorem dX6_roll_91 : decode cX6_roll 91 = .ok (.aload_n 0, 1) := by decide +kernel
theorem dX6_roll_92 : decode cX6_roll 92 = .ok (.getfield 13, 3) := by decide +kernel
theorem dX6_roll_95 : decode cX6_roll 95 = .ok (.iload 9, 2) := by decide +kernel
theorem dX6_roll_97 : decode cX6_roll 97 = .ok (.aload_n 0, 1) := by decide +kernel
theorem dX6_roll_98 : decode cX6_roll 98 = .ok (.getfield 72, 3) := by decide +kernel
theorem dX6_roll_101 : decode cX6_roll 101 = .ok (.imul, 1) := by decide +kernel
theorem dX6_roll_102 : decode cX6_roll 102 = .ok (.iload 7, 2) := by decide +kernel
theorem dX6_roll_104 : decode cX6_roll 104 = .ok (.iadd, 1) := by decide +kernel
theorem dX6_roll_105 : decode cX6_roll 105 = .ok (.iaload, 1) := by decide +kernel
theorem dX6_roll_106 : decode cX6_roll 106 = .ok (.istore 10, 2) := by decide +kernel
theorem dX6_roll_108 : decode cX6_roll 108 = .ok (.iload 10, 2) := by decide +kernel
theorem dX6_roll_110 : decode cX6_roll 110 = .ok (.iconst 4, 1) := by decide +kernel
theorem dX6_roll_111 : decode cX6_roll 111 = .ok (.if_icmp .ne 10, 3) := by decide +kernel
theorem dX6_roll_114 : decode cX6_roll 114 = .ok (.aload_n 0, 1) := by decide +kernel
theorem dX6_roll_115 : decode cX6_roll 115 = .ok (.bipush (-9), 2) := by decide +kernel
theorem dX6_roll_117 : decode cX6_roll 117 = .ok (.invokevirtual 121, 3) := by decide +kernel
theorem dX6_roll_120 : decode cX6_roll 120 = .ok (.ireturn, 1) := by decide +kernel
theorem dX6_roll_121 : decode cX6_roll 121 = .ok (.iload 10, 2) := by decide +kernel
theorem dX6_roll_123 : decode cX6_roll 123 = .ok (.iconst 1, 1) := by decide +kernel
theorem dX6_roll_124 : decode cX6_roll 124 = .ok (.if_icmp .ne 107, 3) := by decide +kernel
theorem dX6_roll_127 : decode cX6_roll 127 = .ok (.iload 8, 2) := by decide +kernel
theorem dX6_roll_129 : decode cX6_roll 129 = .ok (.aload_n 0, 1) := by decide +kernel
theorem dX6_roll_130 : decode cX6_roll 130 = .ok (.getfield 47, 3) := by decide +kernel
theorem dX6_roll_133 : decode cX6_roll 133 = .ok (.iload_n 2, 1) := by decide +kernel
theorem dX6_roll_134 : decode cX6_roll 134 = .ok (.iaload, 1) := by decide +kernel
theorem dX6_roll_135 : decode cX6_roll 135 = .ok (.if_icmp .lt 9, 3) := by decide +kernel
theorem dX6_roll_138 : decode cX6_roll 138 = .ok (.aload_n 0, 1) := by decide +kernel
theorem dX6_roll_139 : decode cX6_roll 139 = .ok (.iconst 3, 1) := by decide +kernel
theorem dX6_roll_140 : decode cX6_roll 140 = .ok (.invokevirtual 110, 3) := by decide +kernel
theorem dX6_roll_143 : decode cX6_roll 143 = .ok (.ireturn, 1) := by decide +kernel
theorem dX6_roll_144 : decode cX6_roll 144 = .ok (.aload_n 0, 1) := by decide +kernel
theorem dX6_roll_145 : decode cX6_roll 145 = .ok (.getfield 53, 3) := by decide +kernel
theorem dX6_roll_148 : decode cX6_roll 148 = .ok (.bipush 60, 2) := by decide +kernel
theorem dX6_roll_150 : decode cX6_roll 150 = .ok (.iload_n 2, 1) := by decide +kernel
theorem dX6_roll_151 : decode cX6_roll 151 = .ok (.imul, 1) := by decide +kernel
theorem dX6_roll_152 : decode cX6_roll 152 = .ok (.iload 8, 2) := by decide +kernel
theorem dX6_roll_154 : decode cX6_roll 154 = .ok (.iadd, 1) := by decide +kernel
theorem dX6_roll_155 : decode cX6_roll 155 = .ok (.iaload, 1) := by decide +kernel
theorem dX6_roll_156 : decode cX6_roll 156 = .ok (.istore 11, 2) := by decide +kernel
theorem dX6_roll_158 : decode cX6_roll 158 = .ok (.iload 11, 2) := by decide +kernel
theorem dX6_roll_160 : decode cX6_roll 160 = .ok (.i2l, 1) := by decide +kernel
theorem dX6_roll_161 : decode cX6_roll 161 = .ok (.lconst 0, 1) := by decide +kernel
theorem dX6_roll_162 : decode cX6_roll 162 = .ok (.ldc2_w 164, 3) := by decide +kernel
theorem dX6_roll_165 : decode cX6_roll 165 = .ok (.invokestatic 79, 3) := by decide +kernel
theorem dX6_roll_168 : decode cX6_roll 168 = .ok (.ifCond .ne 10, 3) := by decide +kernel
theorem dX6_roll_171 : decode cX6_roll 171 = .ok (.aload_n 0, 1) := by decide +kernel
theorem dX6_roll_172 : decode cX6_roll 172 = .ok (.bipush (-2), 2) := by decide +kernel
theorem dX6_roll_174 : decode cX6_roll 174 = .ok (.invokevirtual 121, 3) := by decide +kernel
theorem dX6_roll_177 : decode cX6_roll 177 = .ok (.ireturn, 1) := by decide +kernel
theorem dX6_roll_178 : decode cX6_roll 178 = .ok (.iload 11, 2) := by decide +kernel
theorem dX6_roll_180 : decode cX6_roll 180 = .ok (.aload_n 0, 1) := by decide +kernel
theorem dX6_roll_181 : decode cX6_roll 181 = .ok (.iload 6, 2) := by decide +kernel
theorem dX6_roll_183 : decode cX6_roll 183 = .ok (.invokevirtual 152, 3) := by decide +kernel
theorem dX6_roll_186 : decode cX6_roll 186 = .ok (.if_icmp .ge 12, 3) := by decide +kernel
theorem dX6_roll_189 : decode cX6_roll 189 = .ok (.aload_n 0, 1) := by decide +kernel
theorem dX6_roll_190 : decode cX6_roll 190 = .ok (.iload 7, 2) := by decide +kernel
theorem dX6_roll_192 : decode cX6_roll 192 = .ok (.invokevirtual 158, 3) := by decide +kernel
theorem dX6_roll_195 : decode cX6_roll 195 = .ok (.goto 28, 3) := by decide +kernel
theorem dX6_roll_198 : decode cX6_roll 198 = .ok (.iload 11, 2) := by decide +kernel
theorem dX6_roll_200 : decode cX6_roll 200 = .ok (.bipush 8, 2) := by decide +kernel
theorem dX6_roll_202 : decode cX6_roll 202 = .ok (.aload_n 0, 1) := by decide +kernel
theorem dX6_roll_203 : decode cX6_roll 203 = .ok (.iload 6, 2) := by decide +kernel
theorem dX6_roll_205 : decode cX6_roll 205 = .ok (.invokevirtual 155, 3) := by decide +kernel
theorem dX6_roll_208 : decode cX6_roll 208 = .ok (.isub, 1) := by decide +kernel
theorem dX6_roll_209 : decode cX6_roll 209 = .ok (.if_icmp .ge 8, 3) := by decide +kernel
theorem dX6_roll_212 : decode cX6_roll 212 = .ok (.iload 7, 2) := by decide +kernel
theorem dX6_roll_214 : decode cX6_roll 214 = .ok (.goto 9, 3) := by decide +kernel
theorem dX6_roll_217 : decode cX6_roll 217 = .ok (.aload_n 0, 1) := by decide +kernel
theorem dX6_roll_218 : decode cX6_roll 218 = .ok (.iload 7, 2) := by decide +kernel
theorem dX6_roll_220 : decode cX6_roll 220 = .ok (.invokevirtual 161, 3) := by decide +kernel
theorem dX6_roll_223 : decode cX6_roll 223 = .ok (.istore 7, 2) := by decide +kernel
theorem dX6_roll_225 : decode cX6_roll 225 = .ok (.iinc 8 1, 3) := by decide +kernel
theorem dX6_roll_228 : decode cX6_roll 228 = .ok (.goto 15, 3) := by decide +kernel
theorem dX6_roll_231 : decode cX6_roll 231 = .ok (.aload_n 0, 1) := by decide +kernel
theorem dX6_roll_232 : decode cX6_roll 232 = .ok (.iload 10, 2) := by decide +kernel
theorem dX6_roll_234 : decode cX6_roll 234 = .ok (.iload 6, 2) := by decide +kernel
theorem dX6_roll_236 : decode cX6_roll 236 = .ok (.iload 7, 2) := by decide +kernel
theorem dX6_roll_238 : decode cX6_roll 238 = .ok (.invokevirtual 166, 3) := by decide +kernel
theorem dX6_roll_241 : decode cX6_roll 241 = .ok (.istore 7, 2) := by decide +kernel
theorem dX6_roll_243 : decode cX6_roll 243 = .ok (.iinc 9 1, 3) := by decide +kernel
theorem dX6_roll_246 : decode cX6_roll 246 = .ok (.goto (-164), 3) := by decide +kernel
theorem dX6_roll_249 : decode cX6_roll 249 = .ok (.aload_n 0, 1) := by decide +kernel
theorem dX6_roll_250 : decode cX6_roll 250 = .ok (.iload 7, 2) := by decide +kernel
theorem dX6_roll_252 : decode cX6_roll 252 = .ok (.invokevirtual 121, 3) := by decide +kernel
theorem dX6_roll_255 : decode cX6_roll 255 = .ok (.ireturn, 1) := by decide +kernel
theorem dX6_layChances_0 : decode cX6_layChances 0 = .ok (.iconst 0, 1) := by decide +kernel
theorem dX6_layChances_1 : decode cX6_layChances 1 = .ok (.istore_n 3, 1) := by decide +kernel
theorem dX6_layChances_2 : decode cX6_layChances 2 = .ok (.iload_n 3, 1) := by decide +kernel
theorem dX6_layChances_3 : decode cX6_layChances 3 = .ok (.bipush 6, 2) := by decide +kernel
theorem dX6_layChances_5 : decode cX6_layChances 5 = .ok (.if_icmp .ge 25, 3) := by decide +kernel
theorem dX6_layChances_8 : decode cX6_layChances 8 = .ok (.aload_n 0, 1) := by decide +kernel
theorem dX6_layChances_9 : decode cX6_layChances 9 = .ok (.getfield 28, 3) := by decide +kernel
theorem dX6_layChances_12 : decode cX6_layChances 12 = .ok (.iload_n 3, 1) := by decide +kernel
theorem dX6_layChances_13 : decode cX6_layChances 13 = .ok (.iload_n 3, 1) := by decide +kernel
theorem dX6_layChances_14 : decode cX6_layChances 14 = .ok (.iload_n 2, 1) := by decide +kernel
theorem dX6_layChances_15 : decode cX6_layChances 15 = .ok (.if_icmp .ne 7, 3) := by decide +kernel
theorem dX6_layChances_18 : decode cX6_layChances 18 = .ok (.lconst 1, 1) := by decide +kernel
theorem dX6_layChances_19 : decode cX6_layChances 19 = .ok (.goto 4, 3) := by decide +kernel
theorem dX6_layChances_22 : decode cX6_layChances 22 = .ok (.lconst 0, 1) := by decide +kernel
theorem dX6_layChances_23 : decode cX6_layChances 23 = .ok (.lastore, 1) := by decide +kernel
theorem dX6_layChances_24 : decode cX6_layChances 24 = .ok (.iinc 3 1, 3) := by decide +kernel
theorem dX6_layChances_27 : decode cX6_layChances 27 = .ok (.goto (-25), 3) := by decide +kernel
theorem dX6_layChances_30 : decode cX6_layChances 30 = .ok (.aload_n 0, 1) := by decide +kernel
theorem dX6_layChances_31 : decode cX6_layChances 31 = .ok (.getfield 35, 3) := by decide +kernel
theorem dX6_layChances_34 : decode cX6_layChances 34 = .ok (.bipush 6, 2) := by decide +kernel
theorem dX6_layChances_36 : decode cX6_layChances 36 = .ok (.lconst 0, 1) := by decide +kernel
theorem dX6_layChances_37 : decode cX6_layChances 37 = .ok (.lastore, 1) := by decide +kernel
theorem dX6_layChances_38 : decode cX6_layChances 38 = .ok (.aload_n 0, 1) := by decide +kernel
theorem dX6_layChances_39 : decode cX6_layChances 39 = .ok (.lconst 1, 1) := by decide +kernel
theorem dX6_layChances_40 : decode cX6_layChances 40 = .ok (.putfield 170, 3) := by decide +kernel
theorem dX6_layChances_43 : decode cX6_layChances 43 = .ok (.aload_n 0, 1) := by decide +kernel
theorem dX6_layChances_44 : decode cX6_layChances 44 = .ok (.lconst 0, 1) := by decide +kernel
theorem dX6_layChances_45 : decode cX6_layChances 45 = .ok (.putfield 174, 3) := by decide +kernel
theorem dX6_layChances_48 : decode cX6_layChances 48 = .ok (.iconst 0, 1) := by decide +kernel
theorem dX6_layChances_49 : decode cX6_layChances 49 = .ok (.istore_n 3, 1) := by decide +kernel
theorem dX6_layChances_50 : decode cX6_layChances 50 = .ok (.iload_n 3, 1) := by decide +kernel
theorem dX6_layChances_51 : decode cX6_layChances 51 = .ok (.aload_n 0, 1) := by decide +kernel
theorem dX6_layChances_52 : decode cX6_layChances 52 = .ok (.getfield 69, 3) := by decide +kernel
theorem dX6_layChances_55 : decode cX6_layChances 55 = .ok (.if_icmp .ge 316, 3) := by decide +kernel
theorem dX6_layChances_58 : decode cX6_layChances 58 = .ok (.aload_n 0, 1) := by decide +kernel
theorem dX6_layChances_59 : decode cX6_layChances 59 = .ok (.dup, 1) := by decide +kernel
theorem dX6_layChances_60 : decode cX6_layChances 60 = .ok (.getfield 170, 3) := by decide +kernel
theorem dX6_layChances_63 : decode cX6_layChances 63 = .ok (.ldc2_w 177, 3) := by decide +kernel
theorem dX6_layChances_66 : decode cX6_layChances 66 = .ok (.lmul, 1) := by decide +kernel
theorem dX6_layChances_67 : decode cX6_layChances 67 = .ok (.putfield 170, 3) := by decide +kernel
theorem dX6_layChances_70 : decode cX6_layChances 70 = .ok (.aload_n 0, 1) := by decide +kernel
theorem dX6_layChances_71 : decode cX6_layChances 71 = .ok (.getfield 35, 3) := by decide +kernel
theorem dX6_layChances_74 : decode cX6_layChances 74 = .ok (.bipush 6, 2) := by decide +kernel
theorem dX6_layChances_76 : decode cX6_layChances 76 = .ok (.dup2, 1) := by decide +kernel
theorem dX6_layChances_77 : decode cX6_layChances 77 = .ok (.laload, 1) := by decide +kernel
theorem dX6_layChances_78 : decode cX6_layChances 78 = .ok (.ldc2_w 177, 3) := by decide +kernel
theorem dX6_layChances_81 : decode cX6_layChances 81 = .ok (.lmul, 1) := by decide +kernel
theorem dX6_layChances_82 : decode cX6_layChances 82 = .ok (.lastore, 1) := by decide +kernel
theorem dX6_layChances_83 : decode cX6_layChances 83 = .ok (.iconst 0, 1) := by decide +kernel
theorem dX6_layChances_84 : decode cX6_layChances 84 = .ok (.istore 4, 2) := by decide +kernel
theorem dX6_layChances_86 : decode cX6_layChances 86 = .ok (.iload 4, 2) := by decide +kernel
theorem dX6_layChances_88 : decode cX6_layChances 88 = .ok (.aload_n 0, 1) := by decide +kernel
theorem dX6_layChances_89 : decode cX6_layChances 89 = .ok (.getfield 72, 3) := by decide +kernel
theorem dX6_layChances_92 : decode cX6_layChances 92 = .ok (.if_icmp .ge 17, 3) := by decide +kernel
theorem dX6_layChances_95 : decode cX6_layChances 95 = .ok (.aload_n 0, 1) := by decide +kernel
theorem dX6_layChances_96 : decode cX6_layChances 96 = .ok (.getfield 32, 3) := by decide +kernel
theorem dX6_layChances_99 : decode cX6_layChances 99 = .ok (.iload 4, 2) := by decide +kernel
theorem dX6_layChances_101 : decode cX6_layChances 101 = .ok (.lconst 0, 1) := by decide +kernel
theorem dX6_layChances_102 : decode cX6_layChances 102 = .ok (.lastore, 1) := by decide +kernel
theorem dX6_layChances_103 : decode cX6_layChances 103 = .ok (.iinc 4 1, 3) := by decide +kernel
theorem dX6_layChances_106 : decode cX6_layChances 106 = .ok (.goto (-20), 3) := by decide +kernel
theorem dX6_layChances_109 : decode cX6_layChances 109 = .ok (.iconst 0, 1) := by decide +kernel
theorem dX6_layChances_110 : decode cX6_layChances 110 = .ok (.istore 4, 2) := by decide +kernel
theorem dX6_layChances_112 : decode cX6_layChances 112 = .ok (.iload 4, 2) := by decide +kernel
theorem dX6_layChances_114 : decode cX6_layChances 114 = .ok (.aload_n 0, 1) := by decide +kernel
theorem dX6_layChances_115 : decode cX6_layChances 115 = .ok (.getfield 72, 3) := by decide +kernel
theorem dX6_layChances_118 : decode cX6_layChances 118 = .ok (.if_icmp .ge 215, 3) := by decide +kernel
theorem dX6_layChances_121 : decode cX6_layChances 121 = .ok (.aload_n 0, 1) := by decide +kernel
theorem dX6_layChances_122 : decode cX6_layChances 122 = .ok (.getfield 28, 3) := by decide +kernel
theorem dX6_layChances_125 : decode cX6_layChances 125 = .ok (.iload 4, 2) := by decide +kernel
theorem dX6_layChances_127 : decode cX6_layChances 127 = .ok (.laload, 1) := by decide +kernel
theorem dX6_layChances_128 : decode cX6_layChances 128 = .ok (.lconst 0, 1) := by decide +kernel
theorem dX6_layChances_129 : decode cX6_layChances 129 = .ok (.lcmp, 1) := by decide +kernel
theorem dX6_layChances_130 : decode cX6_layChances 130 = .ok (.ifCond .le 197, 3) := by decide +kernel
theorem dX6_layChances_133 : decode cX6_layChances 133 = .ok (.aload_n 0, 1) := by decide +kernel
theorem dX6_layChances_134 : decode cX6_layChances 134 = .ok (.getfield 13, 3) := by decide +kernel
theorem dX6_layChances_137 : decode cX6_layChances 137 = .ok (.iload_n 3, 1) := by decide +kernel
theorem dX6_layChances_138 : decode cX6_layChances 138 = .ok (.aload_n 0, 1) := by decide +kernel
theorem dX6_layChances_139 : decode cX6_layChances 139 = .ok (.getfield 72, 3) := by decide +kernel
theorem dX6_layChances_142 : decode cX6_layChances 142 = .ok (.imul, 1) := by decide +kernel
theorem dX6_layChances_143 : decode cX6_layChances 143 = .ok (.iload 4, 2) := by decide +kernel
theorem dX6_layChances_145 : decode cX6_layChances 145 = .ok (.iadd, 1) := by decide +kernel
theorem dX6_layChances_146 : decode cX6_layChances 146 = .ok (.iaload, 1) := by decide +kernel
theorem dX6_layChances_147 : decode cX6_layChances 147 = .ok (.istore 5, 2) := by decide +kernel
theorem dX6_layChances_149 : decode cX6_layChances 149 = .ok (.aload_n 0, 1) := by decide +kernel
theorem dX6_layChances_150 : decode cX6_layChances 150 = .ok (.dup, 1) := by decide +kernel
theorem dX6_layChances_151 : decode cX6_layChances 151 = .ok (.getfield 174, 3) := by decide +kernel
theorem dX6_layChances_154 : decode cX6_layChances 154 = .ok (.lconst 1, 1) := by decide +kernel
theorem dX6_layChances_155 : decode cX6_layChances 155 = .ok (.iload_n 3, 1) := by decide +kernel
theorem dX6_layChances_156 : decode cX6_layChances 156 = .ok (.aload_n 0, 1) := by decide +kernel
theorem dX6_layChances_157 : decode cX6_layChances 157 = .ok (.getfield 72, 3) := by decide +kernel
theorem dX6_layChances_160 : decode cX6_layChances 160 = .ok (.imul, 1) := by decide +kernel
theorem dX6_layChances_161 : decode cX6_layChances 161 = .ok (.iload 4, 2) := by decide +kernel
theorem dX6_layChances_163 : decode cX6_layChances 163 = .ok (.iadd, 1) := by decide +kernel
theorem dX6_layChances_164 : decode cX6_layChances 164 = .ok (.lshl, 1) := by decide +kernel
theorem dX6_layChances_165 : decode cX6_layChances 165 = .ok (.lor, 1) := by decide +kernel
theorem dX6_layChances_166 : decode cX6_layChances 166 = .ok (.putfield 174, 3) := by decide +kernel
theorem dX6_layChances_169 : decode cX6_layChances 169 = .ok (.iload 5, 2) := by decide +kernel
theorem dX6_layChances_171 : decode cX6_layChances 171 = .ok (.iconst 4, 1) := by decide +kernel
theorem dX6_layChances_172 : decode cX6_layChances 172 = .ok (.if_icmp .ne 27, 3) := by decide +kernel
theorem dX6_layChances_175 : decode cX6_layChances 175 = .ok (.aload_n 0, 1) := by decide +kernel
theorem dX6_layChances_176 : decode cX6_layChances 176 = .ok (.getfield 35, 3) := by decide +kernel
theorem dX6_layChances_179 : decode cX6_layChances 179 = .ok (.bipush 6, 2) := by decide +kernel
theorem dX6_layChances_181 : decode cX6_layChances 181 = .ok (.dup2, 1) := by decide +kernel
theorem dX6_layChances_182 : decode cX6_layChances 182 = .ok (.laload, 1) := by decide +kernel
theorem dX6_layChances_183 : decode cX6_layChances 183 = .ok (.ldc2_w 177, 3) := by decide +kernel
theorem dX6_layChances_186 : decode cX6_layChances 186 = .ok (.aload_n 0, 1) := by decide +kernel
theorem dX6_layChances_187 : decode cX6_layChances 187 = .ok (.getfield 28, 3) := by decide +kernel
theorem dX6_layChances_190 : decode cX6_layChances 190 = .ok (.iload 4, 2) := by decide +kernel
theorem dX6_layChances_192 : decode cX6_layChances 192 = .ok (.laload, 1) := by decide +kernel
theorem dX6_layChances_193 : decode cX6_layChances 193 = .ok (.lmul, 1) := by decide +kernel
theorem dX6_layChances_194 : decode cX6_layChances 194 = .ok (.ladd, 1) := by decide +kernel
theorem dX6_layChances_195 : decode cX6_layChances 195 = .ok (.lastore, 1) := by decide +kernel
theorem dX6_layChances_196 : decode cX6_layChances 196 = .ok (.goto 131, 3) := by decide +kernel
theorem dX6_layChances_199 : decode cX6_layChances 199 = .ok (.iload 5, 2) := by decide +kernel
theorem dX6_layChances_201 : decode cX6_layChances 201 = .ok (.iconst 1, 1) := by decide +kernel
theorem dX6_layChances_202 : decode cX6_layChances 202 = .ok (.if_icmp .ne 97, 3) := by decide +kernel
theorem dX6_layChances_205 : decode cX6_layChances 205 = .ok (.aload_n 0, 1) := by decide +kernel
theorem dX6_layChances_206 : decode cX6_layChances 206 = .ok (.iload_n 1, 1) := by decide +kernel
theorem dX6_layChances_207 : decode cX6_layChances 207 = .ok (.invokevirtual 152, 3) := by decide +kernel
theorem dX6_layChances_210 : decode cX6_layChances 210 = .ok (.istore 6, 2) := by decide +kernel
theorem dX6_layChances_212 : decode cX6_layChances 212 = .ok (.aload_n 0, 1) := by decide +kernel
theorem dX6_layChances_213 : decode cX6_layChances 213 = .ok (.iload_n 1, 1) := by decide +kernel
theorem dX6_layChances_214 : decode cX6_layChances 214 = .ok (.invokevirtual 155, 3) := by decide +kernel
theorem dX6_layChances_217 : decode cX6_layChances 217 = .ok (.istore 7, 2) := by decide +kernel
theorem dX6_layChances_219 : decode cX6_layChances 219 = .ok (.aload_n 0, 1) := by decide +kernel
theorem dX6_layChances_220 : decode cX6_layChances 220 = .ok (.getfield 32, 3) := by decide +kernel
theorem dX6_layChances_223 : decode cX6_layChances 223 = .ok (.aload_n 0, 1) := by decide +kernel
theorem dX6_layChances_224 : decode cX6_layChances 224 = .ok (.iload 4, 2) := by decide +kernel
theorem dX6_layChances_226 : decode cX6_layChances 226 = .ok (.invokevirtual 158, 3) := by decide +kernel
theorem dX6_layChances_229 : decode cX6_layChances 229 = .ok (.dup2, 1) := by decide +kernel
theorem dX6_layChances_230 : decode cX6_layChances 230 = .ok (.laload, 1) := by decide +kernel
theorem dX6_layChances_231 : decode cX6_layChances 231 = .ok (.iload 6, 2) := by decide +kernel
theorem dX6_layChances_233 : decode cX6_layChances 233 = .ok (.i2l, 1) := by decide +kernel
theorem dX6_layChances_234 : decode cX6_layChances 234 = .ok (.aload_n 0, 1) := by decide +kernel
theorem dX6_layChances_235 : decode cX6_layChances 235 = .ok (.getfield 28, 3) := by decide +kernel
theorem dX6_layChances_238 : decode cX6_layChances 238 = .ok (.iload 4, 2) := by decide +kernel
theorem dX6_layChances_240 : decode cX6_layChances 240 = .ok (.laload, 1) := by decide +kernel
theorem dX6_layChances_241 : decode cX6_layChances 241 = .ok (.lmul, 1) := by decide +kernel
theorem dX6_layChances_242 : decode cX6_layChances 242 = .ok (.ladd, 1) := by decide +kernel
theorem dX6_layChances_243 : decode cX6_layChances 243 = .ok (.lastore, 1) := by decide +kernel
theorem dX6_layChances_244 : decode cX6_layChances 244 = .ok (.aload_n 0, 1) := by decide +kernel
theorem dX6_layChances_245 : decode cX6_layChances 245 = .ok (.getfield 32, 3) := by decide +kernel
theorem dX6_layChances_248 : decode cX6_layChances 248 = .ok (.aload_n 0, 1) := by decide +kernel
theorem dX6_layChances_249 : decode cX6_layChances 249 = .ok (.iload 4, 2) := by decide +kernel
theorem dX6_layChances_251 : decode cX6_layChances 251 = .ok (.invokevirtual 161, 3) := by decide +kernel
theorem dX6_layChances_254 : decode cX6_layChances 254 = .ok (.dup2, 1) := by decide +kernel
theorem dX6_layChances_255 : decode cX6_layChances 255 = .ok (.laload, 1) := by decide +kernel
theorem dX6_layChances_256 : decode cX6_layChances 256 = .ok (.iload 7, 2) := by decide +kernel
theorem dX6_layChances_258 : decode cX6_layChances 258 = .ok (.i2l, 1) := by decide +kernel
theorem dX6_layChances_259 : decode cX6_layChances 259 = .ok (.aload_n 0, 1) := by decide +kernel
theorem dX6_layChances_260 : decode cX6_layChances 260 = .ok (.getfield 28, 3) := by decide +kernel
theorem dX6_layChances_263 : decode cX6_layChances 263 = .ok (.iload 4, 2) := by decide +kernel
theorem dX6_layChances_265 : decode cX6_layChances 265 = .ok (.laload, 1) := by decide +kernel
theorem dX6_layChances_266 : decode cX6_layChances 266 = .ok (.lmul, 1) := by decide +kernel
theorem dX6_layChances_267 : decode cX6_layChances 267 = .ok (.ladd, 1) := by decide +kernel
theorem dX6_layChances_268 : decode cX6_layChances 268 = .ok (.lastore, 1) := by decide +kernel
theorem dX6_layChances_269 : decode cX6_layChances 269 = .ok (.aload_n 0, 1) := by decide +kernel
theorem dX6_layChances_270 : decode cX6_layChances 270 = .ok (.getfield 32, 3) := by decide +kernel
theorem dX6_layChances_273 : decode cX6_layChances 273 = .ok (.iload 4, 2) := by decide +kernel
theorem dX6_layChances_275 : decode cX6_layChances 275 = .ok (.dup2, 1) := by decide +kernel
theorem dX6_layChances_276 : decode cX6_layChances 276 = .ok (.laload, 1) := by decide +kernel
theorem dX6_layChances_277 : decode cX6_layChances 277 = .ok (.bipush 8, 2) := by decide +kernel
theorem dX6_layChances_279 : decode cX6_layChances 279 = .ok (.iload 6, 2) := by decide +kernel
theorem dX6_layChances_281 : decode cX6_layChances 281 = .ok (.isub, 1) := by decide +kernel
theorem dX6_layChances_282 : decode cX6_layChances 282 = .ok (.iload 7, 2) := by decide +kernel
theorem dX6_layChances_284 : decode cX6_layChances 284 = .ok (.isub, 1) := by decide +kernel
theorem dX6_layChances_285 : decode cX6_layChances 285 = .ok (.i2l, 1) := by decide +kernel
theorem dX6_layChances_286 : decode cX6_layChances 286 = .ok (.aload_n 0, 1) := by decide +kernel
theorem dX6_layChances_287 : decode cX6_layChances 287 = .ok (.getfield 28, 3) := by decide +kernel
theorem dX6_layChances_290 : decode cX6_layChances 290 = .ok (.iload 4, 2) := by decide +kernel
theorem dX6_layChances_292 : decode cX6_layChances 292 = .ok (.laload, 1) := by decide +kernel
theorem dX6_layChances_293 : decode cX6_layChances 293 = .ok (.lmul, 1) := by decide +kernel
theorem dX6_layChances_294 : decode cX6_layChances 294 = .ok (.ladd, 1) := by decide +kernel
theorem dX6_layChances_295 : decode cX6_layChances 295 = .ok (.lastore, 1) := by decide +kernel
theorem dX6_layChances_296 : decode cX6_layChances 296 = .ok (.goto 31, 3) := by decide +kernel
theorem dX6_layChances_299 : decode cX6_layChances 299 = .ok (.aload_n 0, 1) := by decide +kernel
theorem dX6_layChances_300 : decode cX6_layChances 300 = .ok (.getfield 32, 3) := by decide +kernel
theorem dX6_layChances_303 : decode cX6_layChances 303 = .ok (.aload_n 0, 1) := by decide +kernel
theorem dX6_layChances_304 : decode cX6_layChances 304 = .ok (.iload 5, 2) := by decide +kernel
theorem dX6_layChances_306 : decode cX6_layChances 306 = .ok (.iload_n 1, 1) := by decide +kernel
theorem dX6_layChances_307 : decode cX6_layChances 307 = .ok (.iload 4, 2) := by decide +kernel
theorem dX6_layChances_309 : decode cX6_layChances 309 = .ok (.invokevirtual 166, 3) := by decide +kernel
theorem dX6_layChances_312 : decode cX6_layChances 312 = .ok (.dup2, 1) := by decide +kernel
theorem dX6_layChances_313 : decode cX6_layChances 313 = .ok (.laload, 1) := by decide +kernel
theorem dX6_layChances_314 : decode cX6_layChances 314 = .ok (.ldc2_w 177, 3) := by decide +kernel
theorem dX6_layChances_317 : decode cX6_layChances 317 = .ok (.aload_n 0, 1) := by decide +kernel
theorem dX6_layChances_318 : decode cX6_layChances 318 = .ok (.getfield 28, 3) := by decide +kernel
theorem dX6_layChances_321 : decode cX6_layChances 321 = .ok (.iload 4, 2) := by decide +kernel
theorem dX6_layChances_323 : decode cX6_layChances 323 = .ok (.laload, 1) := by decide +kernel
theorem dX6_layChances_324 : decode cX6_layChances 324 = .ok (.lmul, 1) := by decide +kernel
theorem dX6_layChances_325 : decode cX6_layChances 325 = .ok (.ladd, 1) := by decide +kernel
theorem dX6_layChances_326 : decode cX6_layChances 326 = .ok (.lastore, 1) := by decide +kernel
theorem dX6_layChances_327 : decode cX6_layChances 327 = .ok (.iinc 4 1, 3) := by decide +kernel
theorem dX6_layChances_330 : decode cX6_layChances 330 = .ok (.goto (-218), 3) := by decide +kernel
theorem dX6_layChances_333 : decode cX6_layChances 333 = .ok (.iconst 0, 1) := by decide +kernel
theorem dX6_layChances_334 : decode cX6_layChances 334 = .ok (.istore 4, 2) := by decide +kernel
theorem dX6_layChances_336 : decode cX6_layChances 336 = .ok (.iload 4, 2) := by decide +kernel
theorem dX6_layChances_338 : decode cX6_layChances 338 = .ok (.aload_n 0, 1) := by decide +kernel
theorem dX6_layChances_339 : decode cX6_layChances 339 = .ok (.getfield 72, 3) := by decide +kernel
theorem dX6_layChances_342 : decode cX6_layChances 342 = .ok (.if_icmp .ge 23, 3) := by decide +kernel
theorem dX6_layChances_345 : decode cX6_layChances 345 = .ok (.aload_n 0, 1) := by decide +kernel
theorem dX6_layChances_346 : decode cX6_layChances 346 = .ok (.getfield 28, 3) := by decide +kernel
theorem dX6_layChances_349 : decode cX6_layChances 349 = .ok (.iload 4, 2) := by decide +kernel
theorem dX6_layChances_351 : decode cX6_layChances 351 = .ok (.aload_n 0, 1) := by decide +kernel
theorem dX6_layChances_352 : decode cX6_layChances 352 = .ok (.getfield 32, 3) := by decide +kernel
theorem dX6_layChances_355 : decode cX6_layChances 355 = .ok (.iload 4, 2) := by decide +kernel
theorem dX6_layChances_357 : decode cX6_layChances 357 = .ok (.laload, 1) := by decide +kernel
theorem dX6_layChances_358 : decode cX6_layChances 358 = .ok (.lastore, 1) := by decide +kernel
theorem dX6_layChances_359 : decode cX6_layChances 359 = .ok (.iinc 4 1, 3) := by decide +kernel
theorem dX6_layChances_362 : decode cX6_layChances 362 = .ok (.goto (-26), 3) := by decide +kernel
theorem dX6_layChances_365 : decode cX6_layChances 365 = .ok (.iinc 3 1, 3) := by decide +kernel
theorem dX6_layChances_368 : decode cX6_layChances 368 = .ok (.goto (-318), 3) := by decide +kernel
theorem dX6_layChances_371 : decode cX6_layChances 371 = .ok (.iconst 0, 1) := by decide +kernel
theorem dX6_layChances_372 : decode cX6_layChances 372 = .ok (.istore_n 3, 1) := by decide +kernel
theorem dX6_layChances_373 : decode cX6_layChances 373 = .ok (.iload_n 3, 1) := by decide +kernel
theorem dX6_layChances_374 : decode cX6_layChances 374 = .ok (.aload_n 0, 1) := by decide +kernel
theorem dX6_layChances_375 : decode cX6_layChances 375 = .ok (.getfield 72, 3) := by decide +kernel
theorem dX6_layChances_378 : decode cX6_layChances 378 = .ok (.if_icmp .ge 21, 3) := by decide +kernel
theorem dX6_layChances_381 : decode cX6_layChances 381 = .ok (.aload_n 0, 1) := by decide +kernel
theorem dX6_layChances_382 : decode cX6_layChances 382 = .ok (.getfield 35, 3) := by decide +kernel
theorem dX6_layChances_385 : decode cX6_layChances 385 = .ok (.iload_n 3, 1) := by decide +kernel
theorem dX6_layChances_386 : decode cX6_layChances 386 = .ok (.aload_n 0, 1) := by decide +kernel
theorem dX6_layChances_387 : decode cX6_layChances 387 = .ok (.getfield 28, 3) := by decide +kernel
theorem dX6_layChances_390 : decode cX6_layChances 390 = .ok (.iload_n 3, 1) := by decide +kernel
theorem dX6_layChances_391 : decode cX6_layChances 391 = .ok (.laload, 1) := by decide +kernel
theorem dX6_layChances_392 : decode cX6_layChances 392 = .ok (.lastore, 1) := by decide +kernel
theorem dX6_layChances_393 : decode cX6_layChances 393 = .ok (.iinc 3 1, 3) := by decide +kernel
theorem dX6_layChances_396 : decode cX6_layChances 396 = .ok (.goto (-23), 3) := by decide +kernel
theorem dX6_layChances_399 : decode cX6_layChances 399 = .ok (.return_, 1) := by decide +kernel
theorem dX6_layVote_0 : decode cX6_layVote 0 = .ok (.aload_n 0, 1) := by decide +kernel
theorem dX6_layVote_1 : decode cX6_layVote 1 = .ok (.aload_n 0, 1) := by decide +kernel
theorem dX6_layVote_2 : decode cX6_layVote 2 = .ok (.getfield 22, 3) := by decide +kernel
theorem dX6_layVote_5 : decode cX6_layVote 5 = .ok (.iload_n 1, 1) := by decide +kernel
theorem dX6_layVote_6 : decode cX6_layVote 6 = .ok (.iaload, 1) := by decide +kernel
theorem dX6_layVote_7 : decode cX6_layVote 7 = .ok (.aload_n 0, 1) := by decide +kernel
theorem dX6_layVote_8 : decode cX6_layVote 8 = .ok (.getfield 25, 3) := by decide +kernel
theorem dX6_layVote_11 : decode cX6_layVote 11 = .ok (.iload_n 1, 1) := by decide +kernel
theorem dX6_layVote_12 : decode cX6_layVote 12 = .ok (.iaload, 1) := by decide +kernel
theorem dX6_layVote_13 : decode cX6_layVote 13 = .ok (.invokevirtual 179, 3) := by decide +kernel
theorem dX6_layVote_16 : decode cX6_layVote 16 = .ok (.return_, 1) := by decide +kernel
theorem dX6_chance_0 : decode cX6_chance 0 = .ok (.aload_n 0, 1) := by decide +kernel
theorem dX6_chance_1 : decode cX6_chance 1 = .ok (.iload_n 1, 1) := by decide +kernel
theorem dX6_chance_2 : decode cX6_chance 2 = .ok (.invokevirtual 149, 3) := by decide +kernel
theorem dX6_chance_5 : decode cX6_chance 5 = .ok (.ifCond .ne 26, 3) := by decide +kernel
theorem dX6_chance_8 : decode cX6_chance 8 = .ok (.iload_n 2, 1) := by decide +kernel
theorem dX6_chance_9 : decode cX6_chance 9 = .ok (.iconst (-1), 1) := by decide +kernel
theorem dX6_chance_10 : decode cX6_chance 10 = .ok (.if_icmp .eq 11, 3) := by decide +kernel
theorem dX6_chance_13 : decode cX6_chance 13 = .ok (.aload_n 0, 1) := by decide +kernel
theorem dX6_chance_14 : decode cX6_chance 14 = .ok (.iload_n 2, 1) := by decide +kernel
theorem dX6_chance_15 : decode cX6_chance 15 = .ok (.invokevirtual 146, 3) := by decide +kernel
theorem dX6_chance_18 : decode cX6_chance 18 = .ok (.ifCond .ne 13, 3) := by decide +kernel
theorem dX6_chance_21 : decode cX6_chance 21 = .ok (.iload_n 3, 1) := by decide +kernel
theorem dX6_chance_22 : decode cX6_chance 22 = .ok (.i2l, 1) := by decide +kernel
theorem dX6_chance_23 : decode cX6_chance 23 = .ok (.lconst 0, 1) := by decide +kernel
theorem dX6_chance_24 : decode cX6_chance 24 = .ok (.lconst 1, 1) := by decide +kernel
theorem dX6_chance_25 : decode cX6_chance 25 = .ok (.invokestatic 79, 3) := by decide +kernel
theorem dX6_chance_28 : decode cX6_chance 28 = .ok (.ifCond .ne 7, 3) := by decide +kernel
theorem dX6_chance_31 : decode cX6_chance 31 = .ok (.invokestatic 65, 3) := by decide +kernel
theorem dX6_chance_34 : decode cX6_chance 34 = .ok (.lreturn, 1) := by decide +kernel
theorem dX6_chance_35 : decode cX6_chance 35 = .ok (.aload_n 0, 1) := by decide +kernel
theorem dX6_chance_36 : decode cX6_chance 36 = .ok (.iload_n 1, 1) := by decide +kernel
theorem dX6_chance_37 : decode cX6_chance 37 = .ok (.invokevirtual 183, 3) := by decide +kernel
theorem dX6_chance_40 : decode cX6_chance 40 = .ok (.aload_n 0, 1) := by decide +kernel
theorem dX6_chance_41 : decode cX6_chance 41 = .ok (.getfield 35, 3) := by decide +kernel
theorem dX6_chance_44 : decode cX6_chance 44 = .ok (.iload_n 2, 1) := by decide +kernel
theorem dX6_chance_45 : decode cX6_chance 45 = .ok (.ifCond .ge 8, 3) := by decide +kernel
theorem dX6_chance_48 : decode cX6_chance 48 = .ok (.bipush 6, 2) := by decide +kernel
theorem dX6_chance_50 : decode cX6_chance 50 = .ok (.goto 4, 3) := by decide +kernel
theorem dX6_chance_53 : decode cX6_chance 53 = .ok (.iload_n 2, 1) := by decide +kernel
theorem dX6_chance_54 : decode cX6_chance 54 = .ok (.laload, 1) := by decide +kernel
theorem dX6_chance_55 : decode cX6_chance 55 = .ok (.aload_n 0, 1) := by decide +kernel
theorem dX6_chance_56 : decode cX6_chance 56 = .ok (.getfield 170, 3) := by decide +kernel
theorem dX6_chance_59 : decode cX6_chance 59 = .ok (.iload_n 3, 1) := by decide +kernel
theorem dX6_chance_60 : decode cX6_chance 60 = .ok (.invokestatic 187, 3) := by decide +kernel
theorem dX6_chance_63 : decode cX6_chance 63 = .ok (.lreturn, 1) := by decide +kernel
theorem dX6_partsFor_0 : decode cX6_partsFor 0 = .ok (.lconst 0, 1) := by decide +kernel
theorem dX6_partsFor_1 : decode cX6_partsFor 1 = .ok (.lstore_n 2, 1) := by decide +kernel
theorem dX6_partsFor_2 : decode cX6_partsFor 2 = .ok (.iconst 0, 1) := by decide +kernel
theorem dX6_partsFor_3 : decode cX6_partsFor 3 = .ok (.istore 4, 2) := by decide +kernel
theorem dX6_partsFor_5 : decode cX6_partsFor 5 = .ok (.iload 4, 2) := by decide +kernel
theorem dX6_partsFor_7 : decode cX6_partsFor 7 = .ok (.aload_n 0, 1) := by decide +kernel
theorem dX6_partsFor_8 : decode cX6_partsFor 8 = .ok (.getfield 72, 3) := by decide +kernel
theorem dX6_partsFor_11 : decode cX6_partsFor 11 = .ok (.if_icmp .ge 34, 3) := by decide +kernel
theorem dX6_partsFor_14 : decode cX6_partsFor 14 = .ok (.lload_n 2, 1) := by decide +kernel
theorem dX6_partsFor_15 : decode cX6_partsFor 15 = .ok (.aload_n 0, 1) := by decide +kernel
theorem dX6_partsFor_16 : decode cX6_partsFor 16 = .ok (.getfield 7, 3) := by decide +kernel
theorem dX6_partsFor_19 : decode cX6_partsFor 19 = .ok (.iload 4, 2) := by decide +kernel
theorem dX6_partsFor_21 : decode cX6_partsFor 21 = .ok (.iaload, 1) := by decide +kernel
theorem dX6_partsFor_22 : decode cX6_partsFor 22 = .ok (.iload_n 1, 1) := by decide +kernel
theorem dX6_partsFor_23 : decode cX6_partsFor 23 = .ok (.if_icmp .ne 13, 3) := by decide +kernel
theorem dX6_partsFor_26 : decode cX6_partsFor 26 = .ok (.aload_n 0, 1) := by decide +kernel
theorem dX6_partsFor_27 : decode cX6_partsFor 27 = .ok (.getfield 35, 3) := by decide +kernel
theorem dX6_partsFor_30 : decode cX6_partsFor 30 = .ok (.iload 4, 2) := by decide +kernel
theorem dX6_partsFor_32 : decode cX6_partsFor 32 = .ok (.laload, 1) := by decide +kernel
theorem dX6_partsFor_33 : decode cX6_partsFor 33 = .ok (.goto 4, 3) := by decide +kernel
theorem dX6_partsFor_36 : decode cX6_partsFor 36 = .ok (.lconst 0, 1) := by decide +kernel
theorem dX6_partsFor_37 : decode cX6_partsFor 37 = .ok (.ladd, 1) := by decide +kernel
theorem dX6_partsFor_38 : decode cX6_partsFor 38 = .ok (.lstore_n 2, 1) := by decide +kernel
theorem dX6_partsFor_39 : decode cX6_partsFor 39 = .ok (.iinc 4 1, 3) := by decide +kernel
theorem dX6_partsFor_42 : decode cX6_partsFor 42 = .ok (.goto (-37), 3) := by decide +kernel
theorem dX6_partsFor_45 : decode cX6_partsFor 45 = .ok (.lload_n 2, 1) := by decide +kernel
theorem dX6_partsFor_46 : decode cX6_partsFor 46 = .ok (.lreturn, 1) := by decide +kernel
theorem dX6_expectsNow_0 : decode cX6_expectsNow 0 = .ok (.lconst 0, 1) := by decide +kernel
theorem dX6_expectsNow_1 : decode cX6_expectsNow 1 = .ok (.lstore_n 2, 1) := by decide +kernel
theorem dX6_expectsNow_2 : decode cX6_expectsNow 2 = .ok (.iconst 0, 1) := by decide +kernel
theorem dX6_expectsNow_3 : decode cX6_expectsNow 3 = .ok (.istore 4, 2) := by decide +kernel
theorem dX6_expectsNow_5 : decode cX6_expectsNow 5 = .ok (.iload 4, 2) := by decide +kernel
theorem dX6_expectsNow_7 : decode cX6_expectsNow 7 = .ok (.aload_n 0, 1) := by decide +kernel
theorem dX6_expectsNow_8 : decode cX6_expectsNow 8 = .ok (.getfield 138, 3) := by decide +kernel
theorem dX6_expectsNow_11 : decode cX6_expectsNow 11 = .ok (.if_icmp .ge 23, 3) := by decide +kernel
theorem dX6_expectsNow_14 : decode cX6_expectsNow 14 = .ok (.aload_n 0, 1) := by decide +kernel
theorem dX6_expectsNow_15 : decode cX6_expectsNow 15 = .ok (.iload 4, 2) := by decide +kernel
theorem dX6_expectsNow_17 : decode cX6_expectsNow 17 = .ok (.invokevirtual 183, 3) := by decide +kernel
theorem dX6_expectsNow_20 : decode cX6_expectsNow 20 = .ok (.lload_n 2, 1) := by decide +kernel
theorem dX6_expectsNow_21 : decode cX6_expectsNow 21 = .ok (.aload_n 0, 1) := by decide +kernel
theorem dX6_expectsNow_22 : decode cX6_expectsNow 22 = .ok (.iload_n 1, 1) := by decide +kernel
theorem dX6_expectsNow_23 : decode cX6_expectsNow 23 = .ok (.invokevirtual 191, 3) := by decide +kernel
theorem dX6_expectsNow_26 : decode cX6_expectsNow 26 = .ok (.ladd, 1) := by decide +kernel
theorem dX6_expectsNow_27 : decode cX6_expectsNow 27 = .ok (.lstore_n 2, 1) := by decide +kernel
theorem dX6_expectsNow_28 : decode cX6_expectsNow 28 = .ok (.iinc 4 1, 3) := by decide +kernel
theorem dX6_expectsNow_31 : decode cX6_expectsNow 31 = .ok (.goto (-26), 3) := by decide +kernel
theorem dX6_expectsNow_34 : decode cX6_expectsNow 34 = .ok (.lload_n 2, 1) := by decide +kernel
theorem dX6_expectsNow_35 : decode cX6_expectsNow 35 = .ok (.lreturn, 1) := by decide +kernel
theorem dX6_expects_0 : decode cX6_expects 0 = .ok (.iload_n 1, 1) := by decide +kernel
theorem dX6_expects_1 : decode cX6_expects 1 = .ok (.invokestatic 195, 3) := by decide +kernel
theorem dX6_expects_4 : decode cX6_expects 4 = .ok (.ifCond .ne 20, 3) := by decide +kernel
theorem dX6_expects_7 : decode cX6_expects 7 = .ok (.iload_n 2, 1) := by decide +kernel
theorem dX6_expects_8 : decode cX6_expects 8 = .ok (.i2l, 1) := by decide +kernel
theorem dX6_expects_9 : decode cX6_expects 9 = .ok (.lconst 0, 1) := by decide +kernel
theorem dX6_expects_10 : decode cX6_expects 10 = .ok (.lconst 1, 1) := by decide +kernel
theorem dX6_expects_11 : decode cX6_expects 11 = .ok (.invokestatic 79, 3) := by decide +kernel
theorem dX6_expects_14 : decode cX6_expects 14 = .ok (.ifCond .eq 10, 3) := by decide +kernel
theorem dX6_expects_17 : decode cX6_expects 17 = .ok (.aload_n 0, 1) := by decide +kernel
theorem dX6_expects_18 : decode cX6_expects 18 = .ok (.getfield 69, 3) := by decide +kernel
theorem dX6_expects_21 : decode cX6_expects 21 = .ok (.ifCond .ne 7, 3) := by decide +kernel
theorem dX6_expects_24 : decode cX6_expects 24 = .ok (.invokestatic 65, 3) := by decide +kernel
theorem dX6_expects_27 : decode cX6_expects 27 = .ok (.lreturn, 1) := by decide +kernel
theorem dX6_expects_28 : decode cX6_expects 28 = .ok (.aload_n 0, 1) := by decide +kernel
theorem dX6_expects_29 : decode cX6_expects 29 = .ok (.iload_n 1, 1) := by decide +kernel
theorem dX6_expects_30 : decode cX6_expects 30 = .ok (.invokevirtual 198, 3) := by decide +kernel
theorem dX6_expects_33 : decode cX6_expects 33 = .ok (.lstore_n 3, 1) := by decide +kernel
theorem dX6_expects_34 : decode cX6_expects 34 = .ok (.aload_n 0, 1) := by decide +kernel
theorem dX6_expects_35 : decode cX6_expects 35 = .ok (.getfield 138, 3) := by decide +kernel
theorem dX6_expects_38 : decode cX6_expects 38 = .ok (.ifCond .ne 8, 3) := by decide +kernel
theorem dX6_expects_41 : decode cX6_expects 41 = .ok (.iload_n 2, 1) := by decide +kernel
theorem dX6_expects_42 : decode cX6_expects 42 = .ok (.i2l, 1) := by decide +kernel
theorem dX6_expects_43 : decode cX6_expects 43 = .ok (.goto 12, 3) := by decide +kernel
theorem dX6_expects_46 : decode cX6_expects 46 = .ok (.lload_n 3, 1) := by decide +kernel
theorem dX6_expects_47 : decode cX6_expects 47 = .ok (.aload_n 0, 1) := by decide +kernel
theorem dX6_expects_48 : decode cX6_expects 48 = .ok (.getfield 170, 3) := by decide +kernel
theorem dX6_expects_51 : decode cX6_expects 51 = .ok (.iload_n 2, 1) := by decide +kernel
theorem dX6_expects_52 : decode cX6_expects 52 = .ok (.invokestatic 187, 3) := by decide +kernel
theorem dX6_expects_55 : decode cX6_expects 55 = .ok (.lreturn, 1) := by decide +kernel
theorem dX6_start_0 : decode cX6_start 0 = .ok (.aload_n 0, 1) := by decide +kernel
theorem dX6_start_1 : decode cX6_start 1 = .ok (.iload_n 1, 1) := by decide +kernel
theorem dX6_start_2 : decode cX6_start 2 = .ok (.invokevirtual 149, 3) := by decide +kernel
theorem dX6_start_5 : decode cX6_start 5 = .ok (.ifCond .ne 10, 3) := by decide +kernel
theorem dX6_start_8 : decode cX6_start 8 = .ok (.iload_n 2, 1) := by decide +kernel
theorem dX6_start_9 : decode cX6_start 9 = .ok (.invokestatic 195, 3) := by decide +kernel
theorem dX6_start_12 : decode cX6_start 12 = .ok (.ifCond .eq 5, 3) := by decide +kernel
theorem dX6_start_15 : decode cX6_start 15 = .ok (.iconst (-1), 1) := by decide +kernel
theorem dX6_start_16 : decode cX6_start 16 = .ok (.ireturn, 1) := by decide +kernel
theorem dX6_start_17 : decode cX6_start 17 = .ok (.iconst 0, 1) := by decide +kernel
theorem dX6_start_18 : decode cX6_start 18 = .ok (.istore_n 3, 1) := by decide +kernel
theorem dX6_start_19 : decode cX6_start 19 = .ok (.ldc2_w 201, 3) := by decide +kernel
theorem dX6_start_22 : decode cX6_start 22 = .ok (.lstore 4, 2) := by decide +kernel
theorem dX6_start_24 : decode cX6_start 24 = .ok (.iconst 0, 1) := by decide +kernel
theorem dX6_start_25 : decode cX6_start 25 = .ok (.istore 6, 2) := by decide +kernel
theorem dX6_start_27 : decode cX6_start 27 = .ok (.iload 6, 2) := by decide +kernel
theorem dX6_start_29 : decode cX6_start 29 = .ok (.aload_n 0, 1) := by decide +kernel
theorem dX6_start_30 : decode cX6_start 30 = .ok (.getfield 72, 3) := by decide +kernel
theorem dX6_start_33 : decode cX6_start 33 = .ok (.if_icmp .ge 60, 3) := by decide +kernel
theorem dX6_start_36 : decode cX6_start 36 = .ok (.aload_n 0, 1) := by decide +kernel
theorem dX6_start_37 : decode cX6_start 37 = .ok (.aload_n 0, 1) := by decide +kernel
theorem dX6_start_38 : decode cX6_start 38 = .ok (.getfield 22, 3) := by decide +kernel
theorem dX6_start_41 : decode cX6_start 41 = .ok (.iload_n 1, 1) := by decide +kernel
theorem dX6_start_42 : decode cX6_start 42 = .ok (.iaload, 1) := by decide +kernel
theorem dX6_start_43 : decode cX6_start 43 = .ok (.iload 6, 2) := by decide +kernel
theorem dX6_start_45 : decode cX6_start 45 = .ok (.invokevirtual 179, 3) := by decide +kernel
theorem dX6_start_48 : decode cX6_start 48 = .ok (.aload_n 0, 1) := by decide +kernel
theorem dX6_start_49 : decode cX6_start 49 = .ok (.iload_n 2, 1) := by decide +kernel
theorem dX6_start_50 : decode cX6_start 50 = .ok (.invokevirtual 191, 3) := by decide +kernel
theorem dX6_start_53 : decode cX6_start 53 = .ok (.lstore 7, 2) := by decide +kernel
theorem dX6_start_55 : decode cX6_start 55 = .ok (.lload 7, 2) := by decide +kernel
theorem dX6_start_57 : decode cX6_start 57 = .ok (.lload 4, 2) := by decide +kernel
theorem dX6_start_59 : decode cX6_start 59 = .ok (.lcmp, 1) := by decide +kernel
theorem dX6_start_60 : decode cX6_start 60 = .ok (.ifCond .le 8, 3) := by decide +kernel
theorem dX6_start_63 : decode cX6_start 63 = .ok (.iload 6, 2) := by decide +kernel
theorem dX6_start_65 : decode cX6_start 65 = .ok (.goto 4, 3) := by decide +kernel
theorem dX6_start_68 : decode cX6_start 68 = .ok (.iload_n 3, 1) := by decide +kernel
theorem dX6_start_69 : decode cX6_start 69 = .ok (.istore_n 3, 1) := by decide +kernel
theorem dX6_start_70 : decode cX6_start 70 = .ok (.lload 7, 2) := by decide +kernel
theorem dX6_start_72 : decode cX6_start 72 = .ok (.lload 4, 2) := by decide +kernel
theorem dX6_start_74 : decode cX6_start 74 = .ok (.lcmp, 1) := by decide +kernel
theorem dX6_start_75 : decode cX6_start 75 = .ok (.ifCond .le 8, 3) := by decide +kernel
theorem dX6_start_78 : decode cX6_start 78 = .ok (.lload 7, 2) := by decide +kernel
theorem dX6_start_80 : decode cX6_start 80 = .ok (.goto 5, 3) := by decide +kernel
theorem dX6_start_83 : decode cX6_start 83 = .ok (.lload 4, 2) := by decide +kernel
theorem dX6_start_85 : decode cX6_start 85 = .ok (.lstore 4, 2) := by decide +kernel
theorem dX6_start_87 : decode cX6_start 87 = .ok (.iinc 6 1, 3) := by decide +kernel
theorem dX6_start_90 : decode cX6_start 90 = .ok (.goto (-63), 3) := by decide +kernel
theorem dX6_start_93 : decode cX6_start 93 = .ok (.iload_n 3, 1) := by decide +kernel
theorem dX6_start_94 : decode cX6_start 94 = .ok (.ireturn, 1) := by decide +kernel
theorem dX6_moveOf_0 : decode cX6_moveOf 0 = .ok (.aload_n 0, 1) := by decide +kernel
theorem dX6_moveOf_1 : decode cX6_moveOf 1 = .ok (.iload_n 1, 1) := by decide +kernel
theorem dX6_moveOf_2 : decode cX6_moveOf 2 = .ok (.invokevirtual 198, 3) := by decide +kernel
theorem dX6_moveOf_5 : decode cX6_moveOf 5 = .ok (.lstore_n 2, 1) := by decide +kernel
theorem dX6_moveOf_6 : decode cX6_moveOf 6 = .ok (.bipush (-9), 2) := by decide +kernel
theorem dX6_moveOf_8 : decode cX6_moveOf 8 = .ok (.istore 4, 2) := by decide +kernel
theorem dX6_moveOf_10 : decode cX6_moveOf 10 = .ok (.iconst 0, 1) := by decide +kernel
theorem dX6_moveOf_11 : decode cX6_moveOf 11 = .ok (.istore 5, 2) := by decide +kernel
theorem dX6_moveOf_13 : decode cX6_moveOf 13 = .ok (.iload 5, 2) := by decide +kernel
theorem dX6_moveOf_15 : decode cX6_moveOf 15 = .ok (.aload_n 0, 1) := by decide +kernel
theorem dX6_moveOf_16 : decode cX6_moveOf 16 = .ok (.invokevirtual 75, 3) := by decide +kernel
theorem dX6_moveOf_19 : decode cX6_moveOf 19 = .ok (.if_icmp .ge 94, 3) := by decide +kernel
theorem dX6_moveOf_22 : decode cX6_moveOf 22 = .ok (.aload_n 0, 1) := by decide +kernel
theorem dX6_moveOf_23 : decode cX6_moveOf 23 = .ok (.getfield 13, 3) := by decide +kernel
theorem dX6_moveOf_26 : decode cX6_moveOf 26 = .ok (.iload 5, 2) := by decide +kernel
theorem dX6_moveOf_28 : decode cX6_moveOf 28 = .ok (.iaload, 1) := by decide +kernel
theorem dX6_moveOf_29 : decode cX6_moveOf 29 = .ok (.istore 6, 2) := by decide +kernel
theorem dX6_moveOf_31 : decode cX6_moveOf 31 = .ok (.iconst 0, 1) := by decide +kernel
theorem dX6_moveOf_32 : decode cX6_moveOf 32 = .ok (.istore 7, 2) := by decide +kernel
theorem dX6_moveOf_34 : decode cX6_moveOf 34 = .ok (.iload 7, 2) := by decide +kernel
theorem dX6_moveOf_36 : decode cX6_moveOf 36 = .ok (.iconst 4, 1) := by decide +kernel
theorem dX6_moveOf_37 : decode cX6_moveOf 37 = .ok (.if_icmp .gt 61, 3) := by decide +kernel
theorem dX6_moveOf_40 : decode cX6_moveOf 40 = .ok (.aload_n 0, 1) := by decide +kernel
theorem dX6_moveOf_41 : decode cX6_moveOf 41 = .ok (.getfield 13, 3) := by decide +kernel
theorem dX6_moveOf_44 : decode cX6_moveOf 44 = .ok (.iload 5, 2) := by decide +kernel
theorem dX6_moveOf_46 : decode cX6_moveOf 46 = .ok (.iload 7, 2) := by decide +kernel
theorem dX6_moveOf_48 : decode cX6_moveOf 48 = .ok (.iastore, 1) := by decide +kernel
theorem dX6_moveOf_49 : decode cX6_moveOf 49 = .ok (.aload_n 0, 1) := by decide +kernel
theorem dX6_moveOf_50 : decode cX6_moveOf 50 = .ok (.iload_n 1, 1) := by decide +kernel
theorem dX6_moveOf_51 : decode cX6_moveOf 51 = .ok (.invokevirtual 198, 3) := by decide +kernel
theorem dX6_moveOf_54 : decode cX6_moveOf 54 = .ok (.lstore 8, 2) := by decide +kernel
theorem dX6_moveOf_56 : decode cX6_moveOf 56 = .ok (.lload 8, 2) := by decide +kernel
theorem dX6_moveOf_58 : decode cX6_moveOf 58 = .ok (.lload_n 2, 1) := by decide +kernel
theorem dX6_moveOf_59 : decode cX6_moveOf 59 = .ok (.lcmp, 1) := by decide +kernel
theorem dX6_moveOf_60 : decode cX6_moveOf 60 = .ok (.ifCond .le 14, 3) := by decide +kernel
theorem dX6_moveOf_63 : decode cX6_moveOf 63 = .ok (.bipush 10, 2) := by decide +kernel
theorem dX6_moveOf_65 : decode cX6_moveOf 65 = .ok (.iload 5, 2) := by decide +kernel
theorem dX6_moveOf_67 : decode cX6_moveOf 67 = .ok (.imul, 1) := by decide +kernel
theorem dX6_moveOf_68 : decode cX6_moveOf 68 = .ok (.iload 7, 2) := by decide +kernel
theorem dX6_moveOf_70 : decode cX6_moveOf 70 = .ok (.iadd, 1) := by decide +kernel
theorem dX6_moveOf_71 : decode cX6_moveOf 71 = .ok (.goto 5, 3) := by decide +kernel
theorem dX6_moveOf_74 : decode cX6_moveOf 74 = .ok (.iload 4, 2) := by decide +kernel
theorem dX6_moveOf_76 : decode cX6_moveOf 76 = .ok (.istore 4, 2) := by decide +kernel
theorem dX6_moveOf_78 : decode cX6_moveOf 78 = .ok (.lload 8, 2) := by decide +kernel
theorem dX6_moveOf_80 : decode cX6_moveOf 80 = .ok (.lload_n 2, 1) := by decide +kernel
theorem dX6_moveOf_81 : decode cX6_moveOf 81 = .ok (.lcmp, 1) := by decide +kernel
theorem dX6_moveOf_82 : decode cX6_moveOf 82 = .ok (.ifCond .le 8, 3) := by decide +kernel
theorem dX6_moveOf_85 : decode cX6_moveOf 85 = .ok (.lload 8, 2) := by decide +kernel
theorem dX6_moveOf_87 : decode cX6_moveOf 87 = .ok (.goto 4, 3) := by decide +kernel
theorem dX6_moveOf_90 : decode cX6_moveOf 90 = .ok (.lload_n 2, 1) := by decide +kernel
theorem dX6_moveOf_91 : decode cX6_moveOf 91 = .ok (.lstore_n 2, 1) := by decide +kernel
theorem dX6_moveOf_92 : decode cX6_moveOf 92 = .ok (.iinc 7 1, 3) := by decide +kernel
theorem dX6_moveOf_95 : decode cX6_moveOf 95 = .ok (.goto (-61), 3) := by decide +kernel
theorem dX6_moveOf_98 : decode cX6_moveOf 98 = .ok (.aload_n 0, 1) := by decide +kernel
theorem dX6_moveOf_99 : decode cX6_moveOf 99 = .ok (.getfield 13, 3) := by decide +kernel
theorem dX6_moveOf_102 : decode cX6_moveOf 102 = .ok (.iload 5, 2) := by decide +kernel
theorem dX6_moveOf_104 : decode cX6_moveOf 104 = .ok (.iload 6, 2) := by decide +kernel
theorem dX6_moveOf_106 : decode cX6_moveOf 106 = .ok (.iastore, 1) := by decide +kernel
theorem dX6_moveOf_107 : decode cX6_moveOf 107 = .ok (.iinc 5 1, 3) := by decide +kernel
theorem dX6_moveOf_110 : decode cX6_moveOf 110 = .ok (.goto (-97), 3) := by decide +kernel
theorem dX6_moveOf_113 : decode cX6_moveOf 113 = .ok (.iload 4, 2) := by decide +kernel
theorem dX6_moveOf_115 : decode cX6_moveOf 115 = .ok (.ireturn, 1) := by decide +kernel
theorem dX6_move_0 : decode cX6_move 0 = .ok (.iload_n 1, 1) := by decide +kernel
theorem dX6_move_1 : decode cX6_move 1 = .ok (.invokestatic 195, 3) := by decide +kernel
theorem dX6_move_4 : decode cX6_move 4 = .ok (.ifCond .eq 5, 3) := by decide +kernel
theorem dX6_move_7 : decode cX6_move 7 = .ok (.iconst (-1), 1) := by decide +kernel
theorem dX6_move_8 : decode cX6_move 8 = .ok (.ireturn, 1) := by decide +kernel
theorem dX6_move_9 : decode cX6_move 9 = .ok (.aload_n 0, 1) := by decide +kernel
theorem dX6_move_10 : decode cX6_move 10 = .ok (.getfield 69, 3) := by decide +kernel
theorem dX6_move_13 : decode cX6_move 13 = .ok (.ifCond .ne 8, 3) := by decide +kernel
theorem dX6_move_16 : decode cX6_move 16 = .ok (.bipush (-3), 2) := by decide +kernel
theorem dX6_move_18 : decode cX6_move 18 = .ok (.goto 8, 3) := by decide +kernel
theorem dX6_move_21 : decode cX6_move 21 = .ok (.aload_n 0, 1) := by decide +kernel
theorem dX6_move_22 : decode cX6_move 22 = .ok (.iload_n 1, 1) := by decide +kernel
theorem dX6_move_23 : decode cX6_move 23 = .ok (.invokevirtual 203, 3) := by decide +kernel
theorem dX6_move_26 : decode cX6_move 26 = .ok (.ireturn, 1) := by decide +kernel
theorem dX6_answer_0 : decode cX6_answer 0 = .ok (.iload_n 1, 1) := by decide +kernel
theorem dX6_answer_1 : decode cX6_answer 1 = .ok (.invokestatic 195, 3) := by decide +kernel
theorem dX6_answer_4 : decode cX6_answer 4 = .ok (.ifCond .ne 10, 3) := by decide +kernel
theorem dX6_answer_7 : decode cX6_answer 7 = .ok (.iload_n 2, 1) := by decide +kernel
theorem dX6_answer_8 : decode cX6_answer 8 = .ok (.invokestatic 195, 3) := by decide +kernel
theorem dX6_answer_11 : decode cX6_answer 11 = .ok (.ifCond .eq 5, 3) := by decide +kernel
theorem dX6_answer_14 : decode cX6_answer 14 = .ok (.iconst (-1), 1) := by decide +kernel
theorem dX6_answer_15 : decode cX6_answer 15 = .ok (.ireturn, 1) := by decide +kernel
theorem dX6_answer_16 : decode cX6_answer 16 = .ok (.iload_n 1, 1) := by decide +kernel
theorem dX6_answer_17 : decode cX6_answer 17 = .ok (.iload_n 2, 1) := by decide +kernel
theorem dX6_answer_18 : decode cX6_answer 18 = .ok (.if_icmp .ne 6, 3) := by decide +kernel
theorem dX6_answer_21 : decode cX6_answer 21 = .ok (.bipush (-2), 2) := by decide +kernel
theorem dX6_answer_23 : decode cX6_answer 23 = .ok (.ireturn, 1) := by decide +kernel
theorem dX6_answer_24 : decode cX6_answer 24 = .ok (.aload_n 0, 1) := by decide +kernel
theorem dX6_answer_25 : decode cX6_answer 25 = .ok (.getfield 69, 3) := by decide +kernel
theorem dX6_answer_28 : decode cX6_answer 28 = .ok (.ifCond .ne 6, 3) := by decide +kernel
theorem dX6_answer_31 : decode cX6_answer 31 = .ok (.bipush (-3), 2) := by decide +kernel
theorem dX6_answer_33 : decode cX6_answer 33 = .ok (.ireturn, 1) := by decide +kernel
theorem dX6_answer_34 : decode cX6_answer 34 = .ok (.aload_n 0, 1) := by decide +kernel
theorem dX6_answer_35 : decode cX6_answer 35 = .ok (.iload_n 1, 1) := by decide +kernel
theorem dX6_answer_36 : decode cX6_answer 36 = .ok (.invokevirtual 203, 3) := by decide +kernel
theorem dX6_answer_39 : decode cX6_answer 39 = .ok (.istore_n 3, 1) := by decide +kernel
theorem dX6_answer_40 : decode cX6_answer 40 = .ok (.iload_n 3, 1) := by decide +kernel
theorem dX6_answer_41 : decode cX6_answer 41 = .ok (.ifCond .ge 9, 3) := by decide +kernel
theorem dX6_answer_44 : decode cX6_answer 44 = .ok (.aload_n 0, 1) := by decide +kernel
theorem dX6_answer_45 : decode cX6_answer 45 = .ok (.iload_n 2, 1) := by decide +kernel
theorem dX6_answer_46 : decode cX6_answer 46 = .ok (.invokevirtual 203, 3) := by decide +kernel
theorem dX6_answer_49 : decode cX6_answer 49 = .ok (.ireturn, 1) := by decide +kernel
theorem dX6_answer_50 : decode cX6_answer 50 = .ok (.aload_n 0, 1) := by decide +kernel
theorem dX6_answer_51 : decode cX6_answer 51 = .ok (.getfield 13, 3) := by decide +kernel
theorem dX6_answer_54 : decode cX6_answer 54 = .ok (.iload_n 3, 1) := by decide +kernel
theorem dX6_answer_55 : decode cX6_answer 55 = .ok (.bipush 10, 2) := by decide +kernel
theorem dX6_answer_57 : decode cX6_answer 57 = .ok (.idiv, 1) := by decide +kernel
theorem dX6_answer_58 : decode cX6_answer 58 = .ok (.iaload, 1) := by decide +kernel
theorem dX6_answer_59 : decode cX6_answer 59 = .ok (.istore 4, 2) := by decide +kernel
theorem dX6_answer_61 : decode cX6_answer 61 = .ok (.aload_n 0, 1) := by decide +kernel
theorem dX6_answer_62 : decode cX6_answer 62 = .ok (.getfield 13, 3) := by decide +kernel
theorem dX6_answer_65 : decode cX6_answer 65 = .ok (.iload_n 3, 1) := by decide +kernel
theorem dX6_answer_66 : decode cX6_answer 66 = .ok (.bipush 10, 2) := by decide +kernel
theorem dX6_answer_68 : decode cX6_answer 68 = .ok (.idiv, 1) := by decide +kernel
theorem dX6_answer_69 : decode cX6_answer 69 = .ok (.iload_n 3, 1) := by decide +kernel
theorem dX6_answer_70 : decode cX6_answer 70 = .ok (.bipush 10, 2) := by decide +kernel
theorem dX6_answer_72 : decode cX6_answer 72 = .ok (.irem, 1) := by decide +kernel
theorem dX6_answer_73 : decode cX6_answer 73 = .ok (.iastore, 1) := by decide +kernel
theorem dX6_answer_74 : decode cX6_answer 74 = .ok (.aload_n 0, 1) := by decide +kernel
theorem dX6_answer_75 : decode cX6_answer 75 = .ok (.iload_n 2, 1) := by decide +kernel
theorem dX6_answer_76 : decode cX6_answer 76 = .ok (.invokevirtual 203, 3) := by decide +kernel
theorem dX6_answer_79 : decode cX6_answer 79 = .ok (.istore 5, 2) := by decide +kernel
theorem dX6_answer_81 : decode cX6_answer 81 = .ok (.aload_n 0, 1) := by decide +kernel
theorem dX6_answer_82 : decode cX6_answer 82 = .ok (.getfield 13, 3) := by decide +kernel
theorem dX6_answer_85 : decode cX6_answer 85 = .ok (.iload_n 3, 1) := by decide +kernel
theorem dX6_answer_86 : decode cX6_answer 86 = .ok (.bipush 10, 2) := by decide +kernel
theorem dX6_answer_88 : decode cX6_answer 88 = .ok (.idiv, 1) := by decide +kernel
theorem dX6_answer_89 : decode cX6_answer 89 = .ok (.iload 4, 2) := by decide +kernel
theorem dX6_answer_91 : decode cX6_answer 91 = .ok (.iastore, 1) := by decide +kernel
theorem dX6_answer_92 : decode cX6_answer 92 = .ok (.iload 5, 2) := by decide +kernel
theorem dX6_answer_94 : decode cX6_answer 94 = .ok (.ireturn, 1) := by decide +kernel
theorem dX6_likeliestOf_0 : decode cX6_likeliestOf 0 = .ok (.aload_n 0, 1) := by decide +kernel
theorem dX6_likeliestOf_1 : decode cX6_likeliestOf 1 = .ok (.iload_n 1, 1) := by decide +kernel
theorem dX6_likeliestOf_2 : decode cX6_likeliestOf 2 = .ok (.invokevirtual 183, 3) := by decide +kernel
theorem dX6_likeliestOf_5 : decode cX6_likeliestOf 5 = .ok (.iconst 0, 1) := by decide +kernel
theorem dX6_likeliestOf_6 : decode cX6_likeliestOf 6 = .ok (.istore_n 2, 1) := by decide +kernel
theorem dX6_likeliestOf_7 : decode cX6_likeliestOf 7 = .ok (.iconst 1, 1) := by decide +kernel
theorem dX6_likeliestOf_8 : decode cX6_likeliestOf 8 = .ok (.istore_n 3, 1) := by decide +kernel
theorem dX6_likeliestOf_9 : decode cX6_likeliestOf 9 = .ok (.iload_n 3, 1) := by decide +kernel
theorem dX6_likeliestOf_10 : decode cX6_likeliestOf 10 = .ok (.aload_n 0, 1) := by decide +kernel
theorem dX6_likeliestOf_11 : decode cX6_likeliestOf 11 = .ok (.getfield 72, 3) := by decide +kernel
theorem dX6_likeliestOf_14 : decode cX6_likeliestOf 14 = .ok (.if_icmp .ge 31, 3) := by decide +kernel
theorem dX6_likeliestOf_17 : decode cX6_likeliestOf 17 = .ok (.aload_n 0, 1) := by decide +kernel
theorem dX6_likeliestOf_18 : decode cX6_likeliestOf 18 = .ok (.getfield 35, 3) := by decide +kernel
theorem dX6_likeliestOf_21 : decode cX6_likeliestOf 21 = .ok (.iload_n 3, 1) := by decide +kernel
theorem dX6_likeliestOf_22 : decode cX6_likeliestOf 22 = .ok (.laload, 1) := by decide +kernel
theorem dX6_likeliestOf_23 : decode cX6_likeliestOf 23 = .ok (.aload_n 0, 1) := by decide +kernel
theorem dX6_likeliestOf_24 : decode cX6_likeliestOf 24 = .ok (.getfield 35, 3) := by decide +kernel
theorem dX6_likeliestOf_27 : decode cX6_likeliestOf 27 = .ok (.iload_n 2, 1) := by decide +kernel
theorem dX6_likeliestOf_28 : decode cX6_likeliestOf 28 = .ok (.laload, 1) := by decide +kernel
theorem dX6_likeliestOf_29 : decode cX6_likeliestOf 29 = .ok (.lcmp, 1) := by decide +kernel
theorem dX6_likeliestOf_30 : decode cX6_likeliestOf 30 = .ok (.ifCond .le 7, 3) := by decide +kernel
theorem dX6_likeliestOf_33 : decode cX6_likeliestOf 33 = .ok (.iload_n 3, 1) := by decide +kernel
theorem dX6_likeliestOf_34 : decode cX6_likeliestOf 34 = .ok (.goto 4, 3) := by decide +kernel
theorem dX6_likeliestOf_37 : decode cX6_likeliestOf 37 = .ok (.iload_n 2, 1) := by decide +kernel
theorem dX6_likeliestOf_38 : decode cX6_likeliestOf 38 = .ok (.istore_n 2, 1) := by decide +kernel
theorem dX6_likeliestOf_39 : decode cX6_likeliestOf 39 = .ok (.iinc 3 1, 3) := by decide +kernel
theorem dX6_likeliestOf_42 : decode cX6_likeliestOf 42 = .ok (.goto (-33), 3) := by decide +kernel
theorem dX6_likeliestOf_45 : decode cX6_likeliestOf 45 = .ok (.aload_n 0, 1) := by decide +kernel
theorem dX6_likeliestOf_46 : decode cX6_likeliestOf 46 = .ok (.getfield 35, 3) := by decide +kernel
theorem dX6_likeliestOf_49 : decode cX6_likeliestOf 49 = .ok (.bipush 6, 2) := by decide +kernel
theorem dX6_likeliestOf_51 : decode cX6_likeliestOf 51 = .ok (.laload, 1) := by decide +kernel
theorem dX6_likeliestOf_52 : decode cX6_likeliestOf 52 = .ok (.aload_n 0, 1) := by decide +kernel
theorem dX6_likeliestOf_53 : decode cX6_likeliestOf 53 = .ok (.getfield 35, 3) := by decide +kernel
theorem dX6_likeliestOf_56 : decode cX6_likeliestOf 56 = .ok (.iload_n 2, 1) := by decide +kernel
theorem dX6_likeliestOf_57 : decode cX6_likeliestOf 57 = .ok (.laload, 1) := by decide +kernel
theorem dX6_likeliestOf_58 : decode cX6_likeliestOf 58 = .ok (.lcmp, 1) := by decide +kernel
theorem dX6_likeliestOf_59 : decode cX6_likeliestOf 59 = .ok (.ifCond .le 8, 3) := by decide +kernel
theorem dX6_likeliestOf_62 : decode cX6_likeliestOf 62 = .ok (.bipush (-9), 2) := by decide +kernel
theorem dX6_likeliestOf_64 : decode cX6_likeliestOf 64 = .ok (.goto 4, 3) := by decide +kernel
theorem dX6_likeliestOf_67 : decode cX6_likeliestOf 67 = .ok (.iload_n 2, 1) := by decide +kernel
theorem dX6_likeliestOf_68 : decode cX6_likeliestOf 68 = .ok (.ireturn, 1) := by decide +kernel
theorem dX6_likeliest_0 : decode cX6_likeliest 0 = .ok (.aload_n 0, 1) := by decide +kernel
theorem dX6_likeliest_1 : decode cX6_likeliest 1 = .ok (.iload_n 1, 1) := by decide +kernel
theorem dX6_likeliest_2 : decode cX6_likeliest 2 = .ok (.invokevirtual 149, 3) := by decide +kernel
theorem dX6_likeliest_5 : decode cX6_likeliest 5 = .ok (.ifCond .eq 7, 3) := by decide +kernel
theorem dX6_likeliest_8 : decode cX6_likeliest 8 = .ok (.iconst (-1), 1) := by decide +kernel
theorem dX6_likeliest_9 : decode cX6_likeliest 9 = .ok (.goto 8, 3) := by decide +kernel
theorem dX6_likeliest_12 : decode cX6_likeliest 12 = .ok (.aload_n 0, 1) := by decide +kernel
theorem dX6_likeliest_13 : decode cX6_likeliest 13 = .ok (.iload_n 1, 1) := by decide +kernel
theorem dX6_likeliest_14 : decode cX6_likeliest 14 = .ok (.invokevirtual 206, 3) := by decide +kernel
theorem dX6_likeliest_17 : decode cX6_likeliest 17 = .ok (.ireturn, 1) := by decide +kernel
theorem dX6_tallyOf_0 : decode cX6_tallyOf 0 = .ok (.iconst 0, 1) := by decide +kernel
theorem dX6_tallyOf_1 : decode cX6_tallyOf 1 = .ok (.istore_n 3, 1) := by decide +kernel
theorem dX6_tallyOf_2 : decode cX6_tallyOf 2 = .ok (.iconst 0, 1) := by decide +kernel
theorem dX6_tallyOf_3 : decode cX6_tallyOf 3 = .ok (.istore 4, 2) := by decide +kernel
theorem dX6_tallyOf_5 : decode cX6_tallyOf 5 = .ok (.iload 4, 2) := by decide +kernel
theorem dX6_tallyOf_7 : decode cX6_tallyOf 7 = .ok (.aload_n 0, 1) := by decide +kernel
theorem dX6_tallyOf_8 : decode cX6_tallyOf 8 = .ok (.getfield 138, 3) := by decide +kernel
theorem dX6_tallyOf_11 : decode cX6_tallyOf 11 = .ok (.if_icmp .ge 52, 3) := by decide +kernel
theorem dX6_tallyOf_14 : decode cX6_tallyOf 14 = .ok (.iload 4, 2) := by decide +kernel
theorem dX6_tallyOf_16 : decode cX6_tallyOf 16 = .ok (.iload_n 2, 1) := by decide +kernel
theorem dX6_tallyOf_17 : decode cX6_tallyOf 17 = .ok (.if_icmp .ne 8, 3) := by decide +kernel
theorem dX6_tallyOf_20 : decode cX6_tallyOf 20 = .ok (.bipush (-9), 2) := by decide +kernel
theorem dX6_tallyOf_22 : decode cX6_tallyOf 22 = .ok (.goto 9, 3) := by decide +kernel
theorem dX6_tallyOf_25 : decode cX6_tallyOf 25 = .ok (.aload_n 0, 1) := by decide +kernel
theorem dX6_tallyOf_26 : decode cX6_tallyOf 26 = .ok (.iload 4, 2) := by decide +kernel
theorem dX6_tallyOf_28 : decode cX6_tallyOf 28 = .ok (.invokevirtual 206, 3) := by decide +kernel
theorem dX6_tallyOf_31 : decode cX6_tallyOf 31 = .ok (.istore 5, 2) := by decide +kernel
theorem dX6_tallyOf_33 : decode cX6_tallyOf 33 = .ok (.iload_n 3, 1) := by decide +kernel
theorem dX6_tallyOf_34 : decode cX6_tallyOf 34 = .ok (.iload 5, 2) := by decide +kernel
theorem dX6_tallyOf_36 : decode cX6_tallyOf 36 = .ok (.ifCond .lt 18, 3) := by decide +kernel
theorem dX6_tallyOf_39 : decode cX6_tallyOf 39 = .ok (.aload_n 0, 1) := by decide +kernel
theorem dX6_tallyOf_40 : decode cX6_tallyOf 40 = .ok (.getfield 7, 3) := by decide +kernel
theorem dX6_tallyOf_43 : decode cX6_tallyOf 43 = .ok (.iload 5, 2) := by decide +kernel
theorem dX6_tallyOf_45 : decode cX6_tallyOf 45 = .ok (.iaload, 1) := by decide +kernel
theorem dX6_tallyOf_46 : decode cX6_tallyOf 46 = .ok (.iload_n 1, 1) := by decide +kernel
theorem dX6_tallyOf_47 : decode cX6_tallyOf 47 = .ok (.if_icmp .ne 7, 3) := by decide +kernel
theorem dX6_tallyOf_50 : decode cX6_tallyOf 50 = .ok (.iconst 1, 1) := by decide +kernel
theorem dX6_tallyOf_51 : decode cX6_tallyOf 51 = .ok (.goto 4, 3) := by decide +kernel
theorem dX6_tallyOf_54 : decode cX6_tallyOf 54 = .ok (.iconst 0, 1) := by decide +kernel
theorem dX6_tallyOf_55 : decode cX6_tallyOf 55 = .ok (.iadd, 1) := by decide +kernel
theorem dX6_tallyOf_56 : decode cX6_tallyOf 56 = .ok (.istore_n 3, 1) := by decide +kernel
theorem dX6_tallyOf_57 : decode cX6_tallyOf 57 = .ok (.iinc 4 1, 3) := by decide +kernel
theorem dX6_tallyOf_60 : decode cX6_tallyOf 60 = .ok (.goto (-55), 3) := by decide +kernel
theorem dX6_tallyOf_63 : decode cX6_tallyOf 63 = .ok (.iload_n 3, 1) := by decide +kernel
theorem dX6_tallyOf_64 : decode cX6_tallyOf 64 = .ok (.ireturn, 1) := by decide +kernel
theorem dX6_tally_0 : decode cX6_tally 0 = .ok (.iload_n 1, 1) := by decide +kernel
theorem dX6_tally_1 : decode cX6_tally 1 = .ok (.invokestatic 195, 3) := by decide +kernel
theorem dX6_tally_4 : decode cX6_tally 4 = .ok (.ifCond .eq 5, 3) := by decide +kernel
theorem dX6_tally_7 : decode cX6_tally 7 = .ok (.iconst (-1), 1) := by decide +kernel
theorem dX6_tally_8 : decode cX6_tally 8 = .ok (.ireturn, 1) := by decide +kernel
theorem dX6_tally_9 : decode cX6_tally 9 = .ok (.aload_n 0, 1) := by decide +kernel
theorem dX6_tally_10 : decode cX6_tally 10 = .ok (.getfield 69, 3) := by decide +kernel
theorem dX6_tally_13 : decode cX6_tally 13 = .ok (.ifCond .ne 8, 3) := by decide +kernel
theorem dX6_tally_16 : decode cX6_tally 16 = .ok (.bipush (-3), 2) := by decide +kernel
theorem dX6_tally_18 : decode cX6_tally 18 = .ok (.goto 10, 3) := by decide +kernel
theorem dX6_tally_21 : decode cX6_tally 21 = .ok (.aload_n 0, 1) := by decide +kernel
theorem dX6_tally_22 : decode cX6_tally 22 = .ok (.iload_n 1, 1) := by decide +kernel
theorem dX6_tally_23 : decode cX6_tally 23 = .ok (.bipush (-9), 2) := by decide +kernel
theorem dX6_tally_25 : decode cX6_tally 25 = .ok (.invokevirtual 209, 3) := by decide +kernel
theorem dX6_tally_28 : decode cX6_tally 28 = .ok (.ireturn, 1) := by decide +kernel
theorem dX6_winnerBut_0 : decode cX6_winnerBut 0 = .ok (.iconst 0, 1) := by decide +kernel
theorem dX6_winnerBut_1 : decode cX6_winnerBut 1 = .ok (.istore_n 2, 1) := by decide +kernel
theorem dX6_winnerBut_2 : decode cX6_winnerBut 2 = .ok (.iconst (-1), 1) := by decide +kernel
theorem dX6_winnerBut_3 : decode cX6_winnerBut 3 = .ok (.istore_n 3, 1) := by decide +kernel
theorem dX6_winnerBut_4 : decode cX6_winnerBut 4 = .ok (.iconst 0, 1) := by decide +kernel
theorem dX6_winnerBut_5 : decode cX6_winnerBut 5 = .ok (.istore 4, 2) := by decide +kernel
theorem dX6_winnerBut_7 : decode cX6_winnerBut 7 = .ok (.iload 4, 2) := by decide +kernel
theorem dX6_winnerBut_9 : decode cX6_winnerBut 9 = .ok (.iconst 4, 1) := by decide +kernel
theorem dX6_winnerBut_10 : decode cX6_winnerBut 10 = .ok (.if_icmp .ge 44, 3) := by decide +kernel
theorem dX6_winnerBut_13 : decode cX6_winnerBut 13 = .ok (.aload_n 0, 1) := by decide +kernel
theorem dX6_winnerBut_14 : decode cX6_winnerBut 14 = .ok (.iload 4, 2) := by decide +kernel
theorem dX6_winnerBut_16 : decode cX6_winnerBut 16 = .ok (.iload_n 1, 1) := by decide +kernel
theorem dX6_winnerBut_17 : decode cX6_winnerBut 17 = .ok (.invokevirtual 209, 3) := by decide +kernel
theorem dX6_winnerBut_20 : decode cX6_winnerBut 20 = .ok (.istore 5, 2) := by decide +kernel
theorem dX6_winnerBut_22 : decode cX6_winnerBut 22 = .ok (.iload 5, 2) := by decide +kernel
theorem dX6_winnerBut_24 : decode cX6_winnerBut 24 = .ok (.iload_n 3, 1) := by decide +kernel
theorem dX6_winnerBut_25 : decode cX6_winnerBut 25 = .ok (.if_icmp .le 8, 3) := by decide +kernel
theorem dX6_winnerBut_28 : decode cX6_winnerBut 28 = .ok (.iload 4, 2) := by decide +kernel
theorem dX6_winnerBut_30 : decode cX6_winnerBut 30 = .ok (.goto 4, 3) := by decide +kernel
theorem dX6_winnerBut_33 : decode cX6_winnerBut 33 = .ok (.iload_n 2, 1) := by decide +kernel
theorem dX6_winnerBut_34 : decode cX6_winnerBut 34 = .ok (.istore_n 2, 1) := by decide +kernel
theorem dX6_winnerBut_35 : decode cX6_winnerBut 35 = .ok (.iload 5, 2) := by decide +kernel
theorem dX6_winnerBut_37 : decode cX6_winnerBut 37 = .ok (.iload_n 3, 1) := by decide +kernel
theorem dX6_winnerBut_38 : decode cX6_winnerBut 38 = .ok (.if_icmp .le 8, 3) := by decide +kernel
theorem dX6_winnerBut_41 : decode cX6_winnerBut 41 = .ok (.iload 5, 2) := by decide +kernel
theorem dX6_winnerBut_43 : decode cX6_winnerBut 43 = .ok (.goto 4, 3) := by decide +kernel
theorem dX6_winnerBut_46 : decode cX6_winnerBut 46 = .ok (.iload_n 3, 1) := by decide +kernel
theorem dX6_winnerBut_47 : decode cX6_winnerBut 47 = .ok (.istore_n 3, 1) := by decide +kernel
theorem dX6_winnerBut_48 : decode cX6_winnerBut 48 = .ok (.iinc 4 1, 3) := by decide +kernel
theorem dX6_winnerBut_51 : decode cX6_winnerBut 51 = .ok (.goto (-44), 3) := by decide +kernel
theorem dX6_winnerBut_54 : decode cX6_winnerBut 54 = .ok (.iload_n 2, 1) := by decide +kernel
theorem dX6_winnerBut_55 : decode cX6_winnerBut 55 = .ok (.ireturn, 1) := by decide +kernel
theorem dX6_winner_0 : decode cX6_winner 0 = .ok (.iload_n 1, 1) := by decide +kernel
theorem dX6_winner_1 : decode cX6_winner 1 = .ok (.i2l, 1) := by decide +kernel
theorem dX6_winner_2 : decode cX6_winner 2 = .ok (.lconst 0, 1) := by decide +kernel
theorem dX6_winner_3 : decode cX6_winner 3 = .ok (.lconst 1, 1) := by decide +kernel
theorem dX6_winner_4 : decode cX6_winner 4 = .ok (.invokestatic 79, 3) := by decide +kernel
theorem dX6_winner_7 : decode cX6_winner 7 = .ok (.ifCond .ne 6, 3) := by decide +kernel
theorem dX6_winner_10 : decode cX6_winner 10 = .ok (.bipush (-2), 2) := by decide +kernel
theorem dX6_winner_12 : decode cX6_winner 12 = .ok (.ireturn, 1) := by decide +kernel
theorem dX6_winner_13 : decode cX6_winner 13 = .ok (.aload_n 0, 1) := by decide +kernel
theorem dX6_winner_14 : decode cX6_winner 14 = .ok (.getfield 69, 3) := by decide +kernel
theorem dX6_winner_17 : decode cX6_winner 17 = .ok (.ifCond .ne 6, 3) := by decide +kernel
theorem dX6_winner_20 : decode cX6_winner 20 = .ok (.bipush (-3), 2) := by decide +kernel
theorem dX6_winner_22 : decode cX6_winner 22 = .ok (.ireturn, 1) := by decide +kernel
theorem dX6_winner_23 : decode cX6_winner 23 = .ok (.aload_n 0, 1) := by decide +kernel
theorem dX6_winner_24 : decode cX6_winner 24 = .ok (.bipush (-9), 2) := by decide +kernel
theorem dX6_winner_26 : decode cX6_winner 26 = .ok (.invokevirtual 212, 3) := by decide +kernel
theorem dX6_winner_29 : decode cX6_winner 29 = .ok (.istore_n 2, 1) := by decide +kernel
theorem dX6_winner_30 : decode cX6_winner 30 = .ok (.iload_n 1, 1) := by decide +kernel
theorem dX6_winner_31 : decode cX6_winner 31 = .ok (.ifCond .ne 5, 3) := by decide +kernel
theorem dX6_winner_34 : decode cX6_winner 34 = .ok (.iload_n 2, 1) := by decide +kernel
theorem dX6_winner_35 : decode cX6_winner 35 = .ok (.ireturn, 1) := by decide +kernel
theorem dX6_winner_36 : decode cX6_winner 36 = .ok (.iconst 0, 1) := by decide +kernel
theorem dX6_winner_37 : decode cX6_winner 37 = .ok (.istore_n 3, 1) := by decide +kernel
theorem dX6_winner_38 : decode cX6_winner 38 = .ok (.iconst 0, 1) := by decide +kernel
theorem dX6_winner_39 : decode cX6_winner 39 = .ok (.istore 4, 2) := by decide +kernel
theorem dX6_winner_41 : decode cX6_winner 41 = .ok (.iload 4, 2) := by decide +kernel
theorem dX6_winner_43 : decode cX6_winner 43 = .ok (.aload_n 0, 1) := by decide +kernel
theorem dX6_winner_44 : decode cX6_winner 44 = .ok (.getfield 138, 3) := by decide +kernel
theorem dX6_winner_47 : decode cX6_winner 47 = .ok (.if_icmp .ge 30, 3) := by decide +kernel
theorem dX6_winner_50 : decode cX6_winner 50 = .ok (.iload_n 3, 1) := by decide +kernel
theorem dX6_winner_51 : decode cX6_winner 51 = .ok (.aload_n 0, 1) := by decide +kernel
theorem dX6_winner_52 : decode cX6_winner 52 = .ok (.iload 4, 2) := by decide +kernel
theorem dX6_winner_54 : decode cX6_winner 54 = .ok (.invokevirtual 212, 3) := by decide +kernel
theorem dX6_winner_57 : decode cX6_winner 57 = .ok (.iload_n 2, 1) := by decide +kernel
theorem dX6_winner_58 : decode cX6_winner 58 = .ok (.if_icmp .ne 7, 3) := by decide +kernel
theorem dX6_winner_61 : decode cX6_winner 61 = .ok (.iconst 0, 1) := by decide +kernel
theorem dX6_winner_62 : decode cX6_winner 62 = .ok (.goto 7, 3) := by decide +kernel
theorem dX6_winner_65 : decode cX6_winner 65 = .ok (.iconst 1, 1) := by decide +kernel
theorem dX6_winner_66 : decode cX6_winner 66 = .ok (.iload 4, 2) := by decide +kernel
theorem dX6_winner_68 : decode cX6_winner 68 = .ok (.ishl, 1) := by decide +kernel
theorem dX6_winner_69 : decode cX6_winner 69 = .ok (.ior, 1) := by decide +kernel
theorem dX6_winner_70 : decode cX6_winner 70 = .ok (.istore_n 3, 1) := by decide +kernel
theorem dX6_winner_71 : decode cX6_winner 71 = .ok (.iinc 4 1, 3) := by decide +kernel
theorem dX6_winner_74 : decode cX6_winner 74 = .ok (.goto (-33), 3) := by decide +kernel
theorem dX6_winner_77 : decode cX6_winner 77 = .ok (.iload_n 3, 1) := by decide +kernel
theorem dX6_winner_78 : decode cX6_winner 78 = .ok (.ireturn, 1) := by decide +kernel
theorem dX6_holdsNow_0 : decode cX6_holdsNow 0 = .ok (.lconst 0, 1) := by decide +kernel
theorem dX6_holdsNow_1 : decode cX6_holdsNow 1 = .ok (.lstore_n 1, 1) := by decide +kernel
theorem dX6_holdsNow_2 : decode cX6_holdsNow 2 = .ok (.lconst 0, 1) := by decide +kernel
theorem dX6_holdsNow_3 : decode cX6_holdsNow 3 = .ok (.lstore_n 3, 1) := by decide +kernel
theorem dX6_holdsNow_4 : decode cX6_holdsNow 4 = .ok (.iconst 0, 1) := by decide +kernel
theorem dX6_holdsNow_5 : decode cX6_holdsNow 5 = .ok (.istore 5, 2) := by decide +kernel
theorem dX6_holdsNow_7 : decode cX6_holdsNow 7 = .ok (.iload 5, 2) := by decide +kernel
theorem dX6_holdsNow_9 : decode cX6_holdsNow 9 = .ok (.aload_n 0, 1) := by decide +kernel
theorem dX6_holdsNow_10 : decode cX6_holdsNow 10 = .ok (.invokevirtual 75, 3) := by decide +kernel
theorem dX6_holdsNow_13 : decode cX6_holdsNow 13 = .ok (.if_icmp .ge 31, 3) := by decide +kernel
theorem dX6_holdsNow_16 : decode cX6_holdsNow 16 = .ok (.lload_n 1, 1) := by decide +kernel
theorem dX6_holdsNow_17 : decode cX6_holdsNow 17 = .ok (.aload_n 0, 1) := by decide +kernel
theorem dX6_holdsNow_18 : decode cX6_holdsNow 18 = .ok (.getfield 13, 3) := by decide +kernel
theorem dX6_holdsNow_21 : decode cX6_holdsNow 21 = .ok (.iload 5, 2) := by decide +kernel
theorem dX6_holdsNow_23 : decode cX6_holdsNow 23 = .ok (.iaload, 1) := by decide +kernel
theorem dX6_holdsNow_24 : decode cX6_holdsNow 24 = .ok (.iconst 4, 1) := by decide +kernel
theorem dX6_holdsNow_25 : decode cX6_holdsNow 25 = .ok (.if_icmp .ne 10, 3) := by decide +kernel
theorem dX6_holdsNow_28 : decode cX6_holdsNow 28 = .ok (.lconst 1, 1) := by decide +kernel
theorem dX6_holdsNow_29 : decode cX6_holdsNow 29 = .ok (.iload 5, 2) := by decide +kernel
theorem dX6_holdsNow_31 : decode cX6_holdsNow 31 = .ok (.lshl, 1) := by decide +kernel
theorem dX6_holdsNow_32 : decode cX6_holdsNow 32 = .ok (.goto 4, 3) := by decide +kernel
theorem dX6_holdsNow_35 : decode cX6_holdsNow 35 = .ok (.lconst 0, 1) := by decide +kernel
theorem dX6_holdsNow_36 : decode cX6_holdsNow 36 = .ok (.lor, 1) := by decide +kernel
theorem dX6_holdsNow_37 : decode cX6_holdsNow 37 = .ok (.lstore_n 1, 1) := by decide +kernel
theorem dX6_holdsNow_38 : decode cX6_holdsNow 38 = .ok (.iinc 5 1, 3) := by decide +kernel
theorem dX6_holdsNow_41 : decode cX6_holdsNow 41 = .ok (.goto (-34), 3) := by decide +kernel
theorem dX6_holdsNow_44 : decode cX6_holdsNow 44 = .ok (.iconst 0, 1) := by decide +kernel
theorem dX6_holdsNow_45 : decode cX6_holdsNow 45 = .ok (.istore 5, 2) := by decide +kernel
theorem dX6_holdsNow_47 : decode cX6_holdsNow 47 = .ok (.iload 5, 2) := by decide +kernel
theorem dX6_holdsNow_49 : decode cX6_holdsNow 49 = .ok (.aload_n 0, 1) := by decide +kernel
theorem dX6_holdsNow_50 : decode cX6_holdsNow 50 = .ok (.getfield 138, 3) := by decide +kernel
theorem dX6_holdsNow_53 : decode cX6_holdsNow 53 = .ok (.if_icmp .ge 24, 3) := by decide +kernel
theorem dX6_holdsNow_56 : decode cX6_holdsNow 56 = .ok (.aload_n 0, 1) := by decide +kernel
theorem dX6_holdsNow_57 : decode cX6_holdsNow 57 = .ok (.iload 5, 2) := by decide +kernel
theorem dX6_holdsNow_59 : decode cX6_holdsNow 59 = .ok (.invokevirtual 183, 3) := by decide +kernel
theorem dX6_holdsNow_62 : decode cX6_holdsNow 62 = .ok (.lload_n 3, 1) := by decide +kernel
theorem dX6_holdsNow_63 : decode cX6_holdsNow 63 = .ok (.aload_n 0, 1) := by decide +kernel
theorem dX6_holdsNow_64 : decode cX6_holdsNow 64 = .ok (.getfield 174, 3) := by decide +kernel
theorem dX6_holdsNow_67 : decode cX6_holdsNow 67 = .ok (.lload_n 1, 1) := by decide +kernel
theorem dX6_holdsNow_68 : decode cX6_holdsNow 68 = .ok (.land, 1) := by decide +kernel
theorem dX6_holdsNow_69 : decode cX6_holdsNow 69 = .ok (.lor, 1) := by decide +kernel
theorem dX6_holdsNow_70 : decode cX6_holdsNow 70 = .ok (.lstore_n 3, 1) := by decide +kernel
theorem dX6_holdsNow_71 : decode cX6_holdsNow 71 = .ok (.iinc 5 1, 3) := by decide +kernel
theorem dX6_holdsNow_74 : decode cX6_holdsNow 74 = .ok (.goto (-27), 3) := by decide +kernel
theorem dX6_holdsNow_77 : decode cX6_holdsNow 77 = .ok (.lload_n 3, 1) := by decide +kernel
theorem dX6_holdsNow_78 : decode cX6_holdsNow 78 = .ok (.lreturn, 1) := by decide +kernel
theorem dX6_setAll_0 : decode cX6_setAll 0 = .ok (.iconst 0, 1) := by decide +kernel
theorem dX6_setAll_1 : decode cX6_setAll 1 = .ok (.istore 4, 2) := by decide +kernel
theorem dX6_setAll_3 : decode cX6_setAll 3 = .ok (.iload 4, 2) := by decide +kernel
theorem dX6_setAll_5 : decode cX6_setAll 5 = .ok (.bipush 30, 2) := by decide +kernel
theorem dX6_setAll_7 : decode cX6_setAll 7 = .ok (.if_icmp .ge 38, 3) := by decide +kernel
theorem dX6_setAll_10 : decode cX6_setAll 10 = .ok (.aload_n 0, 1) := by decide +kernel
theorem dX6_setAll_11 : decode cX6_setAll 11 = .ok (.getfield 13, 3) := by decide +kernel
theorem dX6_setAll_14 : decode cX6_setAll 14 = .ok (.iload 4, 2) := by decide +kernel
theorem dX6_setAll_16 : decode cX6_setAll 16 = .ok (.lload_n 1, 1) := by decide +kernel
theorem dX6_setAll_17 : decode cX6_setAll 17 = .ok (.iload 4, 2) := by decide +kernel
theorem dX6_setAll_19 : decode cX6_setAll 19 = .ok (.lshr, 1) := by decide +kernel
theorem dX6_setAll_20 : decode cX6_setAll 20 = .ok (.lconst 1, 1) := by decide +kernel
theorem dX6_setAll_21 : decode cX6_setAll 21 = .ok (.land, 1) := by decide +kernel
theorem dX6_setAll_22 : decode cX6_setAll 22 = .ok (.lconst 1, 1) := by decide +kernel
theorem dX6_setAll_23 : decode cX6_setAll 23 = .ok (.lcmp, 1) := by decide +kernel
theorem dX6_setAll_24 : decode cX6_setAll 24 = .ok (.ifCond .ne 7, 3) := by decide +kernel
theorem dX6_setAll_27 : decode cX6_setAll 27 = .ok (.iload_n 3, 1) := by decide +kernel
theorem dX6_setAll_28 : decode cX6_setAll 28 = .ok (.goto 10, 3) := by decide +kernel
theorem dX6_setAll_31 : decode cX6_setAll 31 = .ok (.aload_n 0, 1) := by decide +kernel
theorem dX6_setAll_32 : decode cX6_setAll 32 = .ok (.getfield 13, 3) := by decide +kernel
theorem dX6_setAll_35 : decode cX6_setAll 35 = .ok (.iload 4, 2) := by decide +kernel
theorem dX6_setAll_37 : decode cX6_setAll 37 = .ok (.iaload, 1) := by decide +kernel
theorem dX6_setAll_38 : decode cX6_setAll 38 = .ok (.iastore, 1) := by decide +kernel
theorem dX6_setAll_39 : decode cX6_setAll 39 = .ok (.iinc 4 1, 3) := by decide +kernel
theorem dX6_setAll_42 : decode cX6_setAll 42 = .ok (.goto (-39), 3) := by decide +kernel
theorem dX6_setAll_45 : decode cX6_setAll 45 = .ok (.return_, 1) := by decide +kernel
theorem dX6_dams_0 : decode cX6_dams 0 = .ok (.iload_n 1, 1) := by decide +kernel
theorem dX6_dams_1 : decode cX6_dams 1 = .ok (.i2l, 1) := by decide +kernel
theorem dX6_dams_2 : decode cX6_dams 2 = .ok (.lconst 0, 1) := by decide +kernel
theorem dX6_dams_3 : decode cX6_dams 3 = .ok (.lconst 1, 1) := by decide +kernel
theorem dX6_dams_4 : decode cX6_dams 4 = .ok (.invokestatic 79, 3) := by decide +kernel
theorem dX6_dams_7 : decode cX6_dams 7 = .ok (.ifCond .eq 10, 3) := by decide +kernel
theorem dX6_dams_10 : decode cX6_dams 10 = .ok (.aload_n 0, 1) := by decide +kernel
theorem dX6_dams_11 : decode cX6_dams 11 = .ok (.getfield 69, 3) := by decide +kernel
theorem dX6_dams_14 : decode cX6_dams 14 = .ok (.ifCond .ne 7, 3) := by decide +kernel
theorem dX6_dams_17 : decode cX6_dams 17 = .ok (.invokestatic 65, 3) := by decide +kernel
theorem dX6_dams_20 : decode cX6_dams 20 = .ok (.lreturn, 1) := by decide +kernel
theorem dX6_dams_21 : decode cX6_dams 21 = .ok (.aload_n 0, 1) := by decide +kernel
theorem dX6_dams_22 : decode cX6_dams 22 = .ok (.invokevirtual 215, 3) := by decide +kernel
theorem dX6_dams_25 : decode cX6_dams 25 = .ok (.lstore_n 2, 1) := by decide +kernel
theorem dX6_dams_26 : decode cX6_dams 26 = .ok (.iload_n 1, 1) := by decide +kernel
theorem dX6_dams_27 : decode cX6_dams 27 = .ok (.ifCond .ne 5, 3) := by decide +kernel
theorem dX6_dams_30 : decode cX6_dams 30 = .ok (.lload_n 2, 1) := by decide +kernel
theorem dX6_dams_31 : decode cX6_dams 31 = .ok (.lreturn, 1) := by decide +kernel
theorem dX6_dams_32 : decode cX6_dams 32 = .ok (.lconst 0, 1) := by decide +kernel
theorem dX6_dams_33 : decode cX6_dams 33 = .ok (.lstore 4, 2) := by decide +kernel
theorem dX6_dams_35 : decode cX6_dams 35 = .ok (.lload_n 2, 1) := by decide +kernel
theorem dX6_dams_36 : decode cX6_dams 36 = .ok (.lstore 6, 2) := by decide +kernel
theorem dX6_dams_38 : decode cX6_dams 38 = .ok (.lload 6, 2) := by decide +kernel
theorem dX6_dams_40 : decode cX6_dams 40 = .ok (.lconst 0, 1) := by decide +kernel
theorem dX6_dams_41 : decode cX6_dams 41 = .ok (.lcmp, 1) := by decide +kernel
theorem dX6_dams_42 : decode cX6_dams 42 = .ok (.ifCond .eq 26, 3) := by decide +kernel
theorem dX6_dams_45 : decode cX6_dams 45 = .ok (.lload 4, 2) := by decide +kernel
theorem dX6_dams_47 : decode cX6_dams 47 = .ok (.lload 6, 2) := by decide +kernel
theorem dX6_dams_49 : decode cX6_dams 49 = .ok (.lor, 1) := by decide +kernel
theorem dX6_dams_50 : decode cX6_dams 50 = .ok (.lstore 4, 2) := by decide +kernel
theorem dX6_dams_52 : decode cX6_dams 52 = .ok (.aload_n 0, 1) := by decide +kernel
theorem dX6_dams_53 : decode cX6_dams 53 = .ok (.lload 4, 2) := by decide +kernel
theorem dX6_dams_55 : decode cX6_dams 55 = .ok (.iconst 0, 1) := by decide +kernel
theorem dX6_dams_56 : decode cX6_dams 56 = .ok (.invokevirtual 218, 3) := by decide +kernel
theorem dX6_dams_59 : decode cX6_dams 59 = .ok (.aload_n 0, 1) := by decide +kernel
theorem dX6_dams_60 : decode cX6_dams 60 = .ok (.invokevirtual 215, 3) := by decide +kernel
theorem dX6_dams_63 : decode cX6_dams 63 = .ok (.lstore 6, 2) := by decide +kernel
theorem dX6_dams_65 : decode cX6_dams 65 = .ok (.goto (-27), 3) := by decide +kernel
theorem dX6_dams_68 : decode cX6_dams 68 = .ok (.aload_n 0, 1) := by decide +kernel
theorem dX6_dams_69 : decode cX6_dams 69 = .ok (.lload 4, 2) := by decide +kernel
theorem dX6_dams_71 : decode cX6_dams 71 = .ok (.iconst 4, 1) := by decide +kernel
theorem dX6_dams_72 : decode cX6_dams 72 = .ok (.invokevirtual 218, 3) := by decide +kernel
theorem dX6_dams_75 : decode cX6_dams 75 = .ok (.lload 4, 2) := by decide +kernel
theorem dX6_dams_77 : decode cX6_dams 77 = .ok (.lreturn, 1) := by decide +kernel
theorem dX6_waysBy_0 : decode cX6_waysBy 0 = .ok (.iconst 1, 1) := by decide +kernel
theorem dX6_waysBy_1 : decode cX6_waysBy 1 = .ok (.aload_n 0, 1) := by decide +kernel
theorem dX6_waysBy_2 : decode cX6_waysBy 2 = .ok (.getfield 138, 3) := by decide +kernel
theorem dX6_waysBy_5 : decode cX6_waysBy 5 = .ok (.ishl, 1) := by decide +kernel
theorem dX6_waysBy_6 : decode cX6_waysBy 6 = .ok (.iconst 1, 1) := by decide +kernel
theorem dX6_waysBy_7 : decode cX6_waysBy 7 = .ok (.isub, 1) := by decide +kernel
theorem dX6_waysBy_8 : decode cX6_waysBy 8 = .ok (.istore_n 2, 1) := by decide +kernel
theorem dX6_waysBy_9 : decode cX6_waysBy 9 = .ok (.iconst 0, 1) := by decide +kernel
theorem dX6_waysBy_10 : decode cX6_waysBy 10 = .ok (.istore_n 3, 1) := by decide +kernel
theorem dX6_waysBy_11 : decode cX6_waysBy 11 = .ok (.iload_n 3, 1) := by decide +kernel
theorem dX6_waysBy_12 : decode cX6_waysBy 12 = .ok (.iload_n 2, 1) := by decide +kernel
theorem dX6_waysBy_13 : decode cX6_waysBy 13 = .ok (.if_icmp .gt 24, 3) := by decide +kernel
theorem dX6_waysBy_16 : decode cX6_waysBy 16 = .ok (.aload_n 0, 1) := by decide +kernel
theorem dX6_waysBy_17 : decode cX6_waysBy 17 = .ok (.getfield 41, 3) := by decide +kernel
theorem dX6_waysBy_20 : decode cX6_waysBy 20 = .ok (.iload_n 3, 1) := by decide +kernel
theorem dX6_waysBy_21 : decode cX6_waysBy 21 = .ok (.iload_n 3, 1) := by decide +kernel
theorem dX6_waysBy_22 : decode cX6_waysBy 22 = .ok (.ifCond .ne 7, 3) := by decide +kernel
theorem dX6_waysBy_25 : decode cX6_waysBy 25 = .ok (.iconst 1, 1) := by decide +kernel
theorem dX6_waysBy_26 : decode cX6_waysBy 26 = .ok (.goto 4, 3) := by decide +kernel
theorem dX6_waysBy_29 : decode cX6_waysBy 29 = .ok (.iconst 0, 1) := by decide +kernel
theorem dX6_waysBy_30 : decode cX6_waysBy 30 = .ok (.iastore, 1) := by decide +kernel
theorem dX6_waysBy_31 : decode cX6_waysBy 31 = .ok (.iinc 3 1, 3) := by decide +kernel
theorem dX6_waysBy_34 : decode cX6_waysBy 34 = .ok (.goto (-23), 3) := by decide +kernel
theorem dX6_waysBy_37 : decode cX6_waysBy 37 = .ok (.iconst 0, 1) := by decide +kernel
theorem dX6_waysBy_38 : decode cX6_waysBy 38 = .ok (.istore_n 3, 1) := by decide +kernel
theorem dX6_waysBy_39 : decode cX6_waysBy 39 = .ok (.iload_n 3, 1) := by decide +kernel
theorem dX6_waysBy_40 : decode cX6_waysBy 40 = .ok (.aload_n 0, 1) := by decide +kernel
theorem dX6_waysBy_41 : decode cX6_waysBy 41 = .ok (.getfield 72, 3) := by decide +kernel
theorem dX6_waysBy_44 : decode cX6_waysBy 44 = .ok (.if_icmp .gt 175, 3) := by decide +kernel
theorem dX6_waysBy_47 : decode cX6_waysBy 47 = .ok (.aload_n 0, 1) := by decide +kernel
theorem dX6_waysBy_48 : decode cX6_waysBy 48 = .ok (.getfield 38, 3) := by decide +kernel
theorem dX6_waysBy_51 : decode cX6_waysBy 51 = .ok (.iload_n 3, 1) := by decide +kernel
theorem dX6_waysBy_52 : decode cX6_waysBy 52 = .ok (.aload_n 0, 1) := by decide +kernel
theorem dX6_waysBy_53 : decode cX6_waysBy 53 = .ok (.getfield 72, 3) := by decide +kernel
theorem dX6_waysBy_56 : decode cX6_waysBy 56 = .ok (.if_icmp .ne 8, 3) := by decide +kernel
theorem dX6_waysBy_59 : decode cX6_waysBy 59 = .ok (.bipush 6, 2) := by decide +kernel
theorem dX6_waysBy_61 : decode cX6_waysBy 61 = .ok (.goto 4, 3) := by decide +kernel
theorem dX6_waysBy_64 : decode cX6_waysBy 64 = .ok (.iload_n 3, 1) := by decide +kernel
theorem dX6_waysBy_65 : decode cX6_waysBy 65 = .ok (.iaload, 1) := by decide +kernel
theorem dX6_waysBy_66 : decode cX6_waysBy 66 = .ok (.istore 4, 2) := by decide +kernel
theorem dX6_waysBy_68 : decode cX6_waysBy 68 = .ok (.aload_n 0, 1) := by decide +kernel
theorem dX6_waysBy_69 : decode cX6_waysBy 69 = .ok (.getfield 53, 3) := by decide +kernel
theorem dX6_waysBy_72 : decode cX6_waysBy 72 = .ok (.iload_n 1, 1) := by decide +kernel
theorem dX6_waysBy_73 : decode cX6_waysBy 73 = .ok (.iload_n 3, 1) := by decide +kernel
theorem dX6_waysBy_74 : decode cX6_waysBy 74 = .ok (.iadd, 1) := by decide +kernel
theorem dX6_waysBy_75 : decode cX6_waysBy 75 = .ok (.iaload, 1) := by decide +kernel
theorem dX6_waysBy_76 : decode cX6_waysBy 76 = .ok (.istore 5, 2) := by decide +kernel
theorem dX6_waysBy_78 : decode cX6_waysBy 78 = .ok (.iconst 0, 1) := by decide +kernel
theorem dX6_waysBy_79 : decode cX6_waysBy 79 = .ok (.istore 6, 2) := by decide +kernel
theorem dX6_waysBy_81 : decode cX6_waysBy 81 = .ok (.iload 6, 2) := by decide +kernel
theorem dX6_waysBy_83 : decode cX6_waysBy 83 = .ok (.iload_n 2, 1) := by decide +kernel
theorem dX6_waysBy_84 : decode cX6_waysBy 84 = .ok (.if_icmp .gt 100, 3) := by decide +kernel
theorem dX6_waysBy_87 : decode cX6_waysBy 87 = .ok (.iconst 0, 1) := by decide +kernel
theorem dX6_waysBy_88 : decode cX6_waysBy 88 = .ok (.istore 7, 2) := by decide +kernel
theorem dX6_waysBy_90 : decode cX6_waysBy 90 = .ok (.iconst 0, 1) := by decide +kernel
theorem dX6_waysBy_91 : decode cX6_waysBy 91 = .ok (.istore 8, 2) := by decide +kernel
theorem dX6_waysBy_93 : decode cX6_waysBy 93 = .ok (.iload 8, 2) := by decide +kernel
theorem dX6_waysBy_95 : decode cX6_waysBy 95 = .ok (.iload 6, 2) := by decide +kernel
theorem dX6_waysBy_97 : decode cX6_waysBy 97 = .ok (.if_icmp .gt 72, 3) := by decide +kernel
theorem dX6_waysBy_100 : decode cX6_waysBy 100 = .ok (.iload 8, 2) := by decide +kernel
theorem dX6_waysBy_102 : decode cX6_waysBy 102 = .ok (.iload 6, 2) := by decide +kernel
theorem dX6_waysBy_104 : decode cX6_waysBy 104 = .ok (.iconst (-1), 1) := by decide +kernel
theorem dX6_waysBy_105 : decode cX6_waysBy 105 = .ok (.ixor, 1) := by decide +kernel
theorem dX6_waysBy_106 : decode cX6_waysBy 106 = .ok (.iand, 1) := by decide +kernel
theorem dX6_waysBy_107 : decode cX6_waysBy 107 = .ok (.ifCond .ne 27, 3) := by decide +kernel
theorem dX6_waysBy_110 : decode cX6_waysBy 110 = .ok (.iload 8, 2) := by decide +kernel
theorem dX6_waysBy_112 : decode cX6_waysBy 112 = .ok (.iload 4, 2) := by decide +kernel
theorem dX6_waysBy_114 : decode cX6_waysBy 114 = .ok (.iconst (-1), 1) := by decide +kernel
theorem dX6_waysBy_115 : decode cX6_waysBy 115 = .ok (.ixor, 1) := by decide +kernel
theorem dX6_waysBy_116 : decode cX6_waysBy 116 = .ok (.iand, 1) := by decide +kernel
theorem dX6_waysBy_117 : decode cX6_waysBy 117 = .ok (.ifCond .ne 17, 3) := by decide +kernel
theorem dX6_waysBy_120 : decode cX6_waysBy 120 = .ok (.iload 8, 2) := by decide +kernel
theorem dX6_waysBy_122 : decode cX6_waysBy 122 = .ok (.invokestatic 222, 3) := by decide +kernel
theorem dX6_waysBy_125 : decode cX6_waysBy 125 = .ok (.iload 5, 2) := by decide +kernel
theorem dX6_waysBy_127 : decode cX6_waysBy 127 = .ok (.if_icmp .ne 7, 3) := by decide +kernel
theorem dX6_waysBy_130 : decode cX6_waysBy 130 = .ok (.iconst 1, 1) := by decide +kernel
theorem dX6_waysBy_131 : decode cX6_waysBy 131 = .ok (.goto 4, 3) := by decide +kernel
theorem dX6_waysBy_134 : decode cX6_waysBy 134 = .ok (.iconst 0, 1) := by decide +kernel
theorem dX6_waysBy_135 : decode cX6_waysBy 135 = .ok (.istore 9, 2) := by decide +kernel
theorem dX6_waysBy_137 : decode cX6_waysBy 137 = .ok (.iload 7, 2) := by decide +kernel
theorem dX6_waysBy_139 : decode cX6_waysBy 139 = .ok (.iload 9, 2) := by decide +kernel
theorem dX6_waysBy_141 : decode cX6_waysBy 141 = .ok (.ifCond .eq 18, 3) := by decide +kernel
theorem dX6_waysBy_144 : decode cX6_waysBy 144 = .ok (.aload_n 0, 1) := by decide +kernel
theorem dX6_waysBy_145 : decode cX6_waysBy 145 = .ok (.getfield 41, 3) := by decide +kernel
theorem dX6_waysBy_148 : decode cX6_waysBy 148 = .ok (.iload 6, 2) := by decide +kernel
theorem dX6_waysBy_150 : decode cX6_waysBy 150 = .ok (.iload 8, 2) := by decide +kernel
theorem dX6_waysBy_152 : decode cX6_waysBy 152 = .ok (.iconst (-1), 1) := by decide +kernel
theorem dX6_waysBy_153 : decode cX6_waysBy 153 = .ok (.ixor, 1) := by decide +kernel
theorem dX6_waysBy_154 : decode cX6_waysBy 154 = .ok (.iand, 1) := by decide +kernel
theorem dX6_waysBy_155 : decode cX6_waysBy 155 = .ok (.iaload, 1) := by decide +kernel
theorem dX6_waysBy_156 : decode cX6_waysBy 156 = .ok (.goto 4, 3) := by decide +kernel
theorem dX6_waysBy_159 : decode cX6_waysBy 159 = .ok (.iconst 0, 1) := by decide +kernel
theorem dX6_waysBy_160 : decode cX6_waysBy 160 = .ok (.iadd, 1) := by decide +kernel
theorem dX6_waysBy_161 : decode cX6_waysBy 161 = .ok (.istore 7, 2) := by decide +kernel
theorem dX6_waysBy_163 : decode cX6_waysBy 163 = .ok (.iinc 8 1, 3) := by decide +kernel
theorem dX6_waysBy_166 : decode cX6_waysBy 166 = .ok (.goto (-73), 3) := by decide +kernel
theorem dX6_waysBy_169 : decode cX6_waysBy 169 = .ok (.aload_n 0, 1) := by decide +kernel
theorem dX6_waysBy_170 : decode cX6_waysBy 170 = .ok (.getfield 44, 3) := by decide +kernel
theorem dX6_waysBy_173 : decode cX6_waysBy 173 = .ok (.iload 6, 2) := by decide +kernel
theorem dX6_waysBy_175 : decode cX6_waysBy 175 = .ok (.iload 7, 2) := by decide +kernel
theorem dX6_waysBy_177 : decode cX6_waysBy 177 = .ok (.iastore, 1) := by decide +kernel
theorem dX6_waysBy_178 : decode cX6_waysBy 178 = .ok (.iinc 6 1, 3) := by decide +kernel
theorem dX6_waysBy_181 : decode cX6_waysBy 181 = .ok (.goto (-100), 3) := by decide +kernel
theorem dX6_waysBy_184 : decode cX6_waysBy 184 = .ok (.iconst 0, 1) := by decide +kernel
theorem dX6_waysBy_185 : decode cX6_waysBy 185 = .ok (.istore 6, 2) := by decide +kernel
theorem dX6_waysBy_187 : decode cX6_waysBy 187 = .ok (.iload 6, 2) := by decide +kernel
theorem dX6_waysBy_189 : decode cX6_waysBy 189 = .ok (.iload_n 2, 1) := by decide +kernel
theorem dX6_waysBy_190 : decode cX6_waysBy 190 = .ok (.if_icmp .gt 23, 3) := by decide +kernel
theorem dX6_waysBy_193 : decode cX6_waysBy 193 = .ok (.aload_n 0, 1) := by decide +kernel
theorem dX6_waysBy_194 : decode cX6_waysBy 194 = .ok (.getfield 41, 3) := by decide +kernel
theorem dX6_waysBy_197 : decode cX6_waysBy 197 = .ok (.iload 6, 2) := by decide +kernel
theorem dX6_waysBy_199 : decode cX6_waysBy 199 = .ok (.aload_n 0, 1) := by decide +kernel
theorem dX6_waysBy_200 : decode cX6_waysBy 200 = .ok (.getfield 44, 3) := by decide +kernel
theorem dX6_waysBy_203 : decode cX6_waysBy 203 = .ok (.iload 6, 2) := by decide +kernel
theorem dX6_waysBy_205 : decode cX6_waysBy 205 = .ok (.iaload, 1) := by decide +kernel
theorem dX6_waysBy_206 : decode cX6_waysBy 206 = .ok (.iastore, 1) := by decide +kernel
theorem dX6_waysBy_207 : decode cX6_waysBy 207 = .ok (.iinc 6 1, 3) := by decide +kernel
theorem dX6_waysBy_210 : decode cX6_waysBy 210 = .ok (.goto (-23), 3) := by decide +kernel
theorem dX6_waysBy_213 : decode cX6_waysBy 213 = .ok (.iinc 3 1, 3) := by decide +kernel
theorem dX6_waysBy_216 : decode cX6_waysBy 216 = .ok (.goto (-177), 3) := by decide +kernel
theorem dX6_waysBy_219 : decode cX6_waysBy 219 = .ok (.aload_n 0, 1) := by decide +kernel
theorem dX6_waysBy_220 : decode cX6_waysBy 220 = .ok (.getfield 41, 3) := by decide +kernel
theorem dX6_waysBy_223 : decode cX6_waysBy 223 = .ok (.iload_n 2, 1) := by decide +kernel
theorem dX6_waysBy_224 : decode cX6_waysBy 224 = .ok (.iaload, 1) := by decide +kernel
theorem dX6_waysBy_225 : decode cX6_waysBy 225 = .ok (.ireturn, 1) := by decide +kernel
theorem dX6_layCan_0 : decode cX6_layCan 0 = .ok (.iconst 0, 1) := by decide +kernel
theorem dX6_layCan_1 : decode cX6_layCan 1 = .ok (.istore_n 1, 1) := by decide +kernel
theorem dX6_layCan_2 : decode cX6_layCan 2 = .ok (.iload_n 1, 1) := by decide +kernel
theorem dX6_layCan_3 : decode cX6_layCan 3 = .ok (.bipush 7, 2) := by decide +kernel
theorem dX6_layCan_5 : decode cX6_layCan 5 = .ok (.if_icmp .ge 16, 3) := by decide +kernel
theorem dX6_layCan_8 : decode cX6_layCan 8 = .ok (.aload_n 0, 1) := by decide +kernel
theorem dX6_layCan_9 : decode cX6_layCan 9 = .ok (.getfield 38, 3) := by decide +kernel
theorem dX6_layCan_12 : decode cX6_layCan 12 = .ok (.iload_n 1, 1) := by decide +kernel
theorem dX6_layCan_13 : decode cX6_layCan 13 = .ok (.iconst 0, 1) := by decide +kernel
theorem dX6_layCan_14 : decode cX6_layCan 14 = .ok (.iastore, 1) := by decide +kernel
theorem dX6_layCan_15 : decode cX6_layCan 15 = .ok (.iinc 1 1, 3) := by decide +kernel
theorem dX6_layCan_18 : decode cX6_layCan 18 = .ok (.goto (-16), 3) := by decide +kernel
theorem dX6_layCan_21 : decode cX6_layCan 21 = .ok (.iconst 0, 1) := by decide +kernel
theorem dX6_layCan_22 : decode cX6_layCan 22 = .ok (.istore_n 1, 1) := by decide +kernel
theorem dX6_layCan_23 : decode cX6_layCan 23 = .ok (.iload_n 1, 1) := by decide +kernel
theorem dX6_layCan_24 : decode cX6_layCan 24 = .ok (.aload_n 0, 1) := by decide +kernel
theorem dX6_layCan_25 : decode cX6_layCan 25 = .ok (.getfield 138, 3) := by decide +kernel
theorem dX6_layCan_28 : decode cX6_layCan 28 = .ok (.if_icmp .ge 79, 3) := by decide +kernel
theorem dX6_layCan_31 : decode cX6_layCan 31 = .ok (.aload_n 0, 1) := by decide +kernel
theorem dX6_layCan_32 : decode cX6_layCan 32 = .ok (.iload_n 1, 1) := by decide +kernel
theorem dX6_layCan_33 : decode cX6_layCan 33 = .ok (.invokevirtual 183, 3) := by decide +kernel
theorem dX6_layCan_36 : decode cX6_layCan 36 = .ok (.iconst 0, 1) := by decide +kernel
theorem dX6_layCan_37 : decode cX6_layCan 37 = .ok (.istore_n 2, 1) := by decide +kernel
theorem dX6_layCan_38 : decode cX6_layCan 38 = .ok (.iload_n 2, 1) := by decide +kernel
theorem dX6_layCan_39 : decode cX6_layCan 39 = .ok (.bipush 7, 2) := by decide +kernel
theorem dX6_layCan_41 : decode cX6_layCan 41 = .ok (.if_icmp .ge 60, 3) := by decide +kernel
theorem dX6_layCan_44 : decode cX6_layCan 44 = .ok (.iload_n 2, 1) := by decide +kernel
theorem dX6_layCan_45 : decode cX6_layCan 45 = .ok (.aload_n 0, 1) := by decide +kernel
theorem dX6_layCan_46 : decode cX6_layCan 46 = .ok (.getfield 72, 3) := by decide +kernel
theorem dX6_layCan_49 : decode cX6_layCan 49 = .ok (.if_icmp .lt 9, 3) := by decide +kernel
theorem dX6_layCan_52 : decode cX6_layCan 52 = .ok (.iload_n 2, 1) := by decide +kernel
theorem dX6_layCan_53 : decode cX6_layCan 53 = .ok (.bipush 6, 2) := by decide +kernel
theorem dX6_layCan_55 : decode cX6_layCan 55 = .ok (.if_icmp .ne 18, 3) := by decide +kernel
theorem dX6_layCan_58 : decode cX6_layCan 58 = .ok (.aload_n 0, 1) := by decide +kernel
theorem dX6_layCan_59 : decode cX6_layCan 59 = .ok (.getfield 35, 3) := by decide +kernel
theorem dX6_layCan_62 : decode cX6_layCan 62 = .ok (.iload_n 2, 1) := by decide +kernel
theorem dX6_layCan_63 : decode cX6_layCan 63 = .ok (.laload, 1) := by decide +kernel
theorem dX6_layCan_64 : decode cX6_layCan 64 = .ok (.lconst 0, 1) := by decide +kernel
theorem dX6_layCan_65 : decode cX6_layCan 65 = .ok (.lcmp, 1) := by decide +kernel
theorem dX6_layCan_66 : decode cX6_layCan 66 = .ok (.ifCond .le 7, 3) := by decide +kernel
theorem dX6_layCan_69 : decode cX6_layCan 69 = .ok (.iconst 1, 1) := by decide +kernel
theorem dX6_layCan_70 : decode cX6_layCan 70 = .ok (.goto 4, 3) := by decide +kernel
theorem dX6_layCan_73 : decode cX6_layCan 73 = .ok (.iconst 0, 1) := by decide +kernel
theorem dX6_layCan_74 : decode cX6_layCan 74 = .ok (.istore_n 3, 1) := by decide +kernel
theorem dX6_layCan_75 : decode cX6_layCan 75 = .ok (.aload_n 0, 1) := by decide +kernel
theorem dX6_layCan_76 : decode cX6_layCan 76 = .ok (.getfield 38, 3) := by decide +kernel
theorem dX6_layCan_79 : decode cX6_layCan 79 = .ok (.iload_n 2, 1) := by decide +kernel
theorem dX6_layCan_80 : decode cX6_layCan 80 = .ok (.dup2, 1) := by decide +kernel
theorem dX6_layCan_81 : decode cX6_layCan 81 = .ok (.iaload, 1) := by decide +kernel
theorem dX6_layCan_82 : decode cX6_layCan 82 = .ok (.iload_n 3, 1) := by decide +kernel
theorem dX6_layCan_83 : decode cX6_layCan 83 = .ok (.ifCond .eq 9, 3) := by decide +kernel
theorem dX6_layCan_86 : decode cX6_layCan 86 = .ok (.iconst 1, 1) := by decide +kernel
theorem dX6_layCan_87 : decode cX6_layCan 87 = .ok (.iload_n 1, 1) := by decide +kernel
theorem dX6_layCan_88 : decode cX6_layCan 88 = .ok (.ishl, 1) := by decide +kernel
theorem dX6_layCan_89 : decode cX6_layCan 89 = .ok (.goto 4, 3) := by decide +kernel
theorem dX6_layCan_92 : decode cX6_layCan 92 = .ok (.iconst 0, 1) := by decide +kernel
theorem dX6_layCan_93 : decode cX6_layCan 93 = .ok (.ior, 1) := by decide +kernel
theorem dX6_layCan_94 : decode cX6_layCan 94 = .ok (.iastore, 1) := by decide +kernel
theorem dX6_layCan_95 : decode cX6_layCan 95 = .ok (.iinc 2 1, 3) := by decide +kernel
theorem dX6_layCan_98 : decode cX6_layCan 98 = .ok (.goto (-60), 3) := by decide +kernel
theorem dX6_layCan_101 : decode cX6_layCan 101 = .ok (.iinc 1 1, 3) := by decide +kernel
theorem dX6_layCan_104 : decode cX6_layCan 104 = .ok (.goto (-81), 3) := by decide +kernel
theorem dX6_layCan_107 : decode cX6_layCan 107 = .ok (.return_, 1) := by decide +kernel
theorem dX6_ways_0 : decode cX6_ways 0 = .ok (.iload_n 1, 1) := by decide +kernel
theorem dX6_ways_1 : decode cX6_ways 1 = .ok (.iconst (-1), 1) := by decide +kernel
theorem dX6_ways_2 : decode cX6_ways 2 = .ok (.if_icmp .eq 11, 3) := by decide +kernel
theorem dX6_ways_5 : decode cX6_ways 5 = .ok (.aload_n 0, 1) := by decide +kernel
theorem dX6_ways_6 : decode cX6_ways 6 = .ok (.iload_n 1, 1) := by decide +kernel
theorem dX6_ways_7 : decode cX6_ways 7 = .ok (.invokevirtual 149, 3) := by decide +kernel
theorem dX6_ways_10 : decode cX6_ways 10 = .ok (.ifCond .ne 10, 3) := by decide +kernel
theorem dX6_ways_13 : decode cX6_ways 13 = .ok (.iload_n 2, 1) := by decide +kernel
theorem dX6_ways_14 : decode cX6_ways 14 = .ok (.invokestatic 117, 3) := by decide +kernel
theorem dX6_ways_17 : decode cX6_ways 17 = .ok (.ifCond .eq 9, 3) := by decide +kernel
theorem dX6_ways_20 : decode cX6_ways 20 = .ok (.aload_n 0, 1) := by decide +kernel
theorem dX6_ways_21 : decode cX6_ways 21 = .ok (.iconst (-1), 1) := by decide +kernel
theorem dX6_ways_22 : decode cX6_ways 22 = .ok (.invokevirtual 121, 3) := by decide +kernel
theorem dX6_ways_25 : decode cX6_ways 25 = .ok (.ireturn, 1) := by decide +kernel
theorem dX6_ways_26 : decode cX6_ways 26 = .ok (.iload_n 3, 1) := by decide +kernel
theorem dX6_ways_27 : decode cX6_ways 27 = .ok (.i2l, 1) := by decide +kernel
theorem dX6_ways_28 : decode cX6_ways 28 = .ok (.lconst 0, 1) := by decide +kernel
theorem dX6_ways_29 : decode cX6_ways 29 = .ok (.ldc2_w 124, 3) := by decide +kernel
theorem dX6_ways_32 : decode cX6_ways 32 = .ok (.invokestatic 79, 3) := by decide +kernel
theorem dX6_ways_35 : decode cX6_ways 35 = .ok (.ifCond .ne 10, 3) := by decide +kernel
theorem dX6_ways_38 : decode cX6_ways 38 = .ok (.aload_n 0, 1) := by decide +kernel
theorem dX6_ways_39 : decode cX6_ways 39 = .ok (.bipush (-2), 2) := by decide +kernel
theorem dX6_ways_41 : decode cX6_ways 41 = .ok (.invokevirtual 121, 3) := by decide +kernel
theorem dX6_ways_44 : decode cX6_ways 44 = .ok (.ireturn, 1) := by decide +kernel
theorem dX6_ways_45 : decode cX6_ways 45 = .ok (.aload_n 0, 1) := by decide +kernel
theorem dX6_ways_46 : decode cX6_ways 46 = .ok (.getfield 69, 3) := by decide +kernel
theorem dX6_ways_49 : decode cX6_ways 49 = .ok (.ifCond .ne 10, 3) := by decide +kernel
theorem dX6_ways_52 : decode cX6_ways 52 = .ok (.aload_n 0, 1) := by decide +kernel
theorem dX6_ways_53 : decode cX6_ways 53 = .ok (.bipush (-3), 2) := by decide +kernel
theorem dX6_ways_55 : decode cX6_ways 55 = .ok (.invokevirtual 121, 3) := by decide +kernel
theorem dX6_ways_58 : decode cX6_ways 58 = .ok (.ireturn, 1) := by decide +kernel
theorem dX6_ways_59 : decode cX6_ways 59 = .ok (.aload_n 0, 1) := by decide +kernel
theorem dX6_ways_60 : decode cX6_ways 60 = .ok (.iload_n 2, 1) := by decide +kernel
theorem dX6_ways_61 : decode cX6_ways 61 = .ok (.iload_n 3, 1) := by decide +kernel
theorem dX6_ways_62 : decode cX6_ways 62 = .ok (.iload 4, 2) := by decide +kernel
theorem dX6_ways_64 : decode cX6_ways 64 = .ok (.aload_n 0, 1) := by decide +kernel
theorem dX6_ways_65 : decode cX6_ways 65 = .ok (.getfield 72, 3) := by decide +kernel
theorem dX6_ways_68 : decode cX6_ways 68 = .ok (.i2l, 1) := by decide +kernel
theorem dX6_ways_69 : decode cX6_ways 69 = .ok (.lconst 1, 1) := by decide +kernel
theorem dX6_ways_70 : decode cX6_ways 70 = .ok (.ladd, 1) := by decide +kernel
theorem dX6_ways_71 : decode cX6_ways 71 = .ok (.invokevirtual 126, 3) := by decide +kernel
theorem dX6_ways_74 : decode cX6_ways 74 = .ok (.istore 5, 2) := by decide +kernel
theorem dX6_ways_76 : decode cX6_ways 76 = .ok (.iload 5, 2) := by decide +kernel
theorem dX6_ways_78 : decode cX6_ways 78 = .ok (.ifCond .ge 6, 3) := by decide +kernel
theorem dX6_ways_81 : decode cX6_ways 81 = .ok (.iload 5, 2) := by decide +kernel
theorem dX6_ways_83 : decode cX6_ways 83 = .ok (.ireturn, 1) := by decide +kernel
theorem dX6_ways_84 : decode cX6_ways 84 = .ok (.aload_n 0, 1) := by decide +kernel
theorem dX6_ways_85 : decode cX6_ways 85 = .ok (.invokevirtual 225, 3) := by decide +kernel
theorem dX6_ways_88 : decode cX6_ways 88 = .ok (.iload_n 1, 1) := by decide +kernel
theorem dX6_ways_89 : decode cX6_ways 89 = .ok (.ifCond .ge 19, 3) := by decide +kernel
theorem dX6_ways_92 : decode cX6_ways 92 = .ok (.aload_n 0, 1) := by decide +kernel
theorem dX6_ways_93 : decode cX6_ways 93 = .ok (.aload_n 0, 1) := by decide +kernel
theorem dX6_ways_94 : decode cX6_ways 94 = .ok (.bipush 60, 2) := by decide +kernel
theorem dX6_ways_96 : decode cX6_ways 96 = .ok (.iload_n 2, 1) := by decide +kernel
theorem dX6_ways_97 : decode cX6_ways 97 = .ok (.imul, 1) := by decide +kernel
theorem dX6_ways_98 : decode cX6_ways 98 = .ok (.iload 4, 2) := by decide +kernel
theorem dX6_ways_100 : decode cX6_ways 100 = .ok (.iadd, 1) := by decide +kernel
theorem dX6_ways_101 : decode cX6_ways 101 = .ok (.invokevirtual 228, 3) := by decide +kernel
theorem dX6_ways_104 : decode cX6_ways 104 = .ok (.invokevirtual 121, 3) := by decide +kernel
theorem dX6_ways_107 : decode cX6_ways 107 = .ok (.ireturn, 1) := by decide +kernel
theorem dX6_ways_108 : decode cX6_ways 108 = .ok (.iconst 0, 1) := by decide +kernel
theorem dX6_ways_109 : decode cX6_ways 109 = .ok (.istore 6, 2) := by decide +kernel
theorem dX6_ways_111 : decode cX6_ways 111 = .ok (.iconst 0, 1) := by decide +kernel
theorem dX6_ways_112 : decode cX6_ways 112 = .ok (.istore 7, 2) := by decide +kernel
theorem dX6_ways_114 : decode cX6_ways 114 = .ok (.iload 7, 2) := by decide +kernel
theorem dX6_ways_116 : decode cX6_ways 116 = .ok (.bipush 7, 2) := by decide +kernel
theorem dX6_ways_118 : decode cX6_ways 118 = .ok (.if_icmp .ge 98, 3) := by decide +kernel
theorem dX6_ways_121 : decode cX6_ways 121 = .ok (.aload_n 0, 1) := by decide +kernel
theorem dX6_ways_122 : decode cX6_ways 122 = .ok (.getfield 38, 3) := by decide +kernel
theorem dX6_ways_125 : decode cX6_ways 125 = .ok (.iload 7, 2) := by decide +kernel
theorem dX6_ways_127 : decode cX6_ways 127 = .ok (.iaload, 1) := by decide +kernel
theorem dX6_ways_128 : decode cX6_ways 128 = .ok (.iload_n 1, 1) := by decide +kernel
theorem dX6_ways_129 : decode cX6_ways 129 = .ok (.invokestatic 231, 3) := by decide +kernel
theorem dX6_ways_132 : decode cX6_ways 132 = .ok (.ifCond .eq 78, 3) := by decide +kernel
theorem dX6_ways_135 : decode cX6_ways 135 = .ok (.iconst 0, 1) := by decide +kernel
theorem dX6_ways_136 : decode cX6_ways 136 = .ok (.istore 8, 2) := by decide +kernel
theorem dX6_ways_138 : decode cX6_ways 138 = .ok (.iload 8, 2) := by decide +kernel
theorem dX6_ways_140 : decode cX6_ways 140 = .ok (.bipush 7, 2) := by decide +kernel
theorem dX6_ways_142 : decode cX6_ways 142 = .ok (.if_icmp .ge 37, 3) := by decide +kernel
theorem dX6_ways_145 : decode cX6_ways 145 = .ok (.aload_n 0, 1) := by decide +kernel
theorem dX6_ways_146 : decode cX6_ways 146 = .ok (.getfield 38, 3) := by decide +kernel
theorem dX6_ways_149 : decode cX6_ways 149 = .ok (.iload 8, 2) := by decide +kernel
theorem dX6_ways_151 : decode cX6_ways 151 = .ok (.dup2, 1) := by decide +kernel
theorem dX6_ways_152 : decode cX6_ways 152 = .ok (.iaload, 1) := by decide +kernel
theorem dX6_ways_153 : decode cX6_ways 153 = .ok (.iload 8, 2) := by decide +kernel
theorem dX6_ways_155 : decode cX6_ways 155 = .ok (.iload 7, 2) := by decide +kernel
theorem dX6_ways_157 : decode cX6_ways 157 = .ok (.if_icmp .ne 9, 3) := by decide +kernel
theorem dX6_ways_160 : decode cX6_ways 160 = .ok (.sipush 255, 3) := by decide +kernel
theorem dX6_ways_163 : decode cX6_ways 163 = .ok (.goto 8, 3) := by decide +kernel
theorem dX6_ways_166 : decode cX6_ways 166 = .ok (.iconst 1, 1) := by decide +kernel
theorem dX6_ways_167 : decode cX6_ways 167 = .ok (.iload_n 1, 1) := by decide +kernel
theorem dX6_ways_168 : decode cX6_ways 168 = .ok (.ishl, 1) := by decide +kernel
theorem dX6_ways_169 : decode cX6_ways 169 = .ok (.iconst (-1), 1) := by decide +kernel
theorem dX6_ways_170 : decode cX6_ways 170 = .ok (.ixor, 1) := by decide +kernel
theorem dX6_ways_171 : decode cX6_ways 171 = .ok (.iand, 1) := by decide +kernel
theorem dX6_ways_172 : decode cX6_ways 172 = .ok (.iastore, 1) := by decide +kernel
theorem dX6_ways_173 : decode cX6_ways 173 = .ok (.iinc 8 1, 3) := by decide +kernel
theorem dX6_ways_176 : decode cX6_ways 176 = .ok (.goto (-38), 3) := by decide +kernel
theorem dX6_ways_179 : decode cX6_ways 179 = .ok (.iload 6, 2) := by decide +kernel
theorem dX6_ways_181 : decode cX6_ways 181 = .ok (.aload_n 0, 1) := by decide +kernel
theorem dX6_ways_182 : decode cX6_ways 182 = .ok (.bipush 60, 2) := by decide +kernel
theorem dX6_ways_184 : decode cX6_ways 184 = .ok (.iload_n 2, 1) := by decide +kernel
theorem dX6_ways_185 : decode cX6_ways 185 = .ok (.imul, 1) := by decide +kernel
theorem dX6_ways_186 : decode cX6_ways 186 = .ok (.iload 4, 2) := by decide +kernel
theorem dX6_ways_188 : decode cX6_ways 188 = .ok (.iadd, 1) := by decide +kernel
theorem dX6_ways_189 : decode cX6_ways 189 = .ok (.invokevirtual 228, 3) := by decide +kernel
theorem dX6_ways_192 : decode cX6_ways 192 = .ok (.ifCond .le 10, 3) := by decide +kernel
theorem dX6_ways_195 : decode cX6_ways 195 = .ok (.iconst 1, 1) := by decide +kernel
theorem dX6_ways_196 : decode cX6_ways 196 = .ok (.iload 7, 2) := by decide +kernel
theorem dX6_ways_198 : decode cX6_ways 198 = .ok (.ishl, 1) := by decide +kernel
theorem dX6_ways_199 : decode cX6_ways 199 = .ok (.goto 4, 3) := by decide +kernel
theorem dX6_ways_202 : decode cX6_ways 202 = .ok (.iconst 0, 1) := by decide +kernel
theorem dX6_ways_203 : decode cX6_ways 203 = .ok (.ior, 1) := by decide +kernel
theorem dX6_ways_204 : decode cX6_ways 204 = .ok (.istore 6, 2) := by decide +kernel
theorem dX6_ways_206 : decode cX6_ways 206 = .ok (.aload_n 0, 1) := by decide +kernel
theorem dX6_ways_207 : decode cX6_ways 207 = .ok (.invokevirtual 225, 3) := by decide +kernel
theorem dX6_ways_210 : decode cX6_ways 210 = .ok (.iinc 7 1, 3) := by decide +kernel
theorem dX6_ways_213 : decode cX6_ways 213 = .ok (.goto (-99), 3) := by decide +kernel
theorem dX6_ways_216 : decode cX6_ways 216 = .ok (.aload_n 0, 1) := by decide +kernel
theorem dX6_ways_217 : decode cX6_ways 217 = .ok (.iload 6, 2) := by decide +kernel
theorem dX6_ways_219 : decode cX6_ways 219 = .ok (.invokevirtual 121, 3) := by decide +kernel
theorem dX6_ways_222 : decode cX6_ways 222 = .ok (.ireturn, 1) := by decide +kernel
theorem dX6_fair_0 : decode cX6_fair 0 = .ok (.aload_n 0, 1) := by decide +kernel
theorem dX6_fair_1 : decode cX6_fair 1 = .ok (.getfield 69, 3) := by decide +kernel
theorem dX6_fair_4 : decode cX6_fair 4 = .ok (.ifCond .ne 6, 3) := by decide +kernel
theorem dX6_fair_7 : decode cX6_fair 7 = .ok (.bipush (-3), 2) := by decide +kernel
theorem dX6_fair_9 : decode cX6_fair 9 = .ok (.ireturn, 1) := by decide +kernel
theorem dX6_fair_10 : decode cX6_fair 10 = .ok (.iconst 0, 1) := by decide +kernel
theorem dX6_fair_11 : decode cX6_fair 11 = .ok (.istore_n 1, 1) := by decide +kernel
theorem dX6_fair_12 : decode cX6_fair 12 = .ok (.iconst 0, 1) := by decide +kernel
theorem dX6_fair_13 : decode cX6_fair 13 = .ok (.istore_n 2, 1) := by decide +kernel
theorem dX6_fair_14 : decode cX6_fair 14 = .ok (.iload_n 2, 1) := by decide +kernel
theorem dX6_fair_15 : decode cX6_fair 15 = .ok (.aload_n 0, 1) := by decide +kernel
theorem dX6_fair_16 : decode cX6_fair 16 = .ok (.getfield 72, 3) := by decide +kernel
theorem dX6_fair_19 : decode cX6_fair 19 = .ok (.if_icmp .ge 90, 3) := by decide +kernel
theorem dX6_fair_22 : decode cX6_fair 22 = .ok (.aload_n 0, 1) := by decide +kernel
theorem dX6_fair_23 : decode cX6_fair 23 = .ok (.iconst 0, 1) := by decide +kernel
theorem dX6_fair_24 : decode cX6_fair 24 = .ok (.iload_n 2, 1) := by decide +kernel
theorem dX6_fair_25 : decode cX6_fair 25 = .ok (.invokevirtual 179, 3) := by decide +kernel
theorem dX6_fair_28 : decode cX6_fair 28 = .ok (.aload_n 0, 1) := by decide +kernel
theorem dX6_fair_29 : decode cX6_fair 29 = .ok (.aload_n 0, 1) := by decide +kernel
theorem dX6_fair_30 : decode cX6_fair 30 = .ok (.getfield 7, 3) := by decide +kernel
theorem dX6_fair_33 : decode cX6_fair 33 = .ok (.iconst 0, 1) := by decide +kernel
theorem dX6_fair_34 : decode cX6_fair 34 = .ok (.iaload, 1) := by decide +kernel
theorem dX6_fair_35 : decode cX6_fair 35 = .ok (.invokevirtual 191, 3) := by decide +kernel
theorem dX6_fair_38 : decode cX6_fair 38 = .ok (.lstore_n 3, 1) := by decide +kernel
theorem dX6_fair_39 : decode cX6_fair 39 = .ok (.iconst 1, 1) := by decide +kernel
theorem dX6_fair_40 : decode cX6_fair 40 = .ok (.istore 5, 2) := by decide +kernel
theorem dX6_fair_42 : decode cX6_fair 42 = .ok (.iconst 1, 1) := by decide +kernel
theorem dX6_fair_43 : decode cX6_fair 43 = .ok (.istore 6, 2) := by decide +kernel
theorem dX6_fair_45 : decode cX6_fair 45 = .ok (.iload 6, 2) := by decide +kernel
theorem dX6_fair_47 : decode cX6_fair 47 = .ok (.aload_n 0, 1) := by decide +kernel
theorem dX6_fair_48 : decode cX6_fair 48 = .ok (.getfield 72, 3) := by decide +kernel
theorem dX6_fair_51 : decode cX6_fair 51 = .ok (.if_icmp .ge 37, 3) := by decide +kernel
theorem dX6_fair_54 : decode cX6_fair 54 = .ok (.iload 5, 2) := by decide +kernel
theorem dX6_fair_56 : decode cX6_fair 56 = .ok (.ifCond .eq 23, 3) := by decide +kernel
theorem dX6_fair_59 : decode cX6_fair 59 = .ok (.aload_n 0, 1) := by decide +kernel
theorem dX6_fair_60 : decode cX6_fair 60 = .ok (.aload_n 0, 1) := by decide +kernel
theorem dX6_fair_61 : decode cX6_fair 61 = .ok (.getfield 7, 3) := by decide +kernel
theorem dX6_fair_64 : decode cX6_fair 64 = .ok (.iload 6, 2) := by decide +kernel
theorem dX6_fair_66 : decode cX6_fair 66 = .ok (.iaload, 1) := by decide +kernel
theorem dX6_fair_67 : decode cX6_fair 67 = .ok (.invokevirtual 191, 3) := by decide +kernel
theorem dX6_fair_70 : decode cX6_fair 70 = .ok (.lload_n 3, 1) := by decide +kernel
theorem dX6_fair_71 : decode cX6_fair 71 = .ok (.lcmp, 1) := by decide +kernel
theorem dX6_fair_72 : decode cX6_fair 72 = .ok (.ifCond .ne 7, 3) := by decide +kernel
theorem dX6_fair_75 : decode cX6_fair 75 = .ok (.iconst 1, 1) := by decide +kernel
theorem dX6_fair_76 : decode cX6_fair 76 = .ok (.goto 4, 3) := by decide +kernel
theorem dX6_fair_79 : decode cX6_fair 79 = .ok (.iconst 0, 1) := by decide +kernel
theorem dX6_fair_80 : decode cX6_fair 80 = .ok (.istore 5, 2) := by decide +kernel
theorem dX6_fair_82 : decode cX6_fair 82 = .ok (.iinc 6 1, 3) := by decide +kernel
theorem dX6_fair_85 : decode cX6_fair 85 = .ok (.goto (-40), 3) := by decide +kernel
theorem dX6_fair_88 : decode cX6_fair 88 = .ok (.iload_n 1, 1) := by decide +kernel
theorem dX6_fair_89 : decode cX6_fair 89 = .ok (.iload 5, 2) := by decide +kernel
theorem dX6_fair_91 : decode cX6_fair 91 = .ok (.ifCond .eq 9, 3) := by decide +kernel
theorem dX6_fair_94 : decode cX6_fair 94 = .ok (.iconst 1, 1) := by decide +kernel
theorem dX6_fair_95 : decode cX6_fair 95 = .ok (.iload_n 2, 1) := by decide +kernel
theorem dX6_fair_96 : decode cX6_fair 96 = .ok (.ishl, 1) := by decide +kernel
theorem dX6_fair_97 : decode cX6_fair 97 = .ok (.goto 4, 3) := by decide +kernel
theorem dX6_fair_100 : decode cX6_fair 100 = .ok (.iconst 0, 1) := by decide +kernel
theorem dX6_fair_101 : decode cX6_fair 101 = .ok (.ior, 1) := by decide +kernel
theorem dX6_fair_102 : decode cX6_fair 102 = .ok (.istore_n 1, 1) := by decide +kernel
theorem dX6_fair_103 : decode cX6_fair 103 = .ok (.iinc 2 1, 3) := by decide +kernel
theorem dX6_fair_106 : decode cX6_fair 106 = .ok (.goto (-92), 3) := by decide +kernel
theorem dX6_fair_109 : decode cX6_fair 109 = .ok (.iload_n 1, 1) := by decide +kernel
theorem dX6_fair_110 : decode cX6_fair 110 = .ok (.ireturn, 1) := by decide +kernel
theorem dX6_noSheet_0 : decode cX6_noSheet 0 = .ok (.iload_n 0, 1) := by decide +kernel
theorem dX6_noSheet_1 : decode cX6_noSheet 1 = .ok (.i2l, 1) := by decide +kernel
theorem dX6_noSheet_2 : decode cX6_noSheet 2 = .ok (.lconst 0, 1) := by decide +kernel
theorem dX6_noSheet_3 : decode cX6_noSheet 3 = .ok (.ldc2_w 83, 3) := by decide +kernel
theorem dX6_noSheet_6 : decode cX6_noSheet 6 = .ok (.invokestatic 79, 3) := by decide +kernel
theorem dX6_noSheet_9 : decode cX6_noSheet 9 = .ok (.ifCond .ne 7, 3) := by decide +kernel
theorem dX6_noSheet_12 : decode cX6_noSheet 12 = .ok (.iconst 1, 1) := by decide +kernel
theorem dX6_noSheet_13 : decode cX6_noSheet 13 = .ok (.goto 4, 3) := by decide +kernel
theorem dX6_noSheet_16 : decode cX6_noSheet 16 = .ok (.iconst 0, 1) := by decide +kernel
theorem dX6_noSheet_17 : decode cX6_noSheet 17 = .ok (.ireturn, 1) := by decide +kernel
theorem dX6_sheet_0 : decode cX6_sheet 0 = .ok (.iload_n 1, 1) := by decide +kernel
theorem dX6_sheet_1 : decode cX6_sheet 1 = .ok (.invokestatic 117, 3) := by decide +kernel
theorem dX6_sheet_4 : decode cX6_sheet 4 = .ok (.ifCond .eq 9, 3) := by decide +kernel
theorem dX6_sheet_7 : decode cX6_sheet 7 = .ok (.aload_n 0, 1) := by decide +kernel
theorem dX6_sheet_8 : decode cX6_sheet 8 = .ok (.iconst (-1), 1) := by decide +kernel
theorem dX6_sheet_9 : decode cX6_sheet 9 = .ok (.invokevirtual 121, 3) := by decide +kernel
theorem dX6_sheet_12 : decode cX6_sheet 12 = .ok (.ireturn, 1) := by decide +kernel
theorem dX6_sheet_13 : decode cX6_sheet 13 = .ok (.iload_n 2, 1) := by decide +kernel
theorem dX6_sheet_14 : decode cX6_sheet 14 = .ok (.i2l, 1) := by decide +kernel
theorem dX6_sheet_15 : decode cX6_sheet 15 = .ok (.lconst 0, 1) := by decide +kernel
theorem dX6_sheet_16 : decode cX6_sheet 16 = .ok (.ldc2_w 124, 3) := by decide +kernel
theorem dX6_sheet_19 : decode cX6_sheet 19 = .ok (.invokestatic 79, 3) := by decide +kernel
theorem dX6_sheet_22 : decode cX6_sheet 22 = .ok (.ifCond .eq 9, 3) := by decide +kernel
theorem dX6_sheet_25 : decode cX6_sheet 25 = .ok (.iload_n 3, 1) := by decide +kernel
theorem dX6_sheet_26 : decode cX6_sheet 26 = .ok (.bipush 60, 2) := by decide +kernel
theorem dX6_sheet_28 : decode cX6_sheet 28 = .ok (.if_icmp .le 10, 3) := by decide +kernel
theorem dX6_sheet_31 : decode cX6_sheet 31 = .ok (.aload_n 0, 1) := by decide +kernel
theorem dX6_sheet_32 : decode cX6_sheet 32 = .ok (.bipush (-2), 2) := by decide +kernel
theorem dX6_sheet_34 : decode cX6_sheet 34 = .ok (.invokevirtual 121, 3) := by decide +kernel
theorem dX6_sheet_37 : decode cX6_sheet 37 = .ok (.ireturn, 1) := by decide +kernel
theorem dX6_sheet_38 : decode cX6_sheet 38 = .ok (.iload_n 3, 1) := by decide +kernel
theorem dX6_sheet_39 : decode cX6_sheet 39 = .ok (.ifCond .ge 9, 3) := by decide +kernel
theorem dX6_sheet_42 : decode cX6_sheet 42 = .ok (.aload_n 0, 1) := by decide +kernel
theorem dX6_sheet_43 : decode cX6_sheet 43 = .ok (.iconst 4, 1) := by decide +kernel
theorem dX6_sheet_44 : decode cX6_sheet 44 = .ok (.invokevirtual 110, 3) := by decide +kernel
theorem dX6_sheet_47 : decode cX6_sheet 47 = .ok (.ireturn, 1) := by decide +kernel
theorem dX6_sheet_48 : decode cX6_sheet 48 = .ok (.aload_n 0, 1) := by decide +kernel
theorem dX6_sheet_49 : decode cX6_sheet 49 = .ok (.getfield 47, 3) := by decide +kernel
theorem dX6_sheet_52 : decode cX6_sheet 52 = .ok (.iload_n 1, 1) := by decide +kernel
theorem dX6_sheet_53 : decode cX6_sheet 53 = .ok (.iload_n 3, 1) := by decide +kernel
theorem dX6_sheet_54 : decode cX6_sheet 54 = .ok (.iastore, 1) := by decide +kernel
theorem dX6_sheet_55 : decode cX6_sheet 55 = .ok (.aload_n 0, 1) := by decide +kernel
theorem dX6_sheet_56 : decode cX6_sheet 56 = .ok (.getfield 50, 3) := by decide +kernel
theorem dX6_sheet_59 : decode cX6_sheet 59 = .ok (.iload_n 1, 1) := by decide +kernel
theorem dX6_sheet_60 : decode cX6_sheet 60 = .ok (.iload_n 2, 1) := by decide +kernel
theorem dX6_sheet_61 : decode cX6_sheet 61 = .ok (.iastore, 1) := by decide +kernel
theorem dX6_sheet_62 : decode cX6_sheet 62 = .ok (.iconst 0, 1) := by decide +kernel
theorem dX6_sheet_63 : decode cX6_sheet 63 = .ok (.istore 4, 2) := by decide +kernel
theorem dX6_sheet_65 : decode cX6_sheet 65 = .ok (.iload 4, 2) := by decide +kernel
theorem dX6_sheet_67 : decode cX6_sheet 67 = .ok (.iload_n 3, 1) := by decide +kernel
theorem dX6_sheet_68 : decode cX6_sheet 68 = .ok (.if_icmp .ge 22, 3) := by decide +kernel
theorem dX6_sheet_71 : decode cX6_sheet 71 = .ok (.aload_n 0, 1) := by decide +kernel
theorem dX6_sheet_72 : decode cX6_sheet 72 = .ok (.getfield 53, 3) := by decide +kernel
theorem dX6_sheet_75 : decode cX6_sheet 75 = .ok (.bipush 60, 2) := by decide +kernel
theorem dX6_sheet_77 : decode cX6_sheet 77 = .ok (.iload_n 1, 1) := by decide +kernel
theorem dX6_sheet_78 : decode cX6_sheet 78 = .ok (.imul, 1) := by decide +kernel
theorem dX6_sheet_79 : decode cX6_sheet 79 = .ok (.iload 4, 2) := by decide +kernel
theorem dX6_sheet_81 : decode cX6_sheet 81 = .ok (.iadd, 1) := by decide +kernel
theorem dX6_sheet_82 : decode cX6_sheet 82 = .ok (.iconst 0, 1) := by decide +kernel
theorem dX6_sheet_83 : decode cX6_sheet 83 = .ok (.iastore, 1) := by decide +kernel
theorem dX6_sheet_84 : decode cX6_sheet 84 = .ok (.iinc 4 1, 3) := by decide +kernel
theorem dX6_sheet_87 : decode cX6_sheet 87 = .ok (.goto (-22), 3) := by decide +kernel
theorem dX6_sheet_90 : decode cX6_sheet 90 = .ok (.aload_n 0, 1) := by decide +kernel
theorem dX6_sheet_91 : decode cX6_sheet 91 = .ok (.iconst 1, 1) := by decide +kernel
theorem dX6_sheet_92 : decode cX6_sheet 92 = .ok (.invokevirtual 121, 3) := by decide +kernel
theorem dX6_sheet_95 : decode cX6_sheet 95 = .ok (.ireturn, 1) := by decide +kernel
theorem dX6_lose_0 : decode cX6_lose 0 = .ok (.iload_n 1, 1) := by decide +kernel
theorem dX6_lose_1 : decode cX6_lose 1 = .ok (.invokestatic 117, 3) := by decide +kernel
theorem dX6_lose_4 : decode cX6_lose 4 = .ok (.ifCond .eq 5, 3) := by decide +kernel
theorem dX6_lose_7 : decode cX6_lose 7 = .ok (.iconst (-1), 1) := by decide +kernel
theorem dX6_lose_8 : decode cX6_lose 8 = .ok (.ireturn, 1) := by decide +kernel
theorem dX6_lose_9 : decode cX6_lose 9 = .ok (.aload_n 0, 1) := by decide +kernel
theorem dX6_lose_10 : decode cX6_lose 10 = .ok (.getfield 47, 3) := by decide +kernel
theorem dX6_lose_13 : decode cX6_lose 13 = .ok (.iload_n 1, 1) := by decide +kernel
theorem dX6_lose_14 : decode cX6_lose 14 = .ok (.iaload, 1) := by decide +kernel
theorem dX6_lose_15 : decode cX6_lose 15 = .ok (.ifCond .ge 7, 3) := by decide +kernel
theorem dX6_lose_18 : decode cX6_lose 18 = .ok (.iconst 0, 1) := by decide +kernel
theorem dX6_lose_19 : decode cX6_lose 19 = .ok (.goto 4, 3) := by decide +kernel
theorem dX6_lose_22 : decode cX6_lose 22 = .ok (.iconst 1, 1) := by decide +kernel
theorem dX6_lose_23 : decode cX6_lose 23 = .ok (.istore_n 2, 1) := by decide +kernel
theorem dX6_lose_24 : decode cX6_lose 24 = .ok (.aload_n 0, 1) := by decide +kernel
theorem dX6_lose_25 : decode cX6_lose 25 = .ok (.getfield 47, 3) := by decide +kernel
theorem dX6_lose_28 : decode cX6_lose 28 = .ok (.iload_n 1, 1) := by decide +kernel
theorem dX6_lose_29 : decode cX6_lose 29 = .ok (.iconst (-1), 1) := by decide +kernel
theorem dX6_lose_30 : decode cX6_lose 30 = .ok (.iastore, 1) := by decide +kernel
theorem dX6_lose_31 : decode cX6_lose 31 = .ok (.iload_n 2, 1) := by decide +kernel
theorem dX6_lose_32 : decode cX6_lose 32 = .ok (.ireturn, 1) := by decide +kernel
theorem dX6_noCell__0 : decode cX6_noCell_ 0 = .ok (.aload_n 0, 1) := by decide +kernel
theorem dX6_noCell__1 : decode cX6_noCell_ 1 = .ok (.getfield 47, 3) := by decide +kernel
theorem dX6_noCell__4 : decode cX6_noCell_ 4 = .ok (.iload_n 1, 1) := by decide +kernel
theorem dX6_noCell__5 : decode cX6_noCell_ 5 = .ok (.iaload, 1) := by decide +kernel
theorem dX6_noCell__6 : decode cX6_noCell_ 6 = .ok (.ifCond .ge 7, 3) := by decide +kernel
theorem dX6_noCell__9 : decode cX6_noCell_ 9 = .ok (.iconst 1, 1) := by decide +kernel
theorem dX6_noCell__10 : decode cX6_noCell_ 10 = .ok (.goto 26, 3) := by decide +kernel
theorem dX6_noCell__13 : decode cX6_noCell_ 13 = .ok (.iload_n 2, 1) := by decide +kernel
theorem dX6_noCell__14 : decode cX6_noCell_ 14 = .ok (.i2l, 1) := by decide +kernel
theorem dX6_noCell__15 : decode cX6_noCell_ 15 = .ok (.lconst 0, 1) := by decide +kernel
theorem dX6_noCell__16 : decode cX6_noCell_ 16 = .ok (.aload_n 0, 1) := by decide +kernel
theorem dX6_noCell__17 : decode cX6_noCell_ 17 = .ok (.getfield 47, 3) := by decide +kernel
theorem dX6_noCell__20 : decode cX6_noCell_ 20 = .ok (.iload_n 1, 1) := by decide +kernel
theorem dX6_noCell__21 : decode cX6_noCell_ 21 = .ok (.iaload, 1) := by decide +kernel
theorem dX6_noCell__22 : decode cX6_noCell_ 22 = .ok (.i2l, 1) := by decide +kernel
theorem dX6_noCell__23 : decode cX6_noCell_ 23 = .ok (.lconst 1, 1) := by decide +kernel
theorem dX6_noCell__24 : decode cX6_noCell_ 24 = .ok (.lsub, 1) := by decide +kernel
theorem dX6_noCell__25 : decode cX6_noCell_ 25 = .ok (.invokestatic 79, 3) := by decide +kernel
theorem dX6_noCell__28 : decode cX6_noCell_ 28 = .ok (.ifCond .eq 7, 3) := by decide +kernel
theorem dX6_noCell__31 : decode cX6_noCell_ 31 = .ok (.iconst 0, 1) := by decide +kernel
theorem dX6_noCell__32 : decode cX6_noCell_ 32 = .ok (.goto 4, 3) := by decide +kernel
theorem dX6_noCell__35 : decode cX6_noCell_ 35 = .ok (.iconst 3, 1) := by decide +kernel
theorem dX6_noCell__36 : decode cX6_noCell_ 36 = .ok (.ireturn, 1) := by decide +kernel
theorem dX6_put_0 : decode cX6_put 0 = .ok (.iload_n 1, 1) := by decide +kernel
theorem dX6_put_1 : decode cX6_put 1 = .ok (.invokestatic 117, 3) := by decide +kernel
theorem dX6_put_4 : decode cX6_put 4 = .ok (.ifCond .eq 9, 3) := by decide +kernel
theorem dX6_put_7 : decode cX6_put 7 = .ok (.aload_n 0, 1) := by decide +kernel
theorem dX6_put_8 : decode cX6_put 8 = .ok (.iconst (-1), 1) := by decide +kernel
theorem dX6_put_9 : decode cX6_put 9 = .ok (.invokevirtual 121, 3) := by decide +kernel
theorem dX6_put_12 : decode cX6_put 12 = .ok (.ireturn, 1) := by decide +kernel
theorem dX6_put_13 : decode cX6_put 13 = .ok (.aload_n 0, 1) := by decide +kernel
theorem dX6_put_14 : decode cX6_put 14 = .ok (.iload_n 1, 1) := by decide +kernel
theorem dX6_put_15 : decode cX6_put 15 = .ok (.iload_n 2, 1) := by decide +kernel
theorem dX6_put_16 : decode cX6_put 16 = .ok (.invokevirtual 234, 3) := by decide +kernel
theorem dX6_put_19 : decode cX6_put 19 = .ok (.ifCond .le 14, 3) := by decide +kernel
theorem dX6_put_22 : decode cX6_put 22 = .ok (.aload_n 0, 1) := by decide +kernel
theorem dX6_put_23 : decode cX6_put 23 = .ok (.aload_n 0, 1) := by decide +kernel
theorem dX6_put_24 : decode cX6_put 24 = .ok (.iload_n 1, 1) := by decide +kernel
theorem dX6_put_25 : decode cX6_put 25 = .ok (.iload_n 2, 1) := by decide +kernel
theorem dX6_put_26 : decode cX6_put 26 = .ok (.invokevirtual 234, 3) := by decide +kernel
theorem dX6_put_29 : decode cX6_put 29 = .ok (.invokevirtual 110, 3) := by decide +kernel
theorem dX6_put_32 : decode cX6_put 32 = .ok (.ireturn, 1) := by decide +kernel
theorem dX6_put_33 : decode cX6_put 33 = .ok (.aload_n 0, 1) := by decide +kernel
theorem dX6_put_34 : decode cX6_put 34 = .ok (.getfield 53, 3) := by decide +kernel
theorem dX6_put_37 : decode cX6_put 37 = .ok (.bipush 60, 2) := by decide +kernel
theorem dX6_put_39 : decode cX6_put 39 = .ok (.iload_n 1, 1) := by decide +kernel
theorem dX6_put_40 : decode cX6_put 40 = .ok (.imul, 1) := by decide +kernel
theorem dX6_put_41 : decode cX6_put 41 = .ok (.iload_n 2, 1) := by decide +kernel
theorem dX6_put_42 : decode cX6_put 42 = .ok (.iadd, 1) := by decide +kernel
theorem dX6_put_43 : decode cX6_put 43 = .ok (.aload_n 0, 1) := by decide +kernel
theorem dX6_put_44 : decode cX6_put 44 = .ok (.getfield 50, 3) := by decide +kernel
theorem dX6_put_47 : decode cX6_put 47 = .ok (.iload_n 1, 1) := by decide +kernel
theorem dX6_put_48 : decode cX6_put 48 = .ok (.iaload, 1) := by decide +kernel
theorem dX6_put_49 : decode cX6_put 49 = .ok (.ifCond .ne 8, 3) := by decide +kernel
theorem dX6_put_52 : decode cX6_put 52 = .ok (.iload_n 3, 1) := by decide +kernel
theorem dX6_put_53 : decode cX6_put 53 = .ok (.i2b, 1) := by decide +kernel
theorem dX6_put_54 : decode cX6_put 54 = .ok (.goto 19, 3) := by decide +kernel
theorem dX6_put_57 : decode cX6_put 57 = .ok (.aload_n 0, 1) := by decide +kernel
theorem dX6_put_58 : decode cX6_put 58 = .ok (.getfield 50, 3) := by decide +kernel
theorem dX6_put_61 : decode cX6_put 61 = .ok (.iload_n 1, 1) := by decide +kernel
theorem dX6_put_62 : decode cX6_put 62 = .ok (.iaload, 1) := by decide +kernel
theorem dX6_put_63 : decode cX6_put 63 = .ok (.iconst 1, 1) := by decide +kernel
theorem dX6_put_64 : decode cX6_put 64 = .ok (.if_icmp .ne 8, 3) := by decide +kernel
theorem dX6_put_67 : decode cX6_put 67 = .ok (.iload_n 3, 1) := by decide +kernel
theorem dX6_put_68 : decode cX6_put 68 = .ok (.i2s, 1) := by decide +kernel
theorem dX6_put_69 : decode cX6_put 69 = .ok (.goto 4, 3) := by decide +kernel
theorem dX6_put_72 : decode cX6_put 72 = .ok (.iload_n 3, 1) := by decide +kernel
theorem dX6_put_73 : decode cX6_put 73 = .ok (.iastore, 1) := by decide +kernel
theorem dX6_put_74 : decode cX6_put 74 = .ok (.aload_n 0, 1) := by decide +kernel
theorem dX6_put_75 : decode cX6_put 75 = .ok (.iconst 1, 1) := by decide +kernel
theorem dX6_put_76 : decode cX6_put 76 = .ok (.invokevirtual 121, 3) := by decide +kernel
theorem dX6_put_79 : decode cX6_put 79 = .ok (.ireturn, 1) := by decide +kernel
theorem dX6_cell_0 : decode cX6_cell 0 = .ok (.aload_n 0, 1) := by decide +kernel
theorem dX6_cell_1 : decode cX6_cell 1 = .ok (.iconst 0, 1) := by decide +kernel
theorem dX6_cell_2 : decode cX6_cell 2 = .ok (.putfield 61, 3) := by decide +kernel
theorem dX6_cell_5 : decode cX6_cell 5 = .ok (.iload_n 1, 1) := by decide +kernel
theorem dX6_cell_6 : decode cX6_cell 6 = .ok (.invokestatic 117, 3) := by decide +kernel
theorem dX6_cell_9 : decode cX6_cell 9 = .ok (.ifCond .ne 15, 3) := by decide +kernel
theorem dX6_cell_12 : decode cX6_cell 12 = .ok (.iload_n 3, 1) := by decide +kernel
theorem dX6_cell_13 : decode cX6_cell 13 = .ok (.i2l, 1) := by decide +kernel
theorem dX6_cell_14 : decode cX6_cell 14 = .ok (.lconst 0, 1) := by decide +kernel
theorem dX6_cell_15 : decode cX6_cell 15 = .ok (.ldc2_w 124, 3) := by decide +kernel
theorem dX6_cell_18 : decode cX6_cell 18 = .ok (.invokestatic 79, 3) := by decide +kernel
theorem dX6_cell_21 : decode cX6_cell 21 = .ok (.ifCond .ne 7, 3) := by decide +kernel
theorem dX6_cell_24 : decode cX6_cell 24 = .ok (.invokestatic 65, 3) := by decide +kernel
theorem dX6_cell_27 : decode cX6_cell 27 = .ok (.lreturn, 1) := by decide +kernel
theorem dX6_cell_28 : decode cX6_cell 28 = .ok (.aload_n 0, 1) := by decide +kernel
theorem dX6_cell_29 : decode cX6_cell 29 = .ok (.getfield 47, 3) := by decide +kernel
theorem dX6_cell_32 : decode cX6_cell 32 = .ok (.iload_n 1, 1) := by decide +kernel
theorem dX6_cell_33 : decode cX6_cell 33 = .ok (.iaload, 1) := by decide +kernel
theorem dX6_cell_34 : decode cX6_cell 34 = .ok (.ifCond .lt 19, 3) := by decide +kernel
theorem dX6_cell_37 : decode cX6_cell 37 = .ok (.aload_n 0, 1) := by decide +kernel
theorem dX6_cell_38 : decode cX6_cell 38 = .ok (.getfield 50, 3) := by decide +kernel
theorem dX6_cell_41 : decode cX6_cell 41 = .ok (.iload_n 1, 1) := by decide +kernel
theorem dX6_cell_42 : decode cX6_cell 42 = .ok (.iaload, 1) := by decide +kernel
theorem dX6_cell_43 : decode cX6_cell 43 = .ok (.iload_n 3, 1) := by decide +kernel
theorem dX6_cell_44 : decode cX6_cell 44 = .ok (.if_icmp .eq 9, 3) := by decide +kernel
theorem dX6_cell_47 : decode cX6_cell 47 = .ok (.aload_n 0, 1) := by decide +kernel
theorem dX6_cell_48 : decode cX6_cell 48 = .ok (.iconst 2, 1) := by decide +kernel
theorem dX6_cell_49 : decode cX6_cell 49 = .ok (.invokevirtual 236, 3) := by decide +kernel
theorem dX6_cell_52 : decode cX6_cell 52 = .ok (.lreturn, 1) := by decide +kernel
theorem dX6_cell_53 : decode cX6_cell 53 = .ok (.aload_n 0, 1) := by decide +kernel
theorem dX6_cell_54 : decode cX6_cell 54 = .ok (.iload_n 1, 1) := by decide +kernel
theorem dX6_cell_55 : decode cX6_cell 55 = .ok (.iload_n 2, 1) := by decide +kernel
theorem dX6_cell_56 : decode cX6_cell 56 = .ok (.invokevirtual 234, 3) := by decide +kernel
theorem dX6_cell_59 : decode cX6_cell 59 = .ok (.ifCond .le 16, 3) := by decide +kernel
theorem dX6_cell_62 : decode cX6_cell 62 = .ok (.aload_n 0, 1) := by decide +kernel
theorem dX6_cell_63 : decode cX6_cell 63 = .ok (.aload_n 0, 1) := by decide +kernel
theorem dX6_cell_64 : decode cX6_cell 64 = .ok (.iload_n 1, 1) := by decide +kernel
theorem dX6_cell_65 : decode cX6_cell 65 = .ok (.iload_n 2, 1) := by decide +kernel
theorem dX6_cell_66 : decode cX6_cell 66 = .ok (.invokevirtual 234, 3) := by decide +kernel
theorem dX6_cell_69 : decode cX6_cell 69 = .ok (.invokevirtual 236, 3) := by decide +kernel
theorem dX6_cell_72 : decode cX6_cell 72 = .ok (.goto 15, 3) := by decide +kernel
theorem dX6_cell_75 : decode cX6_cell 75 = .ok (.aload_n 0, 1) := by decide +kernel
theorem dX6_cell_76 : decode cX6_cell 76 = .ok (.getfield 53, 3) := by decide +kernel
theorem dX6_cell_79 : decode cX6_cell 79 = .ok (.bipush 60, 2) := by decide +kernel
theorem dX6_cell_81 : decode cX6_cell 81 = .ok (.iload_n 1, 1) := by decide +kernel
theorem dX6_cell_82 : decode cX6_cell 82 = .ok (.imul, 1) := by decide +kernel
theorem dX6_cell_83 : decode cX6_cell 83 = .ok (.iload_n 2, 1) := by decide +kernel
theorem dX6_cell_84 : decode cX6_cell 84 = .ok (.iadd, 1) := by decide +kernel
theorem dX6_cell_85 : decode cX6_cell 85 = .ok (.iaload, 1) := by decide +kernel
theorem dX6_cell_86 : decode cX6_cell 86 = .ok (.i2l, 1) := by decide +kernel
theorem dX6_cell_87 : decode cX6_cell 87 = .ok (.lreturn, 1) := by decide +kernel
theorem dX6_isBeyond_0 : decode cX6_isBeyond 0 = .ok (.iload_n 0, 1) := by decide +kernel
theorem dX6_isBeyond_1 : decode cX6_isBeyond 1 = .ok (.ifCond .lt 19, 3) := by decide +kernel
theorem dX6_isBeyond_4 : decode cX6_isBeyond 4 = .ok (.lload_n 1, 1) := by decide +kernel
theorem dX6_isBeyond_5 : decode cX6_isBeyond 5 = .ok (.lconst 0, 1) := by decide +kernel
theorem dX6_isBeyond_6 : decode cX6_isBeyond 6 = .ok (.lcmp, 1) := by decide +kernel
theorem dX6_isBeyond_7 : decode cX6_isBeyond 7 = .ok (.ifCond .lt 13, 3) := by decide +kernel
theorem dX6_isBeyond_10 : decode cX6_isBeyond 10 = .ok (.iload_n 0, 1) := by decide +kernel
theorem dX6_isBeyond_11 : decode cX6_isBeyond 11 = .ok (.i2l, 1) := by decide +kernel
theorem dX6_isBeyond_12 : decode cX6_isBeyond 12 = .ok (.lload_n 1, 1) := by decide +kernel
theorem dX6_isBeyond_13 : decode cX6_isBeyond 13 = .ok (.ladd, 1) := by decide +kernel
theorem dX6_isBeyond_14 : decode cX6_isBeyond 14 = .ok (.iload_n 3, 1) := by decide +kernel
theorem dX6_isBeyond_15 : decode cX6_isBeyond 15 = .ok (.i2l, 1) := by decide +kernel
theorem dX6_isBeyond_16 : decode cX6_isBeyond 16 = .ok (.lcmp, 1) := by decide +kernel
theorem dX6_isBeyond_17 : decode cX6_isBeyond 17 = .ok (.ifCond .le 7, 3) := by decide +kernel
theorem dX6_isBeyond_20 : decode cX6_isBeyond 20 = .ok (.iconst 1, 1) := by decide +kernel
theorem dX6_isBeyond_21 : decode cX6_isBeyond 21 = .ok (.goto 4, 3) := by decide +kernel
theorem dX6_isBeyond_24 : decode cX6_isBeyond 24 = .ok (.iconst 0, 1) := by decide +kernel
theorem dX6_isBeyond_25 : decode cX6_isBeyond 25 = .ok (.ireturn, 1) := by decide +kernel
theorem dX6_copy_0 : decode cX6_copy 0 = .ok (.iload_n 1, 1) := by decide +kernel
theorem dX6_copy_1 : decode cX6_copy 1 = .ok (.invokestatic 117, 3) := by decide +kernel
theorem dX6_copy_4 : decode cX6_copy 4 = .ok (.ifCond .ne 10, 3) := by decide +kernel
theorem dX6_copy_7 : decode cX6_copy 7 = .ok (.iload_n 3, 1) := by decide +kernel
theorem dX6_copy_8 : decode cX6_copy 8 = .ok (.invokestatic 117, 3) := by decide +kernel
theorem dX6_copy_11 : decode cX6_copy 11 = .ok (.ifCond .eq 9, 3) := by decide +kernel
theorem dX6_copy_14 : decode cX6_copy 14 = .ok (.aload_n 0, 1) := by decide +kernel
theorem dX6_copy_15 : decode cX6_copy 15 = .ok (.iconst (-1), 1) := by decide +kernel
theorem dX6_copy_16 : decode cX6_copy 16 = .ok (.invokevirtual 121, 3) := by decide +kernel
theorem dX6_copy_19 : decode cX6_copy 19 = .ok (.ireturn, 1) := by decide +kernel
theorem dX6_copy_20 : decode cX6_copy 20 = .ok (.aload_n 0, 1) := by decide +kernel
theorem dX6_copy_21 : decode cX6_copy 21 = .ok (.getfield 47, 3) := by decide +kernel
theorem dX6_copy_24 : decode cX6_copy 24 = .ok (.iload_n 1, 1) := by decide +kernel
theorem dX6_copy_25 : decode cX6_copy 25 = .ok (.iaload, 1) := by decide +kernel
theorem dX6_copy_26 : decode cX6_copy 26 = .ok (.ifCond .lt 12, 3) := by decide +kernel
theorem dX6_copy_29 : decode cX6_copy 29 = .ok (.aload_n 0, 1) := by decide +kernel
theorem dX6_copy_30 : decode cX6_copy 30 = .ok (.getfield 47, 3) := by decide +kernel
theorem dX6_copy_33 : decode cX6_copy 33 = .ok (.iload_n 3, 1) := by decide +kernel
theorem dX6_copy_34 : decode cX6_copy 34 = .ok (.iaload, 1) := by decide +kernel
theorem dX6_copy_35 : decode cX6_copy 35 = .ok (.ifCond .ge 9, 3) := by decide +kernel
theorem dX6_copy_38 : decode cX6_copy 38 = .ok (.aload_n 0, 1) := by decide +kernel
theorem dX6_copy_39 : decode cX6_copy 39 = .ok (.iconst 1, 1) := by decide +kernel
theorem dX6_copy_40 : decode cX6_copy 40 = .ok (.invokevirtual 110, 3) := by decide +kernel
theorem dX6_copy_43 : decode cX6_copy 43 = .ok (.ireturn, 1) := by decide +kernel
theorem dX6_copy_44 : decode cX6_copy 44 = .ok (.aload_n 0, 1) := by decide +kernel
theorem dX6_copy_45 : decode cX6_copy 45 = .ok (.getfield 50, 3) := by decide +kernel
theorem dX6_copy_48 : decode cX6_copy 48 = .ok (.iload_n 1, 1) := by decide +kernel
theorem dX6_copy_49 : decode cX6_copy 49 = .ok (.iaload, 1) := by decide +kernel
theorem dX6_copy_50 : decode cX6_copy 50 = .ok (.aload_n 0, 1) := by decide +kernel
theorem dX6_copy_51 : decode cX6_copy 51 = .ok (.getfield 50, 3) := by decide +kernel
theorem dX6_copy_54 : decode cX6_copy 54 = .ok (.iload_n 3, 1) := by decide +kernel
theorem dX6_copy_55 : decode cX6_copy 55 = .ok (.iaload, 1) := by decide +kernel
theorem dX6_copy_56 : decode cX6_copy 56 = .ok (.if_icmp .eq 9, 3) := by decide +kernel
theorem dX6_copy_59 : decode cX6_copy 59 = .ok (.aload_n 0, 1) := by decide +kernel
theorem dX6_copy_60 : decode cX6_copy 60 = .ok (.iconst 2, 1) := by decide +kernel
theorem dX6_copy_61 : decode cX6_copy 61 = .ok (.invokevirtual 110, 3) := by decide +kernel
theorem dX6_copy_64 : decode cX6_copy 64 = .ok (.ireturn, 1) := by decide +kernel
theorem dX6_copy_65 : decode cX6_copy 65 = .ok (.iload_n 2, 1) := by decide +kernel
theorem dX6_copy_66 : decode cX6_copy 66 = .ok (.iload 5, 2) := by decide +kernel
theorem dX6_copy_68 : decode cX6_copy 68 = .ok (.i2l, 1) := by decide +kernel
theorem dX6_copy_69 : decode cX6_copy 69 = .ok (.aload_n 0, 1) := by decide +kernel
theorem dX6_copy_70 : decode cX6_copy 70 = .ok (.getfield 47, 3) := by decide +kernel
theorem dX6_copy_73 : decode cX6_copy 73 = .ok (.iload_n 1, 1) := by decide +kernel
theorem dX6_copy_74 : decode cX6_copy 74 = .ok (.iaload, 1) := by decide +kernel
theorem dX6_copy_75 : decode cX6_copy 75 = .ok (.invokestatic 113, 3) := by decide +kernel
theorem dX6_copy_78 : decode cX6_copy 78 = .ok (.ifCond .ne 20, 3) := by decide +kernel
theorem dX6_copy_81 : decode cX6_copy 81 = .ok (.iload 4, 2) := by decide +kernel
theorem dX6_copy_83 : decode cX6_copy 83 = .ok (.iload 5, 2) := by decide +kernel
theorem dX6_copy_85 : decode cX6_copy 85 = .ok (.i2l, 1) := by decide +kernel
theorem dX6_copy_86 : decode cX6_copy 86 = .ok (.aload_n 0, 1) := by decide +kernel
theorem dX6_copy_87 : decode cX6_copy 87 = .ok (.getfield 47, 3) := by decide +kernel
theorem dX6_copy_90 : decode cX6_copy 90 = .ok (.iload_n 3, 1) := by decide +kernel
theorem dX6_copy_91 : decode cX6_copy 91 = .ok (.iaload, 1) := by decide +kernel
theorem dX6_copy_92 : decode cX6_copy 92 = .ok (.invokestatic 113, 3) := by decide +kernel
theorem dX6_copy_95 : decode cX6_copy 95 = .ok (.ifCond .eq 9, 3) := by decide +kernel
theorem dX6_copy_98 : decode cX6_copy 98 = .ok (.aload_n 0, 1) := by decide +kernel
theorem dX6_copy_99 : decode cX6_copy 99 = .ok (.iconst 3, 1) := by decide +kernel
theorem dX6_copy_100 : decode cX6_copy 100 = .ok (.invokevirtual 110, 3) := by decide +kernel
theorem dX6_copy_103 : decode cX6_copy 103 = .ok (.ireturn, 1) := by decide +kernel
theorem dX6_copy_104 : decode cX6_copy 104 = .ok (.iconst 0, 1) := by decide +kernel
theorem dX6_copy_105 : decode cX6_copy 105 = .ok (.istore 6, 2) := by decide +kernel
theorem dX6_copy_107 : decode cX6_copy 107 = .ok (.iload 6, 2) := by decide +kernel
theorem dX6_copy_109 : decode cX6_copy 109 = .ok (.iload 5, 2) := by decide +kernel
theorem dX6_copy_111 : decode cX6_copy 111 = .ok (.if_icmp .ge 30, 3) := by decide +kernel
theorem dX6_copy_114 : decode cX6_copy 114 = .ok (.aload_n 0, 1) := by decide +kernel
theorem dX6_copy_115 : decode cX6_copy 115 = .ok (.getfield 56, 3) := by decide +kernel
theorem dX6_copy_118 : decode cX6_copy 118 = .ok (.iload 6, 2) := by decide +kernel
theorem dX6_copy_120 : decode cX6_copy 120 = .ok (.aload_n 0, 1) := by decide +kernel
theorem dX6_copy_121 : decode cX6_copy 121 = .ok (.getfield 53, 3) := by decide +kernel
theorem dX6_copy_124 : decode cX6_copy 124 = .ok (.bipush 60, 2) := by decide +kernel
theorem dX6_copy_126 : decode cX6_copy 126 = .ok (.iload_n 1, 1) := by decide +kernel
theorem dX6_copy_127 : decode cX6_copy 127 = .ok (.imul, 1) := by decide +kernel
theorem dX6_copy_128 : decode cX6_copy 128 = .ok (.iload_n 2, 1) := by decide +kernel
theorem dX6_copy_129 : decode cX6_copy 129 = .ok (.iadd, 1) := by decide +kernel
theorem dX6_copy_130 : decode cX6_copy 130 = .ok (.iload 6, 2) := by decide +kernel
theorem dX6_copy_132 : decode cX6_copy 132 = .ok (.iadd, 1) := by decide +kernel
theorem dX6_copy_133 : decode cX6_copy 133 = .ok (.iaload, 1) := by decide +kernel
theorem dX6_copy_134 : decode cX6_copy 134 = .ok (.iastore, 1) := by decide +kernel
theorem dX6_copy_135 : decode cX6_copy 135 = .ok (.iinc 6 1, 3) := by decide +kernel
theorem dX6_copy_138 : decode cX6_copy 138 = .ok (.goto (-31), 3) := by decide +kernel
theorem dX6_copy_141 : decode cX6_copy 141 = .ok (.iconst 0, 1) := by decide +kernel
theorem dX6_copy_142 : decode cX6_copy 142 = .ok (.istore 6, 2) := by decide +kernel
theorem dX6_copy_144 : decode cX6_copy 144 = .ok (.iload 6, 2) := by decide +kernel
theorem dX6_copy_146 : decode cX6_copy 146 = .ok (.iload 5, 2) := by decide +kernel
theorem dX6_copy_148 : decode cX6_copy 148 = .ok (.if_icmp .ge 31, 3) := by decide +kernel
theorem dX6_copy_151 : decode cX6_copy 151 = .ok (.aload_n 0, 1) := by decide +kernel
theorem dX6_copy_152 : decode cX6_copy 152 = .ok (.getfield 53, 3) := by decide +kernel
theorem dX6_copy_155 : decode cX6_copy 155 = .ok (.bipush 60, 2) := by decide +kernel
theorem dX6_copy_157 : decode cX6_copy 157 = .ok (.iload_n 3, 1) := by decide +kernel
theorem dX6_copy_158 : decode cX6_copy 158 = .ok (.imul, 1) := by decide +kernel
theorem dX6_copy_159 : decode cX6_copy 159 = .ok (.iload 4, 2) := by decide +kernel
theorem dX6_copy_161 : decode cX6_copy 161 = .ok (.iadd, 1) := by decide +kernel
theorem dX6_copy_162 : decode cX6_copy 162 = .ok (.iload 6, 2) := by decide +kernel
theorem dX6_copy_164 : decode cX6_copy 164 = .ok (.iadd, 1) := by decide +kernel
theorem dX6_copy_165 : decode cX6_copy 165 = .ok (.aload_n 0, 1) := by decide +kernel
theorem dX6_copy_166 : decode cX6_copy 166 = .ok (.getfield 56, 3) := by decide +kernel
theorem dX6_copy_169 : decode cX6_copy 169 = .ok (.iload 6, 2) := by decide +kernel
theorem dX6_copy_171 : decode cX6_copy 171 = .ok (.iaload, 1) := by decide +kernel
theorem dX6_copy_172 : decode cX6_copy 172 = .ok (.iastore, 1) := by decide +kernel
theorem dX6_copy_173 : decode cX6_copy 173 = .ok (.iinc 6 1, 3) := by decide +kernel
theorem dX6_copy_176 : decode cX6_copy 176 = .ok (.goto (-32), 3) := by decide +kernel
theorem dX6_copy_179 : decode cX6_copy 179 = .ok (.aload_n 0, 1) := by decide +kernel
theorem dX6_copy_180 : decode cX6_copy 180 = .ok (.iload 5, 2) := by decide +kernel
theorem dX6_copy_182 : decode cX6_copy 182 = .ok (.invokevirtual 121, 3) := by decide +kernel
theorem dX6_copy_185 : decode cX6_copy 185 = .ok (.ireturn, 1) := by decide +kernel
theorem dX6_traced_0 : decode cX6_traced 0 = .ok (.aload_n 0, 1) := by decide +kernel
theorem dX6_traced_1 : decode cX6_traced 1 = .ok (.bipush 31, 2) := by decide +kernel
theorem dX6_traced_3 : decode cX6_traced 3 = .ok (.aload_n 0, 1) := by decide +kernel
theorem dX6_traced_4 : decode cX6_traced 4 = .ok (.getfield 239, 3) := by decide +kernel
theorem dX6_traced_7 : decode cX6_traced 7 = .ok (.imul, 1) := by decide +kernel
theorem dX6_traced_8 : decode cX6_traced 8 = .ok (.iload_n 1, 1) := by decide +kernel
theorem dX6_traced_9 : decode cX6_traced 9 = .ok (.iadd, 1) := by decide +kernel
theorem dX6_traced_10 : decode cX6_traced 10 = .ok (.putfield 239, 3) := by decide +kernel
theorem dX6_traced_13 : decode cX6_traced 13 = .ok (.return_, 1) := by decide +kernel
theorem dX6_tell_0 : decode cX6_tell 0 = .ok (.aload_n 0, 1) := by decide +kernel
theorem dX6_tell_1 : decode cX6_tell 1 = .ok (.iload_n 1, 1) := by decide +kernel
theorem dX6_tell_2 : decode cX6_tell 2 = .ok (.invokevirtual 149, 3) := by decide +kernel
theorem dX6_tell_5 : decode cX6_tell 5 = .ok (.ifCond .eq 5, 3) := by decide +kernel
theorem dX6_tell_8 : decode cX6_tell 8 = .ok (.iconst (-1), 1) := by decide +kernel
theorem dX6_tell_9 : decode cX6_tell 9 = .ok (.ireturn, 1) := by decide +kernel
theorem dX6_tell_10 : decode cX6_tell 10 = .ok (.aload_n 0, 1) := by decide +kernel
theorem dX6_tell_11 : decode cX6_tell 11 = .ok (.getfield 22, 3) := by decide +kernel
theorem dX6_tell_14 : decode cX6_tell 14 = .ok (.iload_n 1, 1) := by decide +kernel
theorem dX6_tell_15 : decode cX6_tell 15 = .ok (.iaload, 1) := by decide +kernel
theorem dX6_tell_16 : decode cX6_tell 16 = .ok (.istore_n 2, 1) := by decide +kernel
theorem dX6_tell_17 : decode cX6_tell 17 = .ok (.iload_n 2, 1) := by decide +kernel
theorem dX6_tell_18 : decode cX6_tell 18 = .ok (.iconst 2, 1) := by decide +kernel
theorem dX6_tell_19 : decode cX6_tell 19 = .ok (.if_icmp .ne 8, 3) := by decide +kernel
theorem dX6_tell_22 : decode cX6_tell 22 = .ok (.aload_n 0, 1) := by decide +kernel
theorem dX6_tell_23 : decode cX6_tell 23 = .ok (.iconst 3, 1) := by decide +kernel
theorem dX6_tell_24 : decode cX6_tell 24 = .ok (.invokevirtual 242, 3) := by decide +kernel
theorem dX6_tell_27 : decode cX6_tell 27 = .ok (.iload_n 2, 1) := by decide +kernel
theorem dX6_tell_28 : decode cX6_tell 28 = .ok (.ifCond .le 8, 3) := by decide +kernel
theorem dX6_tell_31 : decode cX6_tell 31 = .ok (.aload_n 0, 1) := by decide +kernel
theorem dX6_tell_32 : decode cX6_tell 32 = .ok (.iconst 2, 1) := by decide +kernel
theorem dX6_tell_33 : decode cX6_tell 33 = .ok (.invokevirtual 242, 3) := by decide +kernel
theorem dX6_tell_36 : decode cX6_tell 36 = .ok (.aload_n 0, 1) := by decide +kernel
theorem dX6_tell_37 : decode cX6_tell 37 = .ok (.iconst 1, 1) := by decide +kernel
theorem dX6_tell_38 : decode cX6_tell 38 = .ok (.invokevirtual 242, 3) := by decide +kernel
theorem dX6_tell_41 : decode cX6_tell 41 = .ok (.iload_n 2, 1) := by decide +kernel
theorem dX6_tell_42 : decode cX6_tell 42 = .ok (.iconst 2, 1) := by decide +kernel
theorem dX6_tell_43 : decode cX6_tell 43 = .ok (.if_icmp .ne 8, 3) := by decide +kernel
theorem dX6_tell_46 : decode cX6_tell 46 = .ok (.aload_n 0, 1) := by decide +kernel
theorem dX6_tell_47 : decode cX6_tell 47 = .ok (.iconst 1, 1) := by decide +kernel
theorem dX6_tell_48 : decode cX6_tell 48 = .ok (.invokevirtual 242, 3) := by decide +kernel
theorem dX6_tell_51 : decode cX6_tell 51 = .ok (.aload_n 0, 1) := by decide +kernel
theorem dX6_tell_52 : decode cX6_tell 52 = .ok (.getfield 25, 3) := by decide +kernel
theorem dX6_tell_55 : decode cX6_tell 55 = .ok (.iload_n 1, 1) := by decide +kernel
theorem dX6_tell_56 : decode cX6_tell 56 = .ok (.iaload, 1) := by decide +kernel
theorem dX6_tell_57 : decode cX6_tell 57 = .ok (.istore_n 3, 1) := by decide +kernel
theorem dX6_tell_58 : decode cX6_tell 58 = .ok (.iload_n 2, 1) := by decide +kernel
theorem dX6_tell_59 : decode cX6_tell 59 = .ok (.ifCond .ne 7, 3) := by decide +kernel
theorem dX6_tell_62 : decode cX6_tell 62 = .ok (.iload_n 3, 1) := by decide +kernel
theorem dX6_tell_63 : decode cX6_tell 63 = .ok (.goto 21, 3) := by decide +kernel
theorem dX6_tell_66 : decode cX6_tell 66 = .ok (.iload_n 2, 1) := by decide +kernel
theorem dX6_tell_67 : decode cX6_tell 67 = .ok (.iconst 1, 1) := by decide +kernel
theorem dX6_tell_68 : decode cX6_tell 68 = .ok (.if_icmp .ne 10, 3) := by decide +kernel
theorem dX6_tell_71 : decode cX6_tell 71 = .ok (.iload_n 3, 1) := by decide +kernel
theorem dX6_tell_72 : decode cX6_tell 72 = .ok (.bipush 100, 2) := by decide +kernel
theorem dX6_tell_74 : decode cX6_tell 74 = .ok (.iadd, 1) := by decide +kernel
theorem dX6_tell_75 : decode cX6_tell 75 = .ok (.goto 9, 3) := by decide +kernel
theorem dX6_tell_78 : decode cX6_tell 78 = .ok (.iconst 2, 1) := by decide +kernel
theorem dX6_tell_79 : decode cX6_tell 79 = .ok (.iload_n 3, 1) := by decide +kernel
theorem dX6_tell_80 : decode cX6_tell 80 = .ok (.imul, 1) := by decide +kernel
theorem dX6_tell_81 : decode cX6_tell 81 = .ok (.bipush 100, 2) := by decide +kernel
theorem dX6_tell_83 : decode cX6_tell 83 = .ok (.iadd, 1) := by decide +kernel
theorem dX6_tell_84 : decode cX6_tell 84 = .ok (.ireturn, 1) := by decide +kernel
theorem dX6_weigh_0 : decode cX6_weigh 0 = .ok (.aload_n 0, 1) := by decide +kernel
theorem dX6_weigh_1 : decode cX6_weigh 1 = .ok (.iload_n 1, 1) := by decide +kernel
theorem dX6_weigh_2 : decode cX6_weigh 2 = .ok (.invokevirtual 149, 3) := by decide +kernel
theorem dX6_weigh_5 : decode cX6_weigh 5 = .ok (.ifCond .eq 5, 3) := by decide +kernel
theorem dX6_weigh_8 : decode cX6_weigh 8 = .ok (.iconst (-1), 1) := by decide +kernel
theorem dX6_weigh_9 : decode cX6_weigh 9 = .ok (.ireturn, 1) := by decide +kernel
theorem dX6_weigh_10 : decode cX6_weigh 10 = .ok (.aload_n 0, 1) := by decide +kernel
theorem dX6_weigh_11 : decode cX6_weigh 11 = .ok (.aload_n 0, 1) := by decide +kernel
theorem dX6_weigh_12 : decode cX6_weigh 12 = .ok (.getfield 22, 3) := by decide +kernel
theorem dX6_weigh_15 : decode cX6_weigh 15 = .ok (.iload_n 1, 1) := by decide +kernel
theorem dX6_weigh_16 : decode cX6_weigh 16 = .ok (.iaload, 1) := by decide +kernel
theorem dX6_weigh_17 : decode cX6_weigh 17 = .ok (.iconst 2, 1) := by decide +kernel
theorem dX6_weigh_18 : decode cX6_weigh 18 = .ok (.if_icmp .ne 7, 3) := by decide +kernel
theorem dX6_weigh_21 : decode cX6_weigh 21 = .ok (.iconst 5, 1) := by decide +kernel
theorem dX6_weigh_22 : decode cX6_weigh 22 = .ok (.goto 4, 3) := by decide +kernel
theorem dX6_weigh_25 : decode cX6_weigh 25 = .ok (.iconst 4, 1) := by decide +kernel
theorem dX6_weigh_26 : decode cX6_weigh 26 = .ok (.invokevirtual 242, 3) := by decide +kernel
theorem dX6_weigh_29 : decode cX6_weigh 29 = .ok (.aload_n 0, 1) := by decide +kernel
theorem dX6_weigh_30 : decode cX6_weigh 30 = .ok (.getfield 22, 3) := by decide +kernel
theorem dX6_weigh_33 : decode cX6_weigh 33 = .ok (.iload_n 1, 1) := by decide +kernel
theorem dX6_weigh_34 : decode cX6_weigh 34 = .ok (.iaload, 1) := by decide +kernel
theorem dX6_weigh_35 : decode cX6_weigh 35 = .ok (.iconst 2, 1) := by decide +kernel
theorem dX6_weigh_36 : decode cX6_weigh 36 = .ok (.if_icmp .ne 8, 3) := by decide +kernel
theorem dX6_weigh_39 : decode cX6_weigh 39 = .ok (.bipush 60, 2) := by decide +kernel
theorem dX6_weigh_41 : decode cX6_weigh 41 = .ok (.goto 4, 3) := by decide +kernel
theorem dX6_weigh_44 : decode cX6_weigh 44 = .ok (.iload_n 1, 1) := by decide +kernel
theorem dX6_weigh_45 : decode cX6_weigh 45 = .ok (.ireturn, 1) := by decide +kernel
theorem dX6_as_0 : decode cX6_as 0 = .ok (.aload_n 0, 1) := by decide +kernel
theorem dX6_as_1 : decode cX6_as 1 = .ok (.iload_n 1, 1) := by decide +kernel
theorem dX6_as_2 : decode cX6_as 2 = .ok (.invokevirtual 149, 3) := by decide +kernel
theorem dX6_as_5 : decode cX6_as 5 = .ok (.ifCond .eq 9, 3) := by decide +kernel
theorem dX6_as_8 : decode cX6_as 8 = .ok (.aload_n 0, 1) := by decide +kernel
theorem dX6_as_9 : decode cX6_as 9 = .ok (.iconst (-1), 1) := by decide +kernel
theorem dX6_as_10 : decode cX6_as 10 = .ok (.invokevirtual 121, 3) := by decide +kernel
theorem dX6_as_13 : decode cX6_as 13 = .ok (.ireturn, 1) := by decide +kernel
theorem dX6_as_14 : decode cX6_as 14 = .ok (.iload_n 2, 1) := by decide +kernel
theorem dX6_as_15 : decode cX6_as 15 = .ok (.i2l, 1) := by decide +kernel
theorem dX6_as_16 : decode cX6_as 16 = .ok (.lconst 0, 1) := by decide +kernel
theorem dX6_as_17 : decode cX6_as 17 = .ok (.ldc2_w 124, 3) := by decide +kernel
theorem dX6_as_20 : decode cX6_as 20 = .ok (.invokestatic 79, 3) := by decide +kernel
theorem dX6_as_23 : decode cX6_as 23 = .ok (.ifCond .ne 10, 3) := by decide +kernel
theorem dX6_as_26 : decode cX6_as 26 = .ok (.aload_n 0, 1) := by decide +kernel
theorem dX6_as_27 : decode cX6_as 27 = .ok (.bipush (-2), 2) := by decide +kernel
theorem dX6_as_29 : decode cX6_as 29 = .ok (.invokevirtual 121, 3) := by decide +kernel
theorem dX6_as_32 : decode cX6_as 32 = .ok (.ireturn, 1) := by decide +kernel
theorem dX6_as_33 : decode cX6_as 33 = .ok (.aload_n 0, 1) := by decide +kernel
theorem dX6_as_34 : decode cX6_as 34 = .ok (.getfield 22, 3) := by decide +kernel
theorem dX6_as_37 : decode cX6_as 37 = .ok (.iload_n 1, 1) := by decide +kernel
theorem dX6_as_38 : decode cX6_as 38 = .ok (.iaload, 1) := by decide +kernel
theorem dX6_as_39 : decode cX6_as 39 = .ok (.iload_n 2, 1) := by decide +kernel
theorem dX6_as_40 : decode cX6_as 40 = .ok (.if_icmp .lt 11, 3) := by decide +kernel
theorem dX6_as_43 : decode cX6_as 43 = .ok (.aload_n 0, 1) := by decide +kernel
theorem dX6_as_44 : decode cX6_as 44 = .ok (.iconst 1, 1) := by decide +kernel
theorem dX6_as_45 : decode cX6_as 45 = .ok (.invokevirtual 121, 3) := by decide +kernel
theorem dX6_as_48 : decode cX6_as 48 = .ok (.goto 8, 3) := by decide +kernel
theorem dX6_as_51 : decode cX6_as 51 = .ok (.aload_n 0, 1) := by decide +kernel
theorem dX6_as_52 : decode cX6_as 52 = .ok (.iconst 2, 1) := by decide +kernel
theorem dX6_as_53 : decode cX6_as 53 = .ok (.invokevirtual 110, 3) := by decide +kernel
theorem dX6_as_56 : decode cX6_as 56 = .ok (.ireturn, 1) := by decide +kernel
theorem dX6_trace_0 : decode cX6_trace 0 = .ok (.aload_n 0, 1) := by decide +kernel
theorem dX6_trace_1 : decode cX6_trace 1 = .ok (.getfield 239, 3) := by decide +kernel
theorem dX6_trace_4 : decode cX6_trace 4 = .ok (.ireturn, 1) := by decide +kernel
theorem dX6_fault_0 : decode cX6_fault 0 = .ok (.aload_n 0, 1) := by decide +kernel
theorem dX6_fault_1 : decode cX6_fault 1 = .ok (.getfield 61, 3) := by decide +kernel
theorem dX6_fault_4 : decode cX6_fault 4 = .ok (.ireturn, 1) := by decide +kernel
theorem dX6_many_0 : decode cX6_many 0 = .ok (.iload_n 1, 1) := by decide +kernel
theorem dX6_many_1 : decode cX6_many 1 = .ok (.tableswitch 59 0 3 #[31, 36, 41, 46], 31) := by decide +kernel
theorem dX6_many_32 : decode cX6_many 32 = .ok (.aload_n 0, 1) := by decide +kernel
theorem dX6_many_33 : decode cX6_many 33 = .ok (.invokevirtual 75, 3) := by decide +kernel
theorem dX6_many_36 : decode cX6_many 36 = .ok (.ireturn, 1) := by decide +kernel
theorem dX6_many_37 : decode cX6_many 37 = .ok (.aload_n 0, 1) := by decide +kernel
theorem dX6_many_38 : decode cX6_many 38 = .ok (.getfield 72, 3) := by decide +kernel
theorem dX6_many_41 : decode cX6_many 41 = .ok (.ireturn, 1) := by decide +kernel
theorem dX6_many_42 : decode cX6_many 42 = .ok (.aload_n 0, 1) := by decide +kernel
theorem dX6_many_43 : decode cX6_many 43 = .ok (.getfield 138, 3) := by decide +kernel
theorem dX6_many_46 : decode cX6_many 46 = .ok (.ireturn, 1) := by decide +kernel
theorem dX6_many_47 : decode cX6_many 47 = .ok (.aload_n 0, 1) := by decide +kernel
theorem dX6_many_48 : decode cX6_many 48 = .ok (.getfield 134, 3) := by decide +kernel
theorem dX6_many_51 : decode cX6_many 51 = .ok (.ifCond .eq 7, 3) := by decide +kernel
theorem dX6_many_54 : decode cX6_many 54 = .ok (.iconst 1, 1) := by decide +kernel
theorem dX6_many_55 : decode cX6_many 55 = .ok (.goto 4, 3) := by decide +kernel
theorem dX6_many_58 : decode cX6_many 58 = .ok (.iconst 0, 1) := by decide +kernel
theorem dX6_many_59 : decode cX6_many 59 = .ok (.ireturn, 1) := by decide +kernel
theorem dX6_many_60 : decode cX6_many 60 = .ok (.bipush (-2), 2) := by decide +kernel
theorem dX6_many_62 : decode cX6_many 62 = .ok (.ireturn, 1) := by decide +kernel
theorem dJ7_fill_53178_0 : decode cJ7_fill_53178 0 = .ok (.iconst 0, 1) := by decide +kernel
theorem dJ7_fill_53178_1 : decode cJ7_fill_53178 1 = .ok (.istore_n 2, 1) := by decide +kernel
theorem dJ7_fill_53178_2 : decode cJ7_fill_53178 2 = .ok (.aload_n 0, 1) := by decide +kernel
theorem dJ7_fill_53178_3 : decode cJ7_fill_53178 3 = .ok (.arraylength, 1) := by decide +kernel
theorem dJ7_fill_53178_4 : decode cJ7_fill_53178 4 = .ok (.istore_n 3, 1) := by decide +kernel
theorem dJ7_fill_53178_5 : decode cJ7_fill_53178 5 = .ok (.iload_n 2, 1) := by decide +kernel
theorem dJ7_fill_53178_6 : decode cJ7_fill_53178 6 = .ok (.iload_n 3, 1) := by decide +kernel
theorem dJ7_fill_53178_7 : decode cJ7_fill_53178 7 = .ok (.if_icmp .ge 13, 3) := by decide +kernel
theorem dJ7_fill_53178_10 : decode cJ7_fill_53178 10 = .ok (.aload_n 0, 1) := by decide +kernel
theorem dJ7_fill_53178_11 : decode cJ7_fill_53178 11 = .ok (.iload_n 2, 1) := by decide +kernel
theorem dJ7_fill_53178_12 : decode cJ7_fill_53178 12 = .ok (.iload_n 1, 1) := by decide +kernel
theorem dJ7_fill_53178_13 : decode cJ7_fill_53178 13 = .ok (.iastore, 1) := by decide +kernel
theorem dJ7_fill_53178_14 : decode cJ7_fill_53178 14 = .ok (.iinc 2 1, 3) := by decide +kernel
theorem dJ7_fill_53178_17 : decode cJ7_fill_53178 17 = .ok (.goto (-12), 3) := by decide +kernel
theorem dJ7_fill_53178_20 : decode cJ7_fill_53178 20 = .ok (.return_, 1) := by decide +kernel
theorem dL_law_0 : decode cL_law 0 = .ok (.new 7, 3) := by decide +kernel
theorem dL_law_3 : decode cL_law 3 = .ok (.dup, 1) := by decide +kernel
theorem dL_law_4 : decode cL_law 4 = .ok (.invokespecial 9, 3) := by decide +kernel
theorem dL_law_7 : decode cL_law 7 = .ok (.astore_n 1, 1) := by decide +kernel
theorem dL_law_8 : decode cL_law 8 = .ok (.new 10, 3) := by decide +kernel
theorem dL_law_11 : decode cL_law 11 = .ok (.dup, 1) := by decide +kernel
theorem dL_law_12 : decode cL_law 12 = .ok (.invokespecial 12, 3) := by decide +kernel
theorem dL_law_15 : decode cL_law 15 = .ok (.astore_n 2, 1) := by decide +kernel
theorem dL_law_16 : decode cL_law 16 = .ok (.iconst 0, 1) := by decide +kernel
theorem dL_law_17 : decode cL_law 17 = .ok (.istore_n 3, 1) := by decide +kernel
theorem dL_law_18 : decode cL_law 18 = .ok (.iload_n 3, 1) := by decide +kernel
theorem dL_law_19 : decode cL_law 19 = .ok (.aload_n 0, 1) := by decide +kernel
theorem dL_law_20 : decode cL_law 20 = .ok (.arraylength, 1) := by decide +kernel
theorem dL_law_21 : decode cL_law 21 = .ok (.bipush 6, 2) := by decide +kernel
theorem dL_law_23 : decode cL_law 23 = .ok (.isub, 1) := by decide +kernel
theorem dL_law_24 : decode cL_law 24 = .ok (.if_icmp .gt 1137, 3) := by decide +kernel
theorem dL_law_27 : decode cL_law 27 = .ok (.aload_n 0, 1) := by decide +kernel
theorem dL_law_28 : decode cL_law 28 = .ok (.iload_n 3, 1) := by decide +kernel
theorem dL_law_29 : decode cL_law 29 = .ok (.iaload, 1) := by decide +kernel
theorem dL_law_30 : decode cL_law 30 = .ok (.bipush 31, 2) := by decide +kernel
theorem dL_law_32 : decode cL_law 32 = .ok (.iand, 1) := by decide +kernel
theorem dL_law_33 : decode cL_law 33 = .ok (.tableswitch 1122 0 30 #[139, 192, 215, 248, 271, 310, 343, 376, 399, 452, 496, 530, 563, 586, 619, 642, 665, 688, 712, 765, 778, 821, 844, 887, 931, 994, 1017, 1040, 1073, 1086, 1099], 139) := by decide +kernel
theorem dL_law_172 : decode cL_law 172 = .ok (.aload_n 1, 1) := by decide +kernel
theorem dL_law_173 : decode cL_law 173 = .ok (.aload_n 0, 1) := by decide +kernel
theorem dL_law_174 : decode cL_law 174 = .ok (.iload_n 3, 1) := by decide +kernel
theorem dL_law_175 : decode cL_law 175 = .ok (.iconst 1, 1) := by decide +kernel
theorem dL_law_176 : decode cL_law 176 = .ok (.iadd, 1) := by decide +kernel
theorem dL_law_177 : decode cL_law 177 = .ok (.iaload, 1) := by decide +kernel
theorem dL_law_178 : decode cL_law 178 = .ok (.aload_n 0, 1) := by decide +kernel
theorem dL_law_179 : decode cL_law 179 = .ok (.iload_n 3, 1) := by decide +kernel
theorem dL_law_180 : decode cL_law 180 = .ok (.iconst 2, 1) := by decide +kernel
theorem dL_law_181 : decode cL_law 181 = .ok (.iadd, 1) := by decide +kernel
theorem dL_law_182 : decode cL_law 182 = .ok (.iaload, 1) := by decide +kernel
theorem dL_law_183 : decode cL_law 183 = .ok (.aload_n 0, 1) := by decide +kernel
theorem dL_law_184 : decode cL_law 184 = .ok (.iload_n 3, 1) := by decide +kernel
theorem dL_law_185 : decode cL_law 185 = .ok (.iconst 3, 1) := by decide +kernel
theorem dL_law_186 : decode cL_law 186 = .ok (.iadd, 1) := by decide +kernel
theorem dL_law_187 : decode cL_law 187 = .ok (.iaload, 1) := by decide +kernel
theorem dL_law_188 : decode cL_law 188 = .ok (.aload_n 0, 1) := by decide +kernel
theorem dL_law_189 : decode cL_law 189 = .ok (.iload_n 3, 1) := by decide +kernel
theorem dL_law_190 : decode cL_law 190 = .ok (.iconst 4, 1) := by decide +kernel
theorem dL_law_191 : decode cL_law 191 = .ok (.iadd, 1) := by decide +kernel
theorem dL_law_192 : decode cL_law 192 = .ok (.iaload, 1) := by decide +kernel
theorem dL_law_193 : decode cL_law 193 = .ok (.invokevirtual 13, 3) := by decide +kernel
theorem dL_law_196 : decode cL_law 196 = .ok (.aload_n 2, 1) := by decide +kernel
theorem dL_law_197 : decode cL_law 197 = .ok (.aload_n 0, 1) := by decide +kernel
theorem dL_law_198 : decode cL_law 198 = .ok (.iload_n 3, 1) := by decide +kernel
theorem dL_law_199 : decode cL_law 199 = .ok (.iconst 1, 1) := by decide +kernel
theorem dL_law_200 : decode cL_law 200 = .ok (.iadd, 1) := by decide +kernel
theorem dL_law_201 : decode cL_law 201 = .ok (.iaload, 1) := by decide +kernel
theorem dL_law_202 : decode cL_law 202 = .ok (.aload_n 0, 1) := by decide +kernel
theorem dL_law_203 : decode cL_law 203 = .ok (.iload_n 3, 1) := by decide +kernel
theorem dL_law_204 : decode cL_law 204 = .ok (.iconst 2, 1) := by decide +kernel
theorem dL_law_205 : decode cL_law 205 = .ok (.iadd, 1) := by decide +kernel
theorem dL_law_206 : decode cL_law 206 = .ok (.iaload, 1) := by decide +kernel
theorem dL_law_207 : decode cL_law 207 = .ok (.aload_n 0, 1) := by decide +kernel
theorem dL_law_208 : decode cL_law 208 = .ok (.iload_n 3, 1) := by decide +kernel
theorem dL_law_209 : decode cL_law 209 = .ok (.iconst 3, 1) := by decide +kernel
theorem dL_law_210 : decode cL_law 210 = .ok (.iadd, 1) := by decide +kernel
theorem dL_law_211 : decode cL_law 211 = .ok (.iaload, 1) := by decide +kernel
theorem dL_law_212 : decode cL_law 212 = .ok (.aload_n 0, 1) := by decide +kernel
theorem dL_law_213 : decode cL_law 213 = .ok (.iload_n 3, 1) := by decide +kernel
theorem dL_law_214 : decode cL_law 214 = .ok (.iconst 4, 1) := by decide +kernel
theorem dL_law_215 : decode cL_law 215 = .ok (.iadd, 1) := by decide +kernel
theorem dL_law_216 : decode cL_law 216 = .ok (.iaload, 1) := by decide +kernel
theorem dL_law_217 : decode cL_law 217 = .ok (.invokevirtual 17, 3) := by decide +kernel
theorem dL_law_220 : decode cL_law 220 = .ok (.if_icmp .eq 935, 3) := by decide +kernel
theorem dL_law_223 : decode cL_law 223 = .ok (.iconst 0, 1) := by decide +kernel
theorem dL_law_224 : decode cL_law 224 = .ok (.ireturn, 1) := by decide +kernel
theorem dL_law_225 : decode cL_law 225 = .ok (.aload_n 1, 1) := by decide +kernel
theorem dL_law_226 : decode cL_law 226 = .ok (.aload_n 0, 1) := by decide +kernel
theorem dL_law_227 : decode cL_law 227 = .ok (.iload_n 3, 1) := by decide +kernel
theorem dL_law_228 : decode cL_law 228 = .ok (.iconst 1, 1) := by decide +kernel
theorem dL_law_229 : decode cL_law 229 = .ok (.iadd, 1) := by decide +kernel
theorem dL_law_230 : decode cL_law 230 = .ok (.iaload, 1) := by decide +kernel
theorem dL_law_231 : decode cL_law 231 = .ok (.invokevirtual 18, 3) := by decide +kernel
theorem dL_law_234 : decode cL_law 234 = .ok (.aload_n 2, 1) := by decide +kernel
theorem dL_law_235 : decode cL_law 235 = .ok (.aload_n 0, 1) := by decide +kernel
theorem dL_law_236 : decode cL_law 236 = .ok (.iload_n 3, 1) := by decide +kernel
theorem dL_law_237 : decode cL_law 237 = .ok (.iconst 1, 1) := by decide +kernel
theorem dL_law_238 : decode cL_law 238 = .ok (.iadd, 1) := by decide +kernel
theorem dL_law_239 : decode cL_law 239 = .ok (.iaload, 1) := by decide +kernel
theorem dL_law_240 : decode cL_law 240 = .ok (.invokevirtual 22, 3) := by decide +kernel
theorem dL_law_243 : decode cL_law 243 = .ok (.if_icmp .eq 912, 3) := by decide +kernel
theorem dL_law_246 : decode cL_law 246 = .ok (.iconst 0, 1) := by decide +kernel
theorem dL_law_247 : decode cL_law 247 = .ok (.ireturn, 1) := by decide +kernel
theorem dL_law_248 : decode cL_law 248 = .ok (.aload_n 1, 1) := by decide +kernel
theorem dL_law_249 : decode cL_law 249 = .ok (.aload_n 0, 1) := by decide +kernel
theorem dL_law_250 : decode cL_law 250 = .ok (.iload_n 3, 1) := by decide +kernel
theorem dL_law_251 : decode cL_law 251 = .ok (.iconst 1, 1) := by decide +kernel
theorem dL_law_252 : decode cL_law 252 = .ok (.iadd, 1) := by decide +kernel
theorem dL_law_253 : decode cL_law 253 = .ok (.iaload, 1) := by decide +kernel
theorem dL_law_254 : decode cL_law 254 = .ok (.aload_n 0, 1) := by decide +kernel
theorem dL_law_255 : decode cL_law 255 = .ok (.iload_n 3, 1) := by decide +kernel
theorem dL_law_256 : decode cL_law 256 = .ok (.iconst 2, 1) := by decide +kernel
theorem dL_law_257 : decode cL_law 257 = .ok (.iadd, 1) := by decide +kernel
theorem dL_law_258 : decode cL_law 258 = .ok (.iaload, 1) := by decide +kernel
theorem dL_law_259 : decode cL_law 259 = .ok (.invokevirtual 23, 3) := by decide +kernel
theorem dL_law_262 : decode cL_law 262 = .ok (.aload_n 2, 1) := by decide +kernel
theorem dL_law_263 : decode cL_law 263 = .ok (.aload_n 0, 1) := by decide +kernel
theorem dL_law_264 : decode cL_law 264 = .ok (.iload_n 3, 1) := by decide +kernel
theorem dL_law_265 : decode cL_law 265 = .ok (.iconst 1, 1) := by decide +kernel
theorem dL_law_266 : decode cL_law 266 = .ok (.iadd, 1) := by decide +kernel
theorem dL_law_267 : decode cL_law 267 = .ok (.iaload, 1) := by decide +kernel
theorem dL_law_268 : decode cL_law 268 = .ok (.aload_n 0, 1) := by decide +kernel
theorem dL_law_269 : decode cL_law 269 = .ok (.iload_n 3, 1) := by decide +kernel
theorem dL_law_270 : decode cL_law 270 = .ok (.iconst 2, 1) := by decide +kernel
theorem dL_law_271 : decode cL_law 271 = .ok (.iadd, 1) := by decide +kernel
theorem dL_law_272 : decode cL_law 272 = .ok (.iaload, 1) := by decide +kernel
theorem dL_law_273 : decode cL_law 273 = .ok (.invokevirtual 27, 3) := by decide +kernel
theorem dL_law_276 : decode cL_law 276 = .ok (.if_icmp .eq 879, 3) := by decide +kernel
theorem dL_law_279 : decode cL_law 279 = .ok (.iconst 0, 1) := by decide +kernel
theorem dL_law_280 : decode cL_law 280 = .ok (.ireturn, 1) := by decide +kernel
theorem dL_law_281 : decode cL_law 281 = .ok (.aload_n 1, 1) := by decide +kernel
theorem dL_law_282 : decode cL_law 282 = .ok (.aload_n 0, 1) := by decide +kernel
theorem dL_law_283 : decode cL_law 283 = .ok (.iload_n 3, 1) := by decide +kernel
theorem dL_law_284 : decode cL_law 284 = .ok (.iconst 1, 1) := by decide +kernel
theorem dL_law_285 : decode cL_law 285 = .ok (.iadd, 1) := by decide +kernel
theorem dL_law_286 : decode cL_law 286 = .ok (.iaload, 1) := by decide +kernel
theorem dL_law_287 : decode cL_law 287 = .ok (.invokevirtual 28, 3) := by decide +kernel
theorem dL_law_290 : decode cL_law 290 = .ok (.aload_n 2, 1) := by decide +kernel
theorem dL_law_291 : decode cL_law 291 = .ok (.aload_n 0, 1) := by decide +kernel
theorem dL_law_292 : decode cL_law 292 = .ok (.iload_n 3, 1) := by decide +kernel
theorem dL_law_293 : decode cL_law 293 = .ok (.iconst 1, 1) := by decide +kernel
theorem dL_law_294 : decode cL_law 294 = .ok (.iadd, 1) := by decide +kernel
theorem dL_law_295 : decode cL_law 295 = .ok (.iaload, 1) := by decide +kernel
theorem dL_law_296 : decode cL_law 296 = .ok (.invokevirtual 31, 3) := by decide +kernel
theorem dL_law_299 : decode cL_law 299 = .ok (.if_icmp .eq 856, 3) := by decide +kernel
theorem dL_law_302 : decode cL_law 302 = .ok (.iconst 0, 1) := by decide +kernel
theorem dL_law_303 : decode cL_law 303 = .ok (.ireturn, 1) := by decide +kernel
theorem dL_law_304 : decode cL_law 304 = .ok (.aload_n 1, 1) := by decide +kernel
theorem dL_law_305 : decode cL_law 305 = .ok (.aload_n 0, 1) := by decide +kernel
theorem dL_law_306 : decode cL_law 306 = .ok (.iload_n 3, 1) := by decide +kernel
theorem dL_law_307 : decode cL_law 307 = .ok (.iconst 1, 1) := by decide +kernel
theorem dL_law_308 : decode cL_law 308 = .ok (.iadd, 1) := by decide +kernel
theorem dL_law_309 : decode cL_law 309 = .ok (.iaload, 1) := by decide +kernel
theorem dL_law_310 : decode cL_law 310 = .ok (.ifCond .eq 7, 3) := by decide +kernel
theorem dL_law_313 : decode cL_law 313 = .ok (.iconst 1, 1) := by decide +kernel
theorem dL_law_314 : decode cL_law 314 = .ok (.goto 4, 3) := by decide +kernel
theorem dL_law_317 : decode cL_law 317 = .ok (.iconst 0, 1) := by decide +kernel
theorem dL_law_318 : decode cL_law 318 = .ok (.invokevirtual 32, 3) := by decide +kernel
theorem dL_law_321 : decode cL_law 321 = .ok (.aload_n 2, 1) := by decide +kernel
theorem dL_law_322 : decode cL_law 322 = .ok (.aload_n 0, 1) := by decide +kernel
theorem dL_law_323 : decode cL_law 323 = .ok (.iload_n 3, 1) := by decide +kernel
theorem dL_law_324 : decode cL_law 324 = .ok (.iconst 1, 1) := by decide +kernel
theorem dL_law_325 : decode cL_law 325 = .ok (.iadd, 1) := by decide +kernel
theorem dL_law_326 : decode cL_law 326 = .ok (.iaload, 1) := by decide +kernel
theorem dL_law_327 : decode cL_law 327 = .ok (.ifCond .eq 7, 3) := by decide +kernel
theorem dL_law_330 : decode cL_law 330 = .ok (.iconst 1, 1) := by decide +kernel
theorem dL_law_331 : decode cL_law 331 = .ok (.goto 4, 3) := by decide +kernel
theorem dL_law_334 : decode cL_law 334 = .ok (.iconst 0, 1) := by decide +kernel
theorem dL_law_335 : decode cL_law 335 = .ok (.invokevirtual 36, 3) := by decide +kernel
theorem dL_law_338 : decode cL_law 338 = .ok (.if_icmp .eq 817, 3) := by decide +kernel
theorem dL_law_341 : decode cL_law 341 = .ok (.iconst 0, 1) := by decide +kernel
theorem dL_law_342 : decode cL_law 342 = .ok (.ireturn, 1) := by decide +kernel
theorem dL_law_343 : decode cL_law 343 = .ok (.aload_n 1, 1) := by decide +kernel
theorem dL_law_344 : decode cL_law 344 = .ok (.aload_n 0, 1) := by decide +kernel
theorem dL_law_345 : decode cL_law 345 = .ok (.iload_n 3, 1) := by decide +kernel
theorem dL_law_346 : decode cL_law 346 = .ok (.iconst 1, 1) := by decide +kernel
theorem dL_law_347 : decode cL_law 347 = .ok (.iadd, 1) := by decide +kernel
theorem dL_law_348 : decode cL_law 348 = .ok (.iaload, 1) := by decide +kernel
theorem dL_law_349 : decode cL_law 349 = .ok (.aload_n 0, 1) := by decide +kernel
theorem dL_law_350 : decode cL_law 350 = .ok (.iload_n 3, 1) := by decide +kernel
theorem dL_law_351 : decode cL_law 351 = .ok (.iconst 2, 1) := by decide +kernel
theorem dL_law_352 : decode cL_law 352 = .ok (.iadd, 1) := by decide +kernel
theorem dL_law_353 : decode cL_law 353 = .ok (.iaload, 1) := by decide +kernel
theorem dL_law_354 : decode cL_law 354 = .ok (.invokevirtual 37, 3) := by decide +kernel
theorem dL_law_357 : decode cL_law 357 = .ok (.aload_n 2, 1) := by decide +kernel
theorem dL_law_358 : decode cL_law 358 = .ok (.aload_n 0, 1) := by decide +kernel
theorem dL_law_359 : decode cL_law 359 = .ok (.iload_n 3, 1) := by decide +kernel
theorem dL_law_360 : decode cL_law 360 = .ok (.iconst 1, 1) := by decide +kernel
theorem dL_law_361 : decode cL_law 361 = .ok (.iadd, 1) := by decide +kernel
theorem dL_law_362 : decode cL_law 362 = .ok (.iaload, 1) := by decide +kernel
theorem dL_law_363 : decode cL_law 363 = .ok (.aload_n 0, 1) := by decide +kernel
theorem dL_law_364 : decode cL_law 364 = .ok (.iload_n 3, 1) := by decide +kernel
theorem dL_law_365 : decode cL_law 365 = .ok (.iconst 2, 1) := by decide +kernel
theorem dL_law_366 : decode cL_law 366 = .ok (.iadd, 1) := by decide +kernel
theorem dL_law_367 : decode cL_law 367 = .ok (.iaload, 1) := by decide +kernel
theorem dL_law_368 : decode cL_law 368 = .ok (.invokevirtual 40, 3) := by decide +kernel
theorem dL_law_371 : decode cL_law 371 = .ok (.if_icmp .eq 784, 3) := by decide +kernel
theorem dL_law_374 : decode cL_law 374 = .ok (.iconst 0, 1) := by decide +kernel
theorem dL_law_375 : decode cL_law 375 = .ok (.ireturn, 1) := by decide +kernel
theorem dL_law_376 : decode cL_law 376 = .ok (.aload_n 1, 1) := by decide +kernel
theorem dL_law_377 : decode cL_law 377 = .ok (.aload_n 0, 1) := by decide +kernel
theorem dL_law_378 : decode cL_law 378 = .ok (.iload_n 3, 1) := by decide +kernel
theorem dL_law_379 : decode cL_law 379 = .ok (.iconst 1, 1) := by decide +kernel
theorem dL_law_380 : decode cL_law 380 = .ok (.iadd, 1) := by decide +kernel
theorem dL_law_381 : decode cL_law 381 = .ok (.iaload, 1) := by decide +kernel
theorem dL_law_382 : decode cL_law 382 = .ok (.aload_n 0, 1) := by decide +kernel
theorem dL_law_383 : decode cL_law 383 = .ok (.iload_n 3, 1) := by decide +kernel
theorem dL_law_384 : decode cL_law 384 = .ok (.iconst 2, 1) := by decide +kernel
theorem dL_law_385 : decode cL_law 385 = .ok (.iadd, 1) := by decide +kernel
theorem dL_law_386 : decode cL_law 386 = .ok (.iaload, 1) := by decide +kernel
theorem dL_law_387 : decode cL_law 387 = .ok (.invokevirtual 41, 3) := by decide +kernel
theorem dL_law_390 : decode cL_law 390 = .ok (.aload_n 2, 1) := by decide +kernel
theorem dL_law_391 : decode cL_law 391 = .ok (.aload_n 0, 1) := by decide +kernel
theorem dL_law_392 : decode cL_law 392 = .ok (.iload_n 3, 1) := by decide +kernel
theorem dL_law_393 : decode cL_law 393 = .ok (.iconst 1, 1) := by decide +kernel
theorem dL_law_394 : decode cL_law 394 = .ok (.iadd, 1) := by decide +kernel
theorem dL_law_395 : decode cL_law 395 = .ok (.iaload, 1) := by decide +kernel
theorem dL_law_396 : decode cL_law 396 = .ok (.aload_n 0, 1) := by decide +kernel
theorem dL_law_397 : decode cL_law 397 = .ok (.iload_n 3, 1) := by decide +kernel
theorem dL_law_398 : decode cL_law 398 = .ok (.iconst 2, 1) := by decide +kernel
theorem dL_law_399 : decode cL_law 399 = .ok (.iadd, 1) := by decide +kernel
theorem dL_law_400 : decode cL_law 400 = .ok (.iaload, 1) := by decide +kernel
theorem dL_law_401 : decode cL_law 401 = .ok (.invokevirtual 44, 3) := by decide +kernel
theorem dL_law_404 : decode cL_law 404 = .ok (.if_icmp .eq 751, 3) := by decide +kernel
theorem dL_law_407 : decode cL_law 407 = .ok (.iconst 0, 1) := by decide +kernel
theorem dL_law_408 : decode cL_law 408 = .ok (.ireturn, 1) := by decide +kernel
theorem dL_law_409 : decode cL_law 409 = .ok (.aload_n 1, 1) := by decide +kernel
theorem dL_law_410 : decode cL_law 410 = .ok (.aload_n 0, 1) := by decide +kernel
theorem dL_law_411 : decode cL_law 411 = .ok (.iload_n 3, 1) := by decide +kernel
theorem dL_law_412 : decode cL_law 412 = .ok (.iconst 1, 1) := by decide +kernel
theorem dL_law_413 : decode cL_law 413 = .ok (.iadd, 1) := by decide +kernel
theorem dL_law_414 : decode cL_law 414 = .ok (.iaload, 1) := by decide +kernel
theorem dL_law_415 : decode cL_law 415 = .ok (.invokevirtual 45, 3) := by decide +kernel
theorem dL_law_418 : decode cL_law 418 = .ok (.aload_n 2, 1) := by decide +kernel
theorem dL_law_419 : decode cL_law 419 = .ok (.aload_n 0, 1) := by decide +kernel
theorem dL_law_420 : decode cL_law 420 = .ok (.iload_n 3, 1) := by decide +kernel
theorem dL_law_421 : decode cL_law 421 = .ok (.iconst 1, 1) := by decide +kernel
theorem dL_law_422 : decode cL_law 422 = .ok (.iadd, 1) := by decide +kernel
theorem dL_law_423 : decode cL_law 423 = .ok (.iaload, 1) := by decide +kernel
theorem dL_law_424 : decode cL_law 424 = .ok (.invokevirtual 48, 3) := by decide +kernel
theorem dL_law_427 : decode cL_law 427 = .ok (.if_icmp .eq 728, 3) := by decide +kernel
theorem dL_law_430 : decode cL_law 430 = .ok (.iconst 0, 1) := by decide +kernel
theorem dL_law_431 : decode cL_law 431 = .ok (.ireturn, 1) := by decide +kernel
theorem dL_law_432 : decode cL_law 432 = .ok (.aload_n 1, 1) := by decide +kernel
theorem dL_law_433 : decode cL_law 433 = .ok (.aload_n 0, 1) := by decide +kernel
theorem dL_law_434 : decode cL_law 434 = .ok (.iload_n 3, 1) := by decide +kernel
theorem dL_law_435 : decode cL_law 435 = .ok (.iconst 1, 1) := by decide +kernel
theorem dL_law_436 : decode cL_law 436 = .ok (.iadd, 1) := by decide +kernel
theorem dL_law_437 : decode cL_law 437 = .ok (.iaload, 1) := by decide +kernel
theorem dL_law_438 : decode cL_law 438 = .ok (.aload_n 0, 1) := by decide +kernel
theorem dL_law_439 : decode cL_law 439 = .ok (.iload_n 3, 1) := by decide +kernel
theorem dL_law_440 : decode cL_law 440 = .ok (.iconst 2, 1) := by decide +kernel
theorem dL_law_441 : decode cL_law 441 = .ok (.iadd, 1) := by decide +kernel
theorem dL_law_442 : decode cL_law 442 = .ok (.iaload, 1) := by decide +kernel
theorem dL_law_443 : decode cL_law 443 = .ok (.aload_n 0, 1) := by decide +kernel
theorem dL_law_444 : decode cL_law 444 = .ok (.iload_n 3, 1) := by decide +kernel
theorem dL_law_445 : decode cL_law 445 = .ok (.iconst 3, 1) := by decide +kernel
theorem dL_law_446 : decode cL_law 446 = .ok (.iadd, 1) := by decide +kernel
theorem dL_law_447 : decode cL_law 447 = .ok (.iaload, 1) := by decide +kernel
theorem dL_law_448 : decode cL_law 448 = .ok (.aload_n 0, 1) := by decide +kernel
theorem dL_law_449 : decode cL_law 449 = .ok (.iload_n 3, 1) := by decide +kernel
theorem dL_law_450 : decode cL_law 450 = .ok (.iconst 4, 1) := by decide +kernel
theorem dL_law_451 : decode cL_law 451 = .ok (.iadd, 1) := by decide +kernel
theorem dL_law_452 : decode cL_law 452 = .ok (.iaload, 1) := by decide +kernel
theorem dL_law_453 : decode cL_law 453 = .ok (.invokevirtual 49, 3) := by decide +kernel
theorem dL_law_456 : decode cL_law 456 = .ok (.aload_n 2, 1) := by decide +kernel
theorem dL_law_457 : decode cL_law 457 = .ok (.aload_n 0, 1) := by decide +kernel
theorem dL_law_458 : decode cL_law 458 = .ok (.iload_n 3, 1) := by decide +kernel
theorem dL_law_459 : decode cL_law 459 = .ok (.iconst 1, 1) := by decide +kernel
theorem dL_law_460 : decode cL_law 460 = .ok (.iadd, 1) := by decide +kernel
theorem dL_law_461 : decode cL_law 461 = .ok (.iaload, 1) := by decide +kernel
theorem dL_law_462 : decode cL_law 462 = .ok (.aload_n 0, 1) := by decide +kernel
theorem dL_law_463 : decode cL_law 463 = .ok (.iload_n 3, 1) := by decide +kernel
theorem dL_law_464 : decode cL_law 464 = .ok (.iconst 2, 1) := by decide +kernel
theorem dL_law_465 : decode cL_law 465 = .ok (.iadd, 1) := by decide +kernel
theorem dL_law_466 : decode cL_law 466 = .ok (.iaload, 1) := by decide +kernel
theorem dL_law_467 : decode cL_law 467 = .ok (.aload_n 0, 1) := by decide +kernel
theorem dL_law_468 : decode cL_law 468 = .ok (.iload_n 3, 1) := by decide +kernel
theorem dL_law_469 : decode cL_law 469 = .ok (.iconst 3, 1) := by decide +kernel
theorem dL_law_470 : decode cL_law 470 = .ok (.iadd, 1) := by decide +kernel
theorem dL_law_471 : decode cL_law 471 = .ok (.iaload, 1) := by decide +kernel
theorem dL_law_472 : decode cL_law 472 = .ok (.aload_n 0, 1) := by decide +kernel
theorem dL_law_473 : decode cL_law 473 = .ok (.iload_n 3, 1) := by decide +kernel
theorem dL_law_474 : decode cL_law 474 = .ok (.iconst 4, 1) := by decide +kernel
theorem dL_law_475 : decode cL_law 475 = .ok (.iadd, 1) := by decide +kernel
theorem dL_law_476 : decode cL_law 476 = .ok (.iaload, 1) := by decide +kernel
theorem dL_law_477 : decode cL_law 477 = .ok (.invokevirtual 52, 3) := by decide +kernel
theorem dL_law_480 : decode cL_law 480 = .ok (.if_icmp .eq 675, 3) := by decide +kernel
theorem dL_law_483 : decode cL_law 483 = .ok (.iconst 0, 1) := by decide +kernel
theorem dL_law_484 : decode cL_law 484 = .ok (.ireturn, 1) := by decide +kernel
theorem dL_law_485 : decode cL_law 485 = .ok (.aload_n 1, 1) := by decide +kernel
theorem dL_law_486 : decode cL_law 486 = .ok (.aload_n 0, 1) := by decide +kernel
theorem dL_law_487 : decode cL_law 487 = .ok (.iload_n 3, 1) := by decide +kernel
theorem dL_law_488 : decode cL_law 488 = .ok (.iconst 1, 1) := by decide +kernel
theorem dL_law_489 : decode cL_law 489 = .ok (.iadd, 1) := by decide +kernel
theorem dL_law_490 : decode cL_law 490 = .ok (.iaload, 1) := by decide +kernel
theorem dL_law_491 : decode cL_law 491 = .ok (.aload_n 0, 1) := by decide +kernel
theorem dL_law_492 : decode cL_law 492 = .ok (.iload_n 3, 1) := by decide +kernel
theorem dL_law_493 : decode cL_law 493 = .ok (.iconst 2, 1) := by decide +kernel
theorem dL_law_494 : decode cL_law 494 = .ok (.iadd, 1) := by decide +kernel
theorem dL_law_495 : decode cL_law 495 = .ok (.iaload, 1) := by decide +kernel
theorem dL_law_496 : decode cL_law 496 = .ok (.aload_n 0, 1) := by decide +kernel
theorem dL_law_497 : decode cL_law 497 = .ok (.iload_n 3, 1) := by decide +kernel
theorem dL_law_498 : decode cL_law 498 = .ok (.iconst 3, 1) := by decide +kernel
theorem dL_law_499 : decode cL_law 499 = .ok (.iadd, 1) := by decide +kernel
theorem dL_law_500 : decode cL_law 500 = .ok (.iaload, 1) := by decide +kernel
theorem dL_law_501 : decode cL_law 501 = .ok (.invokevirtual 53, 3) := by decide +kernel
theorem dL_law_504 : decode cL_law 504 = .ok (.aload_n 2, 1) := by decide +kernel
theorem dL_law_505 : decode cL_law 505 = .ok (.aload_n 0, 1) := by decide +kernel
theorem dL_law_506 : decode cL_law 506 = .ok (.iload_n 3, 1) := by decide +kernel
theorem dL_law_507 : decode cL_law 507 = .ok (.iconst 1, 1) := by decide +kernel
theorem dL_law_508 : decode cL_law 508 = .ok (.iadd, 1) := by decide +kernel
theorem dL_law_509 : decode cL_law 509 = .ok (.iaload, 1) := by decide +kernel
theorem dL_law_510 : decode cL_law 510 = .ok (.aload_n 0, 1) := by decide +kernel
theorem dL_law_511 : decode cL_law 511 = .ok (.iload_n 3, 1) := by decide +kernel
theorem dL_law_512 : decode cL_law 512 = .ok (.iconst 2, 1) := by decide +kernel
theorem dL_law_513 : decode cL_law 513 = .ok (.iadd, 1) := by decide +kernel
theorem dL_law_514 : decode cL_law 514 = .ok (.iaload, 1) := by decide +kernel
theorem dL_law_515 : decode cL_law 515 = .ok (.aload_n 0, 1) := by decide +kernel
theorem dL_law_516 : decode cL_law 516 = .ok (.iload_n 3, 1) := by decide +kernel
theorem dL_law_517 : decode cL_law 517 = .ok (.iconst 3, 1) := by decide +kernel
theorem dL_law_518 : decode cL_law 518 = .ok (.iadd, 1) := by decide +kernel
theorem dL_law_519 : decode cL_law 519 = .ok (.iaload, 1) := by decide +kernel
theorem dL_law_520 : decode cL_law 520 = .ok (.invokevirtual 57, 3) := by decide +kernel
theorem dL_law_523 : decode cL_law 523 = .ok (.lcmp, 1) := by decide +kernel
theorem dL_law_524 : decode cL_law 524 = .ok (.ifCond .eq 631, 3) := by decide +kernel
theorem dL_law_527 : decode cL_law 527 = .ok (.iconst 0, 1) := by decide +kernel
theorem dL_law_528 : decode cL_law 528 = .ok (.ireturn, 1) := by decide +kernel
theorem dL_law_529 : decode cL_law 529 = .ok (.aload_n 1, 1) := by decide +kernel
theorem dL_law_530 : decode cL_law 530 = .ok (.aload_n 0, 1) := by decide +kernel
theorem dL_law_531 : decode cL_law 531 = .ok (.iload_n 3, 1) := by decide +kernel
theorem dL_law_532 : decode cL_law 532 = .ok (.iconst 1, 1) := by decide +kernel
theorem dL_law_533 : decode cL_law 533 = .ok (.iadd, 1) := by decide +kernel
theorem dL_law_534 : decode cL_law 534 = .ok (.iaload, 1) := by decide +kernel
theorem dL_law_535 : decode cL_law 535 = .ok (.aload_n 0, 1) := by decide +kernel
theorem dL_law_536 : decode cL_law 536 = .ok (.iload_n 3, 1) := by decide +kernel
theorem dL_law_537 : decode cL_law 537 = .ok (.iconst 2, 1) := by decide +kernel
theorem dL_law_538 : decode cL_law 538 = .ok (.iadd, 1) := by decide +kernel
theorem dL_law_539 : decode cL_law 539 = .ok (.iaload, 1) := by decide +kernel
theorem dL_law_540 : decode cL_law 540 = .ok (.invokevirtual 58, 3) := by decide +kernel
theorem dL_law_543 : decode cL_law 543 = .ok (.aload_n 2, 1) := by decide +kernel
theorem dL_law_544 : decode cL_law 544 = .ok (.aload_n 0, 1) := by decide +kernel
theorem dL_law_545 : decode cL_law 545 = .ok (.iload_n 3, 1) := by decide +kernel
theorem dL_law_546 : decode cL_law 546 = .ok (.iconst 1, 1) := by decide +kernel
theorem dL_law_547 : decode cL_law 547 = .ok (.iadd, 1) := by decide +kernel
theorem dL_law_548 : decode cL_law 548 = .ok (.iaload, 1) := by decide +kernel
theorem dL_law_549 : decode cL_law 549 = .ok (.aload_n 0, 1) := by decide +kernel
theorem dL_law_550 : decode cL_law 550 = .ok (.iload_n 3, 1) := by decide +kernel
theorem dL_law_551 : decode cL_law 551 = .ok (.iconst 2, 1) := by decide +kernel
theorem dL_law_552 : decode cL_law 552 = .ok (.iadd, 1) := by decide +kernel
theorem dL_law_553 : decode cL_law 553 = .ok (.iaload, 1) := by decide +kernel
theorem dL_law_554 : decode cL_law 554 = .ok (.invokevirtual 62, 3) := by decide +kernel
theorem dL_law_557 : decode cL_law 557 = .ok (.lcmp, 1) := by decide +kernel
theorem dL_law_558 : decode cL_law 558 = .ok (.ifCond .eq 597, 3) := by decide +kernel
theorem dL_law_561 : decode cL_law 561 = .ok (.iconst 0, 1) := by decide +kernel
theorem dL_law_562 : decode cL_law 562 = .ok (.ireturn, 1) := by decide +kernel
theorem dL_law_563 : decode cL_law 563 = .ok (.aload_n 1, 1) := by decide +kernel
theorem dL_law_564 : decode cL_law 564 = .ok (.aload_n 0, 1) := by decide +kernel
theorem dL_law_565 : decode cL_law 565 = .ok (.iload_n 3, 1) := by decide +kernel
theorem dL_law_566 : decode cL_law 566 = .ok (.iconst 1, 1) := by decide +kernel
theorem dL_law_567 : decode cL_law 567 = .ok (.iadd, 1) := by decide +kernel
theorem dL_law_568 : decode cL_law 568 = .ok (.iaload, 1) := by decide +kernel
theorem dL_law_569 : decode cL_law 569 = .ok (.aload_n 0, 1) := by decide +kernel
theorem dL_law_570 : decode cL_law 570 = .ok (.iload_n 3, 1) := by decide +kernel
theorem dL_law_571 : decode cL_law 571 = .ok (.iconst 2, 1) := by decide +kernel
theorem dL_law_572 : decode cL_law 572 = .ok (.iadd, 1) := by decide +kernel
theorem dL_law_573 : decode cL_law 573 = .ok (.iaload, 1) := by decide +kernel
theorem dL_law_574 : decode cL_law 574 = .ok (.invokevirtual 63, 3) := by decide +kernel
theorem dL_law_577 : decode cL_law 577 = .ok (.aload_n 2, 1) := by decide +kernel
theorem dL_law_578 : decode cL_law 578 = .ok (.aload_n 0, 1) := by decide +kernel
theorem dL_law_579 : decode cL_law 579 = .ok (.iload_n 3, 1) := by decide +kernel
theorem dL_law_580 : decode cL_law 580 = .ok (.iconst 1, 1) := by decide +kernel
theorem dL_law_581 : decode cL_law 581 = .ok (.iadd, 1) := by decide +kernel
theorem dL_law_582 : decode cL_law 582 = .ok (.iaload, 1) := by decide +kernel
theorem dL_law_583 : decode cL_law 583 = .ok (.aload_n 0, 1) := by decide +kernel
theorem dL_law_584 : decode cL_law 584 = .ok (.iload_n 3, 1) := by decide +kernel
theorem dL_law_585 : decode cL_law 585 = .ok (.iconst 2, 1) := by decide +kernel
theorem dL_law_586 : decode cL_law 586 = .ok (.iadd, 1) := by decide +kernel
theorem dL_law_587 : decode cL_law 587 = .ok (.iaload, 1) := by decide +kernel
theorem dL_law_588 : decode cL_law 588 = .ok (.invokevirtual 66, 3) := by decide +kernel
theorem dL_law_591 : decode cL_law 591 = .ok (.if_icmp .eq 564, 3) := by decide +kernel
theorem dL_law_594 : decode cL_law 594 = .ok (.iconst 0, 1) := by decide +kernel
theorem dL_law_595 : decode cL_law 595 = .ok (.ireturn, 1) := by decide +kernel
theorem dL_law_596 : decode cL_law 596 = .ok (.aload_n 1, 1) := by decide +kernel
theorem dL_law_597 : decode cL_law 597 = .ok (.aload_n 0, 1) := by decide +kernel
theorem dL_law_598 : decode cL_law 598 = .ok (.iload_n 3, 1) := by decide +kernel
theorem dL_law_599 : decode cL_law 599 = .ok (.iconst 1, 1) := by decide +kernel
theorem dL_law_600 : decode cL_law 600 = .ok (.iadd, 1) := by decide +kernel
theorem dL_law_601 : decode cL_law 601 = .ok (.iaload, 1) := by decide +kernel
theorem dL_law_602 : decode cL_law 602 = .ok (.invokevirtual 67, 3) := by decide +kernel
theorem dL_law_605 : decode cL_law 605 = .ok (.aload_n 2, 1) := by decide +kernel
theorem dL_law_606 : decode cL_law 606 = .ok (.aload_n 0, 1) := by decide +kernel
theorem dL_law_607 : decode cL_law 607 = .ok (.iload_n 3, 1) := by decide +kernel
theorem dL_law_608 : decode cL_law 608 = .ok (.iconst 1, 1) := by decide +kernel
theorem dL_law_609 : decode cL_law 609 = .ok (.iadd, 1) := by decide +kernel
theorem dL_law_610 : decode cL_law 610 = .ok (.iaload, 1) := by decide +kernel
theorem dL_law_611 : decode cL_law 611 = .ok (.invokevirtual 70, 3) := by decide +kernel
theorem dL_law_614 : decode cL_law 614 = .ok (.if_icmp .eq 541, 3) := by decide +kernel
theorem dL_law_617 : decode cL_law 617 = .ok (.iconst 0, 1) := by decide +kernel
theorem dL_law_618 : decode cL_law 618 = .ok (.ireturn, 1) := by decide +kernel
theorem dL_law_619 : decode cL_law 619 = .ok (.aload_n 1, 1) := by decide +kernel
theorem dL_law_620 : decode cL_law 620 = .ok (.aload_n 0, 1) := by decide +kernel
theorem dL_law_621 : decode cL_law 621 = .ok (.iload_n 3, 1) := by decide +kernel
theorem dL_law_622 : decode cL_law 622 = .ok (.iconst 1, 1) := by decide +kernel
theorem dL_law_623 : decode cL_law 623 = .ok (.iadd, 1) := by decide +kernel
theorem dL_law_624 : decode cL_law 624 = .ok (.iaload, 1) := by decide +kernel
theorem dL_law_625 : decode cL_law 625 = .ok (.aload_n 0, 1) := by decide +kernel
theorem dL_law_626 : decode cL_law 626 = .ok (.iload_n 3, 1) := by decide +kernel
theorem dL_law_627 : decode cL_law 627 = .ok (.iconst 2, 1) := by decide +kernel
theorem dL_law_628 : decode cL_law 628 = .ok (.iadd, 1) := by decide +kernel
theorem dL_law_629 : decode cL_law 629 = .ok (.iaload, 1) := by decide +kernel
theorem dL_law_630 : decode cL_law 630 = .ok (.invokevirtual 71, 3) := by decide +kernel
theorem dL_law_633 : decode cL_law 633 = .ok (.aload_n 2, 1) := by decide +kernel
theorem dL_law_634 : decode cL_law 634 = .ok (.aload_n 0, 1) := by decide +kernel
theorem dL_law_635 : decode cL_law 635 = .ok (.iload_n 3, 1) := by decide +kernel
theorem dL_law_636 : decode cL_law 636 = .ok (.iconst 1, 1) := by decide +kernel
theorem dL_law_637 : decode cL_law 637 = .ok (.iadd, 1) := by decide +kernel
theorem dL_law_638 : decode cL_law 638 = .ok (.iaload, 1) := by decide +kernel
theorem dL_law_639 : decode cL_law 639 = .ok (.aload_n 0, 1) := by decide +kernel
theorem dL_law_640 : decode cL_law 640 = .ok (.iload_n 3, 1) := by decide +kernel
theorem dL_law_641 : decode cL_law 641 = .ok (.iconst 2, 1) := by decide +kernel
theorem dL_law_642 : decode cL_law 642 = .ok (.iadd, 1) := by decide +kernel
theorem dL_law_643 : decode cL_law 643 = .ok (.iaload, 1) := by decide +kernel
theorem dL_law_644 : decode cL_law 644 = .ok (.invokevirtual 74, 3) := by decide +kernel
theorem dL_law_647 : decode cL_law 647 = .ok (.if_icmp .eq 508, 3) := by decide +kernel
theorem dL_law_650 : decode cL_law 650 = .ok (.iconst 0, 1) := by decide +kernel
theorem dL_law_651 : decode cL_law 651 = .ok (.ireturn, 1) := by decide +kernel
theorem dL_law_652 : decode cL_law 652 = .ok (.aload_n 1, 1) := by decide +kernel
theorem dL_law_653 : decode cL_law 653 = .ok (.aload_n 0, 1) := by decide +kernel
theorem dL_law_654 : decode cL_law 654 = .ok (.iload_n 3, 1) := by decide +kernel
theorem dL_law_655 : decode cL_law 655 = .ok (.iconst 1, 1) := by decide +kernel
theorem dL_law_656 : decode cL_law 656 = .ok (.iadd, 1) := by decide +kernel
theorem dL_law_657 : decode cL_law 657 = .ok (.iaload, 1) := by decide +kernel
theorem dL_law_658 : decode cL_law 658 = .ok (.invokevirtual 75, 3) := by decide +kernel
theorem dL_law_661 : decode cL_law 661 = .ok (.aload_n 2, 1) := by decide +kernel
theorem dL_law_662 : decode cL_law 662 = .ok (.aload_n 0, 1) := by decide +kernel
theorem dL_law_663 : decode cL_law 663 = .ok (.iload_n 3, 1) := by decide +kernel
theorem dL_law_664 : decode cL_law 664 = .ok (.iconst 1, 1) := by decide +kernel
theorem dL_law_665 : decode cL_law 665 = .ok (.iadd, 1) := by decide +kernel
theorem dL_law_666 : decode cL_law 666 = .ok (.iaload, 1) := by decide +kernel
theorem dL_law_667 : decode cL_law 667 = .ok (.invokevirtual 78, 3) := by decide +kernel
theorem dL_law_670 : decode cL_law 670 = .ok (.if_icmp .eq 485, 3) := by decide +kernel
theorem dL_law_673 : decode cL_law 673 = .ok (.iconst 0, 1) := by decide +kernel
theorem dL_law_674 : decode cL_law 674 = .ok (.ireturn, 1) := by decide +kernel
theorem dL_law_675 : decode cL_law 675 = .ok (.aload_n 1, 1) := by decide +kernel
theorem dL_law_676 : decode cL_law 676 = .ok (.aload_n 0, 1) := by decide +kernel
theorem dL_law_677 : decode cL_law 677 = .ok (.iload_n 3, 1) := by decide +kernel
theorem dL_law_678 : decode cL_law 678 = .ok (.iconst 1, 1) := by decide +kernel
theorem dL_law_679 : decode cL_law 679 = .ok (.iadd, 1) := by decide +kernel
theorem dL_law_680 : decode cL_law 680 = .ok (.iaload, 1) := by decide +kernel
theorem dL_law_681 : decode cL_law 681 = .ok (.invokevirtual 79, 3) := by decide +kernel
theorem dL_law_684 : decode cL_law 684 = .ok (.aload_n 2, 1) := by decide +kernel
theorem dL_law_685 : decode cL_law 685 = .ok (.aload_n 0, 1) := by decide +kernel
theorem dL_law_686 : decode cL_law 686 = .ok (.iload_n 3, 1) := by decide +kernel
theorem dL_law_687 : decode cL_law 687 = .ok (.iconst 1, 1) := by decide +kernel
theorem dL_law_688 : decode cL_law 688 = .ok (.iadd, 1) := by decide +kernel
theorem dL_law_689 : decode cL_law 689 = .ok (.iaload, 1) := by decide +kernel
theorem dL_law_690 : decode cL_law 690 = .ok (.invokevirtual 82, 3) := by decide +kernel
theorem dL_law_693 : decode cL_law 693 = .ok (.if_icmp .eq 462, 3) := by decide +kernel
theorem dL_law_696 : decode cL_law 696 = .ok (.iconst 0, 1) := by decide +kernel
theorem dL_law_697 : decode cL_law 697 = .ok (.ireturn, 1) := by decide +kernel
theorem dL_law_698 : decode cL_law 698 = .ok (.aload_n 1, 1) := by decide +kernel
theorem dL_law_699 : decode cL_law 699 = .ok (.aload_n 0, 1) := by decide +kernel
theorem dL_law_700 : decode cL_law 700 = .ok (.iload_n 3, 1) := by decide +kernel
theorem dL_law_701 : decode cL_law 701 = .ok (.iconst 1, 1) := by decide +kernel
theorem dL_law_702 : decode cL_law 702 = .ok (.iadd, 1) := by decide +kernel
theorem dL_law_703 : decode cL_law 703 = .ok (.iaload, 1) := by decide +kernel
theorem dL_law_704 : decode cL_law 704 = .ok (.invokevirtual 83, 3) := by decide +kernel
theorem dL_law_707 : decode cL_law 707 = .ok (.aload_n 2, 1) := by decide +kernel
theorem dL_law_708 : decode cL_law 708 = .ok (.aload_n 0, 1) := by decide +kernel
theorem dL_law_709 : decode cL_law 709 = .ok (.iload_n 3, 1) := by decide +kernel
theorem dL_law_710 : decode cL_law 710 = .ok (.iconst 1, 1) := by decide +kernel
theorem dL_law_711 : decode cL_law 711 = .ok (.iadd, 1) := by decide +kernel
theorem dL_law_712 : decode cL_law 712 = .ok (.iaload, 1) := by decide +kernel
theorem dL_law_713 : decode cL_law 713 = .ok (.invokevirtual 86, 3) := by decide +kernel
theorem dL_law_716 : decode cL_law 716 = .ok (.if_icmp .eq 439, 3) := by decide +kernel
theorem dL_law_719 : decode cL_law 719 = .ok (.iconst 0, 1) := by decide +kernel
theorem dL_law_720 : decode cL_law 720 = .ok (.ireturn, 1) := by decide +kernel
theorem dL_law_721 : decode cL_law 721 = .ok (.aload_n 1, 1) := by decide +kernel
theorem dL_law_722 : decode cL_law 722 = .ok (.aload_n 0, 1) := by decide +kernel
theorem dL_law_723 : decode cL_law 723 = .ok (.iload_n 3, 1) := by decide +kernel
theorem dL_law_724 : decode cL_law 724 = .ok (.iconst 1, 1) := by decide +kernel
theorem dL_law_725 : decode cL_law 725 = .ok (.iadd, 1) := by decide +kernel
theorem dL_law_726 : decode cL_law 726 = .ok (.iaload, 1) := by decide +kernel
theorem dL_law_727 : decode cL_law 727 = .ok (.invokevirtual 87, 3) := by decide +kernel
theorem dL_law_730 : decode cL_law 730 = .ok (.aload_n 2, 1) := by decide +kernel
theorem dL_law_731 : decode cL_law 731 = .ok (.aload_n 0, 1) := by decide +kernel
theorem dL_law_732 : decode cL_law 732 = .ok (.iload_n 3, 1) := by decide +kernel
theorem dL_law_733 : decode cL_law 733 = .ok (.iconst 1, 1) := by decide +kernel
theorem dL_law_734 : decode cL_law 734 = .ok (.iadd, 1) := by decide +kernel
theorem dL_law_735 : decode cL_law 735 = .ok (.iaload, 1) := by decide +kernel
theorem dL_law_736 : decode cL_law 736 = .ok (.invokevirtual 91, 3) := by decide +kernel
theorem dL_law_739 : decode cL_law 739 = .ok (.lcmp, 1) := by decide +kernel
theorem dL_law_740 : decode cL_law 740 = .ok (.ifCond .eq 415, 3) := by decide +kernel
theorem dL_law_743 : decode cL_law 743 = .ok (.iconst 0, 1) := by decide +kernel
theorem dL_law_744 : decode cL_law 744 = .ok (.ireturn, 1) := by decide +kernel
theorem dL_law_745 : decode cL_law 745 = .ok (.aload_n 1, 1) := by decide +kernel
theorem dL_law_746 : decode cL_law 746 = .ok (.aload_n 0, 1) := by decide +kernel
theorem dL_law_747 : decode cL_law 747 = .ok (.iload_n 3, 1) := by decide +kernel
theorem dL_law_748 : decode cL_law 748 = .ok (.iconst 1, 1) := by decide +kernel
theorem dL_law_749 : decode cL_law 749 = .ok (.iadd, 1) := by decide +kernel
theorem dL_law_750 : decode cL_law 750 = .ok (.iaload, 1) := by decide +kernel
theorem dL_law_751 : decode cL_law 751 = .ok (.aload_n 0, 1) := by decide +kernel
theorem dL_law_752 : decode cL_law 752 = .ok (.iload_n 3, 1) := by decide +kernel
theorem dL_law_753 : decode cL_law 753 = .ok (.iconst 2, 1) := by decide +kernel
theorem dL_law_754 : decode cL_law 754 = .ok (.iadd, 1) := by decide +kernel
theorem dL_law_755 : decode cL_law 755 = .ok (.iaload, 1) := by decide +kernel
theorem dL_law_756 : decode cL_law 756 = .ok (.aload_n 0, 1) := by decide +kernel
theorem dL_law_757 : decode cL_law 757 = .ok (.iload_n 3, 1) := by decide +kernel
theorem dL_law_758 : decode cL_law 758 = .ok (.iconst 3, 1) := by decide +kernel
theorem dL_law_759 : decode cL_law 759 = .ok (.iadd, 1) := by decide +kernel
theorem dL_law_760 : decode cL_law 760 = .ok (.iaload, 1) := by decide +kernel
theorem dL_law_761 : decode cL_law 761 = .ok (.aload_n 0, 1) := by decide +kernel
theorem dL_law_762 : decode cL_law 762 = .ok (.iload_n 3, 1) := by decide +kernel
theorem dL_law_763 : decode cL_law 763 = .ok (.iconst 4, 1) := by decide +kernel
theorem dL_law_764 : decode cL_law 764 = .ok (.iadd, 1) := by decide +kernel
theorem dL_law_765 : decode cL_law 765 = .ok (.iaload, 1) := by decide +kernel
theorem dL_law_766 : decode cL_law 766 = .ok (.invokevirtual 92, 3) := by decide +kernel
theorem dL_law_769 : decode cL_law 769 = .ok (.aload_n 2, 1) := by decide +kernel
theorem dL_law_770 : decode cL_law 770 = .ok (.aload_n 0, 1) := by decide +kernel
theorem dL_law_771 : decode cL_law 771 = .ok (.iload_n 3, 1) := by decide +kernel
theorem dL_law_772 : decode cL_law 772 = .ok (.iconst 1, 1) := by decide +kernel
theorem dL_law_773 : decode cL_law 773 = .ok (.iadd, 1) := by decide +kernel
theorem dL_law_774 : decode cL_law 774 = .ok (.iaload, 1) := by decide +kernel
theorem dL_law_775 : decode cL_law 775 = .ok (.aload_n 0, 1) := by decide +kernel
theorem dL_law_776 : decode cL_law 776 = .ok (.iload_n 3, 1) := by decide +kernel
theorem dL_law_777 : decode cL_law 777 = .ok (.iconst 2, 1) := by decide +kernel
theorem dL_law_778 : decode cL_law 778 = .ok (.iadd, 1) := by decide +kernel
theorem dL_law_779 : decode cL_law 779 = .ok (.iaload, 1) := by decide +kernel
theorem dL_law_780 : decode cL_law 780 = .ok (.aload_n 0, 1) := by decide +kernel
theorem dL_law_781 : decode cL_law 781 = .ok (.iload_n 3, 1) := by decide +kernel
theorem dL_law_782 : decode cL_law 782 = .ok (.iconst 3, 1) := by decide +kernel
theorem dL_law_783 : decode cL_law 783 = .ok (.iadd, 1) := by decide +kernel
theorem dL_law_784 : decode cL_law 784 = .ok (.iaload, 1) := by decide +kernel
theorem dL_law_785 : decode cL_law 785 = .ok (.aload_n 0, 1) := by decide +kernel
theorem dL_law_786 : decode cL_law 786 = .ok (.iload_n 3, 1) := by decide +kernel
theorem dL_law_787 : decode cL_law 787 = .ok (.iconst 4, 1) := by decide +kernel
theorem dL_law_788 : decode cL_law 788 = .ok (.iadd, 1) := by decide +kernel
theorem dL_law_789 : decode cL_law 789 = .ok (.iaload, 1) := by decide +kernel
theorem dL_law_790 : decode cL_law 790 = .ok (.invokevirtual 95, 3) := by decide +kernel
theorem dL_law_793 : decode cL_law 793 = .ok (.if_icmp .eq 362, 3) := by decide +kernel
theorem dL_law_796 : decode cL_law 796 = .ok (.iconst 0, 1) := by decide +kernel
theorem dL_law_797 : decode cL_law 797 = .ok (.ireturn, 1) := by decide +kernel
theorem dL_law_798 : decode cL_law 798 = .ok (.aload_n 1, 1) := by decide +kernel
theorem dL_law_799 : decode cL_law 799 = .ok (.invokevirtual 96, 3) := by decide +kernel
theorem dL_law_802 : decode cL_law 802 = .ok (.aload_n 2, 1) := by decide +kernel
theorem dL_law_803 : decode cL_law 803 = .ok (.invokevirtual 100, 3) := by decide +kernel
theorem dL_law_806 : decode cL_law 806 = .ok (.if_icmp .eq 349, 3) := by decide +kernel
theorem dL_law_809 : decode cL_law 809 = .ok (.iconst 0, 1) := by decide +kernel
theorem dL_law_810 : decode cL_law 810 = .ok (.ireturn, 1) := by decide +kernel
theorem dL_law_811 : decode cL_law 811 = .ok (.aload_n 1, 1) := by decide +kernel
theorem dL_law_812 : decode cL_law 812 = .ok (.aload_n 0, 1) := by decide +kernel
theorem dL_law_813 : decode cL_law 813 = .ok (.iload_n 3, 1) := by decide +kernel
theorem dL_law_814 : decode cL_law 814 = .ok (.iconst 1, 1) := by decide +kernel
theorem dL_law_815 : decode cL_law 815 = .ok (.iadd, 1) := by decide +kernel
theorem dL_law_816 : decode cL_law 816 = .ok (.iaload, 1) := by decide +kernel
theorem dL_law_817 : decode cL_law 817 = .ok (.aload_n 0, 1) := by decide +kernel
theorem dL_law_818 : decode cL_law 818 = .ok (.iload_n 3, 1) := by decide +kernel
theorem dL_law_819 : decode cL_law 819 = .ok (.iconst 2, 1) := by decide +kernel
theorem dL_law_820 : decode cL_law 820 = .ok (.iadd, 1) := by decide +kernel
theorem dL_law_821 : decode cL_law 821 = .ok (.iaload, 1) := by decide +kernel
theorem dL_law_822 : decode cL_law 822 = .ok (.aload_n 0, 1) := by decide +kernel
theorem dL_law_823 : decode cL_law 823 = .ok (.iload_n 3, 1) := by decide +kernel
theorem dL_law_824 : decode cL_law 824 = .ok (.iconst 3, 1) := by decide +kernel
theorem dL_law_825 : decode cL_law 825 = .ok (.iadd, 1) := by decide +kernel
theorem dL_law_826 : decode cL_law 826 = .ok (.iaload, 1) := by decide +kernel
theorem dL_law_827 : decode cL_law 827 = .ok (.invokevirtual 101, 3) := by decide +kernel
theorem dL_law_830 : decode cL_law 830 = .ok (.aload_n 2, 1) := by decide +kernel
theorem dL_law_831 : decode cL_law 831 = .ok (.aload_n 0, 1) := by decide +kernel
theorem dL_law_832 : decode cL_law 832 = .ok (.iload_n 3, 1) := by decide +kernel
theorem dL_law_833 : decode cL_law 833 = .ok (.iconst 1, 1) := by decide +kernel
theorem dL_law_834 : decode cL_law 834 = .ok (.iadd, 1) := by decide +kernel
theorem dL_law_835 : decode cL_law 835 = .ok (.iaload, 1) := by decide +kernel
theorem dL_law_836 : decode cL_law 836 = .ok (.aload_n 0, 1) := by decide +kernel
theorem dL_law_837 : decode cL_law 837 = .ok (.iload_n 3, 1) := by decide +kernel
theorem dL_law_838 : decode cL_law 838 = .ok (.iconst 2, 1) := by decide +kernel
theorem dL_law_839 : decode cL_law 839 = .ok (.iadd, 1) := by decide +kernel
theorem dL_law_840 : decode cL_law 840 = .ok (.iaload, 1) := by decide +kernel
theorem dL_law_841 : decode cL_law 841 = .ok (.aload_n 0, 1) := by decide +kernel
theorem dL_law_842 : decode cL_law 842 = .ok (.iload_n 3, 1) := by decide +kernel
theorem dL_law_843 : decode cL_law 843 = .ok (.iconst 3, 1) := by decide +kernel
theorem dL_law_844 : decode cL_law 844 = .ok (.iadd, 1) := by decide +kernel
theorem dL_law_845 : decode cL_law 845 = .ok (.iaload, 1) := by decide +kernel
theorem dL_law_846 : decode cL_law 846 = .ok (.invokevirtual 105, 3) := by decide +kernel
theorem dL_law_849 : decode cL_law 849 = .ok (.if_icmp .eq 306, 3) := by decide +kernel
theorem dL_law_852 : decode cL_law 852 = .ok (.iconst 0, 1) := by decide +kernel
theorem dL_law_853 : decode cL_law 853 = .ok (.ireturn, 1) := by decide +kernel
theorem dL_law_854 : decode cL_law 854 = .ok (.aload_n 1, 1) := by decide +kernel
theorem dL_law_855 : decode cL_law 855 = .ok (.aload_n 0, 1) := by decide +kernel
theorem dL_law_856 : decode cL_law 856 = .ok (.iload_n 3, 1) := by decide +kernel
theorem dL_law_857 : decode cL_law 857 = .ok (.iconst 1, 1) := by decide +kernel
theorem dL_law_858 : decode cL_law 858 = .ok (.iadd, 1) := by decide +kernel
theorem dL_law_859 : decode cL_law 859 = .ok (.iaload, 1) := by decide +kernel
theorem dL_law_860 : decode cL_law 860 = .ok (.invokevirtual 106, 3) := by decide +kernel
theorem dL_law_863 : decode cL_law 863 = .ok (.aload_n 2, 1) := by decide +kernel
theorem dL_law_864 : decode cL_law 864 = .ok (.aload_n 0, 1) := by decide +kernel
theorem dL_law_865 : decode cL_law 865 = .ok (.iload_n 3, 1) := by decide +kernel
theorem dL_law_866 : decode cL_law 866 = .ok (.iconst 1, 1) := by decide +kernel
theorem dL_law_867 : decode cL_law 867 = .ok (.iadd, 1) := by decide +kernel
theorem dL_law_868 : decode cL_law 868 = .ok (.iaload, 1) := by decide +kernel
theorem dL_law_869 : decode cL_law 869 = .ok (.invokevirtual 109, 3) := by decide +kernel
theorem dL_law_872 : decode cL_law 872 = .ok (.if_icmp .eq 283, 3) := by decide +kernel
theorem dL_law_875 : decode cL_law 875 = .ok (.iconst 0, 1) := by decide +kernel
theorem dL_law_876 : decode cL_law 876 = .ok (.ireturn, 1) := by decide +kernel
theorem dL_law_877 : decode cL_law 877 = .ok (.aload_n 1, 1) := by decide +kernel
theorem dL_law_878 : decode cL_law 878 = .ok (.aload_n 0, 1) := by decide +kernel
theorem dL_law_879 : decode cL_law 879 = .ok (.iload_n 3, 1) := by decide +kernel
theorem dL_law_880 : decode cL_law 880 = .ok (.iconst 1, 1) := by decide +kernel
theorem dL_law_881 : decode cL_law 881 = .ok (.iadd, 1) := by decide +kernel
theorem dL_law_882 : decode cL_law 882 = .ok (.iaload, 1) := by decide +kernel
theorem dL_law_883 : decode cL_law 883 = .ok (.aload_n 0, 1) := by decide +kernel
theorem dL_law_884 : decode cL_law 884 = .ok (.iload_n 3, 1) := by decide +kernel
theorem dL_law_885 : decode cL_law 885 = .ok (.iconst 2, 1) := by decide +kernel
theorem dL_law_886 : decode cL_law 886 = .ok (.iadd, 1) := by decide +kernel
theorem dL_law_887 : decode cL_law 887 = .ok (.iaload, 1) := by decide +kernel
theorem dL_law_888 : decode cL_law 888 = .ok (.aload_n 0, 1) := by decide +kernel
theorem dL_law_889 : decode cL_law 889 = .ok (.iload_n 3, 1) := by decide +kernel
theorem dL_law_890 : decode cL_law 890 = .ok (.iconst 3, 1) := by decide +kernel
theorem dL_law_891 : decode cL_law 891 = .ok (.iadd, 1) := by decide +kernel
theorem dL_law_892 : decode cL_law 892 = .ok (.iaload, 1) := by decide +kernel
theorem dL_law_893 : decode cL_law 893 = .ok (.invokevirtual 110, 3) := by decide +kernel
theorem dL_law_896 : decode cL_law 896 = .ok (.aload_n 2, 1) := by decide +kernel
theorem dL_law_897 : decode cL_law 897 = .ok (.aload_n 0, 1) := by decide +kernel
theorem dL_law_898 : decode cL_law 898 = .ok (.iload_n 3, 1) := by decide +kernel
theorem dL_law_899 : decode cL_law 899 = .ok (.iconst 1, 1) := by decide +kernel
theorem dL_law_900 : decode cL_law 900 = .ok (.iadd, 1) := by decide +kernel
theorem dL_law_901 : decode cL_law 901 = .ok (.iaload, 1) := by decide +kernel
theorem dL_law_902 : decode cL_law 902 = .ok (.aload_n 0, 1) := by decide +kernel
theorem dL_law_903 : decode cL_law 903 = .ok (.iload_n 3, 1) := by decide +kernel
theorem dL_law_904 : decode cL_law 904 = .ok (.iconst 2, 1) := by decide +kernel
theorem dL_law_905 : decode cL_law 905 = .ok (.iadd, 1) := by decide +kernel
theorem dL_law_906 : decode cL_law 906 = .ok (.iaload, 1) := by decide +kernel
theorem dL_law_907 : decode cL_law 907 = .ok (.aload_n 0, 1) := by decide +kernel
theorem dL_law_908 : decode cL_law 908 = .ok (.iload_n 3, 1) := by decide +kernel
theorem dL_law_909 : decode cL_law 909 = .ok (.iconst 3, 1) := by decide +kernel
theorem dL_law_910 : decode cL_law 910 = .ok (.iadd, 1) := by decide +kernel
theorem dL_law_911 : decode cL_law 911 = .ok (.iaload, 1) := by decide +kernel
theorem dL_law_912 : decode cL_law 912 = .ok (.invokevirtual 113, 3) := by decide +kernel
theorem dL_law_915 : decode cL_law 915 = .ok (.if_icmp .eq 240, 3) := by decide +kernel
theorem dL_law_918 : decode cL_law 918 = .ok (.iconst 0, 1) := by decide +kernel
theorem dL_law_919 : decode cL_law 919 = .ok (.ireturn, 1) := by decide +kernel
theorem dL_law_920 : decode cL_law 920 = .ok (.aload_n 1, 1) := by decide +kernel
theorem dL_law_921 : decode cL_law 921 = .ok (.aload_n 0, 1) := by decide +kernel
theorem dL_law_922 : decode cL_law 922 = .ok (.iload_n 3, 1) := by decide +kernel
theorem dL_law_923 : decode cL_law 923 = .ok (.iconst 1, 1) := by decide +kernel
theorem dL_law_924 : decode cL_law 924 = .ok (.iadd, 1) := by decide +kernel
theorem dL_law_925 : decode cL_law 925 = .ok (.iaload, 1) := by decide +kernel
theorem dL_law_926 : decode cL_law 926 = .ok (.aload_n 0, 1) := by decide +kernel
theorem dL_law_927 : decode cL_law 927 = .ok (.iload_n 3, 1) := by decide +kernel
theorem dL_law_928 : decode cL_law 928 = .ok (.iconst 2, 1) := by decide +kernel
theorem dL_law_929 : decode cL_law 929 = .ok (.iadd, 1) := by decide +kernel
theorem dL_law_930 : decode cL_law 930 = .ok (.iaload, 1) := by decide +kernel
theorem dL_law_931 : decode cL_law 931 = .ok (.aload_n 0, 1) := by decide +kernel
theorem dL_law_932 : decode cL_law 932 = .ok (.iload_n 3, 1) := by decide +kernel
theorem dL_law_933 : decode cL_law 933 = .ok (.iconst 3, 1) := by decide +kernel
theorem dL_law_934 : decode cL_law 934 = .ok (.iadd, 1) := by decide +kernel
theorem dL_law_935 : decode cL_law 935 = .ok (.iaload, 1) := by decide +kernel
theorem dL_law_936 : decode cL_law 936 = .ok (.invokevirtual 114, 3) := by decide +kernel
theorem dL_law_939 : decode cL_law 939 = .ok (.aload_n 2, 1) := by decide +kernel
theorem dL_law_940 : decode cL_law 940 = .ok (.aload_n 0, 1) := by decide +kernel
theorem dL_law_941 : decode cL_law 941 = .ok (.iload_n 3, 1) := by decide +kernel
theorem dL_law_942 : decode cL_law 942 = .ok (.iconst 1, 1) := by decide +kernel
theorem dL_law_943 : decode cL_law 943 = .ok (.iadd, 1) := by decide +kernel
theorem dL_law_944 : decode cL_law 944 = .ok (.iaload, 1) := by decide +kernel
theorem dL_law_945 : decode cL_law 945 = .ok (.aload_n 0, 1) := by decide +kernel
theorem dL_law_946 : decode cL_law 946 = .ok (.iload_n 3, 1) := by decide +kernel
theorem dL_law_947 : decode cL_law 947 = .ok (.iconst 2, 1) := by decide +kernel
theorem dL_law_948 : decode cL_law 948 = .ok (.iadd, 1) := by decide +kernel
theorem dL_law_949 : decode cL_law 949 = .ok (.iaload, 1) := by decide +kernel
theorem dL_law_950 : decode cL_law 950 = .ok (.aload_n 0, 1) := by decide +kernel
theorem dL_law_951 : decode cL_law 951 = .ok (.iload_n 3, 1) := by decide +kernel
theorem dL_law_952 : decode cL_law 952 = .ok (.iconst 3, 1) := by decide +kernel
theorem dL_law_953 : decode cL_law 953 = .ok (.iadd, 1) := by decide +kernel
theorem dL_law_954 : decode cL_law 954 = .ok (.iaload, 1) := by decide +kernel
theorem dL_law_955 : decode cL_law 955 = .ok (.invokevirtual 117, 3) := by decide +kernel
theorem dL_law_958 : decode cL_law 958 = .ok (.lcmp, 1) := by decide +kernel
theorem dL_law_959 : decode cL_law 959 = .ok (.ifCond .eq 196, 3) := by decide +kernel
theorem dL_law_962 : decode cL_law 962 = .ok (.iconst 0, 1) := by decide +kernel
theorem dL_law_963 : decode cL_law 963 = .ok (.ireturn, 1) := by decide +kernel
theorem dL_law_964 : decode cL_law 964 = .ok (.aload_n 1, 1) := by decide +kernel
theorem dL_law_965 : decode cL_law 965 = .ok (.aload_n 0, 1) := by decide +kernel
theorem dL_law_966 : decode cL_law 966 = .ok (.iload_n 3, 1) := by decide +kernel
theorem dL_law_967 : decode cL_law 967 = .ok (.iconst 1, 1) := by decide +kernel
theorem dL_law_968 : decode cL_law 968 = .ok (.iadd, 1) := by decide +kernel
theorem dL_law_969 : decode cL_law 969 = .ok (.iaload, 1) := by decide +kernel
theorem dL_law_970 : decode cL_law 970 = .ok (.aload_n 0, 1) := by decide +kernel
theorem dL_law_971 : decode cL_law 971 = .ok (.iload_n 3, 1) := by decide +kernel
theorem dL_law_972 : decode cL_law 972 = .ok (.iconst 2, 1) := by decide +kernel
theorem dL_law_973 : decode cL_law 973 = .ok (.iadd, 1) := by decide +kernel
theorem dL_law_974 : decode cL_law 974 = .ok (.iaload, 1) := by decide +kernel
theorem dL_law_975 : decode cL_law 975 = .ok (.aload_n 0, 1) := by decide +kernel
theorem dL_law_976 : decode cL_law 976 = .ok (.iload_n 3, 1) := by decide +kernel
theorem dL_law_977 : decode cL_law 977 = .ok (.iconst 3, 1) := by decide +kernel
theorem dL_law_978 : decode cL_law 978 = .ok (.iadd, 1) := by decide +kernel
theorem dL_law_979 : decode cL_law 979 = .ok (.iaload, 1) := by decide +kernel
theorem dL_law_980 : decode cL_law 980 = .ok (.aload_n 0, 1) := by decide +kernel
theorem dL_law_981 : decode cL_law 981 = .ok (.iload_n 3, 1) := by decide +kernel
theorem dL_law_982 : decode cL_law 982 = .ok (.iconst 4, 1) := by decide +kernel
theorem dL_law_983 : decode cL_law 983 = .ok (.iadd, 1) := by decide +kernel
theorem dL_law_984 : decode cL_law 984 = .ok (.iaload, 1) := by decide +kernel
theorem dL_law_985 : decode cL_law 985 = .ok (.aload_n 0, 1) := by decide +kernel
theorem dL_law_986 : decode cL_law 986 = .ok (.iload_n 3, 1) := by decide +kernel
theorem dL_law_987 : decode cL_law 987 = .ok (.iconst 5, 1) := by decide +kernel
theorem dL_law_988 : decode cL_law 988 = .ok (.iadd, 1) := by decide +kernel
theorem dL_law_989 : decode cL_law 989 = .ok (.iaload, 1) := by decide +kernel
theorem dL_law_990 : decode cL_law 990 = .ok (.invokevirtual 118, 3) := by decide +kernel
theorem dL_law_993 : decode cL_law 993 = .ok (.aload_n 2, 1) := by decide +kernel
theorem dL_law_994 : decode cL_law 994 = .ok (.aload_n 0, 1) := by decide +kernel
theorem dL_law_995 : decode cL_law 995 = .ok (.iload_n 3, 1) := by decide +kernel
theorem dL_law_996 : decode cL_law 996 = .ok (.iconst 1, 1) := by decide +kernel
theorem dL_law_997 : decode cL_law 997 = .ok (.iadd, 1) := by decide +kernel
theorem dL_law_998 : decode cL_law 998 = .ok (.iaload, 1) := by decide +kernel
theorem dL_law_999 : decode cL_law 999 = .ok (.aload_n 0, 1) := by decide +kernel
theorem dL_law_1000 : decode cL_law 1000 = .ok (.iload_n 3, 1) := by decide +kernel
theorem dL_law_1001 : decode cL_law 1001 = .ok (.iconst 2, 1) := by decide +kernel
theorem dL_law_1002 : decode cL_law 1002 = .ok (.iadd, 1) := by decide +kernel
theorem dL_law_1003 : decode cL_law 1003 = .ok (.iaload, 1) := by decide +kernel
theorem dL_law_1004 : decode cL_law 1004 = .ok (.aload_n 0, 1) := by decide +kernel
theorem dL_law_1005 : decode cL_law 1005 = .ok (.iload_n 3, 1) := by decide +kernel
theorem dL_law_1006 : decode cL_law 1006 = .ok (.iconst 3, 1) := by decide +kernel
theorem dL_law_1007 : decode cL_law 1007 = .ok (.iadd, 1) := by decide +kernel
theorem dL_law_1008 : decode cL_law 1008 = .ok (.iaload, 1) := by decide +kernel
theorem dL_law_1009 : decode cL_law 1009 = .ok (.aload_n 0, 1) := by decide +kernel
theorem dL_law_1010 : decode cL_law 1010 = .ok (.iload_n 3, 1) := by decide +kernel
theorem dL_law_1011 : decode cL_law 1011 = .ok (.iconst 4, 1) := by decide +kernel
theorem dL_law_1012 : decode cL_law 1012 = .ok (.iadd, 1) := by decide +kernel
theorem dL_law_1013 : decode cL_law 1013 = .ok (.iaload, 1) := by decide +kernel
theorem dL_law_1014 : decode cL_law 1014 = .ok (.aload_n 0, 1) := by decide +kernel
theorem dL_law_1015 : decode cL_law 1015 = .ok (.iload_n 3, 1) := by decide +kernel
theorem dL_law_1016 : decode cL_law 1016 = .ok (.iconst 5, 1) := by decide +kernel
theorem dL_law_1017 : decode cL_law 1017 = .ok (.iadd, 1) := by decide +kernel
theorem dL_law_1018 : decode cL_law 1018 = .ok (.iaload, 1) := by decide +kernel
theorem dL_law_1019 : decode cL_law 1019 = .ok (.invokevirtual 122, 3) := by decide +kernel
theorem dL_law_1022 : decode cL_law 1022 = .ok (.if_icmp .eq 133, 3) := by decide +kernel
theorem dL_law_1025 : decode cL_law 1025 = .ok (.iconst 0, 1) := by decide +kernel
theorem dL_law_1026 : decode cL_law 1026 = .ok (.ireturn, 1) := by decide +kernel
theorem dL_law_1027 : decode cL_law 1027 = .ok (.aload_n 1, 1) := by decide +kernel
theorem dL_law_1028 : decode cL_law 1028 = .ok (.aload_n 0, 1) := by decide +kernel
theorem dL_law_1029 : decode cL_law 1029 = .ok (.iload_n 3, 1) := by decide +kernel
theorem dL_law_1030 : decode cL_law 1030 = .ok (.iconst 1, 1) := by decide +kernel
theorem dL_law_1031 : decode cL_law 1031 = .ok (.iadd, 1) := by decide +kernel
theorem dL_law_1032 : decode cL_law 1032 = .ok (.iaload, 1) := by decide +kernel
theorem dL_law_1033 : decode cL_law 1033 = .ok (.invokevirtual 123, 3) := by decide +kernel
theorem dL_law_1036 : decode cL_law 1036 = .ok (.aload_n 2, 1) := by decide +kernel
theorem dL_law_1037 : decode cL_law 1037 = .ok (.aload_n 0, 1) := by decide +kernel
theorem dL_law_1038 : decode cL_law 1038 = .ok (.iload_n 3, 1) := by decide +kernel
theorem dL_law_1039 : decode cL_law 1039 = .ok (.iconst 1, 1) := by decide +kernel
theorem dL_law_1040 : decode cL_law 1040 = .ok (.iadd, 1) := by decide +kernel
theorem dL_law_1041 : decode cL_law 1041 = .ok (.iaload, 1) := by decide +kernel
theorem dL_law_1042 : decode cL_law 1042 = .ok (.invokevirtual 126, 3) := by decide +kernel
theorem dL_law_1045 : decode cL_law 1045 = .ok (.if_icmp .eq 110, 3) := by decide +kernel
theorem dL_law_1048 : decode cL_law 1048 = .ok (.iconst 0, 1) := by decide +kernel
theorem dL_law_1049 : decode cL_law 1049 = .ok (.ireturn, 1) := by decide +kernel
theorem dL_law_1050 : decode cL_law 1050 = .ok (.aload_n 1, 1) := by decide +kernel
theorem dL_law_1051 : decode cL_law 1051 = .ok (.aload_n 0, 1) := by decide +kernel
theorem dL_law_1052 : decode cL_law 1052 = .ok (.iload_n 3, 1) := by decide +kernel
theorem dL_law_1053 : decode cL_law 1053 = .ok (.iconst 1, 1) := by decide +kernel
theorem dL_law_1054 : decode cL_law 1054 = .ok (.iadd, 1) := by decide +kernel
theorem dL_law_1055 : decode cL_law 1055 = .ok (.iaload, 1) := by decide +kernel
theorem dL_law_1056 : decode cL_law 1056 = .ok (.invokevirtual 127, 3) := by decide +kernel
theorem dL_law_1059 : decode cL_law 1059 = .ok (.aload_n 2, 1) := by decide +kernel
theorem dL_law_1060 : decode cL_law 1060 = .ok (.aload_n 0, 1) := by decide +kernel
theorem dL_law_1061 : decode cL_law 1061 = .ok (.iload_n 3, 1) := by decide +kernel
theorem dL_law_1062 : decode cL_law 1062 = .ok (.iconst 1, 1) := by decide +kernel
theorem dL_law_1063 : decode cL_law 1063 = .ok (.iadd, 1) := by decide +kernel
theorem dL_law_1064 : decode cL_law 1064 = .ok (.iaload, 1) := by decide +kernel
theorem dL_law_1065 : decode cL_law 1065 = .ok (.invokevirtual 130, 3) := by decide +kernel
theorem dL_law_1068 : decode cL_law 1068 = .ok (.if_icmp .eq 87, 3) := by decide +kernel
theorem dL_law_1071 : decode cL_law 1071 = .ok (.iconst 0, 1) := by decide +kernel
theorem dL_law_1072 : decode cL_law 1072 = .ok (.ireturn, 1) := by decide +kernel
theorem dL_law_1073 : decode cL_law 1073 = .ok (.aload_n 1, 1) := by decide +kernel
theorem dL_law_1074 : decode cL_law 1074 = .ok (.aload_n 0, 1) := by decide +kernel
theorem dL_law_1075 : decode cL_law 1075 = .ok (.iload_n 3, 1) := by decide +kernel
theorem dL_law_1076 : decode cL_law 1076 = .ok (.iconst 1, 1) := by decide +kernel
theorem dL_law_1077 : decode cL_law 1077 = .ok (.iadd, 1) := by decide +kernel
theorem dL_law_1078 : decode cL_law 1078 = .ok (.iaload, 1) := by decide +kernel
theorem dL_law_1079 : decode cL_law 1079 = .ok (.aload_n 0, 1) := by decide +kernel
theorem dL_law_1080 : decode cL_law 1080 = .ok (.iload_n 3, 1) := by decide +kernel
theorem dL_law_1081 : decode cL_law 1081 = .ok (.iconst 2, 1) := by decide +kernel
theorem dL_law_1082 : decode cL_law 1082 = .ok (.iadd, 1) := by decide +kernel
theorem dL_law_1083 : decode cL_law 1083 = .ok (.iaload, 1) := by decide +kernel
theorem dL_law_1084 : decode cL_law 1084 = .ok (.invokevirtual 131, 3) := by decide +kernel
theorem dL_law_1087 : decode cL_law 1087 = .ok (.aload_n 2, 1) := by decide +kernel
theorem dL_law_1088 : decode cL_law 1088 = .ok (.aload_n 0, 1) := by decide +kernel
theorem dL_law_1089 : decode cL_law 1089 = .ok (.iload_n 3, 1) := by decide +kernel
theorem dL_law_1090 : decode cL_law 1090 = .ok (.iconst 1, 1) := by decide +kernel
theorem dL_law_1091 : decode cL_law 1091 = .ok (.iadd, 1) := by decide +kernel
theorem dL_law_1092 : decode cL_law 1092 = .ok (.iaload, 1) := by decide +kernel
theorem dL_law_1093 : decode cL_law 1093 = .ok (.aload_n 0, 1) := by decide +kernel
theorem dL_law_1094 : decode cL_law 1094 = .ok (.iload_n 3, 1) := by decide +kernel
theorem dL_law_1095 : decode cL_law 1095 = .ok (.iconst 2, 1) := by decide +kernel
theorem dL_law_1096 : decode cL_law 1096 = .ok (.iadd, 1) := by decide +kernel
theorem dL_law_1097 : decode cL_law 1097 = .ok (.iaload, 1) := by decide +kernel
theorem dL_law_1098 : decode cL_law 1098 = .ok (.invokevirtual 134, 3) := by decide +kernel
theorem dL_law_1101 : decode cL_law 1101 = .ok (.if_icmp .eq 54, 3) := by decide +kernel
theorem dL_law_1104 : decode cL_law 1104 = .ok (.iconst 0, 1) := by decide +kernel
theorem dL_law_1105 : decode cL_law 1105 = .ok (.ireturn, 1) := by decide +kernel
theorem dL_law_1106 : decode cL_law 1106 = .ok (.aload_n 1, 1) := by decide +kernel
theorem dL_law_1107 : decode cL_law 1107 = .ok (.invokevirtual 135, 3) := by decide +kernel
theorem dL_law_1110 : decode cL_law 1110 = .ok (.aload_n 2, 1) := by decide +kernel
theorem dL_law_1111 : decode cL_law 1111 = .ok (.invokevirtual 138, 3) := by decide +kernel
theorem dL_law_1114 : decode cL_law 1114 = .ok (.if_icmp .eq 41, 3) := by decide +kernel
theorem dL_law_1117 : decode cL_law 1117 = .ok (.iconst 0, 1) := by decide +kernel
theorem dL_law_1118 : decode cL_law 1118 = .ok (.ireturn, 1) := by decide +kernel
theorem dL_law_1119 : decode cL_law 1119 = .ok (.aload_n 1, 1) := by decide +kernel
theorem dL_law_1120 : decode cL_law 1120 = .ok (.invokevirtual 139, 3) := by decide +kernel
theorem dL_law_1123 : decode cL_law 1123 = .ok (.aload_n 2, 1) := by decide +kernel
theorem dL_law_1124 : decode cL_law 1124 = .ok (.invokevirtual 142, 3) := by decide +kernel
theorem dL_law_1127 : decode cL_law 1127 = .ok (.if_icmp .eq 28, 3) := by decide +kernel
theorem dL_law_1130 : decode cL_law 1130 = .ok (.iconst 0, 1) := by decide +kernel
theorem dL_law_1131 : decode cL_law 1131 = .ok (.ireturn, 1) := by decide +kernel
theorem dL_law_1132 : decode cL_law 1132 = .ok (.aload_n 1, 1) := by decide +kernel
theorem dL_law_1133 : decode cL_law 1133 = .ok (.aload_n 0, 1) := by decide +kernel
theorem dL_law_1134 : decode cL_law 1134 = .ok (.iload_n 3, 1) := by decide +kernel
theorem dL_law_1135 : decode cL_law 1135 = .ok (.iconst 1, 1) := by decide +kernel
theorem dL_law_1136 : decode cL_law 1136 = .ok (.iadd, 1) := by decide +kernel
theorem dL_law_1137 : decode cL_law 1137 = .ok (.iaload, 1) := by decide +kernel
theorem dL_law_1138 : decode cL_law 1138 = .ok (.invokevirtual 143, 3) := by decide +kernel
theorem dL_law_1141 : decode cL_law 1141 = .ok (.aload_n 2, 1) := by decide +kernel
theorem dL_law_1142 : decode cL_law 1142 = .ok (.aload_n 0, 1) := by decide +kernel
theorem dL_law_1143 : decode cL_law 1143 = .ok (.iload_n 3, 1) := by decide +kernel
theorem dL_law_1144 : decode cL_law 1144 = .ok (.iconst 1, 1) := by decide +kernel
theorem dL_law_1145 : decode cL_law 1145 = .ok (.iadd, 1) := by decide +kernel
theorem dL_law_1146 : decode cL_law 1146 = .ok (.iaload, 1) := by decide +kernel
theorem dL_law_1147 : decode cL_law 1147 = .ok (.invokevirtual 146, 3) := by decide +kernel
theorem dL_law_1150 : decode cL_law 1150 = .ok (.if_icmp .eq 5, 3) := by decide +kernel
theorem dL_law_1153 : decode cL_law 1153 = .ok (.iconst 0, 1) := by decide +kernel
theorem dL_law_1154 : decode cL_law 1154 = .ok (.ireturn, 1) := by decide +kernel
theorem dL_law_1155 : decode cL_law 1155 = .ok (.iinc 3 6, 3) := by decide +kernel
theorem dL_law_1158 : decode cL_law 1158 = .ok (.goto (-1140), 3) := by decide +kernel
theorem dL_law_1161 : decode cL_law 1161 = .ok (.iconst 1, 1) := by decide +kernel
theorem dL_law_1162 : decode cL_law 1162 = .ok (.ireturn, 1) := by decide +kernel
abbrev vwCl : List vw_C := [(RX0, TX0, 5), (RX1, TX1, 7), (RX2, TX2, 5), (RX3, TX3, 4), (RX4, TX4, 3), (RX5, TX5, 7), (RX6, TX6, 27)]
end
section
/-! ===== the words of the tables, good ones and those of nest mates ===== -/
def gW : List Cond := lw_tbl.filter goodWord
def mv_isNest : Cond → Bool
  | .fieldLinkNest .. => true
  | .methodLinkNest .. => true
  | _ => false
def nW : List Cond := lw_tbl.filter mv_isNest
theorem gw_t (i : Nat) {w : Cond} (h : tables_1[i]? = some w) (g : goodWord w = true) : w ∈ gW :=
  List.mem_filter.mpr ⟨List.mem_append_right _ (List.mem_of_getElem? h), g⟩
theorem gw_s (i : Nat) {w : Cond} (h : (k2_sels lw_privs)[i]? = some w) (g : goodWord w = true) : w ∈ gW :=
  List.mem_filter.mpr ⟨List.mem_append_left _ (List.mem_of_getElem? h), g⟩
theorem nw_t (i : Nat) {w : Cond} (h : tables_1[i]? = some w) (g : mv_isNest w = true) : w ∈ nW :=
  List.mem_filter.mpr ⟨List.mem_append_right _ (List.mem_of_getElem? h), g⟩
theorem gW_good {w : Cond} (h : w ∈ gW) : (w.onTables && w.keeps) = true ∨ ∃ ty, w = .arrayClass ty := good_of_word (List.mem_filter.mp h).2
theorem gW_tbl {w : Cond} (h : w ∈ gW) : w ∈ lw_tbl := (List.mem_filter.mp h).1
theorem nW_tbl {w : Cond} (h : w ∈ nW) : w ∈ lw_tbl := (List.mem_filter.mp h).1
theorem nw_warm {w : Cond} (h : w ∈ nW) {s U : State} (hW : s.WarmedH U.vm) (hZ : va_Nw w s) : va_Nw w U := by
  have g := (List.mem_filter.mp h).2
  cases w with
  | fieldLinkNest a i b n d h => exact va_Nw.warmF hW hZ
  | methodLinkNest a i x h => exact va_Nw.warmM hW hZ
  | _ => exact absurd g (by simp [mv_isNest])
theorem nw_same {w : Cond} (h : w ∈ nW) {s U : State} (e : s.vm = U.vm) (hZ : va_Nw w s) : va_Nw w U := by
  have g := (List.mem_filter.mp h).2
  cases w with
  | fieldLinkNest a i b n d h => exact va_Nw.same rfl e hZ
  | methodLinkNest a i x h => exact va_Nw.same rfl e hZ
  | _ => exact absurd g (by simp [mv_isNest])
theorem nw_use {w : Cond} (h : w ∈ nW) {s : State} {A : Array Value} (hZ : va_Nw w s) : w.before A s = true := by
  have g := (List.mem_filter.mp h).2
  cases w with
  | fieldLinkNest a i b n d h => exact va_Nw.use rfl hZ
  | methodLinkNest a i x h => exact va_Nw.use rfl hZ
  | _ => exact absurd g (by simp [mv_isNest])
theorem nw_of {w : Cond} (h : w ∈ nW) {s : State} {A : Array Value} (hZ : w.before A s = true) : va_Nw w s := by
  have g := (List.mem_filter.mp h).2
  cases w with
  | fieldLinkNest a i b n d h => exact va_Nw.of rfl hZ
  | methodLinkNest a i x h => exact va_Nw.of rfl hZ
  | _ => exact absurd g (by simp [mv_isNest])
/-! ===== the state: what the ints and longs of all cells are, by their places; refs never change ===== -/
abbrev St : Type := (Nat → Nat → Int32) × (Nat → Nat → Int64)
def sI (S : St) (p k : Nat) (x : Int32) : St := (fun q => if q = p then upd (S.1 q) k x else S.1 q, S.2)
def sJ (S : St) (p k : Nat) (x : Int64) : St := (S.1, fun q => if q = p then vp_updL (S.2 q) k x else S.2 q)
def sF (S : St) (p : Nat) (f : Nat → Int32) : St := (fun q => if q = p then f else S.1 q, S.2)
/-- a cell's layout: an object (its class's place, its fields: a ref to a place, an int, a long), or an array (0 ints, 1 longs, 2 objects, 3 arrays of ints; its length; the places of its refs) -/
abbrev LE : Type := (Nat × List (Nat ⊕ Bool)) ⊕ (Nat × Nat × List Nat)
def cV (ad : Nat → Nat) (v : Value) : Value := match v with
  | .ref p => .ref (ad p)
  | v => v
theorem cV_cat (ad : Nat → Nat) (v : Value) : (cV ad v).category = v.category := by cases v <;> rfl
def fv1 (ad : Nat → Nat) (fI : Nat → Int32) (fL : Nat → Int64) (i : Nat) (k : Nat ⊕ Bool) : Value := match k with
  | .inl q => .ref (ad q)
  | .inr false => .int (fI i)
  | .inr true => .long (fL i)
def fvs (ad : Nat → Nat) (fI : Nat → Int32) (fL : Nat → Int64) : Nat → List (Nat ⊕ Bool) → List Value
  | _, [] => []
  | i, k :: ks => fv1 ad fI fL i k :: fvs ad fI fL (i + 1) ks
theorem fvs_get (ad : Nat → Nat) (fI : Nat → Int32) (fL : Nat → Int64) : ∀ (ks : List (Nat ⊕ Bool)) (i j : Nat), (fvs ad fI fL i ks)[j]? = (ks[j]?).map (fv1 ad fI fL (i + j))
  | [], i, j => by simp [fvs]
  | k :: ks, i, 0 => by simp [fvs]
  | k :: ks, i, j + 1 => by
    simp only [fvs, List.getElem?_cons_succ]
    rw [fvs_get ad fI fL ks (i + 1) j, show i + 1 + j = i + (j + 1) by omega]
theorem fvs_setI {ad : Nat → Nat} {fI : Nat → Int32} {fL : Nat → Int64} {ks : List (Nat ⊕ Bool)} {k : Nat} (h : ks[k]? = some (.inr false)) (x : Int32) : (fvs ad fI fL 0 ks).set k (.int x) = fvs ad (upd fI k x) fL 0 ks := by
  apply List.ext_getElem?
  intro j
  by_cases hj : j = k
  · subst hj
    have hl : j < (fvs ad fI fL 0 ks).length := by
      have := fvs_get ad fI fL ks 0 j
      rw [h] at this
      exact (List.getElem?_eq_some_iff.mp this).1
    rw [List.getElem?_set_self hl, fvs_get, h]
    simp [fv1, upd]
  · rw [List.getElem?_set_ne (Ne.symm hj), fvs_get, fvs_get]
    cases ks[j]? with
    | none => rfl
    | some q => rcases q with q | b
                · rfl
                · cases b <;> simp [fv1, upd, hj]
theorem fvs_setJ {ad : Nat → Nat} {fI : Nat → Int32} {fL : Nat → Int64} {ks : List (Nat ⊕ Bool)} {k : Nat} (h : ks[k]? = some (.inr true)) (x : Int64) : (fvs ad fI fL 0 ks).set k (.long x) = fvs ad fI (vp_updL fL k x) 0 ks := by
  apply List.ext_getElem?
  intro j
  by_cases hj : j = k
  · subst hj
    have hl : j < (fvs ad fI fL 0 ks).length := by
      have := fvs_get ad fI fL ks 0 j
      rw [h] at this
      exact (List.getElem?_eq_some_iff.mp this).1
    rw [List.getElem?_set_self hl, fvs_get, h]
    simp [fv1, vp_updL]
  · rw [List.getElem?_set_ne (Ne.symm hj), fvs_get, fvs_get]
    cases ks[j]? with
    | none => rfl
    | some q => rcases q with q | b
                · rfl
                · cases b <;> simp [fv1, vp_updL, hj]
theorem fvs_len (ad : Nat → Nat) (fI : Nat → Int32) (fL : Nat → Int64) : ∀ (ks : List (Nat ⊕ Bool)) (i : Nat), (fvs ad fI fL i ks).length = ks.length
  | [], i => rfl
  | k :: ks, i => by simp [fvs, fvs_len ad fI fL ks (i + 1)]
def celE (ad : Nat → Nat) (cA : ClassId) (e : LE) (fI : Nat → Int32) (fL : Nat → Int64) : va_E := match e with
  | .inl (ci, fks) => .inr (ci, fvs ad fI fL 0 fks)
  | .inr (0, n, _) => .inl (cA, n, .inl fI)
  | .inr (1, n, _) => .inl (cA, n, .inr (.inl fL))
  | .inr (_, n, rs) => .inl (cA, n, .inr (.inr (.inr (.inr (fun j => (rs[j]?).map ad)))))
def NC : Nat := 51
/-- which cell stands at which place: both objects with all that they reach -/
def lay : Nat → LE := fun p => match p with
  | 0 => .inl (5, [.inl 1, .inl 4, .inl 7, .inl 19, .inl 25, .inr false, .inr false])
  | 1 => .inl (2, [.inl 2, .inl 3, .inr false, .inr false, .inr false])
  | 2 => .inr (0, 30, [])
  | 3 => .inr (0, 6, [])
  | 4 => .inl (4, [.inl 5, .inl 6, .inr false])
  | 5 => .inr (0, 8, [])
  | 6 => .inr (0, 8, [])
  | 7 => .inl (1, [.inl 1, .inl 4, .inl 8, .inl 12, .inl 16, .inl 17, .inl 18])
  | 8 => .inr (3, 3, [9, 10, 11])
  | 9 => .inr (0, 36, [])
  | 10 => .inr (0, 36, [])
  | 11 => .inr (0, 36, [])
  | 12 => .inr (3, 3, [13, 14, 15])
  | 13 => .inr (0, 36, [])
  | 14 => .inr (0, 36, [])
  | 15 => .inr (0, 36, [])
  | 16 => .inr (0, 8, [])
  | 17 => .inr (0, 4, [])
  | 18 => .inr (0, 4, [])
  | 19 => .inl (0, [.inl 20, .inl 21, .inl 22, .inl 23, .inl 24])
  | 20 => .inr (0, 7, [])
  | 21 => .inr (0, 8, [])
  | 22 => .inr (0, 7, [])
  | 23 => .inr (0, 7, [])
  | 24 => .inr (0, 192, [])
  | 25 => .inr (2, 4, [26, 28, 30, 32])
  | 26 => .inl (3, [.inl 27, .inr false, .inr false, .inr false])
  | 27 => .inr (0, 60, [])
  | 28 => .inl (3, [.inl 29, .inr false, .inr false, .inr false])
  | 29 => .inr (0, 60, [])
  | 30 => .inl (3, [.inl 31, .inr false, .inr false, .inr false])
  | 31 => .inr (0, 60, [])
  | 32 => .inl (3, [.inl 33, .inr false, .inr false, .inr false])
  | 33 => .inr (0, 60, [])
  | 34 => .inl (6, [.inr false, .inr false, .inr false, .inl 35, .inl 36, .inr false, .inr false, .inr false, .inr false, .inl 37, .inl 38, .inr false, .inl 39, .inl 40, .inl 41, .inl 42, .inl 43, .inr true, .inr true, .inl 44, .inl 45, .inl 46, .inl 47, .inl 48, .inl 49, .inl 50, .inr false])
  | 35 => .inr (0, 6, [])
  | 36 => .inr (0, 30, [])
  | 37 => .inr (0, 6, [])
  | 38 => .inr (0, 30, [])
  | 39 => .inr (0, 8, [])
  | 40 => .inr (0, 8, [])
  | 41 => .inr (1, 6, [])
  | 42 => .inr (1, 6, [])
  | 43 => .inr (1, 7, [])
  | 44 => .inr (0, 7, [])
  | 45 => .inr (0, 256, [])
  | 46 => .inr (0, 256, [])
  | 47 => .inr (0, 4, [])
  | 48 => .inr (0, 4, [])
  | 49 => .inr (0, 240, [])
  | _ => .inr (0, 60, [])
def isSh (p : Nat) : Prop := p = 26 ∨ p = 28 ∨ p = 30 ∨ p = 32
theorem sh_lt {p : Nat} (h : isSh p) : p < NC := by rcases h with rfl | rfl | rfl | rfl <;> decide
theorem sh_lt1 {p : Nat} (h : isSh p) : p + 1 < NC := by rcases h with rfl | rfl | rfl | rfl <;> decide
theorem sh_lay {p : Nat} (h : isSh p) : lay p = .inl (3, [.inl (p + 1), .inr false, .inr false, .inr false]) := by rcases h with rfl | rfl | rfl | rfl <;> rfl
theorem sh_row {p : Nat} (h : isSh p) : lay (p + 1) = .inr (0, 60, []) := by rcases h with rfl | rfl | rfl | rfl <;> rfl
theorem in_lt {i : Int32} {n : Nat} (h : vp_in i n) : i.toNatClampNeg < n := Nat.not_le.mp fun q => h (Or.inr q)
theorem sh_in {i : Int32} (h : vp_in i 4) : isSh (26 + 2 * i.toNatClampNeg) := by
  have := in_lt h
  unfold isSh
  omega
theorem sh_el {i : Int32} (h : vp_in i 4) : [26, 28, 30, 32][i.toNatClampNeg]? = some (26 + 2 * i.toNatClampNeg) := by
  have := in_lt h
  generalize i.toNatClampNeg = k at this ⊢
  rcases (by omega : k = 0 ∨ k = 1 ∨ k = 2 ∨ k = 3) with rfl | rfl | rfl | rfl <;> rfl
theorem pw_el {i : Int32} (b : Nat) (h : vp_in i 3) : [b, b + 1, b + 2][i.toNatClampNeg]? = some (b + i.toNatClampNeg) := by
  have := in_lt h
  generalize i.toNatClampNeg = k at this ⊢
  rcases (by omega : k = 0 ∨ k = 1 ∨ k = 2) with rfl | rfl | rfl <;> rfl
theorem pa_lt {i : Int32} (h : vp_in i 3) : 9 + i.toNatClampNeg < NC := by
  have := in_lt h
  show _ < 51
  omega
theorem wo_lt {i : Int32} (h : vp_in i 3) : 13 + i.toNatClampNeg < NC := by
  have := in_lt h
  show _ < 51
  omega
theorem pa_lay {i : Int32} (h : vp_in i 3) : lay (9 + i.toNatClampNeg) = .inr (0, 36, []) := by
  have := in_lt h
  generalize i.toNatClampNeg = k at this ⊢
  rcases (by omega : k = 0 ∨ k = 1 ∨ k = 2) with rfl | rfl | rfl <;> rfl
theorem wo_lay {i : Int32} (h : vp_in i 3) : lay (13 + i.toNatClampNeg) = .inr (0, 36, []) := by
  have := in_lt h
  generalize i.toNatClampNeg = k at this ⊢
  rcases (by omega : k = 0 ∨ k = 1 ∨ k = 2) with rfl | rfl | rfl <;> rfl
/-! ===== the world: all cells of both objects, at addresses that are variables ===== -/
def cel (ad : Nat → Nat) (ac : Nat → ClassId) (S : St) (p : Nat) : va_E := celE ad (ac p) (lay p) (S.1 p) (S.2 p)
def wld (ad : Nat → Nat) (ac : Nat → ClassId) (S : St) : va_W := (List.range NC).map (fun p => (ad p, cel ad ac S p))
def tyE (e : LE) : FieldType := match e with
  | .inl _ => .int
  | .inr (0, _, _) => .int
  | .inr (1, _, _) => .long
  | .inr (2, _, _) => .object "MarbleVotes$Sheet"
  | .inr (_, _, _) => .array .int
def tysOf (ac : Nat → ClassId) : List (ClassId × FieldType) := (List.range NC).map (fun p => (ac p, tyE (lay p)))
theorem wld_get (ad : Nat → Nat) (ac : Nat → ClassId) (S : St) {p : Nat} (h : p < NC) : (wld ad ac S)[p]? = some (ad p, cel ad ac S p) := by
  unfold wld
  rw [List.getElem?_map, List.getElem?_range h]
  rfl
theorem wld_inv {ad : Nat → Nat} {ac : Nat → ClassId} {S : St} {k : Nat} {q : Nat × va_E} (h : (wld ad ac S)[k]? = some q) : k < NC ∧ q = (ad k, cel ad ac S k) := by
  have hk : k < NC := by
    have := (List.getElem?_eq_some_iff.mp h).1
    simpa [wld] using this
  rw [wld_get ad ac S hk] at h
  exact ⟨hk, (Option.some.inj h).symm⟩
theorem tys_get (ac : Nat → ClassId) {p : Nat} (h : p < NC) : (tysOf ac)[p]? = some (ac p, tyE (lay p)) := by
  unfold tysOf
  rw [List.getElem?_map, List.getElem?_range h]
  rfl
theorem sI_ne (S : St) {p q : Nat} (k : Nat) (x : Int32) (h : q ≠ p) : (sI S p k x).1 q = S.1 q := by simp [sI, h]
theorem sI_eq (S : St) (p k : Nat) (x : Int32) : (sI S p k x).1 p = upd (S.1 p) k x := by simp [sI]
theorem sI_2 (S : St) (p k : Nat) (x : Int32) : (sI S p k x).2 = S.2 := rfl
theorem sJ_ne (S : St) {p q : Nat} (k : Nat) (x : Int64) (h : q ≠ p) : (sJ S p k x).2 q = S.2 q := by simp [sJ, h]
theorem sJ_eq (S : St) (p k : Nat) (x : Int64) : (sJ S p k x).2 p = vp_updL (S.2 p) k x := by simp [sJ]
theorem sJ_1 (S : St) (p k : Nat) (x : Int64) : (sJ S p k x).1 = S.1 := rfl
theorem wld_set {ad : Nat → Nat} {ac : Nat → ClassId} {S S' : St} {p : Nat} {e : va_E} (he : e = cel ad ac S' p) (h1 : ∀ q, q ≠ p → S'.1 q = S.1 q) (h2 : ∀ q, q ≠ p → S'.2 q = S.2 q) : (wld ad ac S).set p (ad p, e) = wld ad ac S' := by
  subst he
  apply List.ext_getElem?
  intro j
  by_cases hN : j < NC
  · by_cases hj : j = p
    · subst hj
      rw [List.getElem?_set_self (by simpa [wld] using hN), wld_get ad ac S' hN]
    · rw [List.getElem?_set_ne (Ne.symm hj), wld_get ad ac S hN, wld_get ad ac S' hN]
      simp only [cel, h1 j hj, h2 j hj]
  · rw [List.getElem?_eq_none (by simp [wld]; omega), List.getElem?_eq_none (by simp [wld]; omega)]
/-- what a method may change: the world's cells -/
def adA (ad : Nat → Nat) : Nat → Prop := fun q => ∃ p, p < NC ∧ q = ad p
theorem wld_D {A : Nat → Prop} {ad : Nat → Nat} {ac : Nat → ClassId} (hi : ∀ i j, i < NC → j < NC → ad i = ad j → i = j) (hA : ∀ i, i < NC → A (ad i)) (S : St) : va_D A (wld ad ac S) := by
  refine ⟨fun i j p q h1 h2 h => ?_, fun k q h => ?_⟩
  · obtain ⟨a1, rfl⟩ := wld_inv h1
    obtain ⟨a2, rfl⟩ := wld_inv h2
    exact hi i j a1 a2 h
  · obtain ⟨a1, rfl⟩ := wld_inv h
    exact hA k a1
/-! ===== a method's row: name, bytes, locals, return type, how deep its calls go ===== -/
abbrev MD : Type := MethodName × ByteArray × Nat × Option FieldType × Nat
def rmd (d : Nat) : Room := { frames := d, cells := 0, slots := 0, locals := 38 * d }
/-- what holds throughout a method -/
def Cx (p : Program) (s : State) (m : MethodId) (args : Array Value) (c : Code) (cc : ByteArray) (own : String) (nL : Nat) (D : va_G) (ad : Nat → Nat) (ac : Nat → ClassId) (A : Nat → Prop) : Prop :=
  p.tables.exec = Jvm.exec ∧ c.code = cc ∧ c.maxLocals = nL ∧ s.vm.findClass own = some m.cls ∧ (∀ w ∈ gW, w.before args s = true) ∧ (∀ w ∈ nW, va_Nw w s) ∧ va_K D vwCl (tysOf ac) s ∧ (∀ i j, i < NC → j < NC → ad i = ad j → i = j) ∧ (∀ i, i < NC → A (ad i))
def LH (ad : Nat → Nat) (ls : Array Slot) (nL : Nat) (L : List (Option Value)) : Prop := ls.size = nL ∧ lv_wf ls ∧ ∀ (i : Nat) (v : Value), L[i]? = some (some v) → ls[i]? = some (.val (cV ad v))
def UW (p : Program) (l : Launch) (e : Env) (R : Room) (s : State) (m : MethodId) (args : Array Value) (below : List Frame) (meth : Method) (c : Code) (cells slots : Nat) (Z : State → Prop) (D : va_G) (ad : Nat → Nat) (ac : Nat → ClassId) (A : Nat → Prop) (nL : Nat) (pc : Nat) (L : List (Option Value)) (st : List Value) (S : St) : Prop :=
  ∀ (H : Heap) (locs : List Loc) (ls : Array Slot), va_P D vwCl (wld ad ac S) H → va_S A s.heap H locs → LH ad ls nL L → W p l e R s m args below meth c H locs cells slots Z (F0 m pc ls (st.map (cV ad)))
def PreW (D : va_G) (ad : Nat → Nat) (ac : Nat → ClassId) (S : St) (U : State) : Prop := va_P D vwCl (wld ad ac S) U.heap ∧ va_K D vwCl (tysOf ac) U ∧ (∀ w ∈ nW, va_Nw w U) ∧ ∀ i j, i < NC → j < NC → ad i = ad j → i = j
def QQ (D : va_G) (ad : Nat → Nat) (ac : Nat → ClassId) (P : Option Value → St → Prop) : Array Value → State → Outcome → State → Prop := fun _ st o t =>
  (∃ (v : Option Value) (S' : St), o = .returned (v.map (cV ad)) ∧ P v S' ∧ va_P D vwCl (wld ad ac S') t.heap) ∧ va_F (adA ad) st t
def CallV (y : MD) (as : List Value) (S : St) (P : Option Value → St → Prop) : Prop :=
  ∀ (l : Launch) (D : va_G) (ad : Nat → Nat) (ac : Nat → ClassId), Met l y.1 (.code y.1 y.2.1 y.2.2.1 y.2.2.2.1 :: gW) (rmd y.2.2.2.2) (va_Pc (as.map (cV ad)) (PreW D ad ac S)) (QQ D ad ac P) 0 0 (adA ad)
def V (y : MD) (pc : Nat) (L : List (Option Value)) (st : List Value) (S : St) (P : Option Value → St → Prop) : Prop :=
  ∀ (p : Program) (l : Launch) (e : Env) (s : State) (m : MethodId) (args : Array Value) (below : List Frame) (meth : Method) (c : Code) (D : va_G) (ad : Nat → Nat) (ac : Nat → ClassId), Cx p s m args c y.2.1 y.1.cls y.2.2.1 D ad ac (adA ad) → meth.sig.returnType = y.2.2.2.1 → meth.locks = false →
    UW p l e (rmd y.2.2.2.2) s m args below meth c 0 0 (MQ below (QQ D ad ac P) args s 0 0 (adA ad)) D ad ac (adA ad) y.2.2.1 pc L st S
/-- what comes back of a call: an int, a long, nothing -/
def qI (T : Int32 → St → Prop) : Option Value → St → Prop := fun r S => ∃ x : Int32, r = some (.int x) ∧ T x S
def qJ (T : Int64 → St → Prop) : Option Value → St → Prop := fun r S => ∃ x : Int64, r = some (.long x) ∧ T x S
def qV (T : St → Prop) : Option Value → St → Prop := fun r S => r = none ∧ T S
theorem qI_mk {T : Int32 → St → Prop} {x : Int32} {S : St} (h : T x S) : qI T (some (.int x)) S := ⟨x, rfl, h⟩
theorem qJ_mk {T : Int64 → St → Prop} {x : Int64} {S : St} (h : T x S) : qJ T (some (.long x)) S := ⟨x, rfl, h⟩
theorem qV_mk {T : St → Prop} {S : St} (h : T S) : qV T none S := ⟨rfl, h⟩
/-! locals -/
def kil (a : Option Value) : Option Value := match a with
  | some (.long _) => none
  | some (.double _) => none
  | a => a
def stL : List (Option Value) → Nat → Value → List (Option Value)
  | [], _, _ => []
  | _ :: t, 0, v => some v :: t
  | a :: t, 1, v => kil a :: stL t 0 v
  | a :: t, n + 2, v => a :: stL t (n + 1) v
def stJ : List (Option Value) → Nat → Value → List (Option Value)
  | [], _, _ => []
  | _ :: t, 0, v => some v :: (match t with
    | [] => []
    | _ :: t' => none :: t')
  | a :: t, 1, v => kil a :: stJ t 0 v
  | a :: t, n + 2, v => a :: stJ t (n + 1) v
theorem kil_some {a : Option Value} {w : Value} (h : kil a = some w) : a = some w ∧ ¬ w.category = 2 := by
  cases a with
  | none => cases h
  | some v => cases v <;> simp [kil] at h <;> subst h <;> simp [Value.category]
theorem stL_get : ∀ (L : List (Option Value)) (i : Nat) (v : Value) (j : Nat) (w : Value), (stL L i v)[j]? = some (some w) → (j = i ∧ w = v) ∨ (j ≠ i ∧ L[j]? = some (some w) ∧ ¬ (j + 1 = i ∧ w.category = 2))
  | [], i, v, j, w, h => by simp [stL] at h
  | a :: t, 0, v, 0, w, h => by
    simp [stL] at h
    exact Or.inl ⟨rfl, h.symm⟩
  | a :: t, 0, v, j + 1, w, h => by
    simp [stL] at h
    exact Or.inr ⟨by omega, by simpa using h, by omega⟩
  | a :: t, 1, v, 0, w, h => by
    simp [stL] at h
    obtain ⟨h1, h2⟩ := kil_some h
    exact Or.inr ⟨by omega, by simpa using h1, fun q => h2 q.2⟩
  | a :: t, 1, v, j + 1, w, h => by
    simp only [stL, List.getElem?_cons_succ] at h
    rcases stL_get t 0 v j w h with ⟨h1, h2⟩ | ⟨h1, h2, h3⟩
    · exact Or.inl ⟨by omega, h2⟩
    · exact Or.inr ⟨by omega, by simpa using h2, by omega⟩
  | a :: t, n + 2, v, 0, w, h => by
    simp [stL] at h
    exact Or.inr ⟨by omega, by simpa using h, by omega⟩
  | a :: t, n + 2, v, j + 1, w, h => by
    simp only [stL, List.getElem?_cons_succ] at h
    rcases stL_get t (n + 1) v j w h with ⟨h1, h2⟩ | ⟨h1, h2, h3⟩
    · exact Or.inl ⟨by omega, h2⟩
    · exact Or.inr ⟨by omega, by simpa using h2, fun q => h3 ⟨by omega, q.2⟩⟩
theorem stJ_get : ∀ (L : List (Option Value)) (i : Nat) (v : Value) (j : Nat) (w : Value), (stJ L i v)[j]? = some (some w) → (j = i ∧ w = v) ∨ (j ≠ i ∧ j ≠ i + 1 ∧ L[j]? = some (some w) ∧ ¬ (j + 1 = i ∧ w.category = 2))
  | [], i, v, j, w, h => by simp [stJ] at h
  | a :: t, 0, v, 0, w, h => by
    simp [stJ] at h
    exact Or.inl ⟨rfl, h.symm⟩
  | [a], 0, v, j + 1, w, h => by
    simp [stJ] at h
  | a :: b :: t, 0, v, 1, w, h => by
    simp [stJ] at h
  | a :: b :: t, 0, v, j + 2, w, h => by
    simp [stJ] at h
    exact Or.inr ⟨by omega, by omega, by simpa using h, by omega⟩
  | a :: t, 1, v, 0, w, h => by
    simp [stJ] at h
    obtain ⟨h1, h2⟩ := kil_some h
    exact Or.inr ⟨by omega, by omega, by simpa using h1, fun q => h2 q.2⟩
  | a :: t, 1, v, j + 1, w, h => by
    simp only [stJ, List.getElem?_cons_succ] at h
    rcases stJ_get t 0 v j w h with ⟨h1, h2⟩ | ⟨h1, h2, h3, h4⟩
    · exact Or.inl ⟨by omega, h2⟩
    · exact Or.inr ⟨by omega, by omega, by simpa using h3, by omega⟩
  | a :: t, n + 2, v, 0, w, h => by
    simp [stJ] at h
    exact Or.inr ⟨by omega, by omega, by simpa using h, by omega⟩
  | a :: t, n + 2, v, j + 1, w, h => by
    simp only [stJ, List.getElem?_cons_succ] at h
    rcases stJ_get t (n + 1) v j w h with ⟨h1, h2⟩ | ⟨h1, h2, h3, h4⟩
    · exact Or.inl ⟨by omega, h2⟩
    · exact Or.inr ⟨by omega, by omega, by simpa using h3, fun q => h4 ⟨by omega, q.2⟩⟩
/-- the listed locals as the kit has them -/
def lvl (ad : Nat → Nat) (L : List (Option Value)) : List (Nat × Value) := (List.range L.length).filterMap (fun i => (L[i]?).bind (fun a => a.map (fun v => (i, cV ad v))))
theorem lvl_in {ad : Nat → Nat} {L : List (Option Value)} {q : Nat × Value} (h : q ∈ lvl ad L) : ∃ v, L[q.1]? = some (some v) ∧ q.2 = cV ad v := by
  obtain ⟨i, hi, h⟩ := List.mem_filterMap.mp h
  cases e : L[i]? with
  | none => rw [e] at h; cases h
  | some a =>
    rw [e] at h
    cases a with
    | none => cases h
    | some v => cases h; exact ⟨v, e, rfl⟩
theorem lvl_mem {ad : Nat → Nat} {L : List (Option Value)} {i : Nat} {v : Value} (h : L[i]? = some (some v)) : (i, cV ad v) ∈ lvl ad L := by
  refine List.mem_filterMap.mpr ⟨i, List.mem_range.mpr (List.getElem?_eq_some_iff.mp h).1, ?_⟩
  rw [h]
  rfl
theorem LH.has {ad : Nat → Nat} {ls : Array Slot} {nL : Nat} {L : List (Option Value)} (h : LH ad ls nL L) : lv_has ls nL (lvl ad L) := ⟨h.1, h.2.1, fun q hq => by
  obtain ⟨v, h1, h2⟩ := lvl_in hq
  rw [h2]
  exact h.2.2 _ _ h1⟩
theorem LH.get {ad : Nat → Nat} {ls : Array Slot} {nL : Nat} {L : List (Option Value)} (h : LH ad ls nL L) {i : Nat} {v : Value} (hv : L[i]? = some (some v)) : ls[i]? = some (.val (cV ad v)) := h.2.2 i v hv
theorem LH.st {ad : Nat → Nat} {ls' : Array Slot} {nL : Nat} {L : List (Option Value)} {i : Nat} {v : Value} (h : lv_has ls' nL ((i, cV ad v) :: (lvl ad L).filter (fun q => !(q.1 == i) && !(q.1 + 1 == i && q.2.category == 2)))) : LH ad ls' nL (stL L i v) := by
  refine ⟨h.1, h.2.1, fun j w hw => ?_⟩
  rcases stL_get L i v j w hw with ⟨rfl, rfl⟩ | ⟨h1, h2, h3⟩
  · exact h.2.2 _ List.mem_cons_self
  · refine h.2.2 (j, cV ad w) (List.mem_cons_of_mem _ (List.mem_filter.mpr ⟨lvl_mem h2, ?_⟩))
    simp only [Bool.and_eq_true, Bool.not_eq_true', beq_eq_false_iff_ne, ne_eq, Bool.and_eq_false_iff, cV_cat]
    exact ⟨h1, by
      by_cases a : j + 1 = i
      · exact Or.inr (fun q => h3 ⟨a, q⟩)
      · exact Or.inl a⟩
theorem LH.stj {ad : Nat → Nat} {ls' : Array Slot} {nL : Nat} {L : List (Option Value)} {i : Nat} {v : Value} (h : lv_has ls' nL ((i, cV ad v) :: (lvl ad L).filter (fun q => !(q.1 == i) && (!(q.1 == i + 1) && !(q.1 + 1 == i && q.2.category == 2))))) : LH ad ls' nL (stJ L i v) := by
  refine ⟨h.1, h.2.1, fun j w hw => ?_⟩
  rcases stJ_get L i v j w hw with ⟨rfl, rfl⟩ | ⟨h1, h2, h3, h4⟩
  · exact h.2.2 _ List.mem_cons_self
  · refine h.2.2 (j, cV ad w) (List.mem_cons_of_mem _ (List.mem_filter.mpr ⟨lvl_mem h3, ?_⟩))
    simp only [Bool.and_eq_true, Bool.not_eq_true', beq_eq_false_iff_ne, ne_eq, Bool.and_eq_false_iff, cV_cat]
    exact ⟨h1, h2, by
      by_cases a : j + 1 = i
      · exact Or.inr (fun q => h4 ⟨a, q⟩)
      · exact Or.inl a⟩
/-- fewer locals -/
def wk : List Bool → List (Option Value) → List (Option Value)
  | b :: bs, a :: t => (if b = true then a else none) :: wk bs t
  | _, _ => []
theorem wk_get : ∀ (bs : List Bool) (L : List (Option Value)) (i : Nat) (v : Value), (wk bs L)[i]? = some (some v) → L[i]? = some (some v)
  | [], L, i, v, h => by simp [wk] at h
  | b :: bs, [], i, v, h => by simp [wk] at h
  | b :: bs, a :: t, 0, v, h => by
    simp [wk] at h
    simpa using h.2
  | b :: bs, a :: t, i + 1, v, h => by
    simp only [wk, List.getElem?_cons_succ] at h ⊢
    exact wk_get bs t i v h
theorem LH.wk {ad : Nat → Nat} {ls : Array Slot} {nL : Nat} {L : List (Option Value)} (h : LH ad ls nL L) (bs : List Bool) : LH ad ls nL (wk bs L) := ⟨h.1, h.2.1, fun i v hv => h.2.2 i v (wk_get bs L i v hv)⟩
/-! ===== the rules: an instruction each, over UW ===== -/
section MR
variable {p : Program} {l : Launch} {e : Env} {R : Room} {s : State} {m : MethodId} {args : Array Value} {below : List Frame} {meth : Method} {c : Code} {cells slots : Nat} {Z : State → Prop} {D : va_G} {ad : Nat → Nat} {ac : Nat → ClassId} {A : Nat → Prop} {nL : Nat} {pc : Nat} {L : List (Option Value)} {st : List Value} {S : St} {cc : ByteArray} {own : String}
theorem mr_iconst (C : Cx p s m args c cc own nL D ad ac A) {n : Int} {v : Int32} (hd : decode cc pc = .ok (.iconst n, 1)) (hv : Int32.ofInt n = v) (k : UW p l e R s m args below meth c cells slots Z D ad ac A nL (pc + 1) L (.int v :: st) S) : UW p l e R s m args below meth c cells slots Z D ad ac A nL pc L st S := by
  intro H locs ls hP hS hL
  exact lv_iconst C.1 C.2.1 hd hv (k H locs ls hP hS hL)
theorem mr_bipush (C : Cx p s m args c cc own nL D ad ac A) {n : Int} {v : Int32} (hd : decode cc pc = .ok (.bipush n, 2)) (hv : (Int8.ofInt n).toInt32 = v) (k : UW p l e R s m args below meth c cells slots Z D ad ac A nL (pc + 2) L (.int v :: st) S) : UW p l e R s m args below meth c cells slots Z D ad ac A nL pc L st S := by
  intro H locs ls hP hS hL
  exact lv_bipush C.1 C.2.1 hd hv (k H locs ls hP hS hL)
theorem mr_sipush (C : Cx p s m args c cc own nL D ad ac A) {n : Int} {v : Int32} (hd : decode cc pc = .ok (.sipush n, 3)) (hv : (Int16.ofInt n).toInt32 = v) (k : UW p l e R s m args below meth c cells slots Z D ad ac A nL (pc + 3) L (.int v :: st) S) : UW p l e R s m args below meth c cells slots Z D ad ac A nL pc L st S := by
  intro H locs ls hP hS hL
  exact lv_sipush C.1 C.2.1 hd hv (k H locs ls hP hS hL)
theorem mr_lconst (C : Cx p s m args c cc own nL D ad ac A) {n : Fin 2} {v : Int64} (hd : decode cc pc = .ok (.lconst n, 1)) (hv : Int64.ofNat (n : Nat) = v) (k : UW p l e R s m args below meth c cells slots Z D ad ac A nL (pc + 1) L (.long v :: st) S) : UW p l e R s m args below meth c cells slots Z D ad ac A nL pc L st S := by
  intro H locs ls hP hS hL
  exact lv_lconst C.1 C.2.1 hd hv (k H locs ls hP hS hL)
theorem mr_ldc (C : Cx p s m args c cc own nL D ad ac A) {i : Nat} {v : Int32} (hd : decode cc pc = .ok (.ldc i, 2)) (hc : Cond.constant own i v ∈ gW) (k : UW p l e R s m args below meth c cells slots Z D ad ac A nL (pc + 2) L (.int v :: st) S) : UW p l e R s m args below meth c cells slots Z D ad ac A nL pc L st S := by
  intro H locs ls hP hS hL
  exact lv_ldc C.1 C.2.1 C.2.2.2.1 (C.2.2.2.2.1 _ hc) hd (k H locs ls hP hS hL)
theorem mr_ldc2 (C : Cx p s m args c cc own nL D ad ac A) {i : Nat} {v : Int64} (hd : decode cc pc = .ok (.ldc2_w i, 3)) (hc : Cond.constantLong own i v ∈ gW) (k : UW p l e R s m args below meth c cells slots Z D ad ac A nL (pc + 3) L (.long v :: st) S) : UW p l e R s m args below meth c cells slots Z D ad ac A nL pc L st S := by
  intro H locs ls hP hS hL
  exact lv_ldc2 C.1 C.2.1 C.2.2.2.1 (C.2.2.2.2.1 _ hc) hd (k H locs ls hP hS hL)
theorem mr_iload_n (C : Cx p s m args c cc own nL D ad ac A) {k0 : Fin 4} {i : Nat} {x : Int32} (hd : decode cc pc = .ok (.iload_n k0, 1)) (hi : (k0 : Nat) = i) (h : L[i]? = some (some (.int x))) (k : UW p l e R s m args below meth c cells slots Z D ad ac A nL (pc + 1) L (.int x :: st) S) : UW p l e R s m args below meth c cells slots Z D ad ac A nL pc L st S := by
  intro H locs ls hP hS hL
  exact lv_iload_n C.1 C.2.1 hd hi (hL.get h) (k H locs ls hP hS hL)
theorem mr_iload (C : Cx p s m args c cc own nL D ad ac A) {i : Nat} {x : Int32} (hd : decode cc pc = .ok (.iload i, 2)) (h : L[i]? = some (some (.int x))) (k : UW p l e R s m args below meth c cells slots Z D ad ac A nL (pc + 2) L (.int x :: st) S) : UW p l e R s m args below meth c cells slots Z D ad ac A nL pc L st S := by
  intro H locs ls hP hS hL
  exact lv_iload C.1 C.2.1 hd (hL.get h) (k H locs ls hP hS hL)
theorem mr_lload_n (C : Cx p s m args c cc own nL D ad ac A) {k0 : Fin 4} {i : Nat} {x : Int64} (hd : decode cc pc = .ok (.lload_n k0, 1)) (hi : (k0 : Nat) = i) (h : L[i]? = some (some (.long x))) (k : UW p l e R s m args below meth c cells slots Z D ad ac A nL (pc + 1) L (.long x :: st) S) : UW p l e R s m args below meth c cells slots Z D ad ac A nL pc L st S := by
  intro H locs ls hP hS hL
  exact lv_lload_n C.1 C.2.1 hd hi (hL.get h) (k H locs ls hP hS hL)
theorem mr_lload (C : Cx p s m args c cc own nL D ad ac A) {i : Nat} {x : Int64} (hd : decode cc pc = .ok (.lload i, 2)) (h : L[i]? = some (some (.long x))) (k : UW p l e R s m args below meth c cells slots Z D ad ac A nL (pc + 2) L (.long x :: st) S) : UW p l e R s m args below meth c cells slots Z D ad ac A nL pc L st S := by
  intro H locs ls hP hS hL
  exact lv_lload C.1 C.2.1 hd (hL.get h) (k H locs ls hP hS hL)
theorem mr_aload_n (C : Cx p s m args c cc own nL D ad ac A) {k0 : Fin 4} {i : Nat} {x : Nat} (hd : decode cc pc = .ok (.aload_n k0, 1)) (hi : (k0 : Nat) = i) (h : L[i]? = some (some (.ref x))) (k : UW p l e R s m args below meth c cells slots Z D ad ac A nL (pc + 1) L (.ref x :: st) S) : UW p l e R s m args below meth c cells slots Z D ad ac A nL pc L st S := by
  intro H locs ls hP hS hL
  exact lv_aload_n C.1 C.2.1 hd hi (hL.get h) (k H locs ls hP hS hL)
theorem mr_aload (C : Cx p s m args c cc own nL D ad ac A) {i : Nat} {x : Nat} (hd : decode cc pc = .ok (.aload i, 2)) (h : L[i]? = some (some (.ref x))) (k : UW p l e R s m args below meth c cells slots Z D ad ac A nL (pc + 2) L (.ref x :: st) S) : UW p l e R s m args below meth c cells slots Z D ad ac A nL pc L st S := by
  intro H locs ls hP hS hL
  exact lv_aload C.1 C.2.1 hd (hL.get h) (k H locs ls hP hS hL)
theorem mr_istore_n (C : Cx p s m args c cc own nL D ad ac A) {k0 : Fin 4} {i : Nat} {x : Int32} {L1 : List (Option Value)} (hd : decode cc pc = .ok (.istore_n k0, 1)) (hi : (k0 : Nat) = i) (hn : i < nL) (h : stL L i (.int x) = L1) (k : UW p l e R s m args below meth c cells slots Z D ad ac A nL (pc + 1) L1 st S) : UW p l e R s m args below meth c cells slots Z D ad ac A nL pc L (.int x :: st) S := by
  intro H locs ls hP hS hL
  subst h
  exact lv_istore_n C.1 C.2.1 hd hi hL.has hn rfl (fun ls1 h1 => k H locs ls1 hP hS (LH.st (v := .int x) h1))
theorem mr_istore (C : Cx p s m args c cc own nL D ad ac A) {i : Nat} {x : Int32} {L1 : List (Option Value)} (hd : decode cc pc = .ok (.istore i, 2)) (hn : i < nL) (h : stL L i (.int x) = L1) (k : UW p l e R s m args below meth c cells slots Z D ad ac A nL (pc + 2) L1 st S) : UW p l e R s m args below meth c cells slots Z D ad ac A nL pc L (.int x :: st) S := by
  intro H locs ls hP hS hL
  subst h
  exact lv_istore C.1 C.2.1 hd hL.has hn rfl (fun ls1 h1 => k H locs ls1 hP hS (LH.st (v := .int x) h1))
theorem mr_lstore_n (C : Cx p s m args c cc own nL D ad ac A) {k0 : Fin 4} {i : Nat} {x : Int64} {L1 : List (Option Value)} (hd : decode cc pc = .ok (.lstore_n k0, 1)) (hi : (k0 : Nat) = i) (hn : i + 1 < nL) (h : stJ L i (.long x) = L1) (k : UW p l e R s m args below meth c cells slots Z D ad ac A nL (pc + 1) L1 st S) : UW p l e R s m args below meth c cells slots Z D ad ac A nL pc L (.long x :: st) S := by
  intro H locs ls hP hS hL
  subst h
  exact lv_lstore_n C.1 C.2.1 hd hi hL.has hn rfl (fun ls1 h1 => k H locs ls1 hP hS (LH.stj (v := .long x) h1))
theorem mr_lstore (C : Cx p s m args c cc own nL D ad ac A) {i : Nat} {x : Int64} {L1 : List (Option Value)} (hd : decode cc pc = .ok (.lstore i, 2)) (hn : i + 1 < nL) (h : stJ L i (.long x) = L1) (k : UW p l e R s m args below meth c cells slots Z D ad ac A nL (pc + 2) L1 st S) : UW p l e R s m args below meth c cells slots Z D ad ac A nL pc L (.long x :: st) S := by
  intro H locs ls hP hS hL
  subst h
  exact lv_lstore C.1 C.2.1 hd hL.has hn rfl (fun ls1 h1 => k H locs ls1 hP hS (LH.stj (v := .long x) h1))
theorem mr_astore_n (C : Cx p s m args c cc own nL D ad ac A) {k0 : Fin 4} {i : Nat} {x : Nat} {L1 : List (Option Value)} (hd : decode cc pc = .ok (.astore_n k0, 1)) (hi : (k0 : Nat) = i) (hn : i < nL) (h : stL L i (.ref x) = L1) (k : UW p l e R s m args below meth c cells slots Z D ad ac A nL (pc + 1) L1 st S) : UW p l e R s m args below meth c cells slots Z D ad ac A nL pc L (.ref x :: st) S := by
  intro H locs ls hP hS hL
  subst h
  exact lv_astore_n C.1 C.2.1 hd hi hL.has hn rfl (fun ls1 h1 => k H locs ls1 hP hS (LH.st (v := .ref x) h1))
theorem mr_astore (C : Cx p s m args c cc own nL D ad ac A) {i : Nat} {x : Nat} {L1 : List (Option Value)} (hd : decode cc pc = .ok (.astore i, 2)) (hn : i < nL) (h : stL L i (.ref x) = L1) (k : UW p l e R s m args below meth c cells slots Z D ad ac A nL (pc + 2) L1 st S) : UW p l e R s m args below meth c cells slots Z D ad ac A nL pc L (.ref x :: st) S := by
  intro H locs ls hP hS hL
  subst h
  exact lv_astore C.1 C.2.1 hd hL.has hn rfl (fun ls1 h1 => k H locs ls1 hP hS (LH.st (v := .ref x) h1))
theorem mr_iinc (C : Cx p s m args c cc own nL D ad ac A) {i : Nat} {n : Int} {x v : Int32} {L1 : List (Option Value)} (hd : decode cc pc = .ok (.iinc i n, 3)) (h0 : L[i]? = some (some (.int x))) (hv : x + Int32.ofInt n = v) (hn : i < nL) (h : stL L i (.int v) = L1) (k : UW p l e R s m args below meth c cells slots Z D ad ac A nL (pc + 3) L1 st S) : UW p l e R s m args below meth c cells slots Z D ad ac A nL pc L st S := by
  intro H locs ls hP hS hL
  subst h
  have h2 : lv_has ls nL ((i, .int x) :: lvl ad L) := ⟨hL.1, hL.2.1, fun q hq => (List.mem_cons.mp hq).elim (fun e => by rw [e]; exact hL.get h0) (fun h => hL.has.2.2 q h)⟩
  refine lv_iinc C.1 C.2.1 hd h2 (k := 0) rfl hv hn rfl (fun ls1 h1 => k H locs ls1 hP hS (LH.st (v := .int v) ?_))
  rw [List.filter_cons_of_neg (by simp)] at h1
  exact h1
theorem mr_mask (C : Cx p s m args c cc own nL D ad ac A) {L1 : List (Option Value)} (bs : List Bool) (h : wk bs L = L1) (k : UW p l e R s m args below meth c cells slots Z D ad ac A nL pc L1 st S) : UW p l e R s m args below meth c cells slots Z D ad ac A nL pc L st S := by
  intro H locs ls hP hS hL
  subst h
  exact k H locs ls hP hS (hL.wk bs)
theorem mr_iadd (C : Cx p s m args c cc own nL D ad ac A) {x y : Int32} (hd : decode cc pc = .ok (.iadd, 1)) (k : UW p l e R s m args below meth c cells slots Z D ad ac A nL (pc + 1) L (.int (x + y) :: st) S) : UW p l e R s m args below meth c cells slots Z D ad ac A nL pc L (.int y :: .int x :: st) S := by
  intro H locs ls hP hS hL
  exact lv_iadd C.1 C.2.1 hd (k H locs ls hP hS hL)
theorem mr_isub (C : Cx p s m args c cc own nL D ad ac A) {x y : Int32} (hd : decode cc pc = .ok (.isub, 1)) (k : UW p l e R s m args below meth c cells slots Z D ad ac A nL (pc + 1) L (.int (x - y) :: st) S) : UW p l e R s m args below meth c cells slots Z D ad ac A nL pc L (.int y :: .int x :: st) S := by
  intro H locs ls hP hS hL
  exact lv_isub C.1 C.2.1 hd (k H locs ls hP hS hL)
theorem mr_imul (C : Cx p s m args c cc own nL D ad ac A) {x y : Int32} (hd : decode cc pc = .ok (.imul, 1)) (k : UW p l e R s m args below meth c cells slots Z D ad ac A nL (pc + 1) L (.int (x * y) :: st) S) : UW p l e R s m args below meth c cells slots Z D ad ac A nL pc L (.int y :: .int x :: st) S := by
  intro H locs ls hP hS hL
  exact lv_imul C.1 C.2.1 hd (k H locs ls hP hS hL)
theorem mr_iand (C : Cx p s m args c cc own nL D ad ac A) {x y : Int32} (hd : decode cc pc = .ok (.iand, 1)) (k : UW p l e R s m args below meth c cells slots Z D ad ac A nL (pc + 1) L (.int (x &&& y) :: st) S) : UW p l e R s m args below meth c cells slots Z D ad ac A nL pc L (.int y :: .int x :: st) S := by
  intro H locs ls hP hS hL
  exact lv_iand C.1 C.2.1 hd (k H locs ls hP hS hL)
theorem mr_ior (C : Cx p s m args c cc own nL D ad ac A) {x y : Int32} (hd : decode cc pc = .ok (.ior, 1)) (k : UW p l e R s m args below meth c cells slots Z D ad ac A nL (pc + 1) L (.int (x ||| y) :: st) S) : UW p l e R s m args below meth c cells slots Z D ad ac A nL pc L (.int y :: .int x :: st) S := by
  intro H locs ls hP hS hL
  exact lv_ior C.1 C.2.1 hd (k H locs ls hP hS hL)
theorem mr_ixor (C : Cx p s m args c cc own nL D ad ac A) {x y : Int32} (hd : decode cc pc = .ok (.ixor, 1)) (k : UW p l e R s m args below meth c cells slots Z D ad ac A nL (pc + 1) L (.int (x ^^^ y) :: st) S) : UW p l e R s m args below meth c cells slots Z D ad ac A nL pc L (.int y :: .int x :: st) S := by
  intro H locs ls hP hS hL
  exact lv_ixor C.1 C.2.1 hd (k H locs ls hP hS hL)
theorem mr_ishl (C : Cx p s m args c cc own nL D ad ac A) {x y : Int32} (hd : decode cc pc = .ok (.ishl, 1)) (k : UW p l e R s m args below meth c cells slots Z D ad ac A nL (pc + 1) L (.int (x <<< (y &&& 31)) :: st) S) : UW p l e R s m args below meth c cells slots Z D ad ac A nL pc L (.int y :: .int x :: st) S := by
  intro H locs ls hP hS hL
  exact lv_ishl C.1 C.2.1 hd (k H locs ls hP hS hL)
theorem mr_ishr (C : Cx p s m args c cc own nL D ad ac A) {x y : Int32} (hd : decode cc pc = .ok (.ishr, 1)) (k : UW p l e R s m args below meth c cells slots Z D ad ac A nL (pc + 1) L (.int (x >>> (y &&& 31)) :: st) S) : UW p l e R s m args below meth c cells slots Z D ad ac A nL pc L (.int y :: .int x :: st) S := by
  intro H locs ls hP hS hL
  exact lv_ishr C.1 C.2.1 hd (k H locs ls hP hS hL)
theorem mr_idiv (C : Cx p s m args c cc own nL D ad ac A) {x y : Int32} (hd : decode cc pc = .ok (.idiv, 1)) (hne : ¬ y = 0) (k : UW p l e R s m args below meth c cells slots Z D ad ac A nL (pc + 1) L (.int (x / y) :: st) S) : UW p l e R s m args below meth c cells slots Z D ad ac A nL pc L (.int y :: .int x :: st) S := by
  intro H locs ls hP hS hL
  exact lv_idiv C.1 C.2.1 hd hne (k H locs ls hP hS hL)
theorem mr_irem (C : Cx p s m args c cc own nL D ad ac A) {x y : Int32} (hd : decode cc pc = .ok (.irem, 1)) (hne : ¬ y = 0) (k : UW p l e R s m args below meth c cells slots Z D ad ac A nL (pc + 1) L (.int (x - x / y * y) :: st) S) : UW p l e R s m args below meth c cells slots Z D ad ac A nL pc L (.int y :: .int x :: st) S := by
  intro H locs ls hP hS hL
  exact lv_irem C.1 C.2.1 hd hne (k H locs ls hP hS hL)
theorem mr_ineg (C : Cx p s m args c cc own nL D ad ac A) {x : Int32} (hd : decode cc pc = .ok (.ineg, 1)) (k : UW p l e R s m args below meth c cells slots Z D ad ac A nL (pc + 1) L (.int (-x) :: st) S) : UW p l e R s m args below meth c cells slots Z D ad ac A nL pc L (.int x :: st) S := by
  intro H locs ls hP hS hL
  exact lv_ineg C.1 C.2.1 hd (k H locs ls hP hS hL)
theorem mr_ladd (C : Cx p s m args c cc own nL D ad ac A) {x y : Int64} (hd : decode cc pc = .ok (.ladd, 1)) (k : UW p l e R s m args below meth c cells slots Z D ad ac A nL (pc + 1) L (.long (x + y) :: st) S) : UW p l e R s m args below meth c cells slots Z D ad ac A nL pc L (.long y :: .long x :: st) S := by
  intro H locs ls hP hS hL
  exact lv_ladd C.1 C.2.1 hd (k H locs ls hP hS hL)
theorem mr_lsub (C : Cx p s m args c cc own nL D ad ac A) {x y : Int64} (hd : decode cc pc = .ok (.lsub, 1)) (k : UW p l e R s m args below meth c cells slots Z D ad ac A nL (pc + 1) L (.long (x - y) :: st) S) : UW p l e R s m args below meth c cells slots Z D ad ac A nL pc L (.long y :: .long x :: st) S := by
  intro H locs ls hP hS hL
  exact lv_lsub C.1 C.2.1 hd (k H locs ls hP hS hL)
theorem mr_lmul (C : Cx p s m args c cc own nL D ad ac A) {x y : Int64} (hd : decode cc pc = .ok (.lmul, 1)) (k : UW p l e R s m args below meth c cells slots Z D ad ac A nL (pc + 1) L (.long (x * y) :: st) S) : UW p l e R s m args below meth c cells slots Z D ad ac A nL pc L (.long y :: .long x :: st) S := by
  intro H locs ls hP hS hL
  exact lv_lmul C.1 C.2.1 hd (k H locs ls hP hS hL)
theorem mr_land (C : Cx p s m args c cc own nL D ad ac A) {x y : Int64} (hd : decode cc pc = .ok (.land, 1)) (k : UW p l e R s m args below meth c cells slots Z D ad ac A nL (pc + 1) L (.long (x &&& y) :: st) S) : UW p l e R s m args below meth c cells slots Z D ad ac A nL pc L (.long y :: .long x :: st) S := by
  intro H locs ls hP hS hL
  exact lv_land C.1 C.2.1 hd (k H locs ls hP hS hL)
theorem mr_lor (C : Cx p s m args c cc own nL D ad ac A) {x y : Int64} (hd : decode cc pc = .ok (.lor, 1)) (k : UW p l e R s m args below meth c cells slots Z D ad ac A nL (pc + 1) L (.long (x ||| y) :: st) S) : UW p l e R s m args below meth c cells slots Z D ad ac A nL pc L (.long y :: .long x :: st) S := by
  intro H locs ls hP hS hL
  exact lv_lor C.1 C.2.1 hd (k H locs ls hP hS hL)
theorem mr_ldiv (C : Cx p s m args c cc own nL D ad ac A) {x y : Int64} (hd : decode cc pc = .ok (.ldiv, 1)) (hne : ¬ y = 0) (k : UW p l e R s m args below meth c cells slots Z D ad ac A nL (pc + 1) L (.long (x / y) :: st) S) : UW p l e R s m args below meth c cells slots Z D ad ac A nL pc L (.long y :: .long x :: st) S := by
  intro H locs ls hP hS hL
  exact lv_ldiv C.1 C.2.1 hd hne (k H locs ls hP hS hL)
theorem mr_lrem (C : Cx p s m args c cc own nL D ad ac A) {x y : Int64} (hd : decode cc pc = .ok (.lrem, 1)) (hne : ¬ y = 0) (k : UW p l e R s m args below meth c cells slots Z D ad ac A nL (pc + 1) L (.long (x - x / y * y) :: st) S) : UW p l e R s m args below meth c cells slots Z D ad ac A nL pc L (.long y :: .long x :: st) S := by
  intro H locs ls hP hS hL
  exact lv_lrem C.1 C.2.1 hd hne (k H locs ls hP hS hL)
theorem mr_lshl (C : Cx p s m args c cc own nL D ad ac A) {x : Int64} {y : Int32} (hd : decode cc pc = .ok (.lshl, 1)) (k : UW p l e R s m args below meth c cells slots Z D ad ac A nL (pc + 1) L (.long (x <<< (y.toInt64 &&& 63)) :: st) S) : UW p l e R s m args below meth c cells slots Z D ad ac A nL pc L (.int y :: .long x :: st) S := by
  intro H locs ls hP hS hL
  exact lv_lshl C.1 C.2.1 hd rfl (k H locs ls hP hS hL)
theorem mr_lshr (C : Cx p s m args c cc own nL D ad ac A) {x : Int64} {y : Int32} (hd : decode cc pc = .ok (.lshr, 1)) (k : UW p l e R s m args below meth c cells slots Z D ad ac A nL (pc + 1) L (.long (x >>> (y.toInt64 &&& 63)) :: st) S) : UW p l e R s m args below meth c cells slots Z D ad ac A nL pc L (.int y :: .long x :: st) S := by
  intro H locs ls hP hS hL
  exact lv_lshr C.1 C.2.1 hd rfl (k H locs ls hP hS hL)
theorem mr_i2l (C : Cx p s m args c cc own nL D ad ac A) {x : Int32} (hd : decode cc pc = .ok (.i2l, 1)) (k : UW p l e R s m args below meth c cells slots Z D ad ac A nL (pc + 1) L (.long x.toInt64 :: st) S) : UW p l e R s m args below meth c cells slots Z D ad ac A nL pc L (.int x :: st) S := by
  intro H locs ls hP hS hL
  exact lv_i2l C.1 C.2.1 hd rfl (k H locs ls hP hS hL)
theorem mr_l2i (C : Cx p s m args c cc own nL D ad ac A) {x : Int64} (hd : decode cc pc = .ok (.l2i, 1)) (k : UW p l e R s m args below meth c cells slots Z D ad ac A nL (pc + 1) L (.int x.toInt32 :: st) S) : UW p l e R s m args below meth c cells slots Z D ad ac A nL pc L (.long x :: st) S := by
  intro H locs ls hP hS hL
  exact lv_l2i C.1 C.2.1 hd rfl (k H locs ls hP hS hL)
theorem mr_i2b (C : Cx p s m args c cc own nL D ad ac A) {x : Int32} (hd : decode cc pc = .ok (.i2b, 1)) (k : UW p l e R s m args below meth c cells slots Z D ad ac A nL (pc + 1) L (.int x.toInt8.toInt32 :: st) S) : UW p l e R s m args below meth c cells slots Z D ad ac A nL pc L (.int x :: st) S := by
  intro H locs ls hP hS hL
  exact lv_i2b C.1 C.2.1 hd rfl (k H locs ls hP hS hL)
theorem mr_i2s (C : Cx p s m args c cc own nL D ad ac A) {x : Int32} (hd : decode cc pc = .ok (.i2s, 1)) (k : UW p l e R s m args below meth c cells slots Z D ad ac A nL (pc + 1) L (.int x.toInt16.toInt32 :: st) S) : UW p l e R s m args below meth c cells slots Z D ad ac A nL pc L (.int x :: st) S := by
  intro H locs ls hP hS hL
  exact lv_i2s C.1 C.2.1 hd rfl (k H locs ls hP hS hL)
theorem mr_dup (C : Cx p s m args c cc own nL D ad ac A) {va : Value} (hd : decode cc pc = .ok (.dup, 1)) (hva : va.category = 1) (k : UW p l e R s m args below meth c cells slots Z D ad ac A nL (pc + 1) L (va :: va :: st) S) : UW p l e R s m args below meth c cells slots Z D ad ac A nL pc L (va :: st) S := by
  intro H locs ls hP hS hL
  exact lv_dup C.1 C.2.1 hd (by rw [cV_cat]; exact hva) (k H locs ls hP hS hL)
theorem mr_pop (C : Cx p s m args c cc own nL D ad ac A) {va : Value} (hd : decode cc pc = .ok (.pop, 1)) (hva : va.category = 1) (k : UW p l e R s m args below meth c cells slots Z D ad ac A nL (pc + 1) L st S) : UW p l e R s m args below meth c cells slots Z D ad ac A nL pc L (va :: st) S := by
  intro H locs ls hP hS hL
  exact lv_pop C.1 C.2.1 hd (by rw [cV_cat]; exact hva) (k H locs ls hP hS hL)
theorem mr_dup_x1 (C : Cx p s m args c cc own nL D ad ac A) {va vb : Value} (hd : decode cc pc = .ok (.dup_x1, 1)) (hva : va.category = 1) (hvb : vb.category = 1) (k : UW p l e R s m args below meth c cells slots Z D ad ac A nL (pc + 1) L (va :: vb :: va :: st) S) : UW p l e R s m args below meth c cells slots Z D ad ac A nL pc L (va :: vb :: st) S := by
  intro H locs ls hP hS hL
  exact lv_dup_x1 C.1 C.2.1 hd (by rw [cV_cat]; exact hva) (by rw [cV_cat]; exact hvb) (k H locs ls hP hS hL)
theorem mr_dup2 (C : Cx p s m args c cc own nL D ad ac A) {va vb : Value} (hd : decode cc pc = .ok (.dup2, 1)) (hva : va.category = 1) (hvb : vb.category = 1) (k : UW p l e R s m args below meth c cells slots Z D ad ac A nL (pc + 1) L (va :: vb :: va :: vb :: st) S) : UW p l e R s m args below meth c cells slots Z D ad ac A nL pc L (va :: vb :: st) S := by
  intro H locs ls hP hS hL
  exact lv_dup2_11 C.1 C.2.1 hd (by rw [cV_cat]; exact hva) (by rw [cV_cat]; exact hvb) (k H locs ls hP hS hL)
theorem mr_dup2l (C : Cx p s m args c cc own nL D ad ac A) {va : Value} (hd : decode cc pc = .ok (.dup2, 1)) (hva : va.category = 2) (k : UW p l e R s m args below meth c cells slots Z D ad ac A nL (pc + 1) L (va :: va :: st) S) : UW p l e R s m args below meth c cells slots Z D ad ac A nL pc L (va :: st) S := by
  intro H locs ls hP hS hL
  exact lv_dup2_2 C.1 C.2.1 hd (by rw [cV_cat]; exact hva) (k H locs ls hP hS hL)
theorem mr_if_eq (C : Cx p s m args c cc own nL D ad ac A) {x : Int32} {off : Int} {tgt : Nat} (hd : decode cc pc = .ok (.ifCond .eq off, 3)) (ht : (pc : Int) + off = (tgt : Int)) (k1 : x = 0 → UW p l e R s m args below meth c cells slots Z D ad ac A nL tgt L st S) (k2 : ¬ x = 0 → UW p l e R s m args below meth c cells slots Z D ad ac A nL (pc + 3) L st S) : UW p l e R s m args below meth c cells slots Z D ad ac A nL pc L (.int x :: st) S := by
  intro H locs ls hP hS hL
  exact lv_if_eq C.1 C.2.1 hd ht (fun h => k1 h H locs ls hP hS hL) (fun h => k2 h H locs ls hP hS hL)
theorem mr_icmp_eq (C : Cx p s m args c cc own nL D ad ac A) {x y : Int32} {off : Int} {tgt : Nat} (hd : decode cc pc = .ok (.if_icmp .eq off, 3)) (ht : (pc : Int) + off = (tgt : Int)) (k1 : x = y → UW p l e R s m args below meth c cells slots Z D ad ac A nL tgt L st S) (k2 : ¬ x = y → UW p l e R s m args below meth c cells slots Z D ad ac A nL (pc + 3) L st S) : UW p l e R s m args below meth c cells slots Z D ad ac A nL pc L (.int y :: .int x :: st) S := by
  intro H locs ls hP hS hL
  exact lv_icmp_eq C.1 C.2.1 hd ht (fun h => k1 h H locs ls hP hS hL) (fun h => k2 h H locs ls hP hS hL)
theorem mr_if_ne (C : Cx p s m args c cc own nL D ad ac A) {x : Int32} {off : Int} {tgt : Nat} (hd : decode cc pc = .ok (.ifCond .ne off, 3)) (ht : (pc : Int) + off = (tgt : Int)) (k1 : ¬ x = 0 → UW p l e R s m args below meth c cells slots Z D ad ac A nL tgt L st S) (k2 : x = 0 → UW p l e R s m args below meth c cells slots Z D ad ac A nL (pc + 3) L st S) : UW p l e R s m args below meth c cells slots Z D ad ac A nL pc L (.int x :: st) S := by
  intro H locs ls hP hS hL
  exact lv_if_ne C.1 C.2.1 hd ht (fun h => k1 h H locs ls hP hS hL) (fun h => k2 h H locs ls hP hS hL)
theorem mr_icmp_ne (C : Cx p s m args c cc own nL D ad ac A) {x y : Int32} {off : Int} {tgt : Nat} (hd : decode cc pc = .ok (.if_icmp .ne off, 3)) (ht : (pc : Int) + off = (tgt : Int)) (k1 : ¬ x = y → UW p l e R s m args below meth c cells slots Z D ad ac A nL tgt L st S) (k2 : x = y → UW p l e R s m args below meth c cells slots Z D ad ac A nL (pc + 3) L st S) : UW p l e R s m args below meth c cells slots Z D ad ac A nL pc L (.int y :: .int x :: st) S := by
  intro H locs ls hP hS hL
  exact lv_icmp_ne C.1 C.2.1 hd ht (fun h => k1 h H locs ls hP hS hL) (fun h => k2 h H locs ls hP hS hL)
theorem mr_if_lt (C : Cx p s m args c cc own nL D ad ac A) {x : Int32} {off : Int} {tgt : Nat} (hd : decode cc pc = .ok (.ifCond .lt off, 3)) (ht : (pc : Int) + off = (tgt : Int)) (k1 : x < 0 → UW p l e R s m args below meth c cells slots Z D ad ac A nL tgt L st S) (k2 : ¬ x < 0 → UW p l e R s m args below meth c cells slots Z D ad ac A nL (pc + 3) L st S) : UW p l e R s m args below meth c cells slots Z D ad ac A nL pc L (.int x :: st) S := by
  intro H locs ls hP hS hL
  exact lv_if_lt C.1 C.2.1 hd ht (fun h => k1 h H locs ls hP hS hL) (fun h => k2 h H locs ls hP hS hL)
theorem mr_icmp_lt (C : Cx p s m args c cc own nL D ad ac A) {x y : Int32} {off : Int} {tgt : Nat} (hd : decode cc pc = .ok (.if_icmp .lt off, 3)) (ht : (pc : Int) + off = (tgt : Int)) (k1 : x < y → UW p l e R s m args below meth c cells slots Z D ad ac A nL tgt L st S) (k2 : ¬ x < y → UW p l e R s m args below meth c cells slots Z D ad ac A nL (pc + 3) L st S) : UW p l e R s m args below meth c cells slots Z D ad ac A nL pc L (.int y :: .int x :: st) S := by
  intro H locs ls hP hS hL
  exact lv_icmp_lt C.1 C.2.1 hd ht (fun h => k1 h H locs ls hP hS hL) (fun h => k2 h H locs ls hP hS hL)
theorem mr_if_ge (C : Cx p s m args c cc own nL D ad ac A) {x : Int32} {off : Int} {tgt : Nat} (hd : decode cc pc = .ok (.ifCond .ge off, 3)) (ht : (pc : Int) + off = (tgt : Int)) (k1 : 0 ≤ x → UW p l e R s m args below meth c cells slots Z D ad ac A nL tgt L st S) (k2 : ¬ 0 ≤ x → UW p l e R s m args below meth c cells slots Z D ad ac A nL (pc + 3) L st S) : UW p l e R s m args below meth c cells slots Z D ad ac A nL pc L (.int x :: st) S := by
  intro H locs ls hP hS hL
  exact lv_if_ge C.1 C.2.1 hd ht (fun h => k1 h H locs ls hP hS hL) (fun h => k2 h H locs ls hP hS hL)
theorem mr_icmp_ge (C : Cx p s m args c cc own nL D ad ac A) {x y : Int32} {off : Int} {tgt : Nat} (hd : decode cc pc = .ok (.if_icmp .ge off, 3)) (ht : (pc : Int) + off = (tgt : Int)) (k1 : y ≤ x → UW p l e R s m args below meth c cells slots Z D ad ac A nL tgt L st S) (k2 : ¬ y ≤ x → UW p l e R s m args below meth c cells slots Z D ad ac A nL (pc + 3) L st S) : UW p l e R s m args below meth c cells slots Z D ad ac A nL pc L (.int y :: .int x :: st) S := by
  intro H locs ls hP hS hL
  exact lv_icmp_ge C.1 C.2.1 hd ht (fun h => k1 h H locs ls hP hS hL) (fun h => k2 h H locs ls hP hS hL)
theorem mr_if_gt (C : Cx p s m args c cc own nL D ad ac A) {x : Int32} {off : Int} {tgt : Nat} (hd : decode cc pc = .ok (.ifCond .gt off, 3)) (ht : (pc : Int) + off = (tgt : Int)) (k1 : 0 < x → UW p l e R s m args below meth c cells slots Z D ad ac A nL tgt L st S) (k2 : ¬ 0 < x → UW p l e R s m args below meth c cells slots Z D ad ac A nL (pc + 3) L st S) : UW p l e R s m args below meth c cells slots Z D ad ac A nL pc L (.int x :: st) S := by
  intro H locs ls hP hS hL
  exact lv_if_gt C.1 C.2.1 hd ht (fun h => k1 h H locs ls hP hS hL) (fun h => k2 h H locs ls hP hS hL)
theorem mr_icmp_gt (C : Cx p s m args c cc own nL D ad ac A) {x y : Int32} {off : Int} {tgt : Nat} (hd : decode cc pc = .ok (.if_icmp .gt off, 3)) (ht : (pc : Int) + off = (tgt : Int)) (k1 : y < x → UW p l e R s m args below meth c cells slots Z D ad ac A nL tgt L st S) (k2 : ¬ y < x → UW p l e R s m args below meth c cells slots Z D ad ac A nL (pc + 3) L st S) : UW p l e R s m args below meth c cells slots Z D ad ac A nL pc L (.int y :: .int x :: st) S := by
  intro H locs ls hP hS hL
  exact lv_icmp_gt C.1 C.2.1 hd ht (fun h => k1 h H locs ls hP hS hL) (fun h => k2 h H locs ls hP hS hL)
theorem mr_if_le (C : Cx p s m args c cc own nL D ad ac A) {x : Int32} {off : Int} {tgt : Nat} (hd : decode cc pc = .ok (.ifCond .le off, 3)) (ht : (pc : Int) + off = (tgt : Int)) (k1 : x ≤ 0 → UW p l e R s m args below meth c cells slots Z D ad ac A nL tgt L st S) (k2 : ¬ x ≤ 0 → UW p l e R s m args below meth c cells slots Z D ad ac A nL (pc + 3) L st S) : UW p l e R s m args below meth c cells slots Z D ad ac A nL pc L (.int x :: st) S := by
  intro H locs ls hP hS hL
  exact lv_if_le C.1 C.2.1 hd ht (fun h => k1 h H locs ls hP hS hL) (fun h => k2 h H locs ls hP hS hL)
theorem mr_icmp_le (C : Cx p s m args c cc own nL D ad ac A) {x y : Int32} {off : Int} {tgt : Nat} (hd : decode cc pc = .ok (.if_icmp .le off, 3)) (ht : (pc : Int) + off = (tgt : Int)) (k1 : x ≤ y → UW p l e R s m args below meth c cells slots Z D ad ac A nL tgt L st S) (k2 : ¬ x ≤ y → UW p l e R s m args below meth c cells slots Z D ad ac A nL (pc + 3) L st S) : UW p l e R s m args below meth c cells slots Z D ad ac A nL pc L (.int y :: .int x :: st) S := by
  intro H locs ls hP hS hL
  exact lv_icmp_le C.1 C.2.1 hd ht (fun h => k1 h H locs ls hP hS hL) (fun h => k2 h H locs ls hP hS hL)
theorem mr_lcmp_eq (C : Cx p s m args c cc own nL D ad ac A) {x y : Int64} {off : Int} {tgt : Nat} (hd0 : decode cc pc = .ok (.lcmp, 1)) (hd : decode cc (pc + 1) = .ok (.ifCond .eq off, 3)) (ht : ((pc + 1 : Nat) : Int) + off = (tgt : Int)) (k1 : x = y → UW p l e R s m args below meth c cells slots Z D ad ac A nL tgt L st S) (k2 : ¬ x = y → UW p l e R s m args below meth c cells slots Z D ad ac A nL (pc + 1 + 3) L st S) : UW p l e R s m args below meth c cells slots Z D ad ac A nL pc L (.long y :: .long x :: st) S := by
  intro H locs ls hP hS hL
  exact W.lcmp C.1 C.2.1 hd0 (lv_if_eq C.1 C.2.1 hd ht (fun h => k1 ((lg_cmp_eq x y).mp h) H locs ls hP hS hL) (fun h => k2 (fun q => h ((lg_cmp_eq x y).mpr q)) H locs ls hP hS hL))
theorem mr_lcmp_ne (C : Cx p s m args c cc own nL D ad ac A) {x y : Int64} {off : Int} {tgt : Nat} (hd0 : decode cc pc = .ok (.lcmp, 1)) (hd : decode cc (pc + 1) = .ok (.ifCond .ne off, 3)) (ht : ((pc + 1 : Nat) : Int) + off = (tgt : Int)) (k1 : ¬ x = y → UW p l e R s m args below meth c cells slots Z D ad ac A nL tgt L st S) (k2 : x = y → UW p l e R s m args below meth c cells slots Z D ad ac A nL (pc + 1 + 3) L st S) : UW p l e R s m args below meth c cells slots Z D ad ac A nL pc L (.long y :: .long x :: st) S := by
  intro H locs ls hP hS hL
  exact W.lcmp C.1 C.2.1 hd0 (lv_if_ne C.1 C.2.1 hd ht (fun h => k1 (fun q => h ((lg_cmp_eq x y).mpr q)) H locs ls hP hS hL) (fun h => k2 ((lg_cmp_eq x y).mp h) H locs ls hP hS hL))
theorem mr_lcmp_lt (C : Cx p s m args c cc own nL D ad ac A) {x y : Int64} {off : Int} {tgt : Nat} (hd0 : decode cc pc = .ok (.lcmp, 1)) (hd : decode cc (pc + 1) = .ok (.ifCond .lt off, 3)) (ht : ((pc + 1 : Nat) : Int) + off = (tgt : Int)) (k1 : x < y → UW p l e R s m args below meth c cells slots Z D ad ac A nL tgt L st S) (k2 : ¬ x < y → UW p l e R s m args below meth c cells slots Z D ad ac A nL (pc + 1 + 3) L st S) : UW p l e R s m args below meth c cells slots Z D ad ac A nL pc L (.long y :: .long x :: st) S := by
  intro H locs ls hP hS hL
  exact W.lcmp C.1 C.2.1 hd0 (lv_if_lt C.1 C.2.1 hd ht (fun h => k1 ((lg_cmp_lt x y).mp h) H locs ls hP hS hL) (fun h => k2 (fun q => h ((lg_cmp_lt x y).mpr q)) H locs ls hP hS hL))
theorem mr_lcmp_ge (C : Cx p s m args c cc own nL D ad ac A) {x y : Int64} {off : Int} {tgt : Nat} (hd0 : decode cc pc = .ok (.lcmp, 1)) (hd : decode cc (pc + 1) = .ok (.ifCond .ge off, 3)) (ht : ((pc + 1 : Nat) : Int) + off = (tgt : Int)) (k1 : y ≤ x → UW p l e R s m args below meth c cells slots Z D ad ac A nL tgt L st S) (k2 : ¬ y ≤ x → UW p l e R s m args below meth c cells slots Z D ad ac A nL (pc + 1 + 3) L st S) : UW p l e R s m args below meth c cells slots Z D ad ac A nL pc L (.long y :: .long x :: st) S := by
  intro H locs ls hP hS hL
  exact W.lcmp C.1 C.2.1 hd0 (lv_if_ge C.1 C.2.1 hd ht (fun h => k1 ((lg_cmp_ge x y).mp h) H locs ls hP hS hL) (fun h => k2 (fun q => h ((lg_cmp_ge x y).mpr q)) H locs ls hP hS hL))
theorem mr_lcmp_gt (C : Cx p s m args c cc own nL D ad ac A) {x y : Int64} {off : Int} {tgt : Nat} (hd0 : decode cc pc = .ok (.lcmp, 1)) (hd : decode cc (pc + 1) = .ok (.ifCond .gt off, 3)) (ht : ((pc + 1 : Nat) : Int) + off = (tgt : Int)) (k1 : y < x → UW p l e R s m args below meth c cells slots Z D ad ac A nL tgt L st S) (k2 : ¬ y < x → UW p l e R s m args below meth c cells slots Z D ad ac A nL (pc + 1 + 3) L st S) : UW p l e R s m args below meth c cells slots Z D ad ac A nL pc L (.long y :: .long x :: st) S := by
  intro H locs ls hP hS hL
  exact W.lcmp C.1 C.2.1 hd0 (lv_if_gt C.1 C.2.1 hd ht (fun h => k1 ((lg_cmp_gt x y).mp h) H locs ls hP hS hL) (fun h => k2 (fun q => h ((lg_cmp_gt x y).mpr q)) H locs ls hP hS hL))
theorem mr_lcmp_le (C : Cx p s m args c cc own nL D ad ac A) {x y : Int64} {off : Int} {tgt : Nat} (hd0 : decode cc pc = .ok (.lcmp, 1)) (hd : decode cc (pc + 1) = .ok (.ifCond .le off, 3)) (ht : ((pc + 1 : Nat) : Int) + off = (tgt : Int)) (k1 : x ≤ y → UW p l e R s m args below meth c cells slots Z D ad ac A nL tgt L st S) (k2 : ¬ x ≤ y → UW p l e R s m args below meth c cells slots Z D ad ac A nL (pc + 1 + 3) L st S) : UW p l e R s m args below meth c cells slots Z D ad ac A nL pc L (.long y :: .long x :: st) S := by
  intro H locs ls hP hS hL
  exact W.lcmp C.1 C.2.1 hd0 (lv_if_le C.1 C.2.1 hd ht (fun h => k1 ((lg_cmp_le x y).mp h) H locs ls hP hS hL) (fun h => k2 (fun q => h ((lg_cmp_le x y).mpr q)) H locs ls hP hS hL))
theorem mr_goto (C : Cx p s m args c cc own nL D ad ac A) {off : Int} {tgt : Nat} (hd : decode cc pc = .ok (.goto off, 3)) (ht : (pc : Int) + off = (tgt : Int)) (k : UW p l e R s m args below meth c cells slots Z D ad ac A nL tgt L st S) : UW p l e R s m args below meth c cells slots Z D ad ac A nL pc L st S := by
  intro H locs ls hP hS hL
  exact lv_goto C.1 C.2.1 hd ht (k H locs ls hP hS hL)
theorem mr_tsIn (C : Cx p s m args c cc own nL D ad ac A) {dflt lo hi : Int} {offs : Array Int} {len : Nat} {x : Int32} {off : Int} {tgt : Nat} (hd : decode cc pc = .ok (.tableswitch dflt lo hi offs, len)) (v : Int32) (hx : x = v) (h1 : ¬ v.toInt < lo) (h2 : ¬ hi < v.toInt) (ho : offs[(v.toInt - lo).toNat]? = some off) (ht : (pc : Int) + off = (tgt : Int)) (k : UW p l e R s m args below meth c cells slots Z D ad ac A nL tgt L st S) : UW p l e R s m args below meth c cells slots Z D ad ac A nL pc L (.int x :: st) S := by
  intro H locs ls hP hS hL
  subst hx
  exact lv_tableIn C.1 C.2.1 hd h1 h2 ho ht (k H locs ls hP hS hL)
theorem mr_tsOut (C : Cx p s m args c cc own nL D ad ac A) {dflt lo hi : Int} {offs : Array Int} {len : Nat} {x : Int32} {tgt : Nat} (hd : decode cc pc = .ok (.tableswitch dflt lo hi offs, len)) (h : x.toInt < lo ∨ hi < x.toInt) (ht : (pc : Int) + dflt = (tgt : Int)) (k : UW p l e R s m args below meth c cells slots Z D ad ac A nL tgt L st S) : UW p l e R s m args below meth c cells slots Z D ad ac A nL pc L (.int x :: st) S := by
  intro H locs ls hP hS hL
  exact lv_tableOut C.1 C.2.1 hd h ht (k H locs ls hP hS hL)
theorem mr_ls (C : Cx p s m args c cc own nL D ad ac A) {dflt : Int} {ps : Array (Int × Int)} {len : Nat} {x : Int32} {off : Int} {tgt : Nat} (hd : decode cc pc = .ok (.lookupswitch dflt ps, len)) (hp : (ps.toList.zip (ps.toList.drop 1)).all (fun (a, next) => a.1 < next.1) = true) (ho : Op.lookupswitch.offset ps.toList dflt x.toInt = off) (ht : (pc : Int) + off = (tgt : Int)) (k : UW p l e R s m args below meth c cells slots Z D ad ac A nL tgt L st S) : UW p l e R s m args below meth c cells slots Z D ad ac A nL pc L (.int x :: st) S := by
  intro H locs ls hP hS hL
  exact lv_lookup C.1 C.2.1 hd hp ho ht (k H locs ls hP hS hL)
/-- a field's row of the pool: the class that it stands in, its place there, whether final, its type -/
def FL (own : String) (index ci k : Nat) (fin : Bool) (fty : FieldType) : Prop := ∃ (C : String) (T : u_T) (N : Nat) (ty : Nat → FieldType), vwCl[ci]? = some (C, T, N) ∧ k < N ∧ (T k).1 = C ∧ (∀ w ∈ u_ws C T N, w ∈ gW) ∧ (∀ j, j < N → parseFieldDescriptor (T j).2.2.1 = some (ty j)) ∧ (∀ a, a < N → ∀ b, b < N → a ≠ b → (T a).2.1 ≠ (T b).2.1) ∧
  (Cond.fieldLink own index C (T k).2.1 (T k).2.2.1 ∈ gW ∨ ∃ host, Cond.fieldLinkNest own index C (T k).2.1 (T k).2.2.1 host ∈ nW) ∧ (T k).2.2.2 = fin ∧ ty k = fty
theorem mr_get0 (C : Cx p s m args c cc own nL D ad ac A) {index ci k q : Nat} {fin : Bool} {fty : FieldType} {fks : List (Nat ⊕ Bool)} {fk : Nat ⊕ Bool} {v : Value} (hd : decode cc pc = .ok (.getfield index, 3)) (hf : FL own index ci k fin fty) (hq : q < NC) (hl : lay q = .inl (ci, fks)) (hk : fks[k]? = some fk) (hv : ∀ ad : Nat → Nat, fv1 ad (S.1 q) (S.2 q) k fk = cV ad v) (kk : UW p l e R s m args below meth c cells slots Z D ad ac A nL (pc + 3) L (v :: st) S) : UW p l e R s m args below meth c cells slots Z D ad ac A nL pc L (.ref q :: st) S := by
  intro H locs ls hP hS hL
  obtain ⟨C0, T, N, ty, h1, h2, h3, h4, h5, h6, h7, h8, h9⟩ := hf
  obtain ⟨hx, hb, hml, hown, hts, hnw, hK, hinj, hA⟩ := C
  have he : (wld ad ac S)[q]? = some (ad q, .inr (ci, fvs ad (S.1 q) (S.2 q) 0 fks)) := by
    rw [wld_get ad ac S hq]
    simp only [cel, hl, celE]
  have hv2 : (fvs ad (S.1 q) (S.2 q) 0 fks)[k]? = some (cV ad v) := by
    rw [fvs_get, hk, Nat.zero_add]
    simp [hv ad]
  rcases h7 with h7 | ⟨host, h7⟩
  · exact va_get hx hb hts h4 hown hK hP q he h1 k h2 (hts _ h7) (fun x hx2 => by rw [h3] at hx2; exact hx2) hv2 hd (kk H locs ls hP hS hL)
  · exact va_getN hx hb hts h4 hown hK hP q he h1 k h2 (nw_use h7 (hnw _ h7)) (fun x hx2 => by rw [h3] at hx2; exact hx2) hv2 hd (kk H locs ls hP hS hL)
theorem mr_getI (C : Cx p s m args c cc own nL D ad ac A) {index ci k q : Nat} {fin : Bool} {fty : FieldType} {fks : List (Nat ⊕ Bool)} (hd : decode cc pc = .ok (.getfield index, 3)) (hf : FL own index ci k fin fty) (hq : q < NC) (hl : lay q = .inl (ci, fks)) (hk : fks[k]? = some (.inr false)) (kk : UW p l e R s m args below meth c cells slots Z D ad ac A nL (pc + 3) L (.int (S.1 q k) :: st) S) : UW p l e R s m args below meth c cells slots Z D ad ac A nL pc L (.ref q :: st) S := mr_get0 C hd hf hq hl hk (fun _ => rfl) kk
theorem mr_getJ (C : Cx p s m args c cc own nL D ad ac A) {index ci k q : Nat} {fin : Bool} {fty : FieldType} {fks : List (Nat ⊕ Bool)} (hd : decode cc pc = .ok (.getfield index, 3)) (hf : FL own index ci k fin fty) (hq : q < NC) (hl : lay q = .inl (ci, fks)) (hk : fks[k]? = some (.inr true)) (kk : UW p l e R s m args below meth c cells slots Z D ad ac A nL (pc + 3) L (.long (S.2 q k) :: st) S) : UW p l e R s m args below meth c cells slots Z D ad ac A nL pc L (.ref q :: st) S := mr_get0 C hd hf hq hl hk (fun _ => rfl) kk
theorem mr_getR (C : Cx p s m args c cc own nL D ad ac A) {index ci k q r : Nat} {fin : Bool} {fty : FieldType} {fks : List (Nat ⊕ Bool)} (hd : decode cc pc = .ok (.getfield index, 3)) (hf : FL own index ci k fin fty) (hq : q < NC) (hl : lay q = .inl (ci, fks)) (hk : fks[k]? = some (.inl r)) (kk : UW p l e R s m args below meth c cells slots Z D ad ac A nL (pc + 3) L (.ref r :: st) S) : UW p l e R s m args below meth c cells slots Z D ad ac A nL pc L (.ref q :: st) S := mr_get0 C hd hf hq hl hk (fun _ => rfl) kk
theorem mr_put0 (C : Cx p s m args c cc own nL D ad ac A) {index ci k q : Nat} {fty : FieldType} {fks : List (Nat ⊕ Bool)} {v : Value} {S' : St} (hd : decode cc pc = .ok (.putfield index, 3)) (hf : FL own index ci k false fty) (hq : q < NC) (hl : lay q = .inl (ci, fks)) (hk : k < fks.length) (hv : ∀ ad : Nat → Nat, cV ad v = v) (hn : narrow fty v = v) (hfit : fits fty v = true)
    (hs : ∀ ad : Nat → Nat, (fvs ad (S.1 q) (S.2 q) 0 fks).set k v = fvs ad (S'.1 q) (S'.2 q) 0 fks) (hs1 : ∀ x, x ≠ q → S'.1 x = S.1 x) (hs2 : ∀ x, x ≠ q → S'.2 x = S.2 x) (kk : UW p l e R s m args below meth c cells slots Z D ad ac A nL (pc + 3) L st S') : UW p l e R s m args below meth c cells slots Z D ad ac A nL pc L (v :: .ref q :: st) S := by
  intro H locs ls hP hS hL
  obtain ⟨C0, T, N, ty, h1, h2, h3, h4, h5, h6, h7, h8, h9⟩ := hf
  obtain ⟨hx, hb, hml, hown, hts, hnw, hK, hinj, hA⟩ := C
  have he : (wld ad ac S)[q]? = some (ad q, .inr (ci, fvs ad (S.1 q) (S.2 q) 0 fks)) := by
    rw [wld_get ad ac S hq]
    simp only [cel, hl, celE]
  have hw : (wld ad ac S).set q (ad q, .inr (ci, (fvs ad (S.1 q) (S.2 q) 0 fks).set k v)) = wld ad ac S' := wld_set (by simp only [cel, hl, celE, hs ad]) hs1 hs2
  have hd2 : parseFieldDescriptor (T k).2.2.1 = some fty := by rw [h5 k h2, h9]
  have hl2 : k < (fvs ad (S.1 q) (S.2 q) 0 fks).length := by rw [fvs_len]; exact hk
  show W p l e R s m args below meth c H locs cells slots Z (F0 m pc ls (cV ad v :: .ref (ad q) :: st.map (cV ad)))
  rw [hv ad]
  rcases h7 with h7 | ⟨host, h7⟩
  · exact va_put hx hb hts h4 ty h5 h6 hown hK hP (wld_D hinj hA S) hS q he h1 k h2 (hts _ h7) (fun x hx2 => by rw [h3] at hx2; exact hx2) h8 hd2 hn hfit hl2 hd (fun H1 locs1 g1 _ g3 => kk H1 locs1 ls (by rw [← hw]; exact g1) g3 hL)
  · exact va_putN hx hb hts h4 ty h5 h6 hown hK hP (wld_D hinj hA S) hS q he h1 k h2 (nw_use h7 (hnw _ h7)) (fun x hx2 => by rw [h3] at hx2; exact hx2) h8 hd2 hn hfit hl2 hd (fun H1 locs1 g1 _ g3 => kk H1 locs1 ls (by rw [← hw]; exact g1) g3 hL)
theorem mr_putI (C : Cx p s m args c cc own nL D ad ac A) {index ci k q : Nat} {fty : FieldType} {fks : List (Nat ⊕ Bool)} {x : Int32} (hd : decode cc pc = .ok (.putfield index, 3)) (hf : FL own index ci k false fty) (hq : q < NC) (hl : lay q = .inl (ci, fks)) (hk : fks[k]? = some (.inr false)) (hn : narrow fty (.int x) = .int x) (hfit : fits fty (.int x) = true) (kk : UW p l e R s m args below meth c cells slots Z D ad ac A nL (pc + 3) L st (sI S q k x)) : UW p l e R s m args below meth c cells slots Z D ad ac A nL pc L (.int x :: .ref q :: st) S :=
  mr_put0 (S' := sI S q k x) C hd hf hq hl (List.getElem?_eq_some_iff.mp hk).1 (fun _ => rfl) hn hfit (fun ad => by rw [fvs_setI hk, sI_eq, sI_2]) (fun x h => sI_ne S k _ h) (fun x _ => rfl) kk
theorem mr_putJ (C : Cx p s m args c cc own nL D ad ac A) {index ci k q : Nat} {fks : List (Nat ⊕ Bool)} {x : Int64} (hd : decode cc pc = .ok (.putfield index, 3)) (hf : FL own index ci k false .long) (hq : q < NC) (hl : lay q = .inl (ci, fks)) (hk : fks[k]? = some (.inr true)) (kk : UW p l e R s m args below meth c cells slots Z D ad ac A nL (pc + 3) L st (sJ S q k x)) : UW p l e R s m args below meth c cells slots Z D ad ac A nL pc L (.long x :: .ref q :: st) S :=
  mr_put0 (S' := sJ S q k x) C hd hf hq hl (List.getElem?_eq_some_iff.mp hk).1 (fun _ => rfl) rfl rfl (fun ad => by rw [fvs_setJ hk, sJ_eq, sJ_1]) (fun x _ => rfl) (fun x h => sJ_ne S k _ h) kk
theorem mr_iald (C : Cx p s m args c cc own nL D ad ac A) {q n : Nat} {rs : List Nat} {i : Int32} (hd : decode cc pc = .ok (.iaload, 1)) (hq : q < NC) (hl : lay q = .inr (0, n, rs)) (hin : vp_in i n) (kk : UW p l e R s m args below meth c cells slots Z D ad ac A nL (pc + 1) L (.int (S.1 q i.toNatClampNeg) :: st) S) : UW p l e R s m args below meth c cells slots Z D ad ac A nL pc L (.int i :: .ref q :: st) S := by
  intro H locs ls hP hS hL
  exact va_iald C.1 C.2.1 C.2.2.2.2.2.2.1 hP q q (cA := ac q) (n := n) (f := S.1 q) (by rw [wld_get ad ac S hq]; simp only [cel, hl, celE]) (by rw [tys_get ac hq, hl]; rfl) hin hd (kk H locs ls hP hS hL)
theorem mr_lald (C : Cx p s m args c cc own nL D ad ac A) {q n : Nat} {rs : List Nat} {i : Int32} (hd : decode cc pc = .ok (.laload, 1)) (hq : q < NC) (hl : lay q = .inr (1, n, rs)) (hin : vp_in i n) (kk : UW p l e R s m args below meth c cells slots Z D ad ac A nL (pc + 1) L (.long (S.2 q i.toNatClampNeg) :: st) S) : UW p l e R s m args below meth c cells slots Z D ad ac A nL pc L (.int i :: .ref q :: st) S := by
  intro H locs ls hP hS hL
  exact va_lald C.1 C.2.1 C.2.2.2.2.2.2.1 hP q q (cA := ac q) (n := n) (f := S.2 q) (by rw [wld_get ad ac S hq]; simp only [cel, hl, celE]) (by rw [tys_get ac hq, hl]; rfl) hin hd (kk H locs ls hP hS hL)
theorem mr_iast (C : Cx p s m args c cc own nL D ad ac A) {q n : Nat} {rs : List Nat} {i x : Int32} (hd : decode cc pc = .ok (.iastore, 1)) (hq : q < NC) (hl : lay q = .inr (0, n, rs)) (hin : vp_in i n) (kk : UW p l e R s m args below meth c cells slots Z D ad ac A nL (pc + 1) L st (sI S q i.toNatClampNeg x)) : UW p l e R s m args below meth c cells slots Z D ad ac A nL pc L (.int x :: .int i :: .ref q :: st) S := by
  intro H locs ls hP hS hL
  obtain ⟨hx, hb, hml, hown, hts, hnw, hK, hinj, hA⟩ := C
  have hw : (wld ad ac S).set q (ad q, .inl (ac q, n, .inl (upd (S.1 q) i.toNatClampNeg x))) = wld ad ac (sI S q i.toNatClampNeg x) := wld_set (by simp only [cel, hl, celE, sI_eq]) (fun y h => sI_ne S _ _ h) (fun _ _ => rfl)
  exact va_iast hx hb hK hP (wld_D hinj hA S) hS q q (cA := ac q) (n := n) (f := S.1 q) (by rw [wld_get ad ac S hq]; simp only [cel, hl, celE]) (by rw [tys_get ac hq, hl]; rfl) hin hd (fun H1 locs1 g1 _ g3 => kk H1 locs1 ls (by rw [← hw]; exact g1) g3 hL)
theorem mr_last (C : Cx p s m args c cc own nL D ad ac A) {q n : Nat} {rs : List Nat} {i : Int32} {x : Int64} (hd : decode cc pc = .ok (.lastore, 1)) (hq : q < NC) (hl : lay q = .inr (1, n, rs)) (hin : vp_in i n) (kk : UW p l e R s m args below meth c cells slots Z D ad ac A nL (pc + 1) L st (sJ S q i.toNatClampNeg x)) : UW p l e R s m args below meth c cells slots Z D ad ac A nL pc L (.long x :: .int i :: .ref q :: st) S := by
  intro H locs ls hP hS hL
  obtain ⟨hx, hb, hml, hown, hts, hnw, hK, hinj, hA⟩ := C
  have hw : (wld ad ac S).set q (ad q, .inl (ac q, n, .inr (.inl (vp_updL (S.2 q) i.toNatClampNeg x)))) = wld ad ac (sJ S q i.toNatClampNeg x) := wld_set (by simp only [cel, hl, celE, sJ_eq]) (fun _ _ => rfl) (fun y h => sJ_ne S _ _ h)
  exact va_last hx hb hK hP (wld_D hinj hA S) hS q q (cA := ac q) (n := n) (f := S.2 q) (by rw [wld_get ad ac S hq]; simp only [cel, hl, celE]) (by rw [tys_get ac hq, hl]; rfl) hin hd (fun H1 locs1 g1 _ g3 => kk H1 locs1 ls (by rw [← hw]; exact g1) g3 hL)
theorem mr_aald (C : Cx p s m args c cc own nL D ad ac A) {q n d r : Nat} {rs : List Nat} {i : Int32} (hd : decode cc pc = .ok (.aaload, 1)) (hq : q < NC) (hl : lay q = .inr (d + 2, n, rs)) (hin : vp_in i n) (hr : rs[i.toNatClampNeg]? = some r) (kk : UW p l e R s m args below meth c cells slots Z D ad ac A nL (pc + 1) L (.ref r :: st) S) : UW p l e R s m args below meth c cells slots Z D ad ac A nL pc L (.int i :: .ref q :: st) S := by
  intro H locs ls hP hS hL
  have hlt : i.toNatClampNeg < n := Nat.not_le.mp fun q => hin (Or.inr q)
  have hc := hP q _ (wld_get ad ac S hq)
  have hw : H[ad q]? = some (arrV (ac q) n (fun j => va_rf ((rs[j]?).map ad))) := by
    have h1 : va_at D vwCl (ad q, cel ad ac S q) H := hc
    simp only [va_at, cel, hl, celE] at h1
    exact h1
  have ht := (C.2.2.2.2.2.2.1.2 q _ (tys_get ac hq)).1 n (fun j => va_rf ((rs[j]?).map ad))
  have hty : (tyE (lay q)).isReference = true := by
    rw [hl]
    cases d <;> rfl
  refine W.aald (v := .ref (ad r)) (ty := tyE (lay q)) C.1 C.2.1 hw ht hty (fun q => by cases q) (by show ¬ (i < 0 ∨ (arrV _ _ _).slots.size ≤ _); rw [arrV_size]; exact hin) ?_ rfl rfl hd (kk H locs ls hP hS hL)
  show (arrV _ _ _).slots[_]? = _
  rw [arrV_read _ _ hlt, hr]
  rfl
theorem mr_alen (C : Cx p s m args c cc own nL D ad ac A) {q n : Nat} {rs : List Nat} (hd : decode cc pc = .ok (.arraylength, 1)) (hq : q < NC) (hl : lay q = .inr (0, n, rs)) (kk : UW p l e R s m args below meth c cells slots Z D ad ac A nL (pc + 1) L (.int (Int32.ofNat n) :: st) S) : UW p l e R s m args below meth c cells slots Z D ad ac A nL pc L (.ref q :: st) S := by
  intro H locs ls hP hS hL
  exact va_alen C.1 C.2.1 C.2.2.2.2.2.2.1 hP q q (cA := ac q) (x := (n, .inl (S.1 q))) (by rw [wld_get ad ac S hq]; simp only [cel, hl, celE]) (tys_get ac hq) rfl hd (kk H locs ls hP hS hL)
theorem mr_copy (C : Cx p s m args c cc own nL D ad ac A) {q0 q1 n0 n1 index : Nat} {rs0 rs1 : List Nat} {sp dp n : Int32} (hd : decode cc pc = .ok (.invokestatic index, 3)) (hw1 : Cond.methodLink own index arraycopyName ∈ gW) (hw2 : Cond.native arraycopyName ∈ gW) (hw3 : Cond.static arraycopyName ∈ gW) (hw4 : Cond.initialized "java/lang/System" ∈ gW) (hf : 1 ≤ R.frames) (hl0 : (st.map fun v => v.category).sum + 18 ≤ R.locals)
    (hq0 : q0 < NC) (hq1 : q1 < NC) (hy0 : lay q0 = .inr (0, n0, rs0)) (hy1 : lay q1 = .inr (0, n1, rs1)) (h1 : ¬ sp < 0) (h2 : ¬ dp < 0) (h3 : ¬ n < 0) (h4 : sp.toNatClampNeg + n.toNatClampNeg ≤ n0) (h5 : dp.toNatClampNeg + n.toNatClampNeg ≤ n1)
    (kk : UW p l e R s m args below meth c cells slots Z D ad ac A nL (pc + 3) L st (sF S q1 (va_cpy (S.1 q0) (S.1 q1) sp.toNatClampNeg dp.toNatClampNeg n.toNatClampNeg))) : UW p l e R s m args below meth c cells slots Z D ad ac A nL pc L (.int n :: .int dp :: .ref q1 :: .int sp :: .ref q0 :: st) S := by
  intro H locs ls hP hS hL
  obtain ⟨hx, hb, hml, hown, hts, hnw, hK, hinj, hA⟩ := C
  generalize hF : va_cpy (S.1 q0) (S.1 q1) sp.toNatClampNeg dp.toNatClampNeg n.toNatClampNeg = F at kk
  have hw : (wld ad ac S).set q1 (ad q1, .inl (ac q1, n1, .inl F)) = wld ad ac (sF S q1 F) := wld_set (by simp [cel, hy1, celE, sF]) (fun y h => by simp [sF, h]) (fun _ _ => rfl)
  refine va_copyi hx hb (hml.trans hL.1.symm) hown (hts _ hw1) (hts _ hw2) (hts _ hw3) (hts _ hw4) hK hP (wld_D hinj hA S) hS q0 q1 q0 q1 (c0 := ac q0) (c1 := ac q1) (n0 := n0) (n1 := n1) (f := S.1 q0) (g := S.1 q1) (ty := .int) (by rw [wld_get ad ac S hq0]; simp only [cel, hy0, celE]) (by rw [wld_get ad ac S hq1]; simp only [cel, hy1, celE]) (by rw [tys_get ac hq0, hy0]; rfl) (by rw [tys_get ac hq1, hy1]; rfl) rfl h1 h2 h3 h4 h5 (fun _ _ => rfl) hf ?_ hd (fun H1 locs1 g1 _ g3 => kk H1 locs1 ls (by rw [← hw, ← hF]; exact g1) g3 hL)
  have e1 : ((st.map (cV ad)).map fun v => v.category) = st.map fun v => v.category := by
    rw [List.map_map]
    exact List.map_congr_left (fun v _ => cV_cat ad v)
  rw [e1]
  exact hl0
theorem mr_iret {Q : Option Value → St → Prop} {x : Int32} (C : Cx p s m args c cc own nL D ad ac (adA ad)) (hr : meth.sig.returnType = some .int) (hlk : meth.locks = false) (hd : decode cc pc = .ok (.ireturn, 1)) (h : Q (some (.int x)) S) : UW p l e R s m args below meth c cells slots (MQ below (QQ D ad ac Q) args s cells slots (adA ad)) D ad ac (adA ad) nL pc L [.int x] S := by
  intro H locs ls hP hS hL
  exact W.iret C.1 C.2.1 hr (fun t ht hW => ⟨⟨some (.int x), S, rfl, h, by rw [ht]; exact hP⟩, hS.F ht⟩) hS.2.2 hd hlk
theorem mr_lret {Q : Option Value → St → Prop} {x : Int64} (C : Cx p s m args c cc own nL D ad ac (adA ad)) (hr : meth.sig.returnType = some .long) (hlk : meth.locks = false) (hd : decode cc pc = .ok (.lreturn, 1)) (h : Q (some (.long x)) S) : UW p l e R s m args below meth c cells slots (MQ below (QQ D ad ac Q) args s cells slots (adA ad)) D ad ac (adA ad) nL pc L [.long x] S := by
  intro H locs ls hP hS hL
  exact W.lret C.1 C.2.1 hr (fun t ht hW => ⟨⟨some (.long x), S, rfl, h, by rw [ht]; exact hP⟩, hS.F ht⟩) hS.2.2 hd hlk
theorem mr_zret {Q : Option Value → St → Prop} {x : Int32} (C : Cx p s m args c cc own nL D ad ac (adA ad)) (hr : meth.sig.returnType = some .boolean) (hlk : meth.locks = false) (hd : decode cc pc = .ok (.ireturn, 1)) (hn : narrow .boolean (.int x) = .int x) (h : Q (some (.int x)) S) : UW p l e R s m args below meth c cells slots (MQ below (QQ D ad ac Q) args s cells slots (adA ad)) D ad ac (adA ad) nL pc L [.int x] S := by
  intro H locs ls hP hS hL
  exact W.zret C.1 C.2.1 hr hn (fun t ht hW => ⟨⟨some (.int x), S, rfl, h, by rw [ht]; exact hP⟩, hS.F ht⟩) hS.2.2 hd hlk
theorem mr_vret {Q : Option Value → St → Prop} (C : Cx p s m args c cc own nL D ad ac (adA ad)) (hr : meth.sig.returnType = none) (hlk : meth.locks = false) (hd : decode cc pc = .ok (.return_, 1)) (h : Q none S) : UW p l e R s m args below meth c cells slots (MQ below (QQ D ad ac Q) args s cells slots (adA ad)) D ad ac (adA ad) nL pc L [] S := by
  intro H locs ls hP hS hL
  exact W.vret C.1 C.2.1 hr (fun t ht hW => ⟨⟨none, S, rfl, h, by rw [ht]; exact hP⟩, hS.F ht⟩) hS.2.2 hd hlk
/-! calls -/
def goodIn_y (y : MD) : Prop := Cond.code y.1 y.2.1 y.2.2.1 y.2.2.2.1 ∈ gW ∧ Cond.initialized y.1.cls ∈ gW ∧ y.1.cls ≠ "java/lang/invoke/MethodHandle" ∧ y.1.cls ≠ "java/lang/invoke/VarHandle" ∧ True
/-- what the tables say of a callee that is not static -/
def CLV (y : MD) : Prop := goodIn_y y ∧ Cond.instanceMethod y.1 ∈ gW ∧ Cond.selects y.1.cls y.1 y.1 ∈ gW
def CLS (y : MD) : Prop := goodIn_y y ∧ Cond.static y.1 ∈ gW
theorem PreW_blind {D : va_G} {ad : Nat → Nat} {ac : Nat → ClassId} {S : St} {av : List Value} : FrameBlind (va_Pc av (PreW D ad ac S)) := fun a U g mk q => ⟨q.1, q.2.1, va_K.moved (u := U) (U := U.calling g mk a) (Vm.Alike.refl U.vm) q.2.2.1, fun w hw => nw_same hw (rfl : U.vm = (U.calling g mk a).vm) (q.2.2.2.1 w hw), q.2.2.2.2⟩
theorem mr_run (C : Cx p s m args c cc own nL D ad ac A) {Q : Option Value → St → Prop} {a : Array Value} {st0 : List Value} {ls : Array Slot} {H : Heap} {locs : List Loc} (hr : va_Run p l e R s m args below meth c H locs cells slots 0 0 (F0 m pc ls st0) (st.map (cV ad)) (QQ D ad ac Q a) (adA ad)) (hS : va_S A s.heap H locs) (hL : LH ad ls nL L)
    (kk : ∀ (r : Option Value) (S' : St), Q r S' → UW p l e R s m args below meth c cells slots Z D ad ac A nL (pc + 3) L (r.toList ++ st) S') : W p l e R s m args below meth c H locs cells slots Z (F0 m pc ls st0) := by
  obtain ⟨hx, hb, hml, hown, hts, hnw, hK, hinj, hA⟩ := C
  have hAA : ∀ q, adA ad q → A q := fun q h => by
    obtain ⟨p, hp, rfl⟩ := h
    exact hA p hp
  intro T hT X
  obtain ⟨v, st₀, t, T', L9, h0, X', hL9, e1, e2, ⟨⟨r, S', hv, hq, hP'⟩, hz, hk⟩, st9⟩ := hr T hT X
  cases hv
  rw [h0] at hz hk
  obtain ⟨t2, a1, b1⟩ := kk r S' hq T'.heap (locs ++ L9) ls (by rw [e1]; exact hP') ⟨Nat.le_trans hS.1 (by rw [e1]; exact hz), fun q h1 h2 => by
      rw [e1, hk q (Nat.lt_of_lt_of_le h1 hS.1) (fun z => h2 (hAA q z))]
      exact hS.2.1 q h1 h2, fun q hq => by
      rcases List.mem_append.mp hq with h | h
      · exact hS.2.2 q h
      · exact hAA _ (hL9 q h)⟩ hL T' rfl X'
  refine ⟨t2, st9 t2 ?_, b1⟩
  have e3 : (r.toList ++ st).map (cV ad) = (r.map (cV ad)).toList ++ st.map (cV ad) := by
    rw [List.map_append]
    cases r <;> rfl
  rw [e3] at a1
  exact a1
theorem mr_callV (C : Cx p s m args c cc own nL D ad ac A) (y : MD) {index q : Nat} {fks : List (Nat ⊕ Bool)} {ci : Nat} {T : u_T} {N : Nat} {as : List Value} {stk : List Value} {Q : Option Value → St → Prop} (hd : decode cc pc = .ok (.invokevirtual index, 3)) (hy : CLV y) (hlink : Cond.methodLink own index y.1 ∈ gW) (hq : q < NC) (hl : lay q = .inl (ci, fks)) (hcl : vwCl[ci]? = some (y.1.cls, T, N)) (hn : (parseMethodDescriptor y.1.desc).map (fun d => d.parameters.length) = some as.length) (hst : stk = as.reverse ++ .ref q :: st) (hw : (st.map fun v => v.category).sum ≤ 8) (hfr : y.2.2.2.2 + 1 ≤ R.frames) (hlo : 8 + (y.2.2.1 + 11) + 38 * y.2.2.2.2 ≤ R.locals) (hfit : cells ≤ R.cells ∧ slots ≤ R.slots)
    (hc : CallV y (.ref q :: as) S Q) (kk : ∀ (r : Option Value) (S' : St), Q r S' → UW p l e R s m args below meth c cells slots Z D ad ac A nL (pc + 3) L (r.toList ++ st) S') : UW p l e R s m args below meth c cells slots Z D ad ac A nL pc L stk S := by
  intro H locs ls hP hS hL
  obtain ⟨⟨g1, g2, g3, g4, g5⟩, g6, g7⟩ := hy
  obtain ⟨hx, hb, hml, hown, hts, hnw, hK, hinj, hA⟩ := id C
  refine mr_run C (a := (Value.ref (ad q) :: as.map (cV ad)).toArray) (va_runV (As := as.map (cV ad)) (C := y.1.cls) (Ts := gW) (own := own) (nL := nL) ⟨hx, hb, hml, hown, hts⟩ (hc l D ad ac) ⟨callB_of as.length hts (fun w hw => ?_) rfl rfl rfl (hts _ g2) (hts _ hlink) ⟨g3, g4, hn⟩ ⟨hfr, hlo⟩, hts _ g6, hts _ g7⟩ ⟨PreW_blind, va_recv hK hP hcl (q0 := q) (a := ad q) (fs := fvs ad (S.1 q) (S.2 q) 0 fks) (by rw [wld_get ad ac S hq]; simp only [cel, hl, celE]), fun U hU hW => ⟨rfl, by rw [hU]; exact hP, va_K.moved hW.alike hK, fun w hw => nw_warm hw hW (hnw w hw), hinj⟩⟩ rfl (by simp) hL.1 (by rw [hst]; simp; rfl) ?_ hd hfit) hS hL kk
  · rcases List.mem_cons.mp hw with rfl | hw
    · exact ⟨g1, gW_good g1⟩
    · exact ⟨hw, gW_good hw⟩
  · have e1 : ((st.map (cV ad)).map fun v => v.category) = st.map fun v => v.category := by
      rw [List.map_map]
      exact List.map_congr_left (fun v _ => cV_cat ad v)
    rw [e1]
    show 2 * 0 + _ ≤ 8
    omega
theorem mr_callS (C : Cx p s m args c cc own nL D ad ac A) (y : MD) {index : Nat} {as : List Value} {stk : List Value} {Q : Option Value → St → Prop} (hd : decode cc pc = .ok (.invokestatic index, 3)) (hy : CLS y) (hlink : Cond.methodLink own index y.1 ∈ gW) (hn : (parseMethodDescriptor y.1.desc).map (fun d => d.parameters.length) = some as.length) (hst : stk = as.reverse ++ st) (hw : (st.map fun v => v.category).sum ≤ 8) (hfr : y.2.2.2.2 + 1 ≤ R.frames) (hlo : 8 + (y.2.2.1 + 11) + 38 * y.2.2.2.2 ≤ R.locals) (hfit : cells ≤ R.cells ∧ slots ≤ R.slots)
    (hc : CallV y as S Q) (kk : ∀ (r : Option Value) (S' : St), Q r S' → UW p l e R s m args below meth c cells slots Z D ad ac A nL (pc + 3) L (r.toList ++ st) S') : UW p l e R s m args below meth c cells slots Z D ad ac A nL pc L stk S := by
  intro H locs ls hP hS hL
  obtain ⟨⟨g1, g2, g3, g4, g5⟩, g6⟩ := hy
  obtain ⟨hx, hb, hml, hown, hts, hnw, hK, hinj, hA⟩ := id C
  refine mr_run C (a := (as.map (cV ad)).toArray) (va_runS (As := as.map (cV ad)) (Ts := gW) (own := own) (nL := nL) ⟨hx, hb, hml, hown, hts⟩ (hc l D ad ac) ⟨callB_of as.length hts (fun w hw => ?_) rfl rfl rfl (hts _ g2) (hts _ hlink) ⟨g3, g4, hn⟩ ⟨hfr, hlo⟩, hts _ g6⟩ ⟨PreW_blind, fun U hU hW => ⟨rfl, by rw [hU]; exact hP, va_K.moved hW.alike hK, fun w hw => nw_warm hw hW (hnw w hw), hinj⟩⟩ rfl (by simp) hL.1 (by rw [hst]; simp) ?_ hd hfit) hS hL kk
  · rcases List.mem_cons.mp hw with rfl | hw
    · exact ⟨g1, gW_good g1⟩
    · exact ⟨hw, gW_good hw⟩
  · have e1 : ((st.map (cV ad)).map fun v => v.category) = st.map fun v => v.category := by
      rw [List.map_map]
      exact List.map_congr_left (fun v _ => cV_cat ad v)
    rw [e1]
    show 2 * 0 + _ ≤ 8
    omega
end MR
/-- the locals at a method's entry: its arguments in their slots -/
def enL : List Value → List (Option Value)
  | [] => []
  | v :: vs => some v :: (if v.category = 2 then none :: enL vs else enL vs)
theorem enL_get (ad : Nat → Nat) : ∀ (vs : List Value) (i j : Nat) (v : Value), (enL vs)[j]? = some (some v) → (i + j, cV ad v) ∈ lv_args i (vs.map (cV ad))
  | [], i, j, v, h => by simp [enL] at h
  | a :: vs, i, 0, v, h => by
    simp [enL] at h
    subst h
    exact List.mem_cons_self
  | a :: vs, i, j + 1, v, h => by
    simp only [enL, List.getElem?_cons_succ] at h
    simp only [List.map_cons, lv_args, cV_cat]
    refine List.mem_cons_of_mem _ ?_
    by_cases hc : a.category = 2
    · rw [if_pos hc] at h ⊢
      cases j with
      | zero => simp at h
      | succ j =>
        simp only [List.getElem?_cons_succ] at h
        have := enL_get ad vs (i + 2) j v h
        rw [show i + 2 + j = i + (j + 1 + 1) by omega] at this
        exact this
    · rw [if_neg hc] at h ⊢
      have := enL_get ad vs (i + 1) j v h
      rw [show i + 1 + j = i + (j + 1) by omega] at this
      exact this
/-- a method from its entry -/
theorem CallV_of (y : MD) (hp : plainName y.1.cls = true) {as : List Value} {L : List (Option Value)} {S : St} {Q : Option Value → St → Prop} (hn : (as.map fun v => v.category).sum ≤ y.2.2.1) (hL : enL as = L) (h : V y 0 L [] S Q) : CallV y as S Q := by
  intro l D ad ac
  refine Met.ofW (cc := y.2.1) (maxL := y.2.2.1) (ret := y.2.2.2.1) hp rfl ?_
  intro p e s m args below meth c s₁ B hml hv
  obtain ⟨rfl, hP, hK, hnw, hinj⟩ := hv
  have hts := atoms_spec (ws := .code y.1 y.2.1 y.2.2.1 y.2.2.2.1 :: gW) B.pre
  have hlen : (lg_sl (as.map (cV ad))).length ≤ y.2.2.1 := by
    refine Nat.le_trans (Nat.le_of_eq ?_) hn
    clear hn hL h hts B hP
    induction as with
    | nil => rfl
    | cons a t ih =>
      have e1 : lg_sl ((a :: t).map (cV ad)) = (if (cV ad a).category = 2 then [Slot.val (cV ad a), Slot.second] else [Slot.val (cV ad a)]) ++ lg_sl (t.map (cV ad)) := rfl
      rw [e1, List.length_append, ih, cV_cat]
      rcases lv_cat a with h | h <;> simp [h]
  have hl := lv_entry (as.map (cV ad)) (n := y.2.2.1) hlen
  rw [lg_entry_eq]
  exact h p l e s m _ below meth c D ad ac ⟨B.exec, B.bytes, hml, findClass_of_methodNamed B.named, fun w hw => hts w (List.mem_cons_of_mem _ hw), hnw, hK, hinj, fun i hi => ⟨i, hi, rfl⟩⟩ B.returns B.notSynchronized s.heap [] _ hP va_S.rf ⟨hl.1, hl.2.1, fun i v hv => by
    rw [← hL] at hv
    have := enL_get ad as 0 i v hv
    rw [Nat.zero_add] at this
    exact hl.2.2 _ this⟩
end
section
theorem gw_list (ws : List Cond) (ps : List Nat) (hp : ws = ps.filterMap (fun i => tables_1[i]?)) (h : ws.all goodWord = true) : ∀ w ∈ ws, w ∈ gW := by
  intro w hw
  have h1 := List.all_eq_true.mp h w hw
  rw [hp] at hw
  obtain ⟨i, -, hi⟩ := List.mem_filterMap.mp hw
  exact gw_t i hi h1
theorem inwX0 : ∀ w ∈ u_ws RX0 TX0 5, w ∈ gW := gw_list _ [113, 115, 117, 119, 121] (by decide +kernel) (by decide +kernel)
theorem inwX1 : ∀ w ∈ u_ws RX1 TX1 7, w ∈ gW := gw_list _ [86, 88, 90, 92, 94, 96, 98] (by decide +kernel) (by decide +kernel)
theorem inwX2 : ∀ w ∈ u_ws RX2 TX2 5, w ∈ gW := gw_list _ [37, 39, 41, 43, 45] (by decide +kernel) (by decide +kernel)
theorem inwX3 : ∀ w ∈ u_ws RX3 TX3 4, w ∈ gW := gw_list _ [138, 140, 142, 144] (by decide +kernel) (by decide +kernel)
theorem inwX4 : ∀ w ∈ u_ws RX4 TX4 3, w ∈ gW := gw_list _ [64, 66, 68] (by decide +kernel) (by decide +kernel)
theorem inwX5 : ∀ w ∈ u_ws RX5 TX5 7, w ∈ gW := gw_list _ [154, 156, 158, 160, 162, 164, 166] (by decide +kernel) (by decide +kernel)
theorem inwX6 : ∀ w ∈ u_ws RX6 TX6 27, w ∈ gW := gw_list _ [601, 603, 605, 607, 609, 611, 613, 615, 617, 619, 621, 623, 625, 627, 629, 631, 633, 635, 637, 639, 641, 643, 645, 647, 649, 651, 653] (by decide +kernel) (by decide +kernel)
theorem fl_X2_9 : FL RX2 9 2 0 true (.array .int) := ⟨RX2, TX2, 5, tyX2, rfl, by decide, rfl, inwX2, tyX2_ok, nmX2, Or.inl (gw_t 24 (by decide +kernel) rfl), rfl, rfl⟩
theorem fl_X2_15 : FL RX2 15 2 1 true (.array .int) := ⟨RX2, TX2, 5, tyX2, rfl, by decide, rfl, inwX2, tyX2_ok, nmX2, Or.inl (gw_t 27 (by decide +kernel) rfl), rfl, rfl⟩
theorem fl_X2_18 : FL RX2 18 2 2 false .int := ⟨RX2, TX2, 5, tyX2, rfl, by decide, rfl, inwX2, tyX2_ok, nmX2, Or.inl (gw_t 30 (by decide +kernel) rfl), rfl, rfl⟩
theorem fl_X2_22 : FL RX2 22 2 3 false .int := ⟨RX2, TX2, 5, tyX2, rfl, by decide, rfl, inwX2, tyX2_ok, nmX2, Or.inl (gw_t 32 (by decide +kernel) rfl), rfl, rfl⟩
theorem fl_X2_25 : FL RX2 25 2 4 false .boolean := ⟨RX2, TX2, 5, tyX2, rfl, by decide, rfl, inwX2, tyX2_ok, nmX2, Or.inl (gw_t 35 (by decide +kernel) rfl), rfl, rfl⟩
theorem fl_X4_9 : FL RX4 9 4 0 true (.array .int) := ⟨RX4, TX4, 3, tyX4, rfl, by decide, rfl, inwX4, tyX4_ok, nmX4, Or.inl (gw_t 55 (by decide +kernel) rfl), rfl, rfl⟩
theorem fl_X4_15 : FL RX4 15 4 1 true (.array .int) := ⟨RX4, TX4, 3, tyX4, rfl, by decide, rfl, inwX4, tyX4_ok, nmX4, Or.inl (gw_t 58 (by decide +kernel) rfl), rfl, rfl⟩
theorem fl_X4_18 : FL RX4 18 4 2 false .int := ⟨RX4, TX4, 3, tyX4, rfl, by decide, rfl, inwX4, tyX4_ok, nmX4, Or.inl (gw_t 61 (by decide +kernel) rfl), rfl, rfl⟩
theorem fl_X1_29 : FL RX1 29 1 0 true (.object "MarbleVotes$Hill") := ⟨RX1, TX1, 7, tyX1, rfl, by decide, rfl, inwX1, tyX1_ok, nmX1, Or.inl (gw_t 79 (by decide +kernel) rfl), rfl, rfl⟩
theorem fl_X1_33 : FL RX1 33 1 1 true (.object "MarbleVotes$Votes") := ⟨RX1, TX1, 7, tyX1, rfl, by decide, rfl, inwX1, tyX1_ok, nmX1, Or.inl (gw_t 80 (by decide +kernel) rfl), rfl, rfl⟩
theorem fl_X1_11 : FL RX1 11 1 2 true (.array (.array .int)) := ⟨RX1, TX1, 7, tyX1, rfl, by decide, rfl, inwX1, tyX1_ok, nmX1, Or.inl (gw_t 81 (by decide +kernel) rfl), rfl, rfl⟩
theorem fl_X1_16 : FL RX1 16 1 3 true (.array (.array .int)) := ⟨RX1, TX1, 7, tyX1, rfl, by decide, rfl, inwX1, tyX1_ok, nmX1, Or.inl (gw_t 82 (by decide +kernel) rfl), rfl, rfl⟩
theorem fl_X1_19 : FL RX1 19 1 4 true (.array .int) := ⟨RX1, TX1, 7, tyX1, rfl, by decide, rfl, inwX1, tyX1_ok, nmX1, Or.inl (gw_t 83 (by decide +kernel) rfl), rfl, rfl⟩
theorem fl_X1_23 : FL RX1 23 1 5 true (.array .int) := ⟨RX1, TX1, 7, tyX1, rfl, by decide, rfl, inwX1, tyX1_ok, nmX1, Or.inl (gw_t 84 (by decide +kernel) rfl), rfl, rfl⟩
theorem fl_X1_26 : FL RX1 26 1 6 true (.array .int) := ⟨RX1, TX1, 7, tyX1, rfl, by decide, rfl, inwX1, tyX1_ok, nmX1, Or.inl (gw_t 85 (by decide +kernel) rfl), rfl, rfl⟩
theorem fl_X0_9 : FL RX0 9 0 0 true (.array .int) := ⟨RX0, TX0, 5, tyX0, rfl, by decide, rfl, inwX0, tyX0_ok, nmX0, Or.inl (gw_t 107 (by decide +kernel) rfl), rfl, rfl⟩
theorem fl_X0_15 : FL RX0 15 0 1 true (.array .int) := ⟨RX0, TX0, 5, tyX0, rfl, by decide, rfl, inwX0, tyX0_ok, nmX0, Or.inl (gw_t 108 (by decide +kernel) rfl), rfl, rfl⟩
theorem fl_X0_18 : FL RX0 18 0 2 true (.array .int) := ⟨RX0, TX0, 5, tyX0, rfl, by decide, rfl, inwX0, tyX0_ok, nmX0, Or.inl (gw_t 110 (by decide +kernel) rfl), rfl, rfl⟩
theorem fl_X0_21 : FL RX0 21 0 3 true (.array .int) := ⟨RX0, TX0, 5, tyX0, rfl, by decide, rfl, inwX0, tyX0_ok, nmX0, Or.inl (gw_t 111 (by decide +kernel) rfl), rfl, rfl⟩
theorem fl_X0_24 : FL RX0 24 0 4 true (.array .int) := ⟨RX0, TX0, 5, tyX0, rfl, by decide, rfl, inwX0, tyX0_ok, nmX0, Or.inl (gw_t 112 (by decide +kernel) rfl), rfl, rfl⟩
theorem fl_X3_9 : FL RX3 9 3 0 true (.array .int) := ⟨RX3, TX3, 4, tyX3, rfl, by decide, rfl, inwX3, tyX3_ok, nmX3, Or.inl (gw_t 131 (by decide +kernel) rfl), rfl, rfl⟩
theorem fl_X3_15 : FL RX3 15 3 1 false .boolean := ⟨RX3, TX3, 4, tyX3, rfl, by decide, rfl, inwX3, tyX3_ok, nmX3, Or.inl (gw_t 133 (by decide +kernel) rfl), rfl, rfl⟩
theorem fl_X3_19 : FL RX3 19 3 2 false .int := ⟨RX3, TX3, 4, tyX3, rfl, by decide, rfl, inwX3, tyX3_ok, nmX3, Or.inl (gw_t 135 (by decide +kernel) rfl), rfl, rfl⟩
theorem fl_X3_23 : FL RX3 23 3 3 false .int := ⟨RX3, TX3, 4, tyX3, rfl, by decide, rfl, inwX3, tyX3_ok, nmX3, Or.inl (gw_t 137 (by decide +kernel) rfl), rfl, rfl⟩
theorem fl_X5_14 : FL RX5 14 5 0 true (.object "MarbleVotes$Hill") := ⟨RX5, TX5, 7, tyX5, rfl, by decide, rfl, inwX5, tyX5_ok, nmX5, Or.inl (gw_t 147 (by decide +kernel) rfl), rfl, rfl⟩
theorem fl_X5_21 : FL RX5 21 5 1 true (.object "MarbleVotes$Votes") := ⟨RX5, TX5, 7, tyX5, rfl, by decide, rfl, inwX5, tyX5_ok, nmX5, Or.inl (gw_t 148 (by decide +kernel) rfl), rfl, rfl⟩
theorem fl_X5_30 : FL RX5 30 5 2 true (.object "MarbleVotes$Flow") := ⟨RX5, TX5, 7, tyX5, rfl, by decide, rfl, inwX5, tyX5_ok, nmX5, Or.inl (gw_t 149 (by decide +kernel) rfl), rfl, rfl⟩
theorem fl_X5_37 : FL RX5 37 5 3 true (.object "MarbleVotes$Count") := ⟨RX5, TX5, 7, tyX5, rfl, by decide, rfl, inwX5, tyX5_ok, nmX5, Or.inl (gw_t 150 (by decide +kernel) rfl), rfl, rfl⟩
theorem fl_X5_43 : FL RX5 43 5 4 true (.array (.object "MarbleVotes$Sheet")) := ⟨RX5, TX5, 7, tyX5, rfl, by decide, rfl, inwX5, tyX5_ok, nmX5, Or.inl (gw_t 151 (by decide +kernel) rfl), rfl, rfl⟩
theorem fl_X5_48 : FL RX5 48 5 5 false .int := ⟨RX5, TX5, 7, tyX5, rfl, by decide, rfl, inwX5, tyX5_ok, nmX5, Or.inl (gw_t 152 (by decide +kernel) rfl), rfl, rfl⟩
theorem fl_X5_52 : FL RX5 52 5 6 false .int := ⟨RX5, TX5, 7, tyX5, rfl, by decide, rfl, inwX5, tyX5_ok, nmX5, Or.inl (gw_t 153 (by decide +kernel) rfl), rfl, rfl⟩
theorem fl_X6_61 : FL RX6 61 6 0 false .int := ⟨RX6, TX6, 27, tyX6, rfl, by decide, rfl, inwX6, tyX6_ok, nmX6, Or.inl (gw_t 574 (by decide +kernel) rfl), rfl, rfl⟩
theorem fl_X6_69 : FL RX6 69 6 1 false .int := ⟨RX6, TX6, 27, tyX6, rfl, by decide, rfl, inwX6, tyX6_ok, nmX6, Or.inl (gw_t 575 (by decide +kernel) rfl), rfl, rfl⟩
theorem fl_X6_72 : FL RX6 72 6 2 false .int := ⟨RX6, TX6, 27, tyX6, rfl, by decide, rfl, inwX6, tyX6_ok, nmX6, Or.inl (gw_t 576 (by decide +kernel) rfl), rfl, rfl⟩
theorem fl_X6_7 : FL RX6 7 6 3 true (.array .int) := ⟨RX6, TX6, 27, tyX6, rfl, by decide, rfl, inwX6, tyX6_ok, nmX6, Or.inl (gw_t 577 (by decide +kernel) rfl), rfl, rfl⟩
theorem fl_X6_13 : FL RX6 13 6 4 true (.array .int) := ⟨RX6, TX6, 27, tyX6, rfl, by decide, rfl, inwX6, tyX6_ok, nmX6, Or.inl (gw_t 578 (by decide +kernel) rfl), rfl, rfl⟩
theorem fl_X6_134 : FL RX6 134 6 5 false .boolean := ⟨RX6, TX6, 27, tyX6, rfl, by decide, rfl, inwX6, tyX6_ok, nmX6, Or.inl (gw_t 579 (by decide +kernel) rfl), rfl, rfl⟩
theorem fl_X6_85 : FL RX6 85 6 6 false .int := ⟨RX6, TX6, 27, tyX6, rfl, by decide, rfl, inwX6, tyX6_ok, nmX6, Or.inl (gw_t 580 (by decide +kernel) rfl), rfl, rfl⟩
theorem fl_X6_100 : FL RX6 100 6 7 false .int := ⟨RX6, TX6, 27, tyX6, rfl, by decide, rfl, inwX6, tyX6_ok, nmX6, Or.inl (gw_t 581 (by decide +kernel) rfl), rfl, rfl⟩
theorem fl_X6_103 : FL RX6 103 6 8 false .int := ⟨RX6, TX6, 27, tyX6, rfl, by decide, rfl, inwX6, tyX6_ok, nmX6, Or.inl (gw_t 582 (by decide +kernel) rfl), rfl, rfl⟩
theorem fl_X6_16 : FL RX6 16 6 9 true (.array .int) := ⟨RX6, TX6, 27, tyX6, rfl, by decide, rfl, inwX6, tyX6_ok, nmX6, Or.inl (gw_t 583 (by decide +kernel) rfl), rfl, rfl⟩
theorem fl_X6_19 : FL RX6 19 6 10 true (.array .int) := ⟨RX6, TX6, 27, tyX6, rfl, by decide, rfl, inwX6, tyX6_ok, nmX6, Or.inl (gw_t 584 (by decide +kernel) rfl), rfl, rfl⟩
theorem fl_X6_138 : FL RX6 138 6 11 false .int := ⟨RX6, TX6, 27, tyX6, rfl, by decide, rfl, inwX6, tyX6_ok, nmX6, Or.inl (gw_t 585 (by decide +kernel) rfl), rfl, rfl⟩
theorem fl_X6_22 : FL RX6 22 6 12 true (.array .int) := ⟨RX6, TX6, 27, tyX6, rfl, by decide, rfl, inwX6, tyX6_ok, nmX6, Or.inl (gw_t 586 (by decide +kernel) rfl), rfl, rfl⟩
theorem fl_X6_25 : FL RX6 25 6 13 true (.array .int) := ⟨RX6, TX6, 27, tyX6, rfl, by decide, rfl, inwX6, tyX6_ok, nmX6, Or.inl (gw_t 587 (by decide +kernel) rfl), rfl, rfl⟩
theorem fl_X6_28 : FL RX6 28 6 14 true (.array .long) := ⟨RX6, TX6, 27, tyX6, rfl, by decide, rfl, inwX6, tyX6_ok, nmX6, Or.inl (gw_t 588 (by decide +kernel) rfl), rfl, rfl⟩
theorem fl_X6_32 : FL RX6 32 6 15 true (.array .long) := ⟨RX6, TX6, 27, tyX6, rfl, by decide, rfl, inwX6, tyX6_ok, nmX6, Or.inl (gw_t 589 (by decide +kernel) rfl), rfl, rfl⟩
theorem fl_X6_35 : FL RX6 35 6 16 true (.array .long) := ⟨RX6, TX6, 27, tyX6, rfl, by decide, rfl, inwX6, tyX6_ok, nmX6, Or.inl (gw_t 590 (by decide +kernel) rfl), rfl, rfl⟩
theorem fl_X6_170 : FL RX6 170 6 17 false .long := ⟨RX6, TX6, 27, tyX6, rfl, by decide, rfl, inwX6, tyX6_ok, nmX6, Or.inl (gw_t 591 (by decide +kernel) rfl), rfl, rfl⟩
theorem fl_X6_174 : FL RX6 174 6 18 false .long := ⟨RX6, TX6, 27, tyX6, rfl, by decide, rfl, inwX6, tyX6_ok, nmX6, Or.inl (gw_t 592 (by decide +kernel) rfl), rfl, rfl⟩
theorem fl_X6_38 : FL RX6 38 6 19 true (.array .int) := ⟨RX6, TX6, 27, tyX6, rfl, by decide, rfl, inwX6, tyX6_ok, nmX6, Or.inl (gw_t 593 (by decide +kernel) rfl), rfl, rfl⟩
theorem fl_X6_41 : FL RX6 41 6 20 true (.array .int) := ⟨RX6, TX6, 27, tyX6, rfl, by decide, rfl, inwX6, tyX6_ok, nmX6, Or.inl (gw_t 594 (by decide +kernel) rfl), rfl, rfl⟩
theorem fl_X6_44 : FL RX6 44 6 21 true (.array .int) := ⟨RX6, TX6, 27, tyX6, rfl, by decide, rfl, inwX6, tyX6_ok, nmX6, Or.inl (gw_t 595 (by decide +kernel) rfl), rfl, rfl⟩
theorem fl_X6_47 : FL RX6 47 6 22 true (.array .int) := ⟨RX6, TX6, 27, tyX6, rfl, by decide, rfl, inwX6, tyX6_ok, nmX6, Or.inl (gw_t 596 (by decide +kernel) rfl), rfl, rfl⟩
theorem fl_X6_50 : FL RX6 50 6 23 true (.array .int) := ⟨RX6, TX6, 27, tyX6, rfl, by decide, rfl, inwX6, tyX6_ok, nmX6, Or.inl (gw_t 597 (by decide +kernel) rfl), rfl, rfl⟩
theorem fl_X6_53 : FL RX6 53 6 24 true (.array .int) := ⟨RX6, TX6, 27, tyX6, rfl, by decide, rfl, inwX6, tyX6_ok, nmX6, Or.inl (gw_t 598 (by decide +kernel) rfl), rfl, rfl⟩
theorem fl_X6_56 : FL RX6 56 6 25 true (.array .int) := ⟨RX6, TX6, 27, tyX6, rfl, by decide, rfl, inwX6, tyX6_ok, nmX6, Or.inl (gw_t 599 (by decide +kernel) rfl), rfl, rfl⟩
theorem fl_X6_239 : FL RX6 239 6 26 false .int := ⟨RX6, TX6, 27, tyX6, rfl, by decide, rfl, inwX6, tyX6_ok, nmX6, Or.inl (gw_t 600 (by decide +kernel) rfl), rfl, rfl⟩
theorem fl_X5_90 : FL RX5 90 2 0 true (.array .int) := ⟨RX2, TX2, 5, tyX2, rfl, by decide, rfl, inwX2, tyX2_ok, nmX2, Or.inr ⟨"MarbleVotes", nw_t 25 (by decide +kernel) rfl⟩, rfl, rfl⟩
theorem fl_X1_66 : FL RX1 66 2 0 true (.array .int) := ⟨RX2, TX2, 5, tyX2, rfl, by decide, rfl, inwX2, tyX2_ok, nmX2, Or.inr ⟨"MarbleVotes", nw_t 26 (by decide +kernel) rfl⟩, rfl, rfl⟩
theorem fl_X5_97 : FL RX5 97 2 1 true (.array .int) := ⟨RX2, TX2, 5, tyX2, rfl, by decide, rfl, inwX2, tyX2_ok, nmX2, Or.inr ⟨"MarbleVotes", nw_t 28 (by decide +kernel) rfl⟩, rfl, rfl⟩
theorem fl_X1_93 : FL RX1 93 2 1 true (.array .int) := ⟨RX2, TX2, 5, tyX2, rfl, by decide, rfl, inwX2, tyX2_ok, nmX2, Or.inr ⟨"MarbleVotes", nw_t 29 (by decide +kernel) rfl⟩, rfl, rfl⟩
theorem fl_X5_134 : FL RX5 134 2 2 false .int := ⟨RX2, TX2, 5, tyX2, rfl, by decide, rfl, inwX2, tyX2_ok, nmX2, Or.inr ⟨"MarbleVotes", nw_t 31 (by decide +kernel) rfl⟩, rfl, rfl⟩
theorem fl_X1_83 : FL RX1 83 2 3 false .int := ⟨RX2, TX2, 5, tyX2, rfl, by decide, rfl, inwX2, tyX2_ok, nmX2, Or.inr ⟨"MarbleVotes", nw_t 33 (by decide +kernel) rfl⟩, rfl, rfl⟩
theorem fl_X5_189 : FL RX5 189 2 3 false .int := ⟨RX2, TX2, 5, tyX2, rfl, by decide, rfl, inwX2, tyX2_ok, nmX2, Or.inr ⟨"MarbleVotes", nw_t 34 (by decide +kernel) rfl⟩, rfl, rfl⟩
theorem fl_X5_104 : FL RX5 104 2 4 false .boolean := ⟨RX2, TX2, 5, tyX2, rfl, by decide, rfl, inwX2, tyX2_ok, nmX2, Or.inr ⟨"MarbleVotes", nw_t 36 (by decide +kernel) rfl⟩, rfl, rfl⟩
theorem fl_X1_54 : FL RX1 54 4 0 true (.array .int) := ⟨RX4, TX4, 3, tyX4, rfl, by decide, rfl, inwX4, tyX4_ok, nmX4, Or.inr ⟨"MarbleVotes", nw_t 56 (by decide +kernel) rfl⟩, rfl, rfl⟩
theorem fl_X5_118 : FL RX5 118 4 0 true (.array .int) := ⟨RX4, TX4, 3, tyX4, rfl, by decide, rfl, inwX4, tyX4_ok, nmX4, Or.inr ⟨"MarbleVotes", nw_t 57 (by decide +kernel) rfl⟩, rfl, rfl⟩
theorem fl_X1_57 : FL RX1 57 4 1 true (.array .int) := ⟨RX4, TX4, 3, tyX4, rfl, by decide, rfl, inwX4, tyX4_ok, nmX4, Or.inr ⟨"MarbleVotes", nw_t 59 (by decide +kernel) rfl⟩, rfl, rfl⟩
theorem fl_X5_121 : FL RX5 121 4 1 true (.array .int) := ⟨RX4, TX4, 3, tyX4, rfl, by decide, rfl, inwX4, tyX4_ok, nmX4, Or.inr ⟨"MarbleVotes", nw_t 60 (by decide +kernel) rfl⟩, rfl, rfl⟩
theorem fl_X5_81 : FL RX5 81 4 2 false .int := ⟨RX4, TX4, 3, tyX4, rfl, by decide, rfl, inwX4, tyX4_ok, nmX4, Or.inr ⟨"MarbleVotes", nw_t 62 (by decide +kernel) rfl⟩, rfl, rfl⟩
theorem fl_X1_48 : FL RX1 48 4 2 false .int := ⟨RX4, TX4, 3, tyX4, rfl, by decide, rfl, inwX4, tyX4_ok, nmX4, Or.inr ⟨"MarbleVotes", nw_t 63 (by decide +kernel) rfl⟩, rfl, rfl⟩
theorem fl_X5_196 : FL RX5 196 0 1 true (.array .int) := ⟨RX0, TX0, 5, tyX0, rfl, by decide, rfl, inwX0, tyX0_ok, nmX0, Or.inr ⟨"MarbleVotes", nw_t 109 (by decide +kernel) rfl⟩, rfl, rfl⟩
theorem fl_X5_223 : FL RX5 223 3 0 true (.array .int) := ⟨RX3, TX3, 4, tyX3, rfl, by decide, rfl, inwX3, tyX3_ok, nmX3, Or.inr ⟨"MarbleVotes", nw_t 132 (by decide +kernel) rfl⟩, rfl, rfl⟩
theorem fl_X5_214 : FL RX5 214 3 1 false .boolean := ⟨RX3, TX3, 4, tyX3, rfl, by decide, rfl, inwX3, tyX3_ok, nmX3, Or.inr ⟨"MarbleVotes", nw_t 134 (by decide +kernel) rfl⟩, rfl, rfl⟩
theorem fl_X5_220 : FL RX5 220 3 2 false .int := ⟨RX3, TX3, 4, tyX3, rfl, by decide, rfl, inwX3, tyX3_ok, nmX3, Or.inr ⟨"MarbleVotes", nw_t 136 (by decide +kernel) rfl⟩, rfl, rfl⟩
abbrev mdX0_take : MD := (yX0_take, cX0_take, 8, (some .boolean), 3)
theorem clX0_take : CLV mdX0_take := ⟨⟨(gw_t 448 (by decide +kernel) rfl), (gw_t 5 (by decide +kernel) rfl), by decide +kernel, by decide +kernel, trivial⟩, (gw_t 446 (by decide +kernel) rfl), (gw_t 447 (by decide +kernel) rfl)⟩
abbrev mdX0_rows : MD := (yX0_rows, cX0_rows, 3, (some .int), 2)
theorem clX0_rows : CLV mdX0_rows := ⟨⟨(gw_t 458 (by decide +kernel) rfl), (gw_t 5 (by decide +kernel) rfl), by decide +kernel, by decide +kernel, trivial⟩, (gw_t 456 (by decide +kernel) rfl), (gw_t 457 (by decide +kernel) rfl)⟩
abbrev mdX0_layOut : MD := (yX0_layOut, cX0_layOut, 3, (some .int), 1)
theorem clX0_layOut : CLV mdX0_layOut := ⟨⟨(gw_t 462 (by decide +kernel) rfl), (gw_t 5 (by decide +kernel) rfl), by decide +kernel, by decide +kernel, trivial⟩, (gw_t 461 (by decide +kernel) rfl), (gw_s 11 (by decide +kernel) rfl)⟩
abbrev mdX0_placeNextVote : MD := (yX0_placeNextVote, cX0_placeNextVote, 4, none, 1)
theorem clX0_placeNextVote : CLV mdX0_placeNextVote := ⟨⟨(gw_t 466 (by decide +kernel) rfl), (gw_t 5 (by decide +kernel) rfl), by decide +kernel, by decide +kernel, trivial⟩, (gw_t 465 (by decide +kernel) rfl), (gw_s 12 (by decide +kernel) rfl)⟩
abbrev mdX0_nextUsed : MD := (yX0_nextUsed, cX0_nextUsed, 2, none, 1)
theorem clX0_nextUsed : CLV mdX0_nextUsed := ⟨⟨(gw_t 470 (by decide +kernel) rfl), (gw_t 5 (by decide +kernel) rfl), by decide +kernel, by decide +kernel, trivial⟩, (gw_t 469 (by decide +kernel) rfl), (gw_s 13 (by decide +kernel) rfl)⟩
abbrev mdX0_endsOfRows : MD := (yX0_endsOfRows, cX0_endsOfRows, 5, (some .int), 3)
theorem clX0_endsOfRows : CLV mdX0_endsOfRows := ⟨⟨(gw_t 474 (by decide +kernel) rfl), (gw_t 5 (by decide +kernel) rfl), by decide +kernel, by decide +kernel, trivial⟩, (gw_t 472 (by decide +kernel) rfl), (gw_t 473 (by decide +kernel) rfl)⟩
abbrev mdX1_drop : MD := (yX1_drop, cX1_drop, 3, none, 3)
theorem clX1_drop : CLV mdX1_drop := ⟨⟨(gw_t 312 (by decide +kernel) rfl), (gw_t 4 (by decide +kernel) rfl), by decide +kernel, by decide +kernel, trivial⟩, (gw_t 310 (by decide +kernel) rfl), (gw_t 311 (by decide +kernel) rfl)⟩
abbrev mdX1_dropAll : MD := (yX1_dropAll, cX1_dropAll, 3, none, 3)
theorem clX1_dropAll : CLV mdX1_dropAll := ⟨⟨(gw_t 381 (by decide +kernel) rfl), (gw_t 4 (by decide +kernel) rfl), by decide +kernel, by decide +kernel, trivial⟩, (gw_t 380 (by decide +kernel) rfl), (gw_s 6 (by decide +kernel) rfl)⟩
abbrev mdX1_runDown : MD := (yX1_runDown, cX1_runDown, 8, none, 2)
theorem clX1_runDown : CLV mdX1_runDown := ⟨⟨(gw_t 320 (by decide +kernel) rfl), (gw_t 4 (by decide +kernel) rfl), by decide +kernel, by decide +kernel, trivial⟩, (gw_t 319 (by decide +kernel) rfl), (gw_s 2 (by decide +kernel) rfl)⟩
abbrev mdX1_arrived : MD := (yX1_arrived, cX1_arrived, 3, (some .int), 2)
theorem clX1_arrived : CLV mdX1_arrived := ⟨⟨(gw_t 333 (by decide +kernel) rfl), (gw_t 4 (by decide +kernel) rfl), by decide +kernel, by decide +kernel, trivial⟩, (gw_t 331 (by decide +kernel) rfl), (gw_t 332 (by decide +kernel) rfl)⟩
abbrev mdX1_stuck : MD := (yX1_stuck, cX1_stuck, 4, (some .int), 3)
theorem clX1_stuck : CLV mdX1_stuck := ⟨⟨(gw_t 329 (by decide +kernel) rfl), (gw_t 4 (by decide +kernel) rfl), by decide +kernel, by decide +kernel, trivial⟩, (gw_t 327 (by decide +kernel) rfl), (gw_t 328 (by decide +kernel) rfl)⟩
abbrev mdX1_appraiseAll : MD := (yX1_appraiseAll, cX1_appraiseAll, 3, none, 4)
theorem clX1_appraiseAll : CLV mdX1_appraiseAll := ⟨⟨(gw_t 353 (by decide +kernel) rfl), (gw_t 4 (by decide +kernel) rfl), by decide +kernel, by decide +kernel, trivial⟩, (gw_t 352 (by decide +kernel) rfl), (gw_s 3 (by decide +kernel) rfl)⟩
abbrev mdX1_appraise : MD := (yX1_appraise, cX1_appraise, 5, none, 3)
theorem clX1_appraise : CLV mdX1_appraise := ⟨⟨(gw_t 357 (by decide +kernel) rfl), (gw_t 4 (by decide +kernel) rfl), by decide +kernel, by decide +kernel, trivial⟩, (gw_t 356 (by decide +kernel) rfl), (gw_s 4 (by decide +kernel) rfl)⟩
abbrev mdX1_worthUnder : MD := (yX1_worthUnder, cX1_worthUnder, 8, (some .int), 2)
theorem clX1_worthUnder : CLV mdX1_worthUnder := ⟨⟨(gw_t 361 (by decide +kernel) rfl), (gw_t 4 (by decide +kernel) rfl), by decide +kernel, by decide +kernel, trivial⟩, (gw_t 360 (by decide +kernel) rfl), (gw_s 5 (by decide +kernel) rfl)⟩
abbrev mdX1_expected : MD := (yX1_expected, cX1_expected, 4, (some .int), 5)
theorem clX1_expected : CLV mdX1_expected := ⟨⟨(gw_t 349 (by decide +kernel) rfl), (gw_t 4 (by decide +kernel) rfl), by decide +kernel, by decide +kernel, trivial⟩, (gw_t 347 (by decide +kernel) rfl), (gw_t 348 (by decide +kernel) rfl)⟩
abbrev mdX1_bestStart : MD := (yX1_bestStart, cX1_bestStart, 5, (some .int), 4)
theorem clX1_bestStart : CLV mdX1_bestStart := ⟨⟨(gw_t 369 (by decide +kernel) rfl), (gw_t 4 (by decide +kernel) rfl), by decide +kernel, by decide +kernel, trivial⟩, (gw_t 367 (by decide +kernel) rfl), (gw_t 368 (by decide +kernel) rfl)⟩
abbrev mdX1_bestMove : MD := (yX1_bestMove, cX1_bestMove, 9, (some .int), 5)
theorem clX1_bestMove : CLV mdX1_bestMove := ⟨⟨(gw_t 377 (by decide +kernel) rfl), (gw_t 4 (by decide +kernel) rfl), by decide +kernel, by decide +kernel, trivial⟩, (gw_t 375 (by decide +kernel) rfl), (gw_t 376 (by decide +kernel) rfl)⟩
abbrev mdX1_gain : MD := (yX1_gain, cX1_gain, 8, (some .long), 3)
theorem clX1_gain : CLV mdX1_gain := ⟨⟨(gw_t 385 (by decide +kernel) rfl), (gw_t 4 (by decide +kernel) rfl), by decide +kernel, by decide +kernel, trivial⟩, (gw_t 384 (by decide +kernel) rfl), (gw_s 7 (by decide +kernel) rfl)⟩
abbrev mdX1_likeliestEnd : MD := (yX1_likeliestEnd, cX1_likeliestEnd, 5, (some .int), 4)
theorem clX1_likeliestEnd : CLV mdX1_likeliestEnd := ⟨⟨(gw_t 397 (by decide +kernel) rfl), (gw_t 4 (by decide +kernel) rfl), by decide +kernel, by decide +kernel, trivial⟩, (gw_t 395 (by decide +kernel) rfl), (gw_t 396 (by decide +kernel) rfl)⟩
abbrev mdX1_tallyOf : MD := (yX1_tallyOf, cX1_tallyOf, 2, (some .int), 6)
theorem clX1_tallyOf : CLV mdX1_tallyOf := ⟨⟨(gw_t 407 (by decide +kernel) rfl), (gw_t 4 (by decide +kernel) rfl), by decide +kernel, by decide +kernel, trivial⟩, (gw_t 405 (by decide +kernel) rfl), (gw_t 406 (by decide +kernel) rfl)⟩
abbrev mdX1_winnerOfAll : MD := (yX1_winnerOfAll, cX1_winnerOfAll, 1, (some .int), 6)
theorem clX1_winnerOfAll : CLV mdX1_winnerOfAll := ⟨⟨(gw_t 424 (by decide +kernel) rfl), (gw_t 4 (by decide +kernel) rfl), by decide +kernel, by decide +kernel, trivial⟩, (gw_t 422 (by decide +kernel) rfl), (gw_t 423 (by decide +kernel) rfl)⟩
abbrev mdX1_votesItHangsOn : MD := (yX1_votesItHangsOn, cX1_votesItHangsOn, 4, (some .int), 6)
theorem clX1_votesItHangsOn : CLV mdX1_votesItHangsOn := ⟨⟨(gw_t 432 (by decide +kernel) rfl), (gw_t 4 (by decide +kernel) rfl), by decide +kernel, by decide +kernel, trivial⟩, (gw_t 430 (by decide +kernel) rfl), (gw_t 431 (by decide +kernel) rfl)⟩
abbrev mdX1_findLeanings : MD := (yX1_findLeanings, cX1_findLeanings, 3, none, 5)
theorem clX1_findLeanings : CLV mdX1_findLeanings := ⟨⟨(gw_t 411 (by decide +kernel) rfl), (gw_t 4 (by decide +kernel) rfl), by decide +kernel, by decide +kernel, trivial⟩, (gw_t 410 (by decide +kernel) rfl), (gw_s 8 (by decide +kernel) rfl)⟩
abbrev mdX1_winnerWithout : MD := (yX1_winnerWithout, cX1_winnerWithout, 4, (some .int), 3)
theorem clX1_winnerWithout : CLV mdX1_winnerWithout := ⟨⟨(gw_t 428 (by decide +kernel) rfl), (gw_t 4 (by decide +kernel) rfl), by decide +kernel, by decide +kernel, trivial⟩, (gw_t 427 (by decide +kernel) rfl), (gw_s 10 (by decide +kernel) rfl)⟩
abbrev mdX1_tallyWithout : MD := (yX1_tallyWithout, cX1_tallyWithout, 3, none, 2)
theorem clX1_tallyWithout : CLV mdX1_tallyWithout := ⟨⟨(gw_t 416 (by decide +kernel) rfl), (gw_t 4 (by decide +kernel) rfl), by decide +kernel, by decide +kernel, trivial⟩, (gw_t 415 (by decide +kernel) rfl), (gw_s 9 (by decide +kernel) rfl)⟩
abbrev mdX1_damsReached : MD := (yX1_damsReached, cX1_damsReached, 6, (some .long), 4)
theorem clX1_damsReached : CLV mdX1_damsReached := ⟨⟨(gw_t 440 (by decide +kernel) rfl), (gw_t 4 (by decide +kernel) rfl), by decide +kernel, by decide +kernel, trivial⟩, (gw_t 438 (by decide +kernel) rfl), (gw_t 439 (by decide +kernel) rfl)⟩
abbrev mdX1_endsOf : MD := (yX1_endsOf, cX1_endsOf, 5, (some .int), 4)
theorem clX1_endsOf : CLV mdX1_endsOf := ⟨⟨(gw_t 454 (by decide +kernel) rfl), (gw_t 4 (by decide +kernel) rfl), by decide +kernel, by decide +kernel, trivial⟩, (gw_t 452 (by decide +kernel) rfl), (gw_t 453 (by decide +kernel) rfl)⟩
abbrev mdX1_fairColumns : MD := (yX1_fairColumns, cX1_fairColumns, 3, (some .int), 5)
theorem clX1_fairColumns : CLV mdX1_fairColumns := ⟨⟨(gw_t 483 (by decide +kernel) rfl), (gw_t 4 (by decide +kernel) rfl), by decide +kernel, by decide +kernel, trivial⟩, (gw_t 481 (by decide +kernel) rfl), (gw_t 482 (by decide +kernel) rfl)⟩
abbrev mdX1_isFair : MD := (yX1_isFair, cX1_isFair, 4, (some .boolean), 4)
theorem clX1_isFair : CLV mdX1_isFair := ⟨⟨(gw_t 487 (by decide +kernel) rfl), (gw_t 4 (by decide +kernel) rfl), by decide +kernel, by decide +kernel, trivial⟩, (gw_t 486 (by decide +kernel) rfl), (gw_s 14 (by decide +kernel) rfl)⟩
abbrev mdX2_stands : MD := (yX2_stands, cX2_stands, 1, (some .boolean), 1)
theorem clX2_stands : CLV mdX2_stands := ⟨⟨(gw_t 248 (by decide +kernel) rfl), (gw_t 2 (by decide +kernel) rfl), by decide +kernel, by decide +kernel, trivial⟩, (gw_t 246 (by decide +kernel) rfl), (gw_t 247 (by decide +kernel) rfl)⟩
abbrev mdX2_cells : MD := (yX2_cells, cX2_cells, 1, (some .int), 1)
theorem clX2_cells : CLV mdX2_cells := ⟨⟨(gw_t 219 (by decide +kernel) rfl), (gw_t 2 (by decide +kernel) rfl), by decide +kernel, by decide +kernel, trivial⟩, (gw_t 217 (by decide +kernel) rfl), (gw_t 218 (by decide +kernel) rfl)⟩
abbrev mdX2_hasCell : MD := (yX2_hasCell, cX2_hasCell, 2, (some .boolean), 2)
theorem clX2_hasCell : CLV mdX2_hasCell := ⟨⟨(gw_t 227 (by decide +kernel) rfl), (gw_t 2 (by decide +kernel) rfl), by decide +kernel, by decide +kernel, trivial⟩, (gw_t 225 (by decide +kernel) rfl), (gw_t 226 (by decide +kernel) rfl)⟩
abbrev mdX2_hasColumn : MD := (yX2_hasColumn, cX2_hasColumn, 2, (some .boolean), 1)
theorem clX2_hasColumn : CLV mdX2_hasColumn := ⟨⟨(gw_t 240 (by decide +kernel) rfl), (gw_t 2 (by decide +kernel) rfl), by decide +kernel, by decide +kernel, trivial⟩, (gw_t 238 (by decide +kernel) rfl), (gw_t 239 (by decide +kernel) rfl)⟩
abbrev mdX2_hasTroughOf : MD := (yX2_hasTroughOf, cX2_hasTroughOf, 3, (some .boolean), 1)
theorem clX2_hasTroughOf : CLV mdX2_hasTroughOf := ⟨⟨(gw_t 491 (by decide +kernel) rfl), (gw_t 2 (by decide +kernel) rfl), by decide +kernel, by decide +kernel, trivial⟩, (gw_t 489 (by decide +kernel) rfl), (gw_t 490 (by decide +kernel) rfl)⟩
abbrev mdX2_firstFault : MD := (yX2_firstFault, cX2_firstFault, 8, (some .int), 3)
theorem clX2_firstFault : CLV mdX2_firstFault := ⟨⟨(gw_t 194 (by decide +kernel) rfl), (gw_t 2 (by decide +kernel) rfl), by decide +kernel, by decide +kernel, trivial⟩, (gw_t 192 (by decide +kernel) rfl), (gw_t 193 (by decide +kernel) rfl)⟩
abbrev mdX2_lengthOfText : MD := (yX2_lengthOfText, cX2_lengthOfText, 2, (some .int), 1)
theorem clX2_lengthOfText : CLS mdX2_lengthOfText := ⟨⟨(gw_t 208 (by decide +kernel) rfl), (gw_t 2 (by decide +kernel) rfl), by decide +kernel, by decide +kernel, trivial⟩, (gw_t 207 (by decide +kernel) rfl)⟩
abbrev mdX2_goesOn : MD := (yX2_goesOn, cX2_goesOn, 5, (some .boolean), 2)
theorem clX2_goesOn : CLS mdX2_goesOn := ⟨⟨(gw_t 205 (by decide +kernel) rfl), (gw_t 2 (by decide +kernel) rfl), by decide +kernel, by decide +kernel, trivial⟩, (gw_t 204 (by decide +kernel) rfl)⟩
abbrev mdX2_signOf : MD := (yX2_signOf, cX2_signOf, 1, (some .int), 1)
theorem clX2_signOf : CLS mdX2_signOf := ⟨⟨(gw_t 211 (by decide +kernel) rfl), (gw_t 2 (by decide +kernel) rfl), by decide +kernel, by decide +kernel, trivial⟩, (gw_t 210 (by decide +kernel) rfl)⟩
abbrev mdX2_build : MD := (yX2_build, cX2_build, 6, none, 3)
theorem clX2_build : CLV mdX2_build := ⟨⟨(gw_t 215 (by decide +kernel) rfl), (gw_t 2 (by decide +kernel) rfl), by decide +kernel, by decide +kernel, trivial⟩, (gw_t 213 (by decide +kernel) rfl), (gw_t 214 (by decide +kernel) rfl)⟩
abbrev mdX2_partsLeft : MD := (yX2_partsLeft, cX2_partsLeft, 4, (some .int), 1)
theorem clX2_partsLeft : CLV mdX2_partsLeft := ⟨⟨(gw_t 271 (by decide +kernel) rfl), (gw_t 2 (by decide +kernel) rfl), by decide +kernel, by decide +kernel, trivial⟩, (gw_t 269 (by decide +kernel) rfl), (gw_t 270 (by decide +kernel) rfl)⟩
abbrev mdX2_partsRight : MD := (yX2_partsRight, cX2_partsRight, 4, (some .int), 1)
theorem clX2_partsRight : CLV mdX2_partsRight := ⟨⟨(gw_t 275 (by decide +kernel) rfl), (gw_t 2 (by decide +kernel) rfl), by decide +kernel, by decide +kernel, trivial⟩, (gw_t 273 (by decide +kernel) rfl), (gw_t 274 (by decide +kernel) rfl)⟩
abbrev mdX2_below : MD := (yX2_below, cX2_below, 5, (some .int), 2)
theorem clX2_below : CLV mdX2_below := ⟨⟨(gw_t 293 (by decide +kernel) rfl), (gw_t 2 (by decide +kernel) rfl), by decide +kernel, by decide +kernel, trivial⟩, (gw_t 291 (by decide +kernel) rfl), (gw_t 292 (by decide +kernel) rfl)⟩
abbrev mdX2_belowLeft : MD := (yX2_belowLeft, cX2_belowLeft, 3, (some .int), 1)
theorem clX2_belowLeft : CLV mdX2_belowLeft := ⟨⟨(gw_t 298 (by decide +kernel) rfl), (gw_t 2 (by decide +kernel) rfl), by decide +kernel, by decide +kernel, trivial⟩, (gw_t 296 (by decide +kernel) rfl), (gw_t 297 (by decide +kernel) rfl)⟩
abbrev mdX2_belowRight : MD := (yX2_belowRight, cX2_belowRight, 3, (some .int), 1)
theorem clX2_belowRight : CLV mdX2_belowRight := ⟨⟨(gw_t 303 (by decide +kernel) rfl), (gw_t 2 (by decide +kernel) rfl), by decide +kernel, by decide +kernel, trivial⟩, (gw_t 301 (by decide +kernel) rfl), (gw_t 302 (by decide +kernel) rfl)⟩
abbrev mdX3_renew : MD := (yX3_renew, cX3_renew, 3, none, 2)
theorem clX3_renew : CLV mdX3_renew := ⟨⟨(gw_t 499 (by decide +kernel) rfl), (gw_t 6 (by decide +kernel) rfl), by decide +kernel, by decide +kernel, trivial⟩, (gw_t 497 (by decide +kernel) rfl), (gw_t 498 (by decide +kernel) rfl)⟩
abbrev mdX3_faultAs : MD := (yX3_faultAs, cX3_faultAs, 2, (some .int), 1)
theorem clX3_faultAs : CLV mdX3_faultAs := ⟨⟨(gw_t 182 (by decide +kernel) rfl), (gw_t 6 (by decide +kernel) rfl), by decide +kernel, by decide +kernel, trivial⟩, (gw_t 180 (by decide +kernel) rfl), (gw_t 181 (by decide +kernel) rfl)⟩
abbrev mdX3_has : MD := (yX3_has, cX3_has, 2, (some .boolean), 1)
theorem clX3_has : CLV mdX3_has := ⟨⟨(gw_t 202 (by decide +kernel) rfl), (gw_t 6 (by decide +kernel) rfl), by decide +kernel, by decide +kernel, trivial⟩, (gw_t 200 (by decide +kernel) rfl), (gw_t 201 (by decide +kernel) rfl)⟩
abbrev mdX3_spans : MD := (yX3_spans, cX3_spans, 3, (some .boolean), 1)
theorem clX3_spans : CLV mdX3_spans := ⟨⟨(gw_t 186 (by decide +kernel) rfl), (gw_t 6 (by decide +kernel) rfl), by decide +kernel, by decide +kernel, trivial⟩, (gw_t 184 (by decide +kernel) rfl), (gw_t 185 (by decide +kernel) rfl)⟩
abbrev mdX3_at : MD := (yX3_at, cX3_at, 2, (some .int), 2)
theorem clX3_at : CLV mdX3_at := ⟨⟨(gw_t 198 (by decide +kernel) rfl), (gw_t 6 (by decide +kernel) rfl), by decide +kernel, by decide +kernel, trivial⟩, (gw_t 196 (by decide +kernel) rfl), (gw_t 197 (by decide +kernel) rfl)⟩
abbrev mdX3_write : MD := (yX3_write, cX3_write, 3, none, 2)
theorem clX3_write : CLV mdX3_write := ⟨⟨(gw_t 512 (by decide +kernel) rfl), (gw_t 6 (by decide +kernel) rfl), by decide +kernel, by decide +kernel, trivial⟩, (gw_t 510 (by decide +kernel) rfl), (gw_t 511 (by decide +kernel) rfl)⟩
abbrev mdX3_cut : MD := (yX3_cut, cX3_cut, 2, (some .int), 1)
theorem clX3_cut : CLV mdX3_cut := ⟨⟨(gw_t 516 (by decide +kernel) rfl), (gw_t 6 (by decide +kernel) rfl), by decide +kernel, by decide +kernel, trivial⟩, (gw_t 515 (by decide +kernel) rfl), (gw_s 15 (by decide +kernel) rfl)⟩
abbrev mdX4_has : MD := (yX4_has, cX4_has, 2, (some .boolean), 1)
theorem clX4_has : CLV mdX4_has := ⟨⟨(gw_t 267 (by decide +kernel) rfl), (gw_t 3 (by decide +kernel) rfl), by decide +kernel, by decide +kernel, trivial⟩, (gw_t 265 (by decide +kernel) rfl), (gw_t 266 (by decide +kernel) rfl)⟩
abbrev mdX4_add : MD := (yX4_add, cX4_add, 4, (some .int), 1)
theorem clX4_add : CLV mdX4_add := ⟨⟨(gw_t 259 (by decide +kernel) rfl), (gw_t 3 (by decide +kernel) rfl), by decide +kernel, by decide +kernel, trivial⟩, (gw_t 257 (by decide +kernel) rfl), (gw_t 258 (by decide +kernel) rfl)⟩
abbrev mdX5_hill : MD := (yX5_hill, cX5_hill, 8, (some .int), 4)
theorem clX5_hill : CLV mdX5_hill := ⟨⟨(gw_t 172 (by decide +kernel) rfl), (gw_t 1 (by decide +kernel) rfl), by decide +kernel, by decide +kernel, trivial⟩, (gw_t 170 (by decide +kernel) rfl), (gw_t 171 (by decide +kernel) rfl)⟩
abbrev mdX5_sign : MD := (yX5_sign, cX5_sign, 2, (some .int), 3)
theorem clX5_sign : CLV mdX5_sign := ⟨⟨(gw_t 223 (by decide +kernel) rfl), (gw_t 1 (by decide +kernel) rfl), by decide +kernel, by decide +kernel, trivial⟩, (gw_t 221 (by decide +kernel) rfl), (gw_t 222 (by decide +kernel) rfl)⟩
abbrev mdX5_set : MD := (yX5_set, cX5_set, 4, (some .int), 3)
theorem clX5_set : CLV mdX5_set := ⟨⟨(gw_t 232 (by decide +kernel) rfl), (gw_t 1 (by decide +kernel) rfl), by decide +kernel, by decide +kernel, trivial⟩, (gw_t 230 (by decide +kernel) rfl), (gw_t 231 (by decide +kernel) rfl)⟩
abbrev mdX5_party : MD := (yX5_party, cX5_party, 2, (some .int), 2)
theorem clX5_party : CLV mdX5_party := ⟨⟨(gw_t 236 (by decide +kernel) rfl), (gw_t 1 (by decide +kernel) rfl), by decide +kernel, by decide +kernel, trivial⟩, (gw_t 234 (by decide +kernel) rfl), (gw_t 235 (by decide +kernel) rfl)⟩
abbrev mdX5_wet : MD := (yX5_wet, cX5_wet, 3, (some .int), 2)
theorem clX5_wet : CLV mdX5_wet := ⟨⟨(gw_t 244 (by decide +kernel) rfl), (gw_t 1 (by decide +kernel) rfl), by decide +kernel, by decide +kernel, trivial⟩, (gw_t 242 (by decide +kernel) rfl), (gw_t 243 (by decide +kernel) rfl)⟩
abbrev mdX5_vote : MD := (yX5_vote, cX5_vote, 3, (some .int), 2)
theorem clX5_vote : CLV mdX5_vote := ⟨⟨(gw_t 252 (by decide +kernel) rfl), (gw_t 1 (by decide +kernel) rfl), by decide +kernel, by decide +kernel, trivial⟩, (gw_t 250 (by decide +kernel) rfl), (gw_t 251 (by decide +kernel) rfl)⟩
abbrev mdX5_ofVote : MD := (yX5_ofVote, cX5_ofVote, 3, (some .int), 2)
theorem clX5_ofVote : CLV mdX5_ofVote := ⟨⟨(gw_t 263 (by decide +kernel) rfl), (gw_t 1 (by decide +kernel) rfl), by decide +kernel, by decide +kernel, trivial⟩, (gw_t 261 (by decide +kernel) rfl), (gw_t 262 (by decide +kernel) rfl)⟩
abbrev mdX5_back : MD := (yX5_back, cX5_back, 2, (some .int), 1)
theorem clX5_back : CLV mdX5_back := ⟨⟨(gw_t 279 (by decide +kernel) rfl), (gw_t 1 (by decide +kernel) rfl), by decide +kernel, by decide +kernel, trivial⟩, (gw_t 277 (by decide +kernel) rfl), (gw_t 278 (by decide +kernel) rfl)⟩
abbrev mdX5_roll : MD := (yX5_roll, cX5_roll, 7, (some .int), 4)
theorem clX5_roll : CLV mdX5_roll := ⟨⟨(gw_t 283 (by decide +kernel) rfl), (gw_t 1 (by decide +kernel) rfl), by decide +kernel, by decide +kernel, trivial⟩, (gw_t 281 (by decide +kernel) rfl), (gw_t 282 (by decide +kernel) rfl)⟩
abbrev mdX5_rollBy : MD := (yX5_rollBy, cX5_rollBy, 10, (some .int), 3)
theorem clX5_rollBy : CLV mdX5_rollBy := ⟨⟨(gw_t 287 (by decide +kernel) rfl), (gw_t 1 (by decide +kernel) rfl), by decide +kernel, by decide +kernel, trivial⟩, (gw_t 286 (by decide +kernel) rfl), (gw_s 1 (by decide +kernel) rfl)⟩
abbrev mdX5_chance : MD := (yX5_chance, cX5_chance, 5, (some .long), 4)
theorem clX5_chance : CLV mdX5_chance := ⟨⟨(gw_t 307 (by decide +kernel) rfl), (gw_t 1 (by decide +kernel) rfl), by decide +kernel, by decide +kernel, trivial⟩, (gw_t 305 (by decide +kernel) rfl), (gw_t 306 (by decide +kernel) rfl)⟩
abbrev mdX5_expects : MD := (yX5_expects, cX5_expects, 3, (some .long), 6)
theorem clX5_expects : CLV mdX5_expects := ⟨⟨(gw_t 342 (by decide +kernel) rfl), (gw_t 1 (by decide +kernel) rfl), by decide +kernel, by decide +kernel, trivial⟩, (gw_t 340 (by decide +kernel) rfl), (gw_t 341 (by decide +kernel) rfl)⟩
abbrev mdX5_leastTerms : MD := (yX5_leastTerms, cX5_leastTerms, 4, (some .int), 1)
theorem clX5_leastTerms : CLS mdX5_leastTerms := ⟨⟨(gw_t 337 (by decide +kernel) rfl), (gw_t 1 (by decide +kernel) rfl), by decide +kernel, by decide +kernel, trivial⟩, (gw_t 336 (by decide +kernel) rfl)⟩
abbrev mdX5_start : MD := (yX5_start, cX5_start, 3, (some .int), 5)
theorem clX5_start : CLV mdX5_start := ⟨⟨(gw_t 365 (by decide +kernel) rfl), (gw_t 1 (by decide +kernel) rfl), by decide +kernel, by decide +kernel, trivial⟩, (gw_t 363 (by decide +kernel) rfl), (gw_t 364 (by decide +kernel) rfl)⟩
abbrev mdX5_move : MD := (yX5_move, cX5_move, 2, (some .int), 6)
theorem clX5_move : CLV mdX5_move := ⟨⟨(gw_t 373 (by decide +kernel) rfl), (gw_t 1 (by decide +kernel) rfl), by decide +kernel, by decide +kernel, trivial⟩, (gw_t 371 (by decide +kernel) rfl), (gw_t 372 (by decide +kernel) rfl)⟩
abbrev mdX5_answer : MD := (yX5_answer, cX5_answer, 7, (some .int), 6)
theorem clX5_answer : CLV mdX5_answer := ⟨⟨(gw_t 389 (by decide +kernel) rfl), (gw_t 1 (by decide +kernel) rfl), by decide +kernel, by decide +kernel, trivial⟩, (gw_t 387 (by decide +kernel) rfl), (gw_t 388 (by decide +kernel) rfl)⟩
abbrev mdX5_likeliest : MD := (yX5_likeliest, cX5_likeliest, 3, (some .int), 5)
theorem clX5_likeliest : CLV mdX5_likeliest := ⟨⟨(gw_t 393 (by decide +kernel) rfl), (gw_t 1 (by decide +kernel) rfl), by decide +kernel, by decide +kernel, trivial⟩, (gw_t 391 (by decide +kernel) rfl), (gw_t 392 (by decide +kernel) rfl)⟩
abbrev mdX5_tally : MD := (yX5_tally, cX5_tally, 2, (some .int), 7)
theorem clX5_tally : CLV mdX5_tally := ⟨⟨(gw_t 403 (by decide +kernel) rfl), (gw_t 1 (by decide +kernel) rfl), by decide +kernel, by decide +kernel, trivial⟩, (gw_t 401 (by decide +kernel) rfl), (gw_t 402 (by decide +kernel) rfl)⟩
abbrev mdX5_winner : MD := (yX5_winner, cX5_winner, 2, (some .int), 7)
theorem clX5_winner : CLV mdX5_winner := ⟨⟨(gw_t 420 (by decide +kernel) rfl), (gw_t 1 (by decide +kernel) rfl), by decide +kernel, by decide +kernel, trivial⟩, (gw_t 418 (by decide +kernel) rfl), (gw_t 419 (by decide +kernel) rfl)⟩
abbrev mdX5_dams : MD := (yX5_dams, cX5_dams, 2, (some .long), 5)
theorem clX5_dams : CLV mdX5_dams := ⟨⟨(gw_t 436 (by decide +kernel) rfl), (gw_t 1 (by decide +kernel) rfl), by decide +kernel, by decide +kernel, trivial⟩, (gw_t 434 (by decide +kernel) rfl), (gw_t 435 (by decide +kernel) rfl)⟩
abbrev mdX5_ways : MD := (yX5_ways, cX5_ways, 8, (some .int), 5)
theorem clX5_ways : CLV mdX5_ways := ⟨⟨(gw_t 444 (by decide +kernel) rfl), (gw_t 1 (by decide +kernel) rfl), by decide +kernel, by decide +kernel, trivial⟩, (gw_t 442 (by decide +kernel) rfl), (gw_t 443 (by decide +kernel) rfl)⟩
abbrev mdX5_fair : MD := (yX5_fair, cX5_fair, 1, (some .int), 6)
theorem clX5_fair : CLV mdX5_fair := ⟨⟨(gw_t 479 (by decide +kernel) rfl), (gw_t 1 (by decide +kernel) rfl), by decide +kernel, by decide +kernel, trivial⟩, (gw_t 477 (by decide +kernel) rfl), (gw_t 478 (by decide +kernel) rfl)⟩
abbrev mdX5_sheet : MD := (yX5_sheet, cX5_sheet, 4, (some .int), 3)
theorem clX5_sheet : CLV mdX5_sheet := ⟨⟨(gw_t 495 (by decide +kernel) rfl), (gw_t 1 (by decide +kernel) rfl), by decide +kernel, by decide +kernel, trivial⟩, (gw_t 493 (by decide +kernel) rfl), (gw_t 494 (by decide +kernel) rfl)⟩
abbrev mdX5_lose : MD := (yX5_lose, cX5_lose, 3, (some .int), 2)
theorem clX5_lose : CLV mdX5_lose := ⟨⟨(gw_t 504 (by decide +kernel) rfl), (gw_t 1 (by decide +kernel) rfl), by decide +kernel, by decide +kernel, trivial⟩, (gw_t 502 (by decide +kernel) rfl), (gw_t 503 (by decide +kernel) rfl)⟩
abbrev mdX5_put : MD := (yX5_put, cX5_put, 4, (some .int), 3)
theorem clX5_put : CLV mdX5_put := ⟨⟨(gw_t 508 (by decide +kernel) rfl), (gw_t 1 (by decide +kernel) rfl), by decide +kernel, by decide +kernel, trivial⟩, (gw_t 506 (by decide +kernel) rfl), (gw_t 507 (by decide +kernel) rfl)⟩
abbrev mdX5_cell : MD := (yX5_cell, cX5_cell, 5, (some .long), 3)
theorem clX5_cell : CLV mdX5_cell := ⟨⟨(gw_t 520 (by decide +kernel) rfl), (gw_t 1 (by decide +kernel) rfl), by decide +kernel, by decide +kernel, trivial⟩, (gw_t 518 (by decide +kernel) rfl), (gw_t 519 (by decide +kernel) rfl)⟩
abbrev mdX5_copy : MD := (yX5_copy, cX5_copy, 8, (some .int), 2)
theorem clX5_copy : CLV mdX5_copy := ⟨⟨(gw_t 524 (by decide +kernel) rfl), (gw_t 1 (by decide +kernel) rfl), by decide +kernel, by decide +kernel, trivial⟩, (gw_t 522 (by decide +kernel) rfl), (gw_t 523 (by decide +kernel) rfl)⟩
abbrev mdX5_tell : MD := (yX5_tell, cX5_tell, 2, (some .int), 5)
theorem clX5_tell : CLV mdX5_tell := ⟨⟨(gw_t 531 (by decide +kernel) rfl), (gw_t 1 (by decide +kernel) rfl), by decide +kernel, by decide +kernel, trivial⟩, (gw_t 529 (by decide +kernel) rfl), (gw_t 530 (by decide +kernel) rfl)⟩
abbrev mdX5_toldByMarble : MD := (yX5_toldByMarble, cX5_toldByMarble, 2, (some .int), 2)
theorem clX5_toldByMarble : CLV mdX5_toldByMarble := ⟨⟨(gw_t 547 (by decide +kernel) rfl), (gw_t 1 (by decide +kernel) rfl), by decide +kernel, by decide +kernel, trivial⟩, (gw_t 546 (by decide +kernel) rfl), (gw_s 19 (by decide +kernel) rfl)⟩
abbrev mdX5_toldByHeavy : MD := (yX5_toldByHeavy, cX5_toldByHeavy, 2, (some .int), 3)
theorem clX5_toldByHeavy : CLV mdX5_toldByHeavy := ⟨⟨(gw_t 543 (by decide +kernel) rfl), (gw_t 1 (by decide +kernel) rfl), by decide +kernel, by decide +kernel, trivial⟩, (gw_t 542 (by decide +kernel) rfl), (gw_s 18 (by decide +kernel) rfl)⟩
abbrev mdX5_toldByLead : MD := (yX5_toldByLead, cX5_toldByLead, 3, (some .int), 4)
theorem clX5_toldByLead : CLV mdX5_toldByLead := ⟨⟨(gw_t 535 (by decide +kernel) rfl), (gw_t 1 (by decide +kernel) rfl), by decide +kernel, by decide +kernel, trivial⟩, (gw_t 534 (by decide +kernel) rfl), (gw_s 16 (by decide +kernel) rfl)⟩
abbrev mdX5_weigh : MD := (yX5_weigh, cX5_weigh, 2, (some .int), 2)
theorem clX5_weigh : CLV mdX5_weigh := ⟨⟨(gw_t 551 (by decide +kernel) rfl), (gw_t 1 (by decide +kernel) rfl), by decide +kernel, by decide +kernel, trivial⟩, (gw_t 549 (by decide +kernel) rfl), (gw_t 550 (by decide +kernel) rfl)⟩
abbrev mdX5_as : MD := (yX5_as, cX5_as, 3, (some .int), 2)
theorem clX5_as : CLV mdX5_as := ⟨⟨(gw_t 555 (by decide +kernel) rfl), (gw_t 1 (by decide +kernel) rfl), by decide +kernel, by decide +kernel, trivial⟩, (gw_t 553 (by decide +kernel) rfl), (gw_t 554 (by decide +kernel) rfl)⟩
abbrev mdX5_trace : MD := (yX5_trace, cX5_trace, 1, (some .int), 1)
theorem clX5_trace : CLV mdX5_trace := ⟨⟨(gw_t 559 (by decide +kernel) rfl), (gw_t 1 (by decide +kernel) rfl), by decide +kernel, by decide +kernel, trivial⟩, (gw_t 557 (by decide +kernel) rfl), (gw_t 558 (by decide +kernel) rfl)⟩
abbrev mdX5_fault : MD := (yX5_fault, cX5_fault, 1, (some .int), 1)
theorem clX5_fault : CLV mdX5_fault := ⟨⟨(gw_t 563 (by decide +kernel) rfl), (gw_t 1 (by decide +kernel) rfl), by decide +kernel, by decide +kernel, trivial⟩, (gw_t 561 (by decide +kernel) rfl), (gw_t 562 (by decide +kernel) rfl)⟩
abbrev mdX5_many : MD := (yX5_many, cX5_many, 2, (some .int), 2)
theorem clX5_many : CLV mdX5_many := ⟨⟨(gw_t 567 (by decide +kernel) rfl), (gw_t 1 (by decide +kernel) rfl), by decide +kernel, by decide +kernel, trivial⟩, (gw_t 565 (by decide +kernel) rfl), (gw_t 566 (by decide +kernel) rfl)⟩
abbrev mdX5_leaveTrace : MD := (yX5_leaveTrace, cX5_leaveTrace, 2, none, 1)
theorem clX5_leaveTrace : CLV mdX5_leaveTrace := ⟨⟨(gw_t 539 (by decide +kernel) rfl), (gw_t 1 (by decide +kernel) rfl), by decide +kernel, by decide +kernel, trivial⟩, (gw_t 538 (by decide +kernel) rfl), (gw_s 17 (by decide +kernel) rfl)⟩
abbrev mdX5_failed : MD := (yX5_failed, cX5_failed, 2, (some .int), 1)
theorem clX5_failed : CLV mdX5_failed := ⟨⟨(gw_t 190 (by decide +kernel) rfl), (gw_t 1 (by decide +kernel) rfl), by decide +kernel, by decide +kernel, trivial⟩, (gw_t 189 (by decide +kernel) rfl), (gw_s 0 (by decide +kernel) rfl)⟩
abbrev mdX5_isSheet : MD := (yX5_isSheet, cX5_isSheet, 1, (some .boolean), 1)
theorem clX5_isSheet : CLS mdX5_isSheet := ⟨⟨(gw_t 175 (by decide +kernel) rfl), (gw_t 1 (by decide +kernel) rfl), by decide +kernel, by decide +kernel, trivial⟩, (gw_t 174 (by decide +kernel) rfl)⟩
abbrev mdX5_isLane : MD := (yX5_isLane, cX5_isLane, 1, (some .boolean), 1)
theorem clX5_isLane : CLS mdX5_isLane := ⟨⟨(gw_t 178 (by decide +kernel) rfl), (gw_t 1 (by decide +kernel) rfl), by decide +kernel, by decide +kernel, trivial⟩, (gw_t 177 (by decide +kernel) rfl)⟩
abbrev mdX5_isKind : MD := (yX5_isKind, cX5_isKind, 1, (some .boolean), 1)
theorem clX5_isKind : CLS mdX5_isKind := ⟨⟨(gw_t 255 (by decide +kernel) rfl), (gw_t 1 (by decide +kernel) rfl), by decide +kernel, by decide +kernel, trivial⟩, (gw_t 254 (by decide +kernel) rfl)⟩
abbrev mdX5_isParty : MD := (yX5_isParty, cX5_isParty, 1, (some .boolean), 1)
theorem clX5_isParty : CLS mdX5_isParty := ⟨⟨(gw_t 345 (by decide +kernel) rfl), (gw_t 1 (by decide +kernel) rfl), by decide +kernel, by decide +kernel, trivial⟩, (gw_t 344 (by decide +kernel) rfl)⟩
abbrev mdX6_in : MD := (yX6_in, cX6_in, 6, (some .boolean), 1)
theorem clX6_in : CLS mdX6_in := ⟨⟨(gw_t 667 (by decide +kernel) rfl), (gw_t 7 (by decide +kernel) rfl), by decide +kernel, by decide +kernel, trivial⟩, (gw_t 666 (by decide +kernel) rfl)⟩
abbrev mdX6_lost : MD := (yX6_lost, cX6_lost, 0, (some .long), 1)
theorem clX6_lost : CLS mdX6_lost := ⟨⟨(gw_t 779 (by decide +kernel) rfl), (gw_t 7 (by decide +kernel) rfl), by decide +kernel, by decide +kernel, trivial⟩, (gw_t 778 (by decide +kernel) rfl)⟩
abbrev mdX6_isIn : MD := (yX6_isIn, cX6_isIn, 2, (some .boolean), 1)
theorem clX6_isIn : CLS mdX6_isIn := ⟨⟨(gw_t 878 (by decide +kernel) rfl), (gw_t 7 (by decide +kernel) rfl), by decide +kernel, by decide +kernel, trivial⟩, (gw_t 877 (by decide +kernel) rfl)⟩
abbrev mdX6_bits : MD := (yX6_bits, cX6_bits, 3, (some .int), 1)
theorem clX6_bits : CLS mdX6_bits := ⟨⟨(gw_t 875 (by decide +kernel) rfl), (gw_t 7 (by decide +kernel) rfl), by decide +kernel, by decide +kernel, trivial⟩, (gw_t 874 (by decide +kernel) rfl)⟩
abbrev mdX6_told : MD := (yX6_told, cX6_told, 11, (some .long), 1)
theorem clX6_told : CLS mdX6_told := ⟨⟨(gw_t 792 (by decide +kernel) rfl), (gw_t 7 (by decide +kernel) rfl), by decide +kernel, by decide +kernel, trivial⟩, (gw_t 791 (by decide +kernel) rfl)⟩
abbrev mdX6_refused : MD := (yX6_refused, cX6_refused, 2, (some .int), 1)
theorem clX6_refused : CLV mdX6_refused := ⟨⟨(gw_t 671 (by decide +kernel) rfl), (gw_t 7 (by decide +kernel) rfl), by decide +kernel, by decide +kernel, trivial⟩, (gw_t 670 (by decide +kernel) rfl), (gw_s 20 (by decide +kernel) rfl)⟩
abbrev mdX6_failed : MD := (yX6_failed, cX6_failed, 2, (some .int), 1)
theorem clX6_failed : CLV mdX6_failed := ⟨⟨(gw_t 680 (by decide +kernel) rfl), (gw_t 7 (by decide +kernel) rfl), by decide +kernel, by decide +kernel, trivial⟩, (gw_t 679 (by decide +kernel) rfl), (gw_s 22 (by decide +kernel) rfl)⟩
abbrev mdX6_failedLong : MD := (yX6_failedLong, cX6_failedLong, 2, (some .long), 2)
theorem clX6_failedLong : CLV mdX6_failedLong := ⟨⟨(gw_t 906 (by decide +kernel) rfl), (gw_t 7 (by decide +kernel) rfl), by decide +kernel, by decide +kernel, trivial⟩, (gw_t 905 (by decide +kernel) rfl), (gw_s 49 (by decide +kernel) rfl)⟩
abbrev mdX6_cells : MD := (yX6_cells, cX6_cells, 1, (some .int), 1)
theorem clX6_cells : CLV mdX6_cells := ⟨⟨(gw_t 706 (by decide +kernel) rfl), (gw_t 7 (by decide +kernel) rfl), by decide +kernel, by decide +kernel, trivial⟩, (gw_t 705 (by decide +kernel) rfl), (gw_s 27 (by decide +kernel) rfl)⟩
abbrev mdX6_noCell : MD := (yX6_noCell, cX6_noCell, 2, (some .boolean), 2)
theorem clX6_noCell : CLV mdX6_noCell := ⟨⟨(gw_t 714 (by decide +kernel) rfl), (gw_t 7 (by decide +kernel) rfl), by decide +kernel, by decide +kernel, trivial⟩, (gw_t 713 (by decide +kernel) rfl), (gw_s 28 (by decide +kernel) rfl)⟩
abbrev mdX6_noColumn : MD := (yX6_noColumn, cX6_noColumn, 2, (some .boolean), 2)
theorem clX6_noColumn : CLV mdX6_noColumn := ⟨⟨(gw_t 727 (by decide +kernel) rfl), (gw_t 7 (by decide +kernel) rfl), by decide +kernel, by decide +kernel, trivial⟩, (gw_t 726 (by decide +kernel) rfl), (gw_s 29 (by decide +kernel) rfl)⟩
abbrev mdX6_noParty : MD := (yX6_noParty, cX6_noParty, 1, (some .boolean), 2)
theorem clX6_noParty : CLS mdX6_noParty := ⟨⟨(gw_t 799 (by decide +kernel) rfl), (gw_t 7 (by decide +kernel) rfl), by decide +kernel, by decide +kernel, trivial⟩, (gw_t 798 (by decide +kernel) rfl)⟩
abbrev mdX6_codeAt : MD := (yX6_codeAt, cX6_codeAt, 3, (some .int), 1)
theorem clX6_codeAt : CLV mdX6_codeAt := ⟨⟨(gw_t 691 (by decide +kernel) rfl), (gw_t 7 (by decide +kernel) rfl), by decide +kernel, by decide +kernel, trivial⟩, (gw_t 690 (by decide +kernel) rfl), (gw_s 24 (by decide +kernel) rfl)⟩
abbrev mdX6_figure : MD := (yX6_figure, cX6_figure, 7, (some .int), 2)
theorem clX6_figure : CLV mdX6_figure := ⟨⟨(gw_t 695 (by decide +kernel) rfl), (gw_t 7 (by decide +kernel) rfl), by decide +kernel, by decide +kernel, trivial⟩, (gw_t 694 (by decide +kernel) rfl), (gw_s 25 (by decide +kernel) rfl)⟩
abbrev mdX6_signBy : MD := (yX6_signBy, cX6_signBy, 1, (some .int), 1)
theorem clX6_signBy : CLS mdX6_signBy := ⟨⟨(gw_t 702 (by decide +kernel) rfl), (gw_t 7 (by decide +kernel) rfl), by decide +kernel, by decide +kernel, trivial⟩, (gw_t 701 (by decide +kernel) rfl)⟩
abbrev mdX6_readsCell : MD := (yX6_readsCell, cX6_readsCell, 5, (some .boolean), 2)
theorem clX6_readsCell : CLV mdX6_readsCell := ⟨⟨(gw_t 699 (by decide +kernel) rfl), (gw_t 7 (by decide +kernel) rfl), by decide +kernel, by decide +kernel, trivial⟩, (gw_t 698 (by decide +kernel) rfl), (gw_s 26 (by decide +kernel) rfl)⟩
abbrev mdX6_readsHill : MD := (yX6_readsHill, cX6_readsHill, 5, (some .boolean), 3)
theorem clX6_readsHill : CLV mdX6_readsHill := ⟨⟨(gw_t 687 (by decide +kernel) rfl), (gw_t 7 (by decide +kernel) rfl), by decide +kernel, by decide +kernel, trivial⟩, (gw_t 686 (by decide +kernel) rfl), (gw_s 23 (by decide +kernel) rfl)⟩
abbrev mdX6_cellsBarred : MD := (yX6_cellsBarred, cX6_cellsBarred, 6, (some .int), 2)
theorem clX6_cellsBarred : CLV mdX6_cellsBarred := ⟨⟨(gw_t 676 (by decide +kernel) rfl), (gw_t 7 (by decide +kernel) rfl), by decide +kernel, by decide +kernel, trivial⟩, (gw_t 675 (by decide +kernel) rfl), (gw_s 21 (by decide +kernel) rfl)⟩
abbrev mdX6_hill : MD := (yX6_hill, cX6_hill, 7, (some .int), 4)
theorem clX6_hill : CLV mdX6_hill := ⟨⟨(gw_t 660 (by decide +kernel) rfl), (gw_t 7 (by decide +kernel) rfl), by decide +kernel, by decide +kernel, trivial⟩, (gw_t 658 (by decide +kernel) rfl), (gw_t 659 (by decide +kernel) rfl)⟩
abbrev mdX6_sign : MD := (yX6_sign, cX6_sign, 2, (some .int), 3)
theorem clX6_sign : CLV mdX6_sign := ⟨⟨(gw_t 710 (by decide +kernel) rfl), (gw_t 7 (by decide +kernel) rfl), by decide +kernel, by decide +kernel, trivial⟩, (gw_t 708 (by decide +kernel) rfl), (gw_t 709 (by decide +kernel) rfl)⟩
abbrev mdX6_set : MD := (yX6_set, cX6_set, 4, (some .int), 3)
theorem clX6_set : CLV mdX6_set := ⟨⟨(gw_t 718 (by decide +kernel) rfl), (gw_t 7 (by decide +kernel) rfl), by decide +kernel, by decide +kernel, trivial⟩, (gw_t 716 (by decide +kernel) rfl), (gw_t 717 (by decide +kernel) rfl)⟩
abbrev mdX6_party : MD := (yX6_party, cX6_party, 2, (some .int), 3)
theorem clX6_party : CLV mdX6_party := ⟨⟨(gw_t 723 (by decide +kernel) rfl), (gw_t 7 (by decide +kernel) rfl), by decide +kernel, by decide +kernel, trivial⟩, (gw_t 721 (by decide +kernel) rfl), (gw_t 722 (by decide +kernel) rfl)⟩
abbrev mdX6_wet : MD := (yX6_wet, cX6_wet, 3, (some .int), 1)
theorem clX6_wet : CLV mdX6_wet := ⟨⟨(gw_t 731 (by decide +kernel) rfl), (gw_t 7 (by decide +kernel) rfl), by decide +kernel, by decide +kernel, trivial⟩, (gw_t 729 (by decide +kernel) rfl), (gw_t 730 (by decide +kernel) rfl)⟩
abbrev mdX6_noVote : MD := (yX6_noVote, cX6_noVote, 2, (some .boolean), 2)
theorem clX6_noVote : CLV mdX6_noVote := ⟨⟨(gw_t 743 (by decide +kernel) rfl), (gw_t 7 (by decide +kernel) rfl), by decide +kernel, by decide +kernel, trivial⟩, (gw_t 742 (by decide +kernel) rfl), (gw_s 30 (by decide +kernel) rfl)⟩
abbrev mdX6_vote : MD := (yX6_vote, cX6_vote, 3, (some .int), 3)
theorem clX6_vote : CLV mdX6_vote := ⟨⟨(gw_t 735 (by decide +kernel) rfl), (gw_t 7 (by decide +kernel) rfl), by decide +kernel, by decide +kernel, trivial⟩, (gw_t 733 (by decide +kernel) rfl), (gw_t 734 (by decide +kernel) rfl)⟩
abbrev mdX6_leftOf : MD := (yX6_leftOf, cX6_leftOf, 2, (some .int), 1)
theorem clX6_leftOf : CLV mdX6_leftOf := ⟨⟨(gw_t 747 (by decide +kernel) rfl), (gw_t 7 (by decide +kernel) rfl), by decide +kernel, by decide +kernel, trivial⟩, (gw_t 746 (by decide +kernel) rfl), (gw_s 31 (by decide +kernel) rfl)⟩
abbrev mdX6_rightOf : MD := (yX6_rightOf, cX6_rightOf, 2, (some .int), 1)
theorem clX6_rightOf : CLV mdX6_rightOf := ⟨⟨(gw_t 751 (by decide +kernel) rfl), (gw_t 7 (by decide +kernel) rfl), by decide +kernel, by decide +kernel, trivial⟩, (gw_t 750 (by decide +kernel) rfl), (gw_s 32 (by decide +kernel) rfl)⟩
abbrev mdX6_ofVote : MD := (yX6_ofVote, cX6_ofVote, 3, (some .int), 3)
theorem clX6_ofVote : CLV mdX6_ofVote := ⟨⟨(gw_t 739 (by decide +kernel) rfl), (gw_t 7 (by decide +kernel) rfl), by decide +kernel, by decide +kernel, trivial⟩, (gw_t 737 (by decide +kernel) rfl), (gw_t 738 (by decide +kernel) rfl)⟩
abbrev mdX6_back : MD := (yX6_back, cX6_back, 2, (some .int), 2)
theorem clX6_back : CLV mdX6_back := ⟨⟨(gw_t 755 (by decide +kernel) rfl), (gw_t 7 (by decide +kernel) rfl), by decide +kernel, by decide +kernel, trivial⟩, (gw_t 753 (by decide +kernel) rfl), (gw_t 754 (by decide +kernel) rfl)⟩
abbrev mdX6_leftBy : MD := (yX6_leftBy, cX6_leftBy, 2, (some .int), 1)
theorem clX6_leftBy : CLV mdX6_leftBy := ⟨⟨(gw_t 764 (by decide +kernel) rfl), (gw_t 7 (by decide +kernel) rfl), by decide +kernel, by decide +kernel, trivial⟩, (gw_t 763 (by decide +kernel) rfl), (gw_s 33 (by decide +kernel) rfl)⟩
abbrev mdX6_rightBy : MD := (yX6_rightBy, cX6_rightBy, 2, (some .int), 1)
theorem clX6_rightBy : CLV mdX6_rightBy := ⟨⟨(gw_t 768 (by decide +kernel) rfl), (gw_t 7 (by decide +kernel) rfl), by decide +kernel, by decide +kernel, trivial⟩, (gw_t 767 (by decide +kernel) rfl), (gw_s 34 (by decide +kernel) rfl)⟩
abbrev mdX6_goesOn : MD := (yX6_goesOn, cX6_goesOn, 4, (some .int), 2)
theorem clX6_goesOn : CLV mdX6_goesOn := ⟨⟨(gw_t 772 (by decide +kernel) rfl), (gw_t 7 (by decide +kernel) rfl), by decide +kernel, by decide +kernel, trivial⟩, (gw_t 771 (by decide +kernel) rfl), (gw_s 35 (by decide +kernel) rfl)⟩
abbrev mdX6_roll : MD := (yX6_roll, cX6_roll, 12, (some .int), 3)
theorem clX6_roll : CLV mdX6_roll := ⟨⟨(gw_t 759 (by decide +kernel) rfl), (gw_t 7 (by decide +kernel) rfl), by decide +kernel, by decide +kernel, trivial⟩, (gw_t 757 (by decide +kernel) rfl), (gw_t 758 (by decide +kernel) rfl)⟩
abbrev mdX6_layChances : MD := (yX6_layChances, cX6_layChances, 8, none, 3)
theorem clX6_layChances : CLV mdX6_layChances := ⟨⟨(gw_t 788 (by decide +kernel) rfl), (gw_t 7 (by decide +kernel) rfl), by decide +kernel, by decide +kernel, trivial⟩, (gw_t 787 (by decide +kernel) rfl), (gw_s 37 (by decide +kernel) rfl)⟩
abbrev mdX6_layVote : MD := (yX6_layVote, cX6_layVote, 2, none, 4)
theorem clX6_layVote : CLV mdX6_layVote := ⟨⟨(gw_t 784 (by decide +kernel) rfl), (gw_t 7 (by decide +kernel) rfl), by decide +kernel, by decide +kernel, trivial⟩, (gw_t 783 (by decide +kernel) rfl), (gw_s 36 (by decide +kernel) rfl)⟩
abbrev mdX6_chance : MD := (yX6_chance, cX6_chance, 4, (some .long), 5)
theorem clX6_chance : CLV mdX6_chance := ⟨⟨(gw_t 776 (by decide +kernel) rfl), (gw_t 7 (by decide +kernel) rfl), by decide +kernel, by decide +kernel, trivial⟩, (gw_t 774 (by decide +kernel) rfl), (gw_t 775 (by decide +kernel) rfl)⟩
abbrev mdX6_partsFor : MD := (yX6_partsFor, cX6_partsFor, 5, (some .long), 1)
theorem clX6_partsFor : CLV mdX6_partsFor := ⟨⟨(gw_t 807 (by decide +kernel) rfl), (gw_t 7 (by decide +kernel) rfl), by decide +kernel, by decide +kernel, trivial⟩, (gw_t 806 (by decide +kernel) rfl), (gw_s 39 (by decide +kernel) rfl)⟩
abbrev mdX6_expectsNow : MD := (yX6_expectsNow, cX6_expectsNow, 5, (some .long), 5)
theorem clX6_expectsNow : CLV mdX6_expectsNow := ⟨⟨(gw_t 803 (by decide +kernel) rfl), (gw_t 7 (by decide +kernel) rfl), by decide +kernel, by decide +kernel, trivial⟩, (gw_t 802 (by decide +kernel) rfl), (gw_s 38 (by decide +kernel) rfl)⟩
abbrev mdX6_expects : MD := (yX6_expects, cX6_expects, 5, (some .long), 6)
theorem clX6_expects : CLV mdX6_expects := ⟨⟨(gw_t 796 (by decide +kernel) rfl), (gw_t 7 (by decide +kernel) rfl), by decide +kernel, by decide +kernel, trivial⟩, (gw_t 794 (by decide +kernel) rfl), (gw_t 795 (by decide +kernel) rfl)⟩
abbrev mdX6_start : MD := (yX6_start, cX6_start, 9, (some .int), 4)
theorem clX6_start : CLV mdX6_start := ⟨⟨(gw_t 811 (by decide +kernel) rfl), (gw_t 7 (by decide +kernel) rfl), by decide +kernel, by decide +kernel, trivial⟩, (gw_t 809 (by decide +kernel) rfl), (gw_t 810 (by decide +kernel) rfl)⟩
abbrev mdX6_moveOf : MD := (yX6_moveOf, cX6_moveOf, 10, (some .int), 6)
theorem clX6_moveOf : CLV mdX6_moveOf := ⟨⟨(gw_t 820 (by decide +kernel) rfl), (gw_t 7 (by decide +kernel) rfl), by decide +kernel, by decide +kernel, trivial⟩, (gw_t 819 (by decide +kernel) rfl), (gw_s 40 (by decide +kernel) rfl)⟩
abbrev mdX6_move : MD := (yX6_move, cX6_move, 2, (some .int), 7)
theorem clX6_move : CLV mdX6_move := ⟨⟨(gw_t 816 (by decide +kernel) rfl), (gw_t 7 (by decide +kernel) rfl), by decide +kernel, by decide +kernel, trivial⟩, (gw_t 814 (by decide +kernel) rfl), (gw_t 815 (by decide +kernel) rfl)⟩
abbrev mdX6_answer : MD := (yX6_answer, cX6_answer, 6, (some .int), 7)
theorem clX6_answer : CLV mdX6_answer := ⟨⟨(gw_t 824 (by decide +kernel) rfl), (gw_t 7 (by decide +kernel) rfl), by decide +kernel, by decide +kernel, trivial⟩, (gw_t 822 (by decide +kernel) rfl), (gw_t 823 (by decide +kernel) rfl)⟩
abbrev mdX6_likeliestOf : MD := (yX6_likeliestOf, cX6_likeliestOf, 4, (some .int), 5)
theorem clX6_likeliestOf : CLV mdX6_likeliestOf := ⟨⟨(gw_t 832 (by decide +kernel) rfl), (gw_t 7 (by decide +kernel) rfl), by decide +kernel, by decide +kernel, trivial⟩, (gw_t 831 (by decide +kernel) rfl), (gw_s 41 (by decide +kernel) rfl)⟩
abbrev mdX6_likeliest : MD := (yX6_likeliest, cX6_likeliest, 2, (some .int), 6)
theorem clX6_likeliest : CLV mdX6_likeliest := ⟨⟨(gw_t 828 (by decide +kernel) rfl), (gw_t 7 (by decide +kernel) rfl), by decide +kernel, by decide +kernel, trivial⟩, (gw_t 826 (by decide +kernel) rfl), (gw_t 827 (by decide +kernel) rfl)⟩
abbrev mdX6_tallyOf : MD := (yX6_tallyOf, cX6_tallyOf, 6, (some .int), 6)
theorem clX6_tallyOf : CLV mdX6_tallyOf := ⟨⟨(gw_t 840 (by decide +kernel) rfl), (gw_t 7 (by decide +kernel) rfl), by decide +kernel, by decide +kernel, trivial⟩, (gw_t 839 (by decide +kernel) rfl), (gw_s 42 (by decide +kernel) rfl)⟩
abbrev mdX6_tally : MD := (yX6_tally, cX6_tally, 2, (some .int), 7)
theorem clX6_tally : CLV mdX6_tally := ⟨⟨(gw_t 836 (by decide +kernel) rfl), (gw_t 7 (by decide +kernel) rfl), by decide +kernel, by decide +kernel, trivial⟩, (gw_t 834 (by decide +kernel) rfl), (gw_t 835 (by decide +kernel) rfl)⟩
abbrev mdX6_winnerBut : MD := (yX6_winnerBut, cX6_winnerBut, 6, (some .int), 7)
theorem clX6_winnerBut : CLV mdX6_winnerBut := ⟨⟨(gw_t 848 (by decide +kernel) rfl), (gw_t 7 (by decide +kernel) rfl), by decide +kernel, by decide +kernel, trivial⟩, (gw_t 847 (by decide +kernel) rfl), (gw_s 43 (by decide +kernel) rfl)⟩
abbrev mdX6_winner : MD := (yX6_winner, cX6_winner, 5, (some .int), 8)
theorem clX6_winner : CLV mdX6_winner := ⟨⟨(gw_t 844 (by decide +kernel) rfl), (gw_t 7 (by decide +kernel) rfl), by decide +kernel, by decide +kernel, trivial⟩, (gw_t 842 (by decide +kernel) rfl), (gw_t 843 (by decide +kernel) rfl)⟩
abbrev mdX6_holdsNow : MD := (yX6_holdsNow, cX6_holdsNow, 6, (some .long), 5)
theorem clX6_holdsNow : CLV mdX6_holdsNow := ⟨⟨(gw_t 856 (by decide +kernel) rfl), (gw_t 7 (by decide +kernel) rfl), by decide +kernel, by decide +kernel, trivial⟩, (gw_t 855 (by decide +kernel) rfl), (gw_s 44 (by decide +kernel) rfl)⟩
abbrev mdX6_setAll : MD := (yX6_setAll, cX6_setAll, 5, none, 1)
theorem clX6_setAll : CLV mdX6_setAll := ⟨⟨(gw_t 860 (by decide +kernel) rfl), (gw_t 7 (by decide +kernel) rfl), by decide +kernel, by decide +kernel, trivial⟩, (gw_t 859 (by decide +kernel) rfl), (gw_s 45 (by decide +kernel) rfl)⟩
abbrev mdX6_dams : MD := (yX6_dams, cX6_dams, 8, (some .long), 6)
theorem clX6_dams : CLV mdX6_dams := ⟨⟨(gw_t 852 (by decide +kernel) rfl), (gw_t 7 (by decide +kernel) rfl), by decide +kernel, by decide +kernel, trivial⟩, (gw_t 850 (by decide +kernel) rfl), (gw_t 851 (by decide +kernel) rfl)⟩
abbrev mdX6_waysBy : MD := (yX6_waysBy, cX6_waysBy, 10, (some .int), 2)
theorem clX6_waysBy : CLV mdX6_waysBy := ⟨⟨(gw_t 872 (by decide +kernel) rfl), (gw_t 7 (by decide +kernel) rfl), by decide +kernel, by decide +kernel, trivial⟩, (gw_t 871 (by decide +kernel) rfl), (gw_s 47 (by decide +kernel) rfl)⟩
abbrev mdX6_layCan : MD := (yX6_layCan, cX6_layCan, 4, none, 5)
theorem clX6_layCan : CLV mdX6_layCan := ⟨⟨(gw_t 868 (by decide +kernel) rfl), (gw_t 7 (by decide +kernel) rfl), by decide +kernel, by decide +kernel, trivial⟩, (gw_t 867 (by decide +kernel) rfl), (gw_s 46 (by decide +kernel) rfl)⟩
abbrev mdX6_ways : MD := (yX6_ways, cX6_ways, 9, (some .int), 6)
theorem clX6_ways : CLV mdX6_ways := ⟨⟨(gw_t 864 (by decide +kernel) rfl), (gw_t 7 (by decide +kernel) rfl), by decide +kernel, by decide +kernel, trivial⟩, (gw_t 862 (by decide +kernel) rfl), (gw_t 863 (by decide +kernel) rfl)⟩
abbrev mdX6_fair : MD := (yX6_fair, cX6_fair, 7, (some .int), 4)
theorem clX6_fair : CLV mdX6_fair := ⟨⟨(gw_t 882 (by decide +kernel) rfl), (gw_t 7 (by decide +kernel) rfl), by decide +kernel, by decide +kernel, trivial⟩, (gw_t 880 (by decide +kernel) rfl), (gw_t 881 (by decide +kernel) rfl)⟩
abbrev mdX6_noSheet : MD := (yX6_noSheet, cX6_noSheet, 1, (some .boolean), 2)
theorem clX6_noSheet : CLS mdX6_noSheet := ⟨⟨(gw_t 663 (by decide +kernel) rfl), (gw_t 7 (by decide +kernel) rfl), by decide +kernel, by decide +kernel, trivial⟩, (gw_t 662 (by decide +kernel) rfl)⟩
abbrev mdX6_sheet : MD := (yX6_sheet, cX6_sheet, 5, (some .int), 3)
theorem clX6_sheet : CLV mdX6_sheet := ⟨⟨(gw_t 886 (by decide +kernel) rfl), (gw_t 7 (by decide +kernel) rfl), by decide +kernel, by decide +kernel, trivial⟩, (gw_t 884 (by decide +kernel) rfl), (gw_t 885 (by decide +kernel) rfl)⟩
abbrev mdX6_lose : MD := (yX6_lose, cX6_lose, 3, (some .int), 3)
theorem clX6_lose : CLV mdX6_lose := ⟨⟨(gw_t 890 (by decide +kernel) rfl), (gw_t 7 (by decide +kernel) rfl), by decide +kernel, by decide +kernel, trivial⟩, (gw_t 888 (by decide +kernel) rfl), (gw_t 889 (by decide +kernel) rfl)⟩
abbrev mdX6_noCell_ : MD := (yX6_noCell_, cX6_noCell_, 3, (some .int), 2)
theorem clX6_noCell_ : CLV mdX6_noCell_ := ⟨⟨(gw_t 898 (by decide +kernel) rfl), (gw_t 7 (by decide +kernel) rfl), by decide +kernel, by decide +kernel, trivial⟩, (gw_t 897 (by decide +kernel) rfl), (gw_s 48 (by decide +kernel) rfl)⟩
abbrev mdX6_put : MD := (yX6_put, cX6_put, 4, (some .int), 3)
theorem clX6_put : CLV mdX6_put := ⟨⟨(gw_t 894 (by decide +kernel) rfl), (gw_t 7 (by decide +kernel) rfl), by decide +kernel, by decide +kernel, trivial⟩, (gw_t 892 (by decide +kernel) rfl), (gw_t 893 (by decide +kernel) rfl)⟩
abbrev mdX6_cell : MD := (yX6_cell, cX6_cell, 4, (some .long), 3)
theorem clX6_cell : CLV mdX6_cell := ⟨⟨(gw_t 902 (by decide +kernel) rfl), (gw_t 7 (by decide +kernel) rfl), by decide +kernel, by decide +kernel, trivial⟩, (gw_t 900 (by decide +kernel) rfl), (gw_t 901 (by decide +kernel) rfl)⟩
abbrev mdX6_isBeyond : MD := (yX6_isBeyond, cX6_isBeyond, 4, (some .boolean), 1)
theorem clX6_isBeyond : CLS mdX6_isBeyond := ⟨⟨(gw_t 683 (by decide +kernel) rfl), (gw_t 7 (by decide +kernel) rfl), by decide +kernel, by decide +kernel, trivial⟩, (gw_t 682 (by decide +kernel) rfl)⟩
abbrev mdX6_copy : MD := (yX6_copy, cX6_copy, 7, (some .int), 3)
theorem clX6_copy : CLV mdX6_copy := ⟨⟨(gw_t 910 (by decide +kernel) rfl), (gw_t 7 (by decide +kernel) rfl), by decide +kernel, by decide +kernel, trivial⟩, (gw_t 908 (by decide +kernel) rfl), (gw_t 909 (by decide +kernel) rfl)⟩
abbrev mdX6_traced : MD := (yX6_traced, cX6_traced, 2, none, 1)
theorem clX6_traced : CLV mdX6_traced := ⟨⟨(gw_t 918 (by decide +kernel) rfl), (gw_t 7 (by decide +kernel) rfl), by decide +kernel, by decide +kernel, trivial⟩, (gw_t 917 (by decide +kernel) rfl), (gw_s 50 (by decide +kernel) rfl)⟩
abbrev mdX6_tell : MD := (yX6_tell, cX6_tell, 4, (some .int), 3)
theorem clX6_tell : CLV mdX6_tell := ⟨⟨(gw_t 914 (by decide +kernel) rfl), (gw_t 7 (by decide +kernel) rfl), by decide +kernel, by decide +kernel, trivial⟩, (gw_t 912 (by decide +kernel) rfl), (gw_t 913 (by decide +kernel) rfl)⟩
abbrev mdX6_weigh : MD := (yX6_weigh, cX6_weigh, 2, (some .int), 3)
theorem clX6_weigh : CLV mdX6_weigh := ⟨⟨(gw_t 922 (by decide +kernel) rfl), (gw_t 7 (by decide +kernel) rfl), by decide +kernel, by decide +kernel, trivial⟩, (gw_t 920 (by decide +kernel) rfl), (gw_t 921 (by decide +kernel) rfl)⟩
abbrev mdX6_as : MD := (yX6_as, cX6_as, 3, (some .int), 3)
theorem clX6_as : CLV mdX6_as := ⟨⟨(gw_t 926 (by decide +kernel) rfl), (gw_t 7 (by decide +kernel) rfl), by decide +kernel, by decide +kernel, trivial⟩, (gw_t 924 (by decide +kernel) rfl), (gw_t 925 (by decide +kernel) rfl)⟩
abbrev mdX6_trace : MD := (yX6_trace, cX6_trace, 1, (some .int), 1)
theorem clX6_trace : CLV mdX6_trace := ⟨⟨(gw_t 930 (by decide +kernel) rfl), (gw_t 7 (by decide +kernel) rfl), by decide +kernel, by decide +kernel, trivial⟩, (gw_t 928 (by decide +kernel) rfl), (gw_t 929 (by decide +kernel) rfl)⟩
abbrev mdX6_fault : MD := (yX6_fault, cX6_fault, 1, (some .int), 1)
theorem clX6_fault : CLV mdX6_fault := ⟨⟨(gw_t 934 (by decide +kernel) rfl), (gw_t 7 (by decide +kernel) rfl), by decide +kernel, by decide +kernel, trivial⟩, (gw_t 932 (by decide +kernel) rfl), (gw_t 933 (by decide +kernel) rfl)⟩
abbrev mdX6_many : MD := (yX6_many, cX6_many, 2, (some .int), 2)
theorem clX6_many : CLV mdX6_many := ⟨⟨(gw_t 938 (by decide +kernel) rfl), (gw_t 7 (by decide +kernel) rfl), by decide +kernel, by decide +kernel, trivial⟩, (gw_t 936 (by decide +kernel) rfl), (gw_t 937 (by decide +kernel) rfl)⟩
abbrev mdJ7_fill_53178 : MD := (yJ7_fill_53178, cJ7_fill_53178, 4, none, 1)
theorem clJ7_fill_53178 : CLS mdJ7_fill_53178 := ⟨⟨(gw_t 315 (by decide +kernel) rfl), (gw_t 8 (by decide +kernel) rfl), by decide +kernel, by decide +kernel, trivial⟩, (gw_t 314 (by decide +kernel) rfl)⟩
theorem ml_X5_55 : Cond.methodLink RX5 55 yX5_isSheet ∈ gW := (gw_t 173 (by decide +kernel) rfl)
theorem ml_X5_59 : Cond.methodLink RX5 59 yX5_isLane ∈ gW := (gw_t 176 (by decide +kernel) rfl)
theorem ml_X5_62 : Cond.methodLink RX5 62 yX3_faultAs ∈ gW := (gw_t 179 (by decide +kernel) rfl)
theorem ml_X5_66 : Cond.methodLink RX5 66 yX3_spans ∈ gW := (gw_t 183 (by decide +kernel) rfl)
theorem ml_X5_70 : Cond.methodLink RX5 70 yX5_failed ∈ gW := (gw_t 187 (by decide +kernel) rfl)
theorem ml_X5_73 : Cond.methodLink RX5 73 yX2_firstFault ∈ gW := (gw_t 191 (by decide +kernel) rfl)
theorem ml_X2_33 : Cond.methodLink RX2 33 yX3_at ∈ gW := (gw_t 195 (by decide +kernel) rfl)
theorem ml_X3_32 : Cond.methodLink RX3 32 yX3_has ∈ gW := (gw_t 199 (by decide +kernel) rfl)
theorem ml_X2_39 : Cond.methodLink RX2 39 yX2_goesOn ∈ gW := (gw_t 203 (by decide +kernel) rfl)
theorem ml_X2_43 : Cond.methodLink RX2 43 yX2_lengthOfText ∈ gW := (gw_t 206 (by decide +kernel) rfl)
theorem ml_X2_47 : Cond.methodLink RX2 47 yX2_signOf ∈ gW := (gw_t 209 (by decide +kernel) rfl)
theorem ml_X5_77 : Cond.methodLink RX5 77 yX2_build ∈ gW := (gw_t 212 (by decide +kernel) rfl)
theorem ml_X5_83 : Cond.methodLink RX5 83 yX2_cells ∈ gW := (gw_t 216 (by decide +kernel) rfl)
theorem ml_X5_87 : Cond.methodLink RX5 87 yX2_hasCell ∈ gW := (gw_t 224 (by decide +kernel) rfl)
theorem ml_X2_29 : Cond.methodLink RX2 29 yX2_cells ∈ gW := (gw_t 228 (by decide +kernel) rfl)
theorem ml_X5_94 : Cond.methodLink RX5 94 yX2_hasColumn ∈ gW := (gw_t 237 (by decide +kernel) rfl)
theorem ml_X5_100 : Cond.methodLink RX5 100 yX2_stands ∈ gW := (gw_t 245 (by decide +kernel) rfl)
theorem ml_X5_108 : Cond.methodLink RX5 108 yX5_isKind ∈ gW := (gw_t 253 (by decide +kernel) rfl)
theorem ml_X5_111 : Cond.methodLink RX5 111 yX4_add ∈ gW := (gw_t 256 (by decide +kernel) rfl)
theorem ml_X5_115 : Cond.methodLink RX5 115 yX4_has ∈ gW := (gw_t 264 (by decide +kernel) rfl)
theorem ml_X5_124 : Cond.methodLink RX5 124 yX2_partsLeft ∈ gW := (gw_t 268 (by decide +kernel) rfl)
theorem ml_X5_127 : Cond.methodLink RX5 127 yX2_partsRight ∈ gW := (gw_t 272 (by decide +kernel) rfl)
theorem ml_X5_130 : Cond.methodLink RX5 130 yX5_rollBy ∈ gW := (gw_t 284 (by decide +kernel) rfl)
theorem ml_X5_137 : Cond.methodLink RX5 137 yX3_has ∈ gW := (gw_t 288 (by decide +kernel) rfl)
theorem ml_X5_138 : Cond.methodLink RX5 138 yX3_at ∈ gW := (gw_t 289 (by decide +kernel) rfl)
theorem ml_X5_141 : Cond.methodLink RX5 141 yX2_below ∈ gW := (gw_t 290 (by decide +kernel) rfl)
theorem ml_X2_50 : Cond.methodLink RX2 50 yX2_partsLeft ∈ gW := (gw_t 294 (by decide +kernel) rfl)
theorem ml_X2_53 : Cond.methodLink RX2 53 yX2_belowLeft ∈ gW := (gw_t 295 (by decide +kernel) rfl)
theorem ml_X2_56 : Cond.methodLink RX2 56 yX2_partsRight ∈ gW := (gw_t 299 (by decide +kernel) rfl)
theorem ml_X2_59 : Cond.methodLink RX2 59 yX2_belowRight ∈ gW := (gw_t 300 (by decide +kernel) rfl)
theorem ml_X5_147 : Cond.methodLink RX5 147 yX1_drop ∈ gW := (gw_t 309 (by decide +kernel) rfl)
theorem ml_X1_37 : Cond.methodLink RX1 37 yJ7_fill_53178 ∈ gW := (gw_t 313 (by decide +kernel) rfl)
theorem ml_X1_44 : Cond.methodLink RX1 44 yX1_runDown ∈ gW := (gw_t 317 (by decide +kernel) rfl)
theorem ml_X1_60 : Cond.methodLink RX1 60 yX2_cells ∈ gW := (gw_t 321 (by decide +kernel) rfl)
theorem ml_X1_69 : Cond.methodLink RX1 69 yX2_partsLeft ∈ gW := (gw_t 322 (by decide +kernel) rfl)
theorem ml_X1_73 : Cond.methodLink RX1 73 yX2_partsRight ∈ gW := (gw_t 323 (by decide +kernel) rfl)
theorem ml_X1_76 : Cond.methodLink RX1 76 yX2_belowLeft ∈ gW := (gw_t 324 (by decide +kernel) rfl)
theorem ml_X1_80 : Cond.methodLink RX1 80 yX2_belowRight ∈ gW := (gw_t 325 (by decide +kernel) rfl)
theorem ml_X5_151 : Cond.methodLink RX5 151 yX1_stuck ∈ gW := (gw_t 326 (by decide +kernel) rfl)
theorem ml_X1_86 : Cond.methodLink RX1 86 yX1_arrived ∈ gW := (gw_t 330 (by decide +kernel) rfl)
theorem ml_X5_154 : Cond.methodLink RX5 154 yX1_arrived ∈ gW := (gw_t 334 (by decide +kernel) rfl)
theorem ml_X5_157 : Cond.methodLink RX5 157 yX5_leastTerms ∈ gW := (gw_t 335 (by decide +kernel) rfl)
theorem ml_X5_160 : Cond.methodLink RX5 160 yX5_isParty ∈ gW := (gw_t 343 (by decide +kernel) rfl)
theorem ml_X5_163 : Cond.methodLink RX5 163 yX1_expected ∈ gW := (gw_t 346 (by decide +kernel) rfl)
theorem ml_X1_100 : Cond.methodLink RX1 100 yX1_appraiseAll ∈ gW := (gw_t 350 (by decide +kernel) rfl)
theorem ml_X1_89 : Cond.methodLink RX1 89 yX1_appraise ∈ gW := (gw_t 354 (by decide +kernel) rfl)
theorem ml_X1_96 : Cond.methodLink RX1 96 yX1_worthUnder ∈ gW := (gw_t 358 (by decide +kernel) rfl)
theorem ml_X5_167 : Cond.methodLink RX5 167 yX1_bestStart ∈ gW := (gw_t 366 (by decide +kernel) rfl)
theorem ml_X5_170 : Cond.methodLink RX5 170 yX1_bestMove ∈ gW := (gw_t 374 (by decide +kernel) rfl)
theorem ml_X1_104 : Cond.methodLink RX1 104 yX1_dropAll ∈ gW := (gw_t 378 (by decide +kernel) rfl)
theorem ml_X1_108 : Cond.methodLink RX1 108 yX1_gain ∈ gW := (gw_t 382 (by decide +kernel) rfl)
theorem ml_X5_173 : Cond.methodLink RX5 173 yX1_likeliestEnd ∈ gW := (gw_t 394 (by decide +kernel) rfl)
theorem ml_X1_112 : Cond.methodLink RX1 112 yX1_drop ∈ gW := (gw_t 398 (by decide +kernel) rfl)
theorem ml_X1_115 : Cond.methodLink RX1 115 yX1_stuck ∈ gW := (gw_t 399 (by decide +kernel) rfl)
theorem ml_X5_176 : Cond.methodLink RX5 176 yX1_tallyOf ∈ gW := (gw_t 404 (by decide +kernel) rfl)
theorem ml_X1_118 : Cond.methodLink RX1 118 yX1_findLeanings ∈ gW := (gw_t 408 (by decide +kernel) rfl)
theorem ml_X1_127 : Cond.methodLink RX1 127 yX1_likeliestEnd ∈ gW := (gw_t 412 (by decide +kernel) rfl)
theorem ml_X1_121 : Cond.methodLink RX1 121 yX1_tallyWithout ∈ gW := (gw_t 413 (by decide +kernel) rfl)
theorem ml_X5_179 : Cond.methodLink RX5 179 yX1_winnerOfAll ∈ gW := (gw_t 421 (by decide +kernel) rfl)
theorem ml_X1_124 : Cond.methodLink RX1 124 yX1_winnerWithout ∈ gW := (gw_t 425 (by decide +kernel) rfl)
theorem ml_X5_182 : Cond.methodLink RX5 182 yX1_votesItHangsOn ∈ gW := (gw_t 429 (by decide +kernel) rfl)
theorem ml_X5_185 : Cond.methodLink RX5 185 yX1_damsReached ∈ gW := (gw_t 437 (by decide +kernel) rfl)
theorem ml_X5_192 : Cond.methodLink RX5 192 yX0_take ∈ gW := (gw_t 445 (by decide +kernel) rfl)
theorem ml_X0_27 : Cond.methodLink RX0 27 yJ7_fill_53178 ∈ gW := (gw_t 449 (by decide +kernel) rfl)
theorem ml_X0_33 : Cond.methodLink RX0 33 yX3_at ∈ gW := (gw_t 450 (by decide +kernel) rfl)
theorem ml_X5_199 : Cond.methodLink RX5 199 yX1_endsOf ∈ gW := (gw_t 451 (by decide +kernel) rfl)
theorem ml_X5_202 : Cond.methodLink RX5 202 yX0_rows ∈ gW := (gw_t 455 (by decide +kernel) rfl)
theorem ml_X0_39 : Cond.methodLink RX0 39 yX0_layOut ∈ gW := (gw_t 459 (by decide +kernel) rfl)
theorem ml_X0_43 : Cond.methodLink RX0 43 yX0_placeNextVote ∈ gW := (gw_t 463 (by decide +kernel) rfl)
theorem ml_X0_47 : Cond.methodLink RX0 47 yX0_nextUsed ∈ gW := (gw_t 467 (by decide +kernel) rfl)
theorem ml_X5_205 : Cond.methodLink RX5 205 yX0_endsOfRows ∈ gW := (gw_t 471 (by decide +kernel) rfl)
theorem ml_X0_50 : Cond.methodLink RX0 50 yX0_rows ∈ gW := (gw_t 475 (by decide +kernel) rfl)
theorem ml_X5_208 : Cond.methodLink RX5 208 yX1_fairColumns ∈ gW := (gw_t 480 (by decide +kernel) rfl)
theorem ml_X1_130 : Cond.methodLink RX1 130 yX1_isFair ∈ gW := (gw_t 484 (by decide +kernel) rfl)
theorem ml_X1_134 : Cond.methodLink RX1 134 yX2_hasTroughOf ∈ gW := (gw_t 488 (by decide +kernel) rfl)
theorem ml_X5_211 : Cond.methodLink RX5 211 yX3_renew ∈ gW := (gw_t 496 (by decide +kernel) rfl)
theorem ml_X3_26 : Cond.methodLink RX3 26 yJ7_fill_53178 ∈ gW := (gw_t 500 (by decide +kernel) rfl)
theorem ml_X5_217 : Cond.methodLink RX5 217 yX3_write ∈ gW := (gw_t 509 (by decide +kernel) rfl)
theorem ml_X3_36 : Cond.methodLink RX3 36 yX3_cut ∈ gW := (gw_t 513 (by decide +kernel) rfl)
theorem ml_X5_232 : Cond.methodLink RX5 232 yX5_toldByLead ∈ gW := (gw_t 532 (by decide +kernel) rfl)
theorem ml_X5_241 : Cond.methodLink RX5 241 yX5_leaveTrace ∈ gW := (gw_t 536 (by decide +kernel) rfl)
theorem ml_X5_235 : Cond.methodLink RX5 235 yX5_toldByHeavy ∈ gW := (gw_t 540 (by decide +kernel) rfl)
theorem ml_X5_238 : Cond.methodLink RX5 238 yX5_toldByMarble ∈ gW := (gw_t 544 (by decide +kernel) rfl)
theorem ml_X6_117 : Cond.methodLink RX6 117 yX6_noSheet ∈ gW := (gw_t 661 (by decide +kernel) rfl)
theorem ml_X6_79 : Cond.methodLink RX6 79 yX6_in ∈ gW := (gw_t 665 (by decide +kernel) rfl)
theorem ml_X6_121 : Cond.methodLink RX6 121 yX6_refused ∈ gW := (gw_t 668 (by decide +kernel) rfl)
theorem ml_X6_126 : Cond.methodLink RX6 126 yX6_cellsBarred ∈ gW := (gw_t 673 (by decide +kernel) rfl)
theorem ml_X6_110 : Cond.methodLink RX6 110 yX6_failed ∈ gW := (gw_t 677 (by decide +kernel) rfl)
theorem ml_X6_113 : Cond.methodLink RX6 113 yX6_isBeyond ∈ gW := (gw_t 681 (by decide +kernel) rfl)
theorem ml_X6_130 : Cond.methodLink RX6 130 yX6_readsHill ∈ gW := (gw_t 684 (by decide +kernel) rfl)
theorem ml_X6_88 : Cond.methodLink RX6 88 yX6_codeAt ∈ gW := (gw_t 688 (by decide +kernel) rfl)
theorem ml_X6_96 : Cond.methodLink RX6 96 yX6_figure ∈ gW := (gw_t 692 (by decide +kernel) rfl)
theorem ml_X6_106 : Cond.methodLink RX6 106 yX6_readsCell ∈ gW := (gw_t 696 (by decide +kernel) rfl)
theorem ml_X6_92 : Cond.methodLink RX6 92 yX6_signBy ∈ gW := (gw_t 700 (by decide +kernel) rfl)
theorem ml_X6_75 : Cond.methodLink RX6 75 yX6_cells ∈ gW := (gw_t 703 (by decide +kernel) rfl)
theorem ml_X6_141 : Cond.methodLink RX6 141 yX6_noCell ∈ gW := (gw_t 711 (by decide +kernel) rfl)
theorem ml_X6_146 : Cond.methodLink RX6 146 yX6_noColumn ∈ gW := (gw_t 724 (by decide +kernel) rfl)
theorem ml_X6_149 : Cond.methodLink RX6 149 yX6_noVote ∈ gW := (gw_t 740 (by decide +kernel) rfl)
theorem ml_X6_152 : Cond.methodLink RX6 152 yX6_leftOf ∈ gW := (gw_t 744 (by decide +kernel) rfl)
theorem ml_X6_155 : Cond.methodLink RX6 155 yX6_rightOf ∈ gW := (gw_t 748 (by decide +kernel) rfl)
theorem ml_X6_158 : Cond.methodLink RX6 158 yX6_leftBy ∈ gW := (gw_t 761 (by decide +kernel) rfl)
theorem ml_X6_161 : Cond.methodLink RX6 161 yX6_rightBy ∈ gW := (gw_t 765 (by decide +kernel) rfl)
theorem ml_X6_166 : Cond.methodLink RX6 166 yX6_goesOn ∈ gW := (gw_t 769 (by decide +kernel) rfl)
theorem ml_X6_65 : Cond.methodLink RX6 65 yX6_lost ∈ gW := (gw_t 777 (by decide +kernel) rfl)
theorem ml_X6_183 : Cond.methodLink RX6 183 yX6_layVote ∈ gW := (gw_t 781 (by decide +kernel) rfl)
theorem ml_X6_179 : Cond.methodLink RX6 179 yX6_layChances ∈ gW := (gw_t 785 (by decide +kernel) rfl)
theorem ml_X6_187 : Cond.methodLink RX6 187 yX6_told ∈ gW := (gw_t 790 (by decide +kernel) rfl)
theorem ml_X6_195 : Cond.methodLink RX6 195 yX6_noParty ∈ gW := (gw_t 797 (by decide +kernel) rfl)
theorem ml_X6_198 : Cond.methodLink RX6 198 yX6_expectsNow ∈ gW := (gw_t 800 (by decide +kernel) rfl)
theorem ml_X6_191 : Cond.methodLink RX6 191 yX6_partsFor ∈ gW := (gw_t 804 (by decide +kernel) rfl)
theorem ml_X6_203 : Cond.methodLink RX6 203 yX6_moveOf ∈ gW := (gw_t 817 (by decide +kernel) rfl)
theorem ml_X6_206 : Cond.methodLink RX6 206 yX6_likeliestOf ∈ gW := (gw_t 829 (by decide +kernel) rfl)
theorem ml_X6_209 : Cond.methodLink RX6 209 yX6_tallyOf ∈ gW := (gw_t 837 (by decide +kernel) rfl)
theorem ml_X6_212 : Cond.methodLink RX6 212 yX6_winnerBut ∈ gW := (gw_t 845 (by decide +kernel) rfl)
theorem ml_X6_215 : Cond.methodLink RX6 215 yX6_holdsNow ∈ gW := (gw_t 853 (by decide +kernel) rfl)
theorem ml_X6_218 : Cond.methodLink RX6 218 yX6_setAll ∈ gW := (gw_t 857 (by decide +kernel) rfl)
theorem ml_X6_225 : Cond.methodLink RX6 225 yX6_layCan ∈ gW := (gw_t 865 (by decide +kernel) rfl)
theorem ml_X6_228 : Cond.methodLink RX6 228 yX6_waysBy ∈ gW := (gw_t 869 (by decide +kernel) rfl)
theorem ml_X6_222 : Cond.methodLink RX6 222 yX6_bits ∈ gW := (gw_t 873 (by decide +kernel) rfl)
theorem ml_X6_231 : Cond.methodLink RX6 231 yX6_isIn ∈ gW := (gw_t 876 (by decide +kernel) rfl)
theorem ml_X6_234 : Cond.methodLink RX6 234 yX6_noCell_ ∈ gW := (gw_t 895 (by decide +kernel) rfl)
theorem ml_X6_236 : Cond.methodLink RX6 236 yX6_failedLong ∈ gW := (gw_t 903 (by decide +kernel) rfl)
theorem ml_X6_242 : Cond.methodLink RX6 242 yX6_traced ∈ gW := (gw_t 915 (by decide +kernel) rfl)
theorem cn_X1_43 : Cond.constant RX1 43 32768 ∈ gW := (gw_t 316 (by decide +kernel) rfl)
theorem cn_X5_166 : Cond.constant RX5 166 32768 ∈ gW := (gw_t 338 (by decide +kernel) rfl)
theorem cn_X5_145 : Cond.constantLong RX5 145 (-9223372036854775808) ∈ gW := (gw_t 308 (by decide +kernel) rfl)
theorem cn_X6_83 : Cond.constantLong RX6 83 3 ∈ gW := (gw_t 664 (by decide +kernel) rfl)
theorem cn_X6_124 : Cond.constantLong RX6 124 2 ∈ gW := (gw_t 672 (by decide +kernel) rfl)
theorem cn_X6_144 : Cond.constantLong RX6 144 4 ∈ gW := (gw_t 719 (by decide +kernel) rfl)
theorem cn_X6_164 : Cond.constantLong RX6 164 7 ∈ gW := (gw_t 760 (by decide +kernel) rfl)
theorem cn_X6_59 : Cond.constantLong RX6 59 (-9223372036854775808) ∈ gW := (gw_t 780 (by decide +kernel) rfl)
theorem cn_X6_177 : Cond.constantLong RX6 177 8 ∈ gW := (gw_t 789 (by decide +kernel) rfl)
theorem cn_X6_201 : Cond.constantLong RX6 201 (-1) ∈ gW := (gw_t 812 (by decide +kernel) rfl)
end
