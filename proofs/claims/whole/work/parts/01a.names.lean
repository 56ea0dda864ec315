-- ===== PART A: goes FIRST, ahead of the names: the tables' words, and 'selects' of the private methods out of them =====
/-- a private method of a class that the tables say can be made, by its rows of tables_1 -/
def lw_okq (q : MethodName × Nat) : Prop := (q.1.cls ≠ "java/lang/invoke/MethodHandle" ∧ q.1.cls ≠ "java/lang/invoke/VarHandle") ∧ Cond.instantiable q.1.cls q.2 ∈ tables_1 ∧ Cond.privateMethod q.1 ∈ tables_1 ∧ Cond.instanceMethod q.1 ∈ tables_1
theorem lw_p0 : lw_okq (⟨"CoresAreWills", "refused", "(I)I"⟩, 11) := ⟨⟨by decide +kernel, by decide +kernel⟩, List.mem_of_getElem? (i := 17) (by decide +kernel), List.mem_of_getElem? (i := 147) (by decide +kernel), List.mem_of_getElem? (i := 148) (by decide +kernel)⟩
theorem lw_p1 : lw_okq (⟨"CoresAreWills", "trialOfText", "()I"⟩, 11) := ⟨⟨by decide +kernel, by decide +kernel⟩, List.mem_of_getElem? (i := 17) (by decide +kernel), List.mem_of_getElem? (i := 159) (by decide +kernel), List.mem_of_getElem? (i := 160) (by decide +kernel)⟩
theorem lw_p2 : lw_okq (⟨"CoresAreWills$Text", "letterAt", "(I)I"⟩, 2) := ⟨⟨by decide +kernel, by decide +kernel⟩, List.mem_of_getElem? (i := 95) (by decide +kernel), List.mem_of_getElem? (i := 171) (by decide +kernel), List.mem_of_getElem? (i := 172) (by decide +kernel)⟩
theorem lw_p3 : lw_okq (⟨"CoresAreWills$Text", "kindAt", "(I)I"⟩, 2) := ⟨⟨by decide +kernel, by decide +kernel⟩, List.mem_of_getElem? (i := 95) (by decide +kernel), List.mem_of_getElem? (i := 303) (by decide +kernel), List.mem_of_getElem? (i := 304) (by decide +kernel)⟩
theorem lw_p4 : lw_okq (⟨"CoresAreWills$Text", "digitAt", "(I)I"⟩, 2) := ⟨⟨by decide +kernel, by decide +kernel⟩, List.mem_of_getElem? (i := 95) (by decide +kernel), List.mem_of_getElem? (i := 307) (by decide +kernel), List.mem_of_getElem? (i := 308) (by decide +kernel)⟩
theorem lw_p5 : lw_okq (⟨"CoresAreWills$Text", "numberAt", "(I)I"⟩, 2) := ⟨⟨by decide +kernel, by decide +kernel⟩, List.mem_of_getElem? (i := 95) (by decide +kernel), List.mem_of_getElem? (i := 315) (by decide +kernel), List.mem_of_getElem? (i := 316) (by decide +kernel)⟩
theorem lw_p6 : lw_okq (⟨"CoresAreWills", "isHeir", "(I)Z"⟩, 11) := ⟨⟨by decide +kernel, by decide +kernel⟩, List.mem_of_getElem? (i := 17) (by decide +kernel), List.mem_of_getElem? (i := 375) (by decide +kernel), List.mem_of_getElem? (i := 376) (by decide +kernel)⟩
theorem lw_p7 : lw_okq (⟨"CoresAreWills", "shareOf", "(II)I"⟩, 11) := ⟨⟨by decide +kernel, by decide +kernel⟩, List.mem_of_getElem? (i := 17) (by decide +kernel), List.mem_of_getElem? (i := 379) (by decide +kernel), List.mem_of_getElem? (i := 380) (by decide +kernel)⟩
theorem lw_p8 : lw_okq (⟨"CoresAreWills", "readShare", "(I)I"⟩, 11) := ⟨⟨by decide +kernel, by decide +kernel⟩, List.mem_of_getElem? (i := 17) (by decide +kernel), List.mem_of_getElem? (i := 390) (by decide +kernel), List.mem_of_getElem? (i := 391) (by decide +kernel)⟩
theorem lw_p9 : lw_okq (⟨"CoresAreWills", "isLeft", "(I)Z"⟩, 11) := ⟨⟨by decide +kernel, by decide +kernel⟩, List.mem_of_getElem? (i := 17) (by decide +kernel), List.mem_of_getElem? (i := 412) (by decide +kernel), List.mem_of_getElem? (i := 413) (by decide +kernel)⟩
theorem lw_p10 : lw_okq (⟨"CoresAreWills", "sharesTogether", "(I)I"⟩, 11) := ⟨⟨by decide +kernel, by decide +kernel⟩, List.mem_of_getElem? (i := 17) (by decide +kernel), List.mem_of_getElem? (i := 438) (by decide +kernel), List.mem_of_getElem? (i := 439) (by decide +kernel)⟩
theorem lw_p11 : lw_okq (⟨"CoresAreWills", "richest", "()I"⟩, 11) := ⟨⟨by decide +kernel, by decide +kernel⟩, List.mem_of_getElem? (i := 17) (by decide +kernel), List.mem_of_getElem? (i := 442) (by decide +kernel), List.mem_of_getElem? (i := 443) (by decide +kernel)⟩
theorem lw_p12 : lw_okq (⟨"CoresAreWills$Cover", "empties", "()V"⟩, 4) := ⟨⟨by decide +kernel, by decide +kernel⟩, List.mem_of_getElem? (i := 76) (by decide +kernel), List.mem_of_getElem? (i := 483) (by decide +kernel), List.mem_of_getElem? (i := 484) (by decide +kernel)⟩
theorem lw_p13 : lw_okq (⟨"CoresAreWills$Cover", "comesTo", "(III)V"⟩, 4) := ⟨⟨by decide +kernel, by decide +kernel⟩, List.mem_of_getElem? (i := 76) (by decide +kernel), List.mem_of_getElem? (i := 487) (by decide +kernel), List.mem_of_getElem? (i := 488) (by decide +kernel)⟩
theorem lw_p14 : lw_okq (⟨"CoresAreWills$Cover", "steps", "()V"⟩, 4) := ⟨⟨by decide +kernel, by decide +kernel⟩, List.mem_of_getElem? (i := 76) (by decide +kernel), List.mem_of_getElem? (i := 493) (by decide +kernel), List.mem_of_getElem? (i := 494) (by decide +kernel)⟩
theorem lw_p15 : lw_okq (⟨"CoresAreWills$Cover", "goesOn", "(III)V"⟩, 4) := ⟨⟨by decide +kernel, by decide +kernel⟩, List.mem_of_getElem? (i := 76) (by decide +kernel), List.mem_of_getElem? (i := 497) (by decide +kernel), List.mem_of_getElem? (i := 498) (by decide +kernel)⟩
def lw_privs_1 : List (MethodName × Nat) := [(⟨"CoresAreWills", "refused", "(I)I"⟩, 11), (⟨"CoresAreWills", "trialOfText", "()I"⟩, 11), (⟨"CoresAreWills$Text", "letterAt", "(I)I"⟩, 2), (⟨"CoresAreWills$Text", "kindAt", "(I)I"⟩, 2), (⟨"CoresAreWills$Text", "digitAt", "(I)I"⟩, 2), (⟨"CoresAreWills$Text", "numberAt", "(I)I"⟩, 2), (⟨"CoresAreWills", "isHeir", "(I)Z"⟩, 11), (⟨"CoresAreWills", "shareOf", "(II)I"⟩, 11), (⟨"CoresAreWills", "readShare", "(I)I"⟩, 11), (⟨"CoresAreWills", "isLeft", "(I)Z"⟩, 11), (⟨"CoresAreWills", "sharesTogether", "(I)I"⟩, 11), (⟨"CoresAreWills", "richest", "()I"⟩, 11), (⟨"CoresAreWills$Cover", "empties", "()V"⟩, 4), (⟨"CoresAreWills$Cover", "comesTo", "(III)V"⟩, 4), (⟨"CoresAreWills$Cover", "steps", "()V"⟩, 4), (⟨"CoresAreWills$Cover", "goesOn", "(III)V"⟩, 4)]
theorem lw_r1 : ∀ q ∈ lw_privs_1, lw_okq q := List.forall_mem_cons.mpr ⟨lw_p0, List.forall_mem_cons.mpr ⟨lw_p1, List.forall_mem_cons.mpr ⟨lw_p2, List.forall_mem_cons.mpr ⟨lw_p3, List.forall_mem_cons.mpr ⟨lw_p4, List.forall_mem_cons.mpr ⟨lw_p5, List.forall_mem_cons.mpr ⟨lw_p6, List.forall_mem_cons.mpr ⟨lw_p7, List.forall_mem_cons.mpr ⟨lw_p8, List.forall_mem_cons.mpr ⟨lw_p9, List.forall_mem_cons.mpr ⟨lw_p10, List.forall_mem_cons.mpr ⟨lw_p11, List.forall_mem_cons.mpr ⟨lw_p12, List.forall_mem_cons.mpr ⟨lw_p13, List.forall_mem_cons.mpr ⟨lw_p14, List.forall_mem_cons.mpr ⟨lw_p15, fun _ h => absurd h List.not_mem_nil⟩⟩⟩⟩⟩⟩⟩⟩⟩⟩⟩⟩⟩⟩⟩⟩
theorem lw_p16 : lw_okq (⟨"CoresAreWills", "isSettled", "(I)Z"⟩, 11) := ⟨⟨by decide +kernel, by decide +kernel⟩, List.mem_of_getElem? (i := 17) (by decide +kernel), List.mem_of_getElem? (i := 520) (by decide +kernel), List.mem_of_getElem? (i := 521) (by decide +kernel)⟩
theorem lw_p17 : lw_okq (⟨"CoresAreWills", "firstCellThatSettles", "(II)I"⟩, 11) := ⟨⟨by decide +kernel, by decide +kernel⟩, List.mem_of_getElem? (i := 17) (by decide +kernel), List.mem_of_getElem? (i := 524) (by decide +kernel), List.mem_of_getElem? (i := 525) (by decide +kernel)⟩
theorem lw_p18 : lw_okq (⟨"CoresAreWills", "firstOfTwoThatSettle", "()I"⟩, 11) := ⟨⟨by decide +kernel, by decide +kernel⟩, List.mem_of_getElem? (i := 17) (by decide +kernel), List.mem_of_getElem? (i := 528) (by decide +kernel), List.mem_of_getElem? (i := 529) (by decide +kernel)⟩
theorem lw_p19 : lw_okq (⟨"CoresAreWills", "furthestBite", "(III)I"⟩, 11) := ⟨⟨by decide +kernel, by decide +kernel⟩, List.mem_of_getElem? (i := 17) (by decide +kernel), List.mem_of_getElem? (i := 563) (by decide +kernel), List.mem_of_getElem? (i := 564) (by decide +kernel)⟩
theorem lw_p20 : lw_okq (⟨"CoresAreWills", "toldBite", "(III)I"⟩, 11) := ⟨⟨by decide +kernel, by decide +kernel⟩, List.mem_of_getElem? (i := 17) (by decide +kernel), List.mem_of_getElem? (i := 567) (by decide +kernel), List.mem_of_getElem? (i := 568) (by decide +kernel)⟩
theorem lw_p21 : lw_okq (⟨"CoresAreWills", "firstBiteTo", "(IIII)I"⟩, 11) := ⟨⟨by decide +kernel, by decide +kernel⟩, List.mem_of_getElem? (i := 17) (by decide +kernel), List.mem_of_getElem? (i := 582) (by decide +kernel), List.mem_of_getElem? (i := 583) (by decide +kernel)⟩
theorem lw_p22 : lw_okq (⟨"CoresAreWills", "firstOfTwoBitesTo", "(II)I"⟩, 11) := ⟨⟨by decide +kernel, by decide +kernel⟩, List.mem_of_getElem? (i := 17) (by decide +kernel), List.mem_of_getElem? (i := 586) (by decide +kernel), List.mem_of_getElem? (i := 587) (by decide +kernel)⟩
theorem lw_p23 : lw_okq (⟨"CoresAreWills", "changesNobody", "(I)Z"⟩, 11) := ⟨⟨by decide +kernel, by decide +kernel⟩, List.mem_of_getElem? (i := 17) (by decide +kernel), List.mem_of_getElem? (i := 594) (by decide +kernel), List.mem_of_getElem? (i := 595) (by decide +kernel)⟩
theorem lw_p24 : lw_okq (⟨"CoresAreWills", "areTwo", "(II)Z"⟩, 11) := ⟨⟨by decide +kernel, by decide +kernel⟩, List.mem_of_getElem? (i := 17) (by decide +kernel), List.mem_of_getElem? (i := 606) (by decide +kernel), List.mem_of_getElem? (i := 607) (by decide +kernel)⟩
theorem lw_p25 : lw_okq (⟨"CoresAreWills", "chosen", "(III)I"⟩, 11) := ⟨⟨by decide +kernel, by decide +kernel⟩, List.mem_of_getElem? (i := 17) (by decide +kernel), List.mem_of_getElem? (i := 615) (by decide +kernel), List.mem_of_getElem? (i := 616) (by decide +kernel)⟩
theorem lw_p26 : lw_okq (⟨"CoresAreWills", "singlesTo", "(IIII)I"⟩, 11) := ⟨⟨by decide +kernel, by decide +kernel⟩, List.mem_of_getElem? (i := 17) (by decide +kernel), List.mem_of_getElem? (i := 627) (by decide +kernel), List.mem_of_getElem? (i := 628) (by decide +kernel)⟩
theorem lw_p27 : lw_okq (⟨"CoresAreWills", "pairsTo", "(II)I"⟩, 11) := ⟨⟨by decide +kernel, by decide +kernel⟩, List.mem_of_getElem? (i := 17) (by decide +kernel), List.mem_of_getElem? (i := 631) (by decide +kernel), List.mem_of_getElem? (i := 632) (by decide +kernel)⟩
theorem lw_p28 : lw_okq (⟨"CoresAreWills", "fitsTold", "(II)Z"⟩, 11) := ⟨⟨by decide +kernel, by decide +kernel⟩, List.mem_of_getElem? (i := 17) (by decide +kernel), List.mem_of_getElem? (i := 643) (by decide +kernel), List.mem_of_getElem? (i := 644) (by decide +kernel)⟩
theorem lw_p29 : lw_okq (⟨"CoresAreWills", "firstWronglyTold", "()I"⟩, 11) := ⟨⟨by decide +kernel, by decide +kernel⟩, List.mem_of_getElem? (i := 17) (by decide +kernel), List.mem_of_getElem? (i := 655) (by decide +kernel), List.mem_of_getElem? (i := 656) (by decide +kernel)⟩
theorem lw_p30 : lw_okq (⟨"CoresAreWillsModel", "no", "(I)I"⟩, 26) := ⟨⟨by decide +kernel, by decide +kernel⟩, List.mem_of_getElem? (i := 688) (by decide +kernel), List.mem_of_getElem? (i := 778) (by decide +kernel), List.mem_of_getElem? (i := 779) (by decide +kernel)⟩
theorem lw_p31 : lw_okq (⟨"CoresAreWillsModel", "readsStatement", "()Z"⟩, 26) := ⟨⟨by decide +kernel, by decide +kernel⟩, List.mem_of_getElem? (i := 688) (by decide +kernel), List.mem_of_getElem? (i := 786) (by decide +kernel), List.mem_of_getElem? (i := 787) (by decide +kernel)⟩
def lw_privs_2 : List (MethodName × Nat) := [(⟨"CoresAreWills", "isSettled", "(I)Z"⟩, 11), (⟨"CoresAreWills", "firstCellThatSettles", "(II)I"⟩, 11), (⟨"CoresAreWills", "firstOfTwoThatSettle", "()I"⟩, 11), (⟨"CoresAreWills", "furthestBite", "(III)I"⟩, 11), (⟨"CoresAreWills", "toldBite", "(III)I"⟩, 11), (⟨"CoresAreWills", "firstBiteTo", "(IIII)I"⟩, 11), (⟨"CoresAreWills", "firstOfTwoBitesTo", "(II)I"⟩, 11), (⟨"CoresAreWills", "changesNobody", "(I)Z"⟩, 11), (⟨"CoresAreWills", "areTwo", "(II)Z"⟩, 11), (⟨"CoresAreWills", "chosen", "(III)I"⟩, 11), (⟨"CoresAreWills", "singlesTo", "(IIII)I"⟩, 11), (⟨"CoresAreWills", "pairsTo", "(II)I"⟩, 11), (⟨"CoresAreWills", "fitsTold", "(II)Z"⟩, 11), (⟨"CoresAreWills", "firstWronglyTold", "()I"⟩, 11), (⟨"CoresAreWillsModel", "no", "(I)I"⟩, 26), (⟨"CoresAreWillsModel", "readsStatement", "()Z"⟩, 26)]
theorem lw_r2 : ∀ q ∈ lw_privs_2, lw_okq q := List.forall_mem_cons.mpr ⟨lw_p16, List.forall_mem_cons.mpr ⟨lw_p17, List.forall_mem_cons.mpr ⟨lw_p18, List.forall_mem_cons.mpr ⟨lw_p19, List.forall_mem_cons.mpr ⟨lw_p20, List.forall_mem_cons.mpr ⟨lw_p21, List.forall_mem_cons.mpr ⟨lw_p22, List.forall_mem_cons.mpr ⟨lw_p23, List.forall_mem_cons.mpr ⟨lw_p24, List.forall_mem_cons.mpr ⟨lw_p25, List.forall_mem_cons.mpr ⟨lw_p26, List.forall_mem_cons.mpr ⟨lw_p27, List.forall_mem_cons.mpr ⟨lw_p28, List.forall_mem_cons.mpr ⟨lw_p29, List.forall_mem_cons.mpr ⟨lw_p30, List.forall_mem_cons.mpr ⟨lw_p31, fun _ h => absurd h List.not_mem_nil⟩⟩⟩⟩⟩⟩⟩⟩⟩⟩⟩⟩⟩⟩⟩⟩
theorem lw_p32 : lw_okq (⟨"CoresAreWillsModel", "here", "()I"⟩, 26) := ⟨⟨by decide +kernel, by decide +kernel⟩, List.mem_of_getElem? (i := 688) (by decide +kernel), List.mem_of_getElem? (i := 790) (by decide +kernel), List.mem_of_getElem? (i := 791) (by decide +kernel)⟩
theorem lw_p33 : lw_okq (⟨"CoresAreWillsModel", "readsKind", "()Z"⟩, 26) := ⟨⟨by decide +kernel, by decide +kernel⟩, List.mem_of_getElem? (i := 688) (by decide +kernel), List.mem_of_getElem? (i := 794) (by decide +kernel), List.mem_of_getElem? (i := 795) (by decide +kernel)⟩
theorem lw_p34 : lw_okq (⟨"CoresAreWillsModel", "readsNumber", "(II)Z"⟩, 26) := ⟨⟨by decide +kernel, by decide +kernel⟩, List.mem_of_getElem? (i := 688) (by decide +kernel), List.mem_of_getElem? (i := 801) (by decide +kernel), List.mem_of_getElem? (i := 802) (by decide +kernel)⟩
theorem lw_p35 : lw_okq (⟨"CoresAreWillsModel", "lays", "()V"⟩, 26) := ⟨⟨by decide +kernel, by decide +kernel⟩, List.mem_of_getElem? (i := 688) (by decide +kernel), List.mem_of_getElem? (i := 808) (by decide +kernel), List.mem_of_getElem? (i := 809) (by decide +kernel)⟩
theorem lw_p36 : lw_okq (⟨"CoresAreWillsModel", "isDone", "(I)Z"⟩, 26) := ⟨⟨by decide +kernel, by decide +kernel⟩, List.mem_of_getElem? (i := 688) (by decide +kernel), List.mem_of_getElem? (i := 812) (by decide +kernel), List.mem_of_getElem? (i := 813) (by decide +kernel)⟩
theorem lw_p37 : lw_okq (⟨"CoresAreWillsModel", "bitesOff", "(I)V"⟩, 26) := ⟨⟨by decide +kernel, by decide +kernel⟩, List.mem_of_getElem? (i := 688) (by decide +kernel), List.mem_of_getElem? (i := 825) (by decide +kernel), List.mem_of_getElem? (i := 826) (by decide +kernel)⟩
theorem lw_p38 : lw_okq (⟨"CoresAreWillsModel", "allAgain", "()V"⟩, 26) := ⟨⟨by decide +kernel, by decide +kernel⟩, List.mem_of_getElem? (i := 688) (by decide +kernel), List.mem_of_getElem? (i := 838) (by decide +kernel), List.mem_of_getElem? (i := 839) (by decide +kernel)⟩
theorem lw_p39 : lw_okq (⟨"CoresAreWillsModel", "laysBack", "()V"⟩, 26) := ⟨⟨by decide +kernel, by decide +kernel⟩, List.mem_of_getElem? (i := 688) (by decide +kernel), List.mem_of_getElem? (i := 842) (by decide +kernel), List.mem_of_getElem? (i := 843) (by decide +kernel)⟩
theorem lw_p40 : lw_okq (⟨"CoresAreWillsModel", "isHeir", "(I)Z"⟩, 26) := ⟨⟨by decide +kernel, by decide +kernel⟩, List.mem_of_getElem? (i := 688) (by decide +kernel), List.mem_of_getElem? (i := 863) (by decide +kernel), List.mem_of_getElem? (i := 864) (by decide +kernel)⟩
theorem lw_p41 : lw_okq (⟨"CoresAreWillsModel", "shareOf", "(II)I"⟩, 26) := ⟨⟨by decide +kernel, by decide +kernel⟩, List.mem_of_getElem? (i := 688) (by decide +kernel), List.mem_of_getElem? (i := 867) (by decide +kernel), List.mem_of_getElem? (i := 868) (by decide +kernel)⟩
theorem lw_p42 : lw_okq (⟨"CoresAreWillsModel", "sharesOf", "(I)I"⟩, 26) := ⟨⟨by decide +kernel, by decide +kernel⟩, List.mem_of_getElem? (i := 688) (by decide +kernel), List.mem_of_getElem? (i := 916) (by decide +kernel), List.mem_of_getElem? (i := 917) (by decide +kernel)⟩
theorem lw_p43 : lw_okq (⟨"CoresAreWillsModel", "biteTold", "(III)I"⟩, 26) := ⟨⟨by decide +kernel, by decide +kernel⟩, List.mem_of_getElem? (i := 688) (by decide +kernel), List.mem_of_getElem? (i := 938) (by decide +kernel), List.mem_of_getElem? (i := 939) (by decide +kernel)⟩
theorem lw_p44 : lw_okq (⟨"CoresAreWillsModel", "biteFor", "(III)I"⟩, 26) := ⟨⟨by decide +kernel, by decide +kernel⟩, List.mem_of_getElem? (i := 688) (by decide +kernel), List.mem_of_getElem? (i := 942) (by decide +kernel), List.mem_of_getElem? (i := 943) (by decide +kernel)⟩
theorem lw_p45 : lw_okq (⟨"CoresAreWillsModel", "isSoBy", "(IIII)Z"⟩, 26) := ⟨⟨by decide +kernel, by decide +kernel⟩, List.mem_of_getElem? (i := 688) (by decide +kernel), List.mem_of_getElem? (i := 957) (by decide +kernel), List.mem_of_getElem? (i := 958) (by decide +kernel)⟩
theorem lw_p46 : lw_okq (⟨"CoresAreWillsModel", "firstSo", "(III)I"⟩, 26) := ⟨⟨by decide +kernel, by decide +kernel⟩, List.mem_of_getElem? (i := 688) (by decide +kernel), List.mem_of_getElem? (i := 961) (by decide +kernel), List.mem_of_getElem? (i := 962) (by decide +kernel)⟩
theorem lw_p47 : lw_okq (⟨"CoresAreWillsModel", "comesTo", "(IIII)V"⟩, 26) := ⟨⟨by decide +kernel, by decide +kernel⟩, List.mem_of_getElem? (i := 688) (by decide +kernel), List.mem_of_getElem? (i := 978) (by decide +kernel), List.mem_of_getElem? (i := 979) (by decide +kernel)⟩
def lw_privs_3 : List (MethodName × Nat) := [(⟨"CoresAreWillsModel", "here", "()I"⟩, 26), (⟨"CoresAreWillsModel", "readsKind", "()Z"⟩, 26), (⟨"CoresAreWillsModel", "readsNumber", "(II)Z"⟩, 26), (⟨"CoresAreWillsModel", "lays", "()V"⟩, 26), (⟨"CoresAreWillsModel", "isDone", "(I)Z"⟩, 26), (⟨"CoresAreWillsModel", "bitesOff", "(I)V"⟩, 26), (⟨"CoresAreWillsModel", "allAgain", "()V"⟩, 26), (⟨"CoresAreWillsModel", "laysBack", "()V"⟩, 26), (⟨"CoresAreWillsModel", "isHeir", "(I)Z"⟩, 26), (⟨"CoresAreWillsModel", "shareOf", "(II)I"⟩, 26), (⟨"CoresAreWillsModel", "sharesOf", "(I)I"⟩, 26), (⟨"CoresAreWillsModel", "biteTold", "(III)I"⟩, 26), (⟨"CoresAreWillsModel", "biteFor", "(III)I"⟩, 26), (⟨"CoresAreWillsModel", "isSoBy", "(IIII)Z"⟩, 26), (⟨"CoresAreWillsModel", "firstSo", "(III)I"⟩, 26), (⟨"CoresAreWillsModel", "comesTo", "(IIII)V"⟩, 26)]
theorem lw_r3 : ∀ q ∈ lw_privs_3, lw_okq q := List.forall_mem_cons.mpr ⟨lw_p32, List.forall_mem_cons.mpr ⟨lw_p33, List.forall_mem_cons.mpr ⟨lw_p34, List.forall_mem_cons.mpr ⟨lw_p35, List.forall_mem_cons.mpr ⟨lw_p36, List.forall_mem_cons.mpr ⟨lw_p37, List.forall_mem_cons.mpr ⟨lw_p38, List.forall_mem_cons.mpr ⟨lw_p39, List.forall_mem_cons.mpr ⟨lw_p40, List.forall_mem_cons.mpr ⟨lw_p41, List.forall_mem_cons.mpr ⟨lw_p42, List.forall_mem_cons.mpr ⟨lw_p43, List.forall_mem_cons.mpr ⟨lw_p44, List.forall_mem_cons.mpr ⟨lw_p45, List.forall_mem_cons.mpr ⟨lw_p46, List.forall_mem_cons.mpr ⟨lw_p47, fun _ h => absurd h List.not_mem_nil⟩⟩⟩⟩⟩⟩⟩⟩⟩⟩⟩⟩⟩⟩⟩⟩
theorem lw_p48 : lw_okq (⟨"CoresAreWillsModel", "areTwo", "(II)Z"⟩, 26) := ⟨⟨by decide +kernel, by decide +kernel⟩, List.mem_of_getElem? (i := 688) (by decide +kernel), List.mem_of_getElem? (i := 1003) (by decide +kernel), List.mem_of_getElem? (i := 1004) (by decide +kernel)⟩
theorem lw_p49 : lw_okq (⟨"CoresAreWillsModel", "noFar", "(I)I"⟩, 26) := ⟨⟨by decide +kernel, by decide +kernel⟩, List.mem_of_getElem? (i := 688) (by decide +kernel), List.mem_of_getElem? (i := 1007) (by decide +kernel), List.mem_of_getElem? (i := 1008) (by decide +kernel)⟩
theorem lw_p50 : lw_okq (⟨"CoresAreWillsModel", "stepsFrom", "(I)I"⟩, 26) := ⟨⟨by decide +kernel, by decide +kernel⟩, List.mem_of_getElem? (i := 688) (by decide +kernel), List.mem_of_getElem? (i := 1019) (by decide +kernel), List.mem_of_getElem? (i := 1020) (by decide +kernel)⟩
theorem lw_p51 : lw_okq (⟨"CoresAreWillsModel", "shareBoth", "(IIIII)I"⟩, 26) := ⟨⟨by decide +kernel, by decide +kernel⟩, List.mem_of_getElem? (i := 688) (by decide +kernel), List.mem_of_getElem? (i := 1027) (by decide +kernel), List.mem_of_getElem? (i := 1028) (by decide +kernel)⟩
theorem lw_p52 : lw_okq (⟨"CoresAreWillsModel", "firstBite", "(I)I"⟩, 26) := ⟨⟨by decide +kernel, by decide +kernel⟩, List.mem_of_getElem? (i := 688) (by decide +kernel), List.mem_of_getElem? (i := 1031) (by decide +kernel), List.mem_of_getElem? (i := 1032) (by decide +kernel)⟩
theorem lw_p53 : lw_okq (⟨"CoresAreWillsModel", "noWide", "(I)J"⟩, 26) := ⟨⟨by decide +kernel, by decide +kernel⟩, List.mem_of_getElem? (i := 688) (by decide +kernel), List.mem_of_getElem? (i := 1039) (by decide +kernel), List.mem_of_getElem? (i := 1040) (by decide +kernel)⟩
theorem lw_p54 : lw_okq (⟨"CoresAreWillsModel", "waysFor", "(IIII)J"⟩, 26) := ⟨⟨by decide +kernel, by decide +kernel⟩, List.mem_of_getElem? (i := 688) (by decide +kernel), List.mem_of_getElem? (i := 1044) (by decide +kernel), List.mem_of_getElem? (i := 1045) (by decide +kernel)⟩
theorem lw_p55 : lw_okq (⟨"CoresAreWillsModel", "drawn", "(I)I"⟩, 26) := ⟨⟨by decide +kernel, by decide +kernel⟩, List.mem_of_getElem? (i := 688) (by decide +kernel), List.mem_of_getElem? (i := 1078) (by decide +kernel), List.mem_of_getElem? (i := 1079) (by decide +kernel)⟩
def lw_privs_4 : List (MethodName × Nat) := [(⟨"CoresAreWillsModel", "areTwo", "(II)Z"⟩, 26), (⟨"CoresAreWillsModel", "noFar", "(I)I"⟩, 26), (⟨"CoresAreWillsModel", "stepsFrom", "(I)I"⟩, 26), (⟨"CoresAreWillsModel", "shareBoth", "(IIIII)I"⟩, 26), (⟨"CoresAreWillsModel", "firstBite", "(I)I"⟩, 26), (⟨"CoresAreWillsModel", "noWide", "(I)J"⟩, 26), (⟨"CoresAreWillsModel", "waysFor", "(IIII)J"⟩, 26), (⟨"CoresAreWillsModel", "drawn", "(I)I"⟩, 26)]
theorem lw_r4 : ∀ q ∈ lw_privs_4, lw_okq q := List.forall_mem_cons.mpr ⟨lw_p48, List.forall_mem_cons.mpr ⟨lw_p49, List.forall_mem_cons.mpr ⟨lw_p50, List.forall_mem_cons.mpr ⟨lw_p51, List.forall_mem_cons.mpr ⟨lw_p52, List.forall_mem_cons.mpr ⟨lw_p53, List.forall_mem_cons.mpr ⟨lw_p54, List.forall_mem_cons.mpr ⟨lw_p55, fun _ h => absurd h List.not_mem_nil⟩⟩⟩⟩⟩⟩⟩⟩
def lw_privs : List (MethodName × Nat) := lw_privs_1 ++ (lw_privs_2 ++ (lw_privs_3 ++ (lw_privs_4)))
def lw_tbl : List Cond := k2_sels lw_privs ++ tables_1
theorem lw_privs_ok : ∀ q ∈ lw_privs, lw_okq q := by
  show ∀ q ∈ lw_privs_1 ++ (lw_privs_2 ++ (lw_privs_3 ++ (lw_privs_4))), lw_okq q
  exact List.forall_mem_append.mpr ⟨lw_r1, List.forall_mem_append.mpr ⟨lw_r2, List.forall_mem_append.mpr ⟨lw_r3, lw_r4⟩⟩⟩
-- ===== end of PART A; then your names; then what follows =====
def RX0 : String := "CoresAreWills$Core"
def TX0 : u_T := fun k => match k with
  | 0 => ("CoresAreWills$Core", "kinds", "[I", true)
  | 1 => ("CoresAreWills$Core", "figures", "[I", true)
  | 2 => ("CoresAreWills$Core", "heirs", "I", false)
  | 3 => ("CoresAreWills$Core", "left", "I", false)
  | _ => ("CoresAreWills$Core", "bitten", "I", false)
def tyX0 : Nat → FieldType := fun k => match k with
  | 0 => .array .int
  | 1 => .array .int
  | 2 => .int
  | 3 => .int
  | _ => .int
abbrev wsX00 : List Cond := u_ws RX0 TX0 5
theorem nmX0 : ∀ a, a < 5 → ∀ b, b < 5 → a ≠ b → (TX0 a).2.1 ≠ (TX0 b).2.1 := by decide +kernel
theorem tyX0_ok : ∀ k, k < 5 → parseFieldDescriptor (TX0 k).2.2.1 = some (tyX0 k) := by decide +kernel
abbrev cX0_init : ByteArray := prog_2_method_1_code
def yX0_init : MethodName := ⟨RX0, "<init>", "()V"⟩
abbrev cX0_becomes : ByteArray := prog_2_method_2_code
def yX0_becomes : MethodName := ⟨RX0, "becomes", "(LCoresAreWills$Core;)V"⟩
abbrev cX0_takesHeir : ByteArray := prog_2_method_3_code
def yX0_takesHeir : MethodName := ⟨RX0, "takesHeir", "(II)Z"⟩
abbrev cX0_takesBite : ByteArray := prog_2_method_4_code
def yX0_takesBite : MethodName := ⟨RX0, "takesBite", "(II)Z"⟩
abbrev cX0_mends : ByteArray := prog_2_method_5_code
def yX0_mends : MethodName := ⟨RX0, "mends", "(I)Z"⟩
abbrev cX0_turnsBy : ByteArray := prog_2_method_6_code
def yX0_turnsBy : MethodName := ⟨RX0, "turnsBy", "(I)Z"⟩
abbrev cX0_renews : ByteArray := prog_2_method_7_code
def yX0_renews : MethodName := ⟨RX0, "renews", "()Z"⟩
def RX1 : String := "CoresAreWills$Cover"
def TX1 : u_T := fun k => match k with
  | 0 => ("CoresAreWills$Cover", "ways", "[I", false)
  | 1 => ("CoresAreWills$Cover", "fewest", "[I", false)
  | 2 => ("CoresAreWills$Cover", "nextWays", "[I", false)
  | _ => ("CoresAreWills$Cover", "nextFewest", "[I", false)
def tyX1 : Nat → FieldType := fun k => match k with
  | 0 => .array .int
  | 1 => .array .int
  | 2 => .array .int
  | _ => .array .int
abbrev wsX10 : List Cond := u_ws RX1 TX1 4
theorem nmX1 : ∀ a, a < 4 → ∀ b, b < 4 → a ≠ b → (TX1 a).2.1 ≠ (TX1 b).2.1 := by decide +kernel
theorem tyX1_ok : ∀ k, k < 4 → parseFieldDescriptor (TX1 k).2.2.1 = some (tyX1 k) := by decide +kernel
abbrev cX1_init : ByteArray := prog_3_method_1_code
def yX1_init : MethodName := ⟨RX1, "<init>", "()V"⟩
abbrev cX1_waysDone : ByteArray := prog_3_method_2_code
def yX1_waysDone : MethodName := ⟨RX1, "waysDone", "()I"⟩
abbrev cX1_fewDone : ByteArray := prog_3_method_3_code
def yX1_fewDone : MethodName := ⟨RX1, "fewDone", "()I"⟩
abbrev cX1_covers : ByteArray := prog_3_method_4_code
def yX1_covers : MethodName := ⟨RX1, "covers", "(I)V"⟩
abbrev cX1_goesOn : ByteArray := prog_3_method_5_code
def yX1_goesOn : MethodName := ⟨RX1, "goesOn", "(III)V"⟩
abbrev cX1_comesTo : ByteArray := prog_3_method_6_code
def yX1_comesTo : MethodName := ⟨RX1, "comesTo", "(III)V"⟩
abbrev cX1_steps : ByteArray := prog_3_method_7_code
def yX1_steps : MethodName := ⟨RX1, "steps", "()V"⟩
abbrev cX1_empties : ByteArray := prog_3_method_8_code
def yX1_empties : MethodName := ⟨RX1, "empties", "()V"⟩
def RX2 : String := "CoresAreWills$Grid"
def TX2 : u_T := fun k => match k with
  | _ => ("", "", "", false)
def tyX2 : Nat → FieldType := fun k => match k with
  | _ => .int
abbrev wsX20 : List Cond := u_ws RX2 TX2 0
theorem nmX2 : ∀ a, a < 0 → ∀ b, b < 0 → a ≠ b → (TX2 a).2.1 ≠ (TX2 b).2.1 := by decide +kernel
theorem tyX2_ok : ∀ k, k < 0 → parseFieldDescriptor (TX2 k).2.2.1 = some (tyX2 k) := by decide +kernel
abbrev cX2_cellsOf : ByteArray := prog_4_method_2_code
def yX2_cellsOf : MethodName := ⟨RX2, "cellsOf", "(II)I"⟩
abbrev cX2_behind : ByteArray := prog_4_method_3_code
def yX2_behind : MethodName := ⟨RX2, "behind", "(II)I"⟩
abbrev cX2_besides : ByteArray := prog_4_method_4_code
def yX2_besides : MethodName := ⟨RX2, "besides", "(I)I"⟩
abbrev cX2_heapOf : ByteArray := prog_4_method_5_code
def yX2_heapOf : MethodName := ⟨RX2, "heapOf", "(II)I"⟩
abbrev cX2_heapsOf : ByteArray := prog_4_method_6_code
def yX2_heapsOf : MethodName := ⟨RX2, "heapsOf", "(I)I"⟩
abbrev cX2_holesOf : ByteArray := prog_4_method_7_code
def yX2_holesOf : MethodName := ⟨RX2, "holesOf", "(I)I"⟩
abbrev cX2_openSides : ByteArray := prog_4_method_8_code
def yX2_openSides : MethodName := ⟨RX2, "openSides", "(I)I"⟩
abbrev cX2_turned : ByteArray := prog_4_method_9_code
def yX2_turned : MethodName := ⟨RX2, "turned", "(I)I"⟩
abbrev cX2_leastCell : ByteArray := prog_4_method_10_code
def yX2_leastCell : MethodName := ⟨RX2, "leastCell", "(I)I"⟩
abbrev cX2_middleOf : ByteArray := prog_4_method_11_code
def yX2_middleOf : MethodName := ⟨RX2, "middleOf", "(I)I"⟩
abbrev cX2_stepsToAll : ByteArray := prog_4_method_12_code
def yX2_stepsToAll : MethodName := ⟨RX2, "stepsToAll", "(II)I"⟩
def RX3 : String := "CoresAreWills$Reading"
def TX3 : u_T := fun k => match k with
  | 0 => ("CoresAreWills$Reading", "gone", "I", false)
  | 1 => ("CoresAreWills$Reading", "heaps", "I", false)
  | 2 => ("CoresAreWills$Reading", "fewestCells", "I", false)
  | _ => ("CoresAreWills$Reading", "deed", "I", false)
def tyX3 : Nat → FieldType := fun k => match k with
  | 0 => .int
  | 1 => .int
  | 2 => .int
  | _ => .int
abbrev wsX30 : List Cond := u_ws RX3 TX3 4
theorem nmX3 : ∀ a, a < 4 → ∀ b, b < 4 → a ≠ b → (TX3 a).2.1 ≠ (TX3 b).2.1 := by decide +kernel
theorem tyX3_ok : ∀ k, k < 4 → parseFieldDescriptor (TX3 k).2.2.1 = some (tyX3 k) := by decide +kernel
abbrev cX3_init : ByteArray := prog_5_method_1_code
def yX3_init : MethodName := ⟨RX3, "<init>", "()V"⟩
abbrev cX3_reads : ByteArray := prog_5_method_2_code
def yX3_reads : MethodName := ⟨RX3, "reads", "(I)V"⟩
abbrev cX3_isInChancery : ByteArray := prog_5_method_3_code
def yX3_isInChancery : MethodName := ⟨RX3, "isInChancery", "()Z"⟩
abbrev cX3_shareBy : ByteArray := prog_5_method_4_code
def yX3_shareBy : MethodName := ⟨RX3, "shareBy", "(II)I"⟩
def RX4 : String := "CoresAreWills$Text"
def TX4 : u_T := fun k => match k with
  | 0 => ("CoresAreWills$Text", "letters", "[I", true)
  | _ => ("CoresAreWills$Text", "length", "I", false)
def tyX4 : Nat → FieldType := fun k => match k with
  | 0 => .array .int
  | _ => .int
abbrev wsX40 : List Cond := u_ws RX4 TX4 2
theorem nmX4 : ∀ a, a < 2 → ∀ b, b < 2 → a ≠ b → (TX4 a).2.1 ≠ (TX4 b).2.1 := by decide +kernel
theorem tyX4_ok : ∀ k, k < 2 → parseFieldDescriptor (TX4 k).2.2.1 = some (tyX4 k) := by decide +kernel
abbrev cX4_init : ByteArray := prog_6_method_1_code
def yX4_init : MethodName := ⟨RX4, "<init>", "()V"⟩
abbrev cX4_takes : ByteArray := prog_6_method_2_code
def yX4_takes : MethodName := ⟨RX4, "takes", "(I)I"⟩
abbrev cX4_misfit : ByteArray := prog_6_method_3_code
def yX4_misfit : MethodName := ⟨RX4, "misfit", "()I"⟩
abbrev cX4_formAt : ByteArray := prog_6_method_4_code
def yX4_formAt : MethodName := ⟨RX4, "formAt", "(I)Ljava/lang/String;"⟩
abbrev cX4_doesStatement : ByteArray := prog_6_method_5_code
def yX4_doesStatement : MethodName := ⟨RX4, "doesStatement", "(ILCoresAreWills$Core;)Z"⟩
abbrev cX4_suits : ByteArray := prog_6_method_6_code
def yX4_suits : MethodName := ⟨RX4, "suits", "(Ljava/lang/String;II)Z"⟩
abbrev cX4_letterAt : ByteArray := prog_6_method_7_code
def yX4_letterAt : MethodName := ⟨RX4, "letterAt", "(I)I"⟩
abbrev cX4_kindAt : ByteArray := prog_6_method_8_code
def yX4_kindAt : MethodName := ⟨RX4, "kindAt", "(I)I"⟩
abbrev cX4_digitAt : ByteArray := prog_6_method_9_code
def yX4_digitAt : MethodName := ⟨RX4, "digitAt", "(I)I"⟩
abbrev cX4_numberAt : ByteArray := prog_6_method_10_code
def yX4_numberAt : MethodName := ⟨RX4, "numberAt", "(I)I"⟩
def RX5 : String := "CoresAreWills"
def TX5 : u_T := fun k => match k with
  | 0 => ("CoresAreWills", "now", "LCoresAreWills$Core;", true)
  | 1 => ("CoresAreWills", "kept", "LCoresAreWills$Core;", true)
  | 2 => ("CoresAreWills", "trial", "LCoresAreWills$Core;", true)
  | 3 => ("CoresAreWills", "reading", "LCoresAreWills$Reading;", true)
  | 4 => ("CoresAreWills", "cover", "LCoresAreWills$Cover;", true)
  | 5 => ("CoresAreWills", "text", "LCoresAreWills$Text;", true)
  | 6 => ("CoresAreWills", "told", "[I", true)
  | 7 => ("CoresAreWills", "refusals", "[I", true)
  | 8 => ("CoresAreWills", "ends", "[I", true)
  | 9 => ("CoresAreWills", "tolds", "I", false)
  | _ => ("CoresAreWills", "hasImage", "Z", false)
def tyX5 : Nat → FieldType := fun k => match k with
  | 0 => .object "CoresAreWills$Core"
  | 1 => .object "CoresAreWills$Core"
  | 2 => .object "CoresAreWills$Core"
  | 3 => .object "CoresAreWills$Reading"
  | 4 => .object "CoresAreWills$Cover"
  | 5 => .object "CoresAreWills$Text"
  | 6 => .array .int
  | 7 => .array .int
  | 8 => .array .int
  | 9 => .int
  | _ => .boolean
abbrev wsX50 : List Cond := u_ws RX5 TX5 11
theorem nmX5 : ∀ a, a < 11 → ∀ b, b < 11 → a ≠ b → (TX5 a).2.1 ≠ (TX5 b).2.1 := by decide +kernel
theorem tyX5_ok : ∀ k, k < 11 → parseFieldDescriptor (TX5 k).2.2.1 = some (tyX5 k) := by decide +kernel
abbrev cX5_init : ByteArray := prog_1_method_1_code
def yX5_init : MethodName := ⟨RX5, "<init>", "()V"⟩
abbrev cX5_letter : ByteArray := prog_1_method_2_code
def yX5_letter : MethodName := ⟨RX5, "letter", "(I)I"⟩
abbrev cX5_core : ByteArray := prog_1_method_3_code
def yX5_core : MethodName := ⟨RX5, "core", "()I"⟩
abbrev cX5_cell : ByteArray := prog_1_method_4_code
def yX5_cell : MethodName := ⟨RX5, "cell", "(II)I"⟩
abbrev cX5_heir : ByteArray := prog_1_method_5_code
def yX5_heir : MethodName := ⟨RX5, "heir", "(II)I"⟩
abbrev cX5_bites : ByteArray := prog_1_method_6_code
def yX5_bites : MethodName := ⟨RX5, "bites", "(II)I"⟩
abbrev cX5_heals : ByteArray := prog_1_method_7_code
def yX5_heals : MethodName := ⟨RX5, "heals", "(I)I"⟩
abbrev cX5_rolls : ByteArray := prog_1_method_8_code
def yX5_rolls : MethodName := ⟨RX5, "rolls", "(I)I"⟩
abbrev cX5_turn : ByteArray := prog_1_method_9_code
def yX5_turn : MethodName := ⟨RX5, "turn", "(III)I"⟩
abbrev cX5_anew : ByteArray := prog_1_method_10_code
def yX5_anew : MethodName := ⟨RX5, "anew", "()I"⟩
abbrev cX5_shares : ByteArray := prog_1_method_11_code
def yX5_shares : MethodName := ⟨RX5, "shares", "(I)I"⟩
abbrev cX5_pieces : ByteArray := prog_1_method_12_code
def yX5_pieces : MethodName := ⟨RX5, "pieces", "(I)I"⟩
abbrev cX5_edge : ByteArray := prog_1_method_13_code
def yX5_edge : MethodName := ⟨RX5, "edge", "(I)I"⟩
abbrev cX5_can : ByteArray := prog_1_method_14_code
def yX5_can : MethodName := ⟨RX5, "can", "(I)I"⟩
abbrev cX5_ways : ByteArray := prog_1_method_15_code
def yX5_ways : MethodName := ⟨RX5, "ways", "(I)I"⟩
abbrev cX5_alike : ByteArray := prog_1_method_16_code
def yX5_alike : MethodName := ⟨RX5, "alike", "(I)I"⟩
abbrev cX5_settles : ByteArray := prog_1_method_17_code
def yX5_settles : MethodName := ⟨RX5, "settles", "(I)I"⟩
abbrev cX5_pips : ByteArray := prog_1_method_18_code
def yX5_pips : MethodName := ⟨RX5, "pips", "(I)I"⟩
abbrev cX5_join : ByteArray := prog_1_method_19_code
def yX5_join : MethodName := ⟨RX5, "join", "(I)I"⟩
abbrev cX5_bridge : ByteArray := prog_1_method_20_code
def yX5_bridge : MethodName := ⟨RX5, "bridge", "(I)I"⟩
abbrev cX5_best : ByteArray := prog_1_method_21_code
def yX5_best : MethodName := ⟨RX5, "best", "(II)I"⟩
abbrev cX5_worst : ByteArray := prog_1_method_22_code
def yX5_worst : MethodName := ⟨RX5, "worst", "(II)I"⟩
abbrev cX5_fewest : ByteArray := prog_1_method_23_code
def yX5_fewest : MethodName := ⟨RX5, "fewest", "(III)I"⟩
abbrev cX5_safe : ByteArray := prog_1_method_24_code
def yX5_safe : MethodName := ⟨RX5, "safe", "()I"⟩
abbrev cX5_grudge : ByteArray := prog_1_method_25_code
def yX5_grudge : MethodName := ⟨RX5, "grudge", "(I)I"⟩
abbrev cX5_gain : ByteArray := prog_1_method_26_code
def yX5_gain : MethodName := ⟨RX5, "gain", "(II)I"⟩
abbrev cX5_two : ByteArray := prog_1_method_27_code
def yX5_two : MethodName := ⟨RX5, "two", "(II)I"⟩
abbrev cX5_chance : ByteArray := prog_1_method_28_code
def yX5_chance : MethodName := ⟨RX5, "chance", "(IIII)J"⟩
abbrev cX5_mean : ByteArray := prog_1_method_29_code
def yX5_mean : MethodName := ⟨RX5, "mean", "(I)J"⟩
abbrev cX5_whatIs : ByteArray := prog_1_method_30_code
def yX5_whatIs : MethodName := ⟨RX5, "whatIs", "(II)I"⟩
abbrev cX5_row : ByteArray := prog_1_method_31_code
def yX5_row : MethodName := ⟨RX5, "row", "(I)I"⟩
abbrev cX5_judge : ByteArray := prog_1_method_32_code
def yX5_judge : MethodName := ⟨RX5, "judge", "()I"⟩
abbrev cX5_clear : ByteArray := prog_1_method_33_code
def yX5_clear : MethodName := ⟨RX5, "clear", "()I"⟩
abbrev cX5_lots : ByteArray := prog_1_method_34_code
def yX5_lots : MethodName := ⟨RX5, "lots", "(III)I"⟩
abbrev cX5_image : ByteArray := prog_1_method_35_code
def yX5_image : MethodName := ⟨RX5, "image", "()I"⟩
abbrev cX5_on : ByteArray := prog_1_method_36_code
def yX5_on : MethodName := ⟨RX5, "on", "()I"⟩
abbrev cX5_count : ByteArray := prog_1_method_37_code
def yX5_count : MethodName := ⟨RX5, "count", "(I)I"⟩
abbrev cX5_refused : ByteArray := prog_1_method_38_code
def yX5_refused : MethodName := ⟨RX5, "refused", "(I)I"⟩
abbrev cX5_isCell : ByteArray := prog_1_method_39_code
def yX5_isCell : MethodName := ⟨RX5, "isCell", "(I)Z"⟩
abbrev cX5_isTwofold : ByteArray := prog_1_method_40_code
def yX5_isTwofold : MethodName := ⟨RX5, "isTwofold", "(I)Z"⟩
abbrev cX5_isHeir : ByteArray := prog_1_method_41_code
def yX5_isHeir : MethodName := ⟨RX5, "isHeir", "(I)Z"⟩
abbrev cX5_areTwo : ByteArray := prog_1_method_42_code
def yX5_areTwo : MethodName := ⟨RX5, "areTwo", "(II)Z"⟩
abbrev cX5_isLeft : ByteArray := prog_1_method_43_code
def yX5_isLeft : MethodName := ⟨RX5, "isLeft", "(I)Z"⟩
abbrev cX5_shareOf : ByteArray := prog_1_method_44_code
def yX5_shareOf : MethodName := ⟨RX5, "shareOf", "(II)I"⟩
abbrev cX5_readShare : ByteArray := prog_1_method_45_code
def yX5_readShare : MethodName := ⟨RX5, "readShare", "(I)I"⟩
abbrev cX5_sharesTogether : ByteArray := prog_1_method_46_code
def yX5_sharesTogether : MethodName := ⟨RX5, "sharesTogether", "(I)I"⟩
abbrev cX5_richest : ByteArray := prog_1_method_47_code
def yX5_richest : MethodName := ⟨RX5, "richest", "()I"⟩
abbrev cX5_changesNobody : ByteArray := prog_1_method_48_code
def yX5_changesNobody : MethodName := ⟨RX5, "changesNobody", "(I)Z"⟩
abbrev cX5_isSettled : ByteArray := prog_1_method_49_code
def yX5_isSettled : MethodName := ⟨RX5, "isSettled", "(I)Z"⟩
abbrev cX5_bitesName : ByteArray := prog_1_method_50_code
def yX5_bitesName : MethodName := ⟨RX5, "bitesName", "(I)I"⟩
abbrev cX5_toldBite : ByteArray := prog_1_method_51_code
def yX5_toldBite : MethodName := ⟨RX5, "toldBite", "(III)I"⟩
abbrev cX5_furthestBite : ByteArray := prog_1_method_52_code
def yX5_furthestBite : MethodName := ⟨RX5, "furthestBite", "(III)I"⟩
abbrev cX5_firstBiteTo : ByteArray := prog_1_method_53_code
def yX5_firstBiteTo : MethodName := ⟨RX5, "firstBiteTo", "(IIII)I"⟩
abbrev cX5_firstOfTwoBitesTo : ByteArray := prog_1_method_54_code
def yX5_firstOfTwoBitesTo : MethodName := ⟨RX5, "firstOfTwoBitesTo", "(II)I"⟩
abbrev cX5_chosen : ByteArray := prog_1_method_55_code
def yX5_chosen : MethodName := ⟨RX5, "chosen", "(III)I"⟩
abbrev cX5_firstOfTwoThatSettle : ByteArray := prog_1_method_56_code
def yX5_firstOfTwoThatSettle : MethodName := ⟨RX5, "firstOfTwoThatSettle", "()I"⟩
abbrev cX5_firstCellThatSettles : ByteArray := prog_1_method_57_code
def yX5_firstCellThatSettles : MethodName := ⟨RX5, "firstCellThatSettles", "(II)I"⟩
abbrev cX5_bridgesOf : ByteArray := prog_1_method_58_code
def yX5_bridgesOf : MethodName := ⟨RX5, "bridgesOf", "(I)I"⟩
abbrev cX5_singlesTo : ByteArray := prog_1_method_59_code
def yX5_singlesTo : MethodName := ⟨RX5, "singlesTo", "(IIII)I"⟩
abbrev cX5_pairsTo : ByteArray := prog_1_method_60_code
def yX5_pairsTo : MethodName := ⟨RX5, "pairsTo", "(II)I"⟩
abbrev cX5_partOf : ByteArray := prog_1_method_61_code
def yX5_partOf : MethodName := ⟨RX5, "partOf", "(III)J"⟩
abbrev cX5_fitsTold : ByteArray := prog_1_method_62_code
def yX5_fitsTold : MethodName := ⟨RX5, "fitsTold", "(II)Z"⟩
abbrev cX5_firstWronglyTold : ByteArray := prog_1_method_63_code
def yX5_firstWronglyTold : MethodName := ⟨RX5, "firstWronglyTold", "()I"⟩
abbrev cX5_nextSeed : ByteArray := prog_1_method_64_code
def yX5_nextSeed : MethodName := ⟨RX5, "nextSeed", "(I)I"⟩
abbrev cX5_drawnFrom : ByteArray := prog_1_method_65_code
def yX5_drawnFrom : MethodName := ⟨RX5, "drawnFrom", "(I)I"⟩
abbrev cX5_trialOfText : ByteArray := prog_1_method_66_code
def yX5_trialOfText : MethodName := ⟨RX5, "trialOfText", "()I"⟩
def RX6 : String := "CoresAreWillsModel"
def TX6 : u_T := fun k => match k with
  | 0 => ("CoresAreWillsModel", "left", "I", false)
  | 1 => ("CoresAreWillsModel", "bites", "I", false)
  | 2 => ("CoresAreWillsModel", "many", "I", false)
  | 3 => ("CoresAreWillsModel", "imageLeft", "I", false)
  | 4 => ("CoresAreWillsModel", "imageBites", "I", false)
  | 5 => ("CoresAreWillsModel", "imageMany", "I", false)
  | 6 => ("CoresAreWillsModel", "wasLeft", "I", false)
  | 7 => ("CoresAreWillsModel", "wasBites", "I", false)
  | 8 => ("CoresAreWillsModel", "wasMany", "I", false)
  | 9 => ("CoresAreWillsModel", "kind", "[I", true)
  | 10 => ("CoresAreWillsModel", "figure", "[I", true)
  | 11 => ("CoresAreWillsModel", "imageKind", "[I", true)
  | 12 => ("CoresAreWillsModel", "imageFigure", "[I", true)
  | 13 => ("CoresAreWillsModel", "wasKind", "[I", true)
  | 14 => ("CoresAreWillsModel", "wasFigure", "[I", true)
  | 15 => ("CoresAreWillsModel", "hasImage", "Z", false)
  | 16 => ("CoresAreWillsModel", "letters", "[I", true)
  | 17 => ("CoresAreWillsModel", "row", "[I", true)
  | 18 => ("CoresAreWillsModel", "refused", "[I", true)
  | 19 => ("CoresAreWillsModel", "letterMany", "I", false)
  | 20 => ("CoresAreWillsModel", "rowMany", "I", false)
  | 21 => ("CoresAreWillsModel", "place", "I", false)
  | 22 => ("CoresAreWillsModel", "numbers", "[I", true)
  | 23 => ("CoresAreWillsModel", "counted", "[I", true)
  | 24 => ("CoresAreWillsModel", "few", "[I", true)
  | _ => ("CoresAreWillsModel", "seed", "I", false)
def tyX6 : Nat → FieldType := fun k => match k with
  | 0 => .int
  | 1 => .int
  | 2 => .int
  | 3 => .int
  | 4 => .int
  | 5 => .int
  | 6 => .int
  | 7 => .int
  | 8 => .int
  | 9 => .array .int
  | 10 => .array .int
  | 11 => .array .int
  | 12 => .array .int
  | 13 => .array .int
  | 14 => .array .int
  | 15 => .boolean
  | 16 => .array .int
  | 17 => .array .int
  | 18 => .array .int
  | 19 => .int
  | 20 => .int
  | 21 => .int
  | 22 => .array .int
  | 23 => .array .int
  | 24 => .array .int
  | _ => .int
abbrev wsX60 : List Cond := u_ws RX6 TX6 26
theorem nmX6 : ∀ a, a < 26 → ∀ b, b < 26 → a ≠ b → (TX6 a).2.1 ≠ (TX6 b).2.1 := by decide +kernel
theorem tyX6_ok : ∀ k, k < 26 → parseFieldDescriptor (TX6 k).2.2.1 = some (tyX6 k) := by decide +kernel
abbrev cX6_init : ByteArray := prog_8_method_1_code
def yX6_init : MethodName := ⟨RX6, "<init>", "()V"⟩
abbrev cX6_isIn : ByteArray := prog_8_method_2_code
def yX6_isIn : MethodName := ⟨RX6, "isIn", "(III)Z"⟩
abbrev cX6_least : ByteArray := prog_8_method_3_code
def yX6_least : MethodName := ⟨RX6, "least", "(II)I"⟩
abbrev cX6_no : ByteArray := prog_8_method_4_code
def yX6_no : MethodName := ⟨RX6, "no", "(I)I"⟩
abbrev cX6_noFar : ByteArray := prog_8_method_5_code
def yX6_noFar : MethodName := ⟨RX6, "noFar", "(I)I"⟩
abbrev cX6_noWide : ByteArray := prog_8_method_6_code
def yX6_noWide : MethodName := ⟨RX6, "noWide", "(I)J"⟩
abbrev cX6_isCell : ByteArray := prog_8_method_7_code
def yX6_isCell : MethodName := ⟨RX6, "isCell", "(I)Z"⟩
abbrev cX6_isHeir : ByteArray := prog_8_method_8_code
def yX6_isHeir : MethodName := ⟨RX6, "isHeir", "(I)Z"⟩
abbrev cX6_has : ByteArray := prog_8_method_9_code
def yX6_has : MethodName := ⟨RX6, "has", "(II)Z"⟩
abbrev cX6_bits : ByteArray := prog_8_method_10_code
def yX6_bits : MethodName := ⟨RX6, "bits", "(I)I"⟩
abbrev cX6_bite : ByteArray := prog_8_method_11_code
def yX6_bite : MethodName := ⟨RX6, "bite", "(II)I"⟩
abbrev cX6_canBite : ByteArray := prog_8_method_12_code
def yX6_canBite : MethodName := ⟨RX6, "canBite", "(III)Z"⟩
abbrev cX6_besideOf : ByteArray := prog_8_method_13_code
def yX6_besideOf : MethodName := ⟨RX6, "besideOf", "(I)I"⟩
abbrev cX6_heapOf : ByteArray := prog_8_method_14_code
def yX6_heapOf : MethodName := ⟨RX6, "heapOf", "(II)I"⟩
abbrev cX6_leastOf : ByteArray := prog_8_method_15_code
def yX6_leastOf : MethodName := ⟨RX6, "leastOf", "(I)I"⟩
abbrev cX6_heaps : ByteArray := prog_8_method_16_code
def yX6_heaps : MethodName := ⟨RX6, "heaps", "(I)I"⟩
abbrev cX6_deed : ByteArray := prog_8_method_17_code
def yX6_deed : MethodName := ⟨RX6, "deed", "(I)I"⟩
abbrev cX6_most : ByteArray := prog_8_method_18_code
def yX6_most : MethodName := ⟨RX6, "most", "(II)I"⟩
abbrev cX6_shareBy : ByteArray := prog_8_method_19_code
def yX6_shareBy : MethodName := ⟨RX6, "shareBy", "(III)I"⟩
abbrev cX6_shareOf : ByteArray := prog_8_method_20_code
def yX6_shareOf : MethodName := ⟨RX6, "shareOf", "(II)I"⟩
abbrev cX6_sharesOf : ByteArray := prog_8_method_21_code
def yX6_sharesOf : MethodName := ⟨RX6, "sharesOf", "(I)I"⟩
abbrev cX6_turned : ByteArray := prog_8_method_22_code
def yX6_turned : MethodName := ⟨RX6, "turned", "(I)I"⟩
abbrev cX6_turnedBy : ByteArray := prog_8_method_23_code
def yX6_turnedBy : MethodName := ⟨RX6, "turnedBy", "(II)I"⟩
abbrev cX6_letter : ByteArray := prog_8_method_24_code
def yX6_letter : MethodName := ⟨RX6, "letter", "(I)I"⟩
abbrev cX6_here : ByteArray := prog_8_method_25_code
def yX6_here : MethodName := ⟨RX6, "here", "()I"⟩
abbrev cX6_readsNumber : ByteArray := prog_8_method_26_code
def yX6_readsNumber : MethodName := ⟨RX6, "readsNumber", "(II)Z"⟩
abbrev cX6_kindBy : ByteArray := prog_8_method_27_code
def yX6_kindBy : MethodName := ⟨RX6, "kindBy", "(I)I"⟩
abbrev cX6_readsKind : ByteArray := prog_8_method_28_code
def yX6_readsKind : MethodName := ⟨RX6, "readsKind", "()Z"⟩
abbrev cX6_readsStatement : ByteArray := prog_8_method_29_code
def yX6_readsStatement : MethodName := ⟨RX6, "readsStatement", "()Z"⟩
abbrev cX6_bitesOff : ByteArray := prog_8_method_30_code
def yX6_bitesOff : MethodName := ⟨RX6, "bitesOff", "(I)V"⟩
abbrev cX6_allAgain : ByteArray := prog_8_method_31_code
def yX6_allAgain : MethodName := ⟨RX6, "allAgain", "()V"⟩
abbrev cX6_isDone : ByteArray := prog_8_method_32_code
def yX6_isDone : MethodName := ⟨RX6, "isDone", "(I)Z"⟩
abbrev cX6_lays : ByteArray := prog_8_method_33_code
def yX6_lays : MethodName := ⟨RX6, "lays", "()V"⟩
abbrev cX6_laysBack : ByteArray := prog_8_method_34_code
def yX6_laysBack : MethodName := ⟨RX6, "laysBack", "()V"⟩
abbrev cX6_core : ByteArray := prog_8_method_35_code
def yX6_core : MethodName := ⟨RX6, "core", "()I"⟩
abbrev cX6_cell : ByteArray := prog_8_method_36_code
def yX6_cell : MethodName := ⟨RX6, "cell", "(II)I"⟩
abbrev cX6_heir : ByteArray := prog_8_method_37_code
def yX6_heir : MethodName := ⟨RX6, "heir", "(II)I"⟩
abbrev cX6_bites : ByteArray := prog_8_method_38_code
def yX6_bites : MethodName := ⟨RX6, "bites", "(II)I"⟩
abbrev cX6_heals : ByteArray := prog_8_method_39_code
def yX6_heals : MethodName := ⟨RX6, "heals", "(I)I"⟩
abbrev cX6_rolls : ByteArray := prog_8_method_40_code
def yX6_rolls : MethodName := ⟨RX6, "rolls", "(I)I"⟩
abbrev cX6_wrongBy : ByteArray := prog_8_method_41_code
def yX6_wrongBy : MethodName := ⟨RX6, "wrongBy", "(II)I"⟩
abbrev cX6_turn : ByteArray := prog_8_method_42_code
def yX6_turn : MethodName := ⟨RX6, "turn", "(III)I"⟩
abbrev cX6_anew : ByteArray := prog_8_method_43_code
def yX6_anew : MethodName := ⟨RX6, "anew", "()I"⟩
abbrev cX6_shares : ByteArray := prog_8_method_44_code
def yX6_shares : MethodName := ⟨RX6, "shares", "(I)I"⟩
abbrev cX6_leastHeap : ByteArray := prog_8_method_45_code
def yX6_leastHeap : MethodName := ⟨RX6, "leastHeap", "(I)I"⟩
abbrev cX6_pieces : ByteArray := prog_8_method_46_code
def yX6_pieces : MethodName := ⟨RX6, "pieces", "(I)I"⟩
abbrev cX6_border : ByteArray := prog_8_method_47_code
def yX6_border : MethodName := ⟨RX6, "border", "()I"⟩
abbrev cX6_edge : ByteArray := prog_8_method_48_code
def yX6_edge : MethodName := ⟨RX6, "edge", "(I)I"⟩
abbrev cX6_biteFor : ByteArray := prog_8_method_49_code
def yX6_biteFor : MethodName := ⟨RX6, "biteFor", "(III)I"⟩
abbrev cX6_after : ByteArray := prog_8_method_50_code
def yX6_after : MethodName := ⟨RX6, "after", "(II)I"⟩
abbrev cX6_biteTold : ByteArray := prog_8_method_51_code
def yX6_biteTold : MethodName := ⟨RX6, "biteTold", "(III)I"⟩
abbrev cX6_best : ByteArray := prog_8_method_52_code
def yX6_best : MethodName := ⟨RX6, "best", "(II)I"⟩
abbrev cX6_worst : ByteArray := prog_8_method_53_code
def yX6_worst : MethodName := ⟨RX6, "worst", "(II)I"⟩
abbrev cX6_isSoBy : ByteArray := prog_8_method_54_code
def yX6_isSoBy : MethodName := ⟨RX6, "isSoBy", "(IIII)Z"⟩
abbrev cX6_firstSo : ByteArray := prog_8_method_55_code
def yX6_firstSo : MethodName := ⟨RX6, "firstSo", "(III)I"⟩
abbrev cX6_fewest : ByteArray := prog_8_method_56_code
def yX6_fewest : MethodName := ⟨RX6, "fewest", "(III)I"⟩
abbrev cX6_safe : ByteArray := prog_8_method_57_code
def yX6_safe : MethodName := ⟨RX6, "safe", "()I"⟩
abbrev cX6_can : ByteArray := prog_8_method_58_code
def yX6_can : MethodName := ⟨RX6, "can", "(I)I"⟩
abbrev cX6_comesTo : ByteArray := prog_8_method_59_code
def yX6_comesTo : MethodName := ⟨RX6, "comesTo", "(IIII)V"⟩
abbrev cX6_ways : ByteArray := prog_8_method_60_code
def yX6_ways : MethodName := ⟨RX6, "ways", "(I)I"⟩
abbrev cX6_alike : ByteArray := prog_8_method_61_code
def yX6_alike : MethodName := ⟨RX6, "alike", "(I)I"⟩
abbrev cX6_settles : ByteArray := prog_8_method_62_code
def yX6_settles : MethodName := ⟨RX6, "settles", "(I)I"⟩
abbrev cX6_pips : ByteArray := prog_8_method_63_code
def yX6_pips : MethodName := ⟨RX6, "pips", "(I)I"⟩
abbrev cX6_grudge : ByteArray := prog_8_method_64_code
def yX6_grudge : MethodName := ⟨RX6, "grudge", "(I)I"⟩
abbrev cX6_areTwo : ByteArray := prog_8_method_65_code
def yX6_areTwo : MethodName := ⟨RX6, "areTwo", "(II)Z"⟩
abbrev cX6_gain : ByteArray := prog_8_method_66_code
def yX6_gain : MethodName := ⟨RX6, "gain", "(II)I"⟩
abbrev cX6_join : ByteArray := prog_8_method_67_code
def yX6_join : MethodName := ⟨RX6, "join", "(I)I"⟩
abbrev cX6_stepsFrom : ByteArray := prog_8_method_68_code
def yX6_stepsFrom : MethodName := ⟨RX6, "stepsFrom", "(I)I"⟩
abbrev cX6_bridge : ByteArray := prog_8_method_69_code
def yX6_bridge : MethodName := ⟨RX6, "bridge", "(I)I"⟩
abbrev cX6_firstBite : ByteArray := prog_8_method_70_code
def yX6_firstBite : MethodName := ⟨RX6, "firstBite", "(I)I"⟩
abbrev cX6_shareBoth : ByteArray := prog_8_method_71_code
def yX6_shareBoth : MethodName := ⟨RX6, "shareBoth", "(IIIII)I"⟩
abbrev cX6_two : ByteArray := prog_8_method_72_code
def yX6_two : MethodName := ⟨RX6, "two", "(II)I"⟩
abbrev cX6_gcd : ByteArray := prog_8_method_73_code
def yX6_gcd : MethodName := ⟨RX6, "gcd", "(JJ)J"⟩
abbrev cX6_partOf : ByteArray := prog_8_method_74_code
def yX6_partOf : MethodName := ⟨RX6, "partOf", "(JJI)J"⟩
abbrev cX6_waysFor : ByteArray := prog_8_method_75_code
def yX6_waysFor : MethodName := ⟨RX6, "waysFor", "(IIII)J"⟩
abbrev cX6_chance : ByteArray := prog_8_method_76_code
def yX6_chance : MethodName := ⟨RX6, "chance", "(IIII)J"⟩
abbrev cX6_mean : ByteArray := prog_8_method_77_code
def yX6_mean : MethodName := ⟨RX6, "mean", "(I)J"⟩
abbrev cX6_whatIs : ByteArray := prog_8_method_78_code
def yX6_whatIs : MethodName := ⟨RX6, "whatIs", "(II)I"⟩
abbrev cX6_row : ByteArray := prog_8_method_79_code
def yX6_row : MethodName := ⟨RX6, "row", "(I)I"⟩
abbrev cX6_judge : ByteArray := prog_8_method_80_code
def yX6_judge : MethodName := ⟨RX6, "judge", "()I"⟩
abbrev cX6_clear : ByteArray := prog_8_method_81_code
def yX6_clear : MethodName := ⟨RX6, "clear", "()I"⟩
abbrev cX6_drawn : ByteArray := prog_8_method_82_code
def yX6_drawn : MethodName := ⟨RX6, "drawn", "(I)I"⟩
abbrev cX6_lots : ByteArray := prog_8_method_83_code
def yX6_lots : MethodName := ⟨RX6, "lots", "(III)I"⟩
abbrev cX6_image : ByteArray := prog_8_method_84_code
def yX6_image : MethodName := ⟨RX6, "image", "()I"⟩
abbrev cX6_on : ByteArray := prog_8_method_85_code
def yX6_on : MethodName := ⟨RX6, "on", "()I"⟩
abbrev cX6_count : ByteArray := prog_8_method_86_code
def yX6_count : MethodName := ⟨RX6, "count", "(I)I"⟩
def RJ11 : String := "java/lang/Character"
def TJ11 : u_T := fun k => match k with
  | _ => ("", "", "", false)
def tyJ11 : Nat → FieldType := fun k => match k with
  | _ => .int
abbrev wsJ110 : List Cond := u_ws RJ11 TJ11 0
theorem nmJ11 : ∀ a, a < 0 → ∀ b, b < 0 → a ≠ b → (TJ11 a).2.1 ≠ (TJ11 b).2.1 := by decide +kernel
theorem tyJ11_ok : ∀ k, k < 0 → parseFieldDescriptor (TJ11 k).2.2.1 = some (tyJ11 k) := by decide +kernel
abbrev cJ11_isValidCodePoint_9a6ad : ByteArray := prog_9_method_11_code
def yJ11_isValidCodePoint_9a6ad : MethodName := ⟨RJ11, "isValidCodePoint", "(I)Z"⟩
abbrev cJ11_highSurrogate_5068e : ByteArray := prog_9_method_28_code
def yJ11_highSurrogate_5068e : MethodName := ⟨RJ11, "highSurrogate", "(I)C"⟩
abbrev cJ11_lowSurrogate_5068e : ByteArray := prog_9_method_29_code
def yJ11_lowSurrogate_5068e : MethodName := ⟨RJ11, "lowSurrogate", "(I)C"⟩
def RJ6 : String := "java/lang/Integer"
def TJ6 : u_T := fun k => match k with
  | _ => ("", "", "", false)
def tyJ6 : Nat → FieldType := fun k => match k with
  | _ => .int
abbrev wsJ60 : List Cond := u_ws RJ6 TJ6 0
theorem nmJ6 : ∀ a, a < 0 → ∀ b, b < 0 → a ≠ b → (TJ6 a).2.1 ≠ (TJ6 b).2.1 := by decide +kernel
theorem tyJ6_ok : ∀ k, k < 0 → parseFieldDescriptor (TJ6 k).2.2.1 = some (tyJ6 k) := by decide +kernel
abbrev cJ6_bitCount_0f7a4 : ByteArray := prog_10_method_49_code
def yJ6_bitCount_0f7a4 : MethodName := ⟨RJ6, "bitCount", "(I)I"⟩
def RJ9 : String := "java/lang/Math"
def TJ9 : u_T := fun k => match k with
  | _ => ("", "", "", false)
def tyJ9 : Nat → FieldType := fun k => match k with
  | _ => .int
abbrev wsJ90 : List Cond := u_ws RJ9 TJ9 0
theorem nmJ9 : ∀ a, a < 0 → ∀ b, b < 0 → a ≠ b → (TJ9 a).2.1 ≠ (TJ9 b).2.1 := by decide +kernel
theorem tyJ9_ok : ∀ k, k < 0 → parseFieldDescriptor (TJ9 k).2.2.1 = some (tyJ9 k) := by decide +kernel
abbrev cJ9_abs_0f7a4 : ByteArray := prog_11_method_59_code
def yJ9_abs_0f7a4 : MethodName := ⟨RJ9, "abs", "(I)I"⟩
abbrev cJ9_max_7cf53 : ByteArray := prog_11_method_65_code
def yJ9_max_7cf53 : MethodName := ⟨RJ9, "max", "(II)I"⟩
abbrev cJ9_min_7cf53 : ByteArray := prog_11_method_69_code
def yJ9_min_7cf53 : MethodName := ⟨RJ9, "min", "(II)I"⟩
def RJ0 : String := "java/lang/String"
def TJ0 : u_T := fun k => match k with
  | _ => ("", "", "", false)
def tyJ0 : Nat → FieldType := fun k => match k with
  | _ => .int
abbrev wsJ00 : List Cond := u_ws RJ0 TJ0 0
theorem nmJ0 : ∀ a, a < 0 → ∀ b, b < 0 → a ≠ b → (TJ0 a).2.1 ≠ (TJ0 b).2.1 := by decide +kernel
theorem tyJ0_ok : ∀ k, k < 0 → parseFieldDescriptor (TJ0 k).2.2.1 = some (tyJ0 k) := by decide +kernel
abbrev cJ0_length_8abf5 : ByteArray := prog_12_method_54_code
def yJ0_length_8abf5 : MethodName := ⟨RJ0, "length", "()I"⟩
abbrev cJ0_charAt_5068e : ByteArray := prog_12_method_56_code
def yJ0_charAt_5068e : MethodName := ⟨RJ0, "charAt", "(I)C"⟩
abbrev cJ0_indexOf_0f7a4 : ByteArray := prog_12_method_79_code
def yJ0_indexOf_0f7a4 : MethodName := ⟨RJ0, "indexOf", "(I)I"⟩
abbrev cJ0_indexOf_7cf53 : ByteArray := prog_12_method_80_code
def yJ0_indexOf_7cf53 : MethodName := ⟨RJ0, "indexOf", "(II)I"⟩
abbrev cJ0_coder_7d493 : ByteArray := prog_12_method_152_code
def yJ0_coder_7d493 : MethodName := ⟨RJ0, "coder", "()B"⟩
abbrev cJ0_isLatin1_aae02 : ByteArray := prog_12_method_154_code
def yJ0_isLatin1_aae02 : MethodName := ⟨RJ0, "isLatin1", "()Z"⟩
abbrev cJ0_checkIndex_df160 : ByteArray := prog_12_method_155_code
def yJ0_checkIndex_df160 : MethodName := ⟨RJ0, "checkIndex", "(II)V"⟩
abbrev cJ0_checkBoundsBeginEnd_23922 : ByteArray := prog_12_method_158_code
def yJ0_checkBoundsBeginEnd_23922 : MethodName := ⟨RJ0, "checkBoundsBeginEnd", "(III)V"⟩
def RJ1 : String := "java/lang/StringLatin1"
def TJ1 : u_T := fun k => match k with
  | _ => ("", "", "", false)
def tyJ1 : Nat → FieldType := fun k => match k with
  | _ => .int
abbrev wsJ10 : List Cond := u_ws RJ1 TJ1 0
theorem nmJ1 : ∀ a, a < 0 → ∀ b, b < 0 → a ≠ b → (TJ1 a).2.1 ≠ (TJ1 b).2.1 := by decide +kernel
theorem tyJ1_ok : ∀ k, k < 0 → parseFieldDescriptor (TJ1 k).2.2.1 = some (tyJ1 k) := by decide +kernel
abbrev cJ1_charAt_3b067 : ByteArray := prog_13_method_2_code
def yJ1_charAt_3b067 : MethodName := ⟨RJ1, "charAt", "([BI)C"⟩
abbrev cJ1_canEncode_9a6ad : ByteArray := prog_13_method_4_code
def yJ1_canEncode_9a6ad : MethodName := ⟨RJ1, "canEncode", "(I)Z"⟩
abbrev cJ1_indexOf_4cfef : ByteArray := prog_13_method_22_code
def yJ1_indexOf_4cfef : MethodName := ⟨RJ1, "indexOf", "([BIII)I"⟩
abbrev cJ1_indexOfChar_4cfef : ByteArray := prog_13_method_23_code
def yJ1_indexOfChar_4cfef : MethodName := ⟨RJ1, "indexOfChar", "([BIII)I"⟩
def RJ2 : String := "java/lang/StringUTF16"
def TJ2 : u_T := fun k => match k with
  | _ => ("", "", "", false)
def tyJ2 : Nat → FieldType := fun k => match k with
  | _ => .int
abbrev wsJ20 : List Cond := u_ws RJ2 TJ2 0
theorem nmJ2 : ∀ a, a < 0 → ∀ b, b < 0 → a ≠ b → (TJ2 a).2.1 ≠ (TJ2 b).2.1 := by decide +kernel
theorem tyJ2_ok : ∀ k, k < 0 → parseFieldDescriptor (TJ2 k).2.2.1 = some (tyJ2 k) := by decide +kernel
abbrev cJ2_getChar_3b067 : ByteArray := prog_14_method_5_code
def yJ2_getChar_3b067 : MethodName := ⟨RJ2, "getChar", "([BI)C"⟩
abbrev cJ2_length_9d52b : ByteArray := prog_14_method_6_code
def yJ2_length_9d52b : MethodName := ⟨RJ2, "length", "([B)I"⟩
abbrev cJ2_indexOf_4cfef : ByteArray := prog_14_method_40_code
def yJ2_indexOf_4cfef : MethodName := ⟨RJ2, "indexOf", "([BIII)I"⟩
abbrev cJ2_indexOfChar_4cfef : ByteArray := prog_14_method_47_code
def yJ2_indexOfChar_4cfef : MethodName := ⟨RJ2, "indexOfChar", "([BIII)I"⟩
abbrev cJ2_indexOfCharUnsafe_4cfef : ByteArray := prog_14_method_48_code
def yJ2_indexOfCharUnsafe_4cfef : MethodName := ⟨RJ2, "indexOfCharUnsafe", "([BIII)I"⟩
abbrev cJ2_indexOfSupplementary_4cfef : ByteArray := prog_14_method_49_code
def yJ2_indexOfSupplementary_4cfef : MethodName := ⟨RJ2, "indexOfSupplementary", "([BIII)I"⟩
abbrev cJ2_charAt_3b067 : ByteArray := prog_14_method_83_code
def yJ2_charAt_3b067 : MethodName := ⟨RJ2, "charAt", "([BI)C"⟩
abbrev cJ2_checkIndex_2214a : ByteArray := prog_14_method_91_code
def yJ2_checkIndex_2214a : MethodName := ⟨RJ2, "checkIndex", "(I[B)V"⟩
abbrev cJ2_checkBoundsBeginEnd_d044e : ByteArray := prog_14_method_93_code
def yJ2_checkBoundsBeginEnd_d044e : MethodName := ⟨RJ2, "checkBoundsBeginEnd", "(II[B)V"⟩
def RJ10 : String := "java/lang/System"
def TJ10 : u_T := fun k => match k with
  | _ => ("", "", "", false)
def tyJ10 : Nat → FieldType := fun k => match k with
  | _ => .int
abbrev wsJ100 : List Cond := u_ws RJ10 TJ10 0
theorem nmJ10 : ∀ a, a < 0 → ∀ b, b < 0 → a ≠ b → (TJ10 a).2.1 ≠ (TJ10 b).2.1 := by decide +kernel
theorem tyJ10_ok : ∀ k, k < 0 → parseFieldDescriptor (TJ10 k).2.2.1 = some (tyJ10 k) := by decide +kernel
def RJ3 : String := "jdk/internal/util/Preconditions"
def TJ3 : u_T := fun k => match k with
  | _ => ("", "", "", false)
def tyJ3 : Nat → FieldType := fun k => match k with
  | _ => .int
abbrev wsJ30 : List Cond := u_ws RJ3 TJ3 0
theorem nmJ3 : ∀ a, a < 0 → ∀ b, b < 0 → a ≠ b → (TJ3 a).2.1 ≠ (TJ3 b).2.1 := by decide +kernel
theorem tyJ3_ok : ∀ k, k < 0 → parseFieldDescriptor (TJ3 k).2.2.1 = some (tyJ3 k) := by decide +kernel
abbrev cJ3_checkIndex_8e157 : ByteArray := prog_16_method_11_code
def yJ3_checkIndex_8e157 : MethodName := ⟨RJ3, "checkIndex", "(IILjava/util/function/BiFunction;)I"⟩
abbrev cJ3_checkFromToIndex_8c36e : ByteArray := prog_16_method_12_code
def yJ3_checkFromToIndex_8c36e : MethodName := ⟨RJ3, "checkFromToIndex", "(IIILjava/util/function/BiFunction;)I"⟩
def RL : String := "CoresAreWillsLaw"
abbrev cL_law : ByteArray := code
def yL_law : MethodName := ⟨RL, "law", "([I)Z"⟩
abbrev vwCl : List vw_C := [(RX0, TX0, 5), (RX1, TX1, 4), (RX3, TX3, 4), (RX4, TX4, 2), (RX5, TX5, 11), (RX6, TX6, 26)]
