section
-- ===== PART A: goes FIRST, ahead of the names: the tables' words, and 'selects' of the private methods out of them =====
/-- a private method of a class that the tables say can be made, by its rows of tables_1 -/
def lw_okq (q : MethodName × Nat) : Prop := (q.1.cls ≠ "java/lang/invoke/MethodHandle" ∧ q.1.cls ≠ "java/lang/invoke/VarHandle") ∧ Cond.instantiable q.1.cls q.2 ∈ tables_1 ∧ Cond.privateMethod q.1 ∈ tables_1 ∧ Cond.instanceMethod q.1 ∈ tables_1
theorem lw_p0 : lw_okq (⟨"CoresAreWills", "refused", "(I)I"⟩, 11) := ⟨⟨by decide +kernel, by decide +kernel⟩, List.mem_of_getElem? (i := 17) (by decide +kernel), List.mem_of_getElem? (i := 147) (by decide +kernel), List.mem_of_getElem? (i := 148) (by decide +kernel)⟩
theorem lw_p1 : lw_okq (⟨"CoresAreWills", "trialOfText", "()I"⟩, 11) := ⟨⟨by decide +kernel, by decide +kernel⟩, List.mem_of_getElem? (i := 17) (by decide +kernel), List.mem_of_getElem? (i := 159) (by decide +kernel), List.mem_of_getElem? (i := 160) (by decide +kernel)⟩
theorem lw_p2 : lw_okq (⟨"CoresAreWills$Text", "letterAt", "(I)I"⟩, 2) := ⟨⟨by decide +kernel, by decide +kernel⟩, List.mem_of_getElem? (i := 95) (by decide +kernel), List.mem_of_getElem? (i := 171) (by decide +kernel), List.mem_of_getElem? (i := 172) (by decide +kernel)⟩
theorem lw_p3 : lw_okq (⟨"CoresAreWills$Text", "kindAt", "(I)I"⟩, 2) := ⟨⟨by decide +kernel, by decide +kernel⟩, List.mem_of_getElem? (i := 95) (by decide +kernel), List.mem_of_getElem? (i := 303) (by decide +kernel), List.mem_of_getElem? (i := 304) (by decide +kernel)⟩
theorem lw_p4 : lw_okq (⟨"CoresAreWills$Text", "digitAt", "(I)I"⟩, 2) := ⟨⟨by decide +kernel, by decide +kernel⟩, List.mem_of_getElem? (i := 95) (by decide +kernel), List.mem_of_getElem? (i := 307) (by decide +kernel), List.mem_of_getElem? (i := 308) (by decide +kernel)⟩
theorem lw_p5 : lw_okq (⟨"CoresAreWills$Text", "numberAt", "(I)I"⟩, 2) := ⟨⟨by decide +kernel, by decide +kernel⟩, List.mem_of_getElem? (i := 95) (by decide +kernel), List.mem_of_getElem? (i := 315) (by decide +kernel), List.mem_of_getElem? (i := 316) (by decide +kernel)⟩
theorem lw_p6 : lw_okq (⟨"CoresAreWills", "isHeir", "(I)Z"⟩, 11) := ⟨⟨by decide +kernel, by decide +kernel⟩, List.mem_of_getElem? (i := 17) (by decide +kernel), List.mem_of_getElem? (i := 375) (by decide +kernel), List.mem_of_getElem? (i := 376) (by decide +kernel)⟩
theorem lw_p7 : lw_okq (⟨"CoresAreWills", "shareOf", "(II)I"⟩, 11) := ⟨⟨by decide +kernel, by decide +kernel⟩, List.mem_of_getElem? (i := 17) (by decide +kernel), List.mem_of_getElem? (i := 379) (by decide +kernel), List.mem_of_getElem? (i := 380) (by decide +kernel)⟩
theorem lw_p8 : lw_okq (⟨"CoresAreWills", "readShare", "(I)I"⟩, 11) := ⟨⟨by decide +kernel, by decide +kernel⟩, List.mem_of_getElem? (i := 17) (by decide +kernel), List.mem_of_getElem? (i := 390) (by decide +kernel), List.mem_of_getElem? (i := 391) (by decide +kernel)⟩
theorem lw_p9 : lw_okq (⟨"CoresAreWills$Reading", "nephews", "(I)I"⟩, 4) := ⟨⟨by decide +kernel, by decide +kernel⟩, List.mem_of_getElem? (i := 54) (by decide +kernel), List.mem_of_getElem? (i := 402) (by decide +kernel), List.mem_of_getElem? (i := 403) (by decide +kernel)⟩
theorem lw_p10 : lw_okq (⟨"CoresAreWills$Reading", "elders", "(I)I"⟩, 4) := ⟨⟨by decide +kernel, by decide +kernel⟩, List.mem_of_getElem? (i := 54) (by decide +kernel), List.mem_of_getElem? (i := 407) (by decide +kernel), List.mem_of_getElem? (i := 408) (by decide +kernel)⟩
theorem lw_p11 : lw_okq (⟨"CoresAreWills$Reading", "widows", "(I)I"⟩, 4) := ⟨⟨by decide +kernel, by decide +kernel⟩, List.mem_of_getElem? (i := 54) (by decide +kernel), List.mem_of_getElem? (i := 411) (by decide +kernel), List.mem_of_getElem? (i := 412) (by decide +kernel)⟩
theorem lw_p12 : lw_okq (⟨"CoresAreWills", "isLeft", "(I)Z"⟩, 11) := ⟨⟨by decide +kernel, by decide +kernel⟩, List.mem_of_getElem? (i := 17) (by decide +kernel), List.mem_of_getElem? (i := 424) (by decide +kernel), List.mem_of_getElem? (i := 425) (by decide +kernel)⟩
theorem lw_p13 : lw_okq (⟨"CoresAreWills", "sharesTogether", "(I)I"⟩, 11) := ⟨⟨by decide +kernel, by decide +kernel⟩, List.mem_of_getElem? (i := 17) (by decide +kernel), List.mem_of_getElem? (i := 450) (by decide +kernel), List.mem_of_getElem? (i := 451) (by decide +kernel)⟩
theorem lw_p14 : lw_okq (⟨"CoresAreWills", "richest", "()I"⟩, 11) := ⟨⟨by decide +kernel, by decide +kernel⟩, List.mem_of_getElem? (i := 17) (by decide +kernel), List.mem_of_getElem? (i := 454) (by decide +kernel), List.mem_of_getElem? (i := 455) (by decide +kernel)⟩
theorem lw_p15 : lw_okq (⟨"CoresAreWills$Cover", "empties", "()V"⟩, 4) := ⟨⟨by decide +kernel, by decide +kernel⟩, List.mem_of_getElem? (i := 76) (by decide +kernel), List.mem_of_getElem? (i := 495) (by decide +kernel), List.mem_of_getElem? (i := 496) (by decide +kernel)⟩
def lw_privs_1 : List (MethodName × Nat) := [(⟨"CoresAreWills", "refused", "(I)I"⟩, 11), (⟨"CoresAreWills", "trialOfText", "()I"⟩, 11), (⟨"CoresAreWills$Text", "letterAt", "(I)I"⟩, 2), (⟨"CoresAreWills$Text", "kindAt", "(I)I"⟩, 2), (⟨"CoresAreWills$Text", "digitAt", "(I)I"⟩, 2), (⟨"CoresAreWills$Text", "numberAt", "(I)I"⟩, 2), (⟨"CoresAreWills", "isHeir", "(I)Z"⟩, 11), (⟨"CoresAreWills", "shareOf", "(II)I"⟩, 11), (⟨"CoresAreWills", "readShare", "(I)I"⟩, 11), (⟨"CoresAreWills$Reading", "nephews", "(I)I"⟩, 4), (⟨"CoresAreWills$Reading", "elders", "(I)I"⟩, 4), (⟨"CoresAreWills$Reading", "widows", "(I)I"⟩, 4), (⟨"CoresAreWills", "isLeft", "(I)Z"⟩, 11), (⟨"CoresAreWills", "sharesTogether", "(I)I"⟩, 11), (⟨"CoresAreWills", "richest", "()I"⟩, 11), (⟨"CoresAreWills$Cover", "empties", "()V"⟩, 4)]
theorem lw_r1 : ∀ q ∈ lw_privs_1, lw_okq q := List.forall_mem_cons.mpr ⟨lw_p0, List.forall_mem_cons.mpr ⟨lw_p1, List.forall_mem_cons.mpr ⟨lw_p2, List.forall_mem_cons.mpr ⟨lw_p3, List.forall_mem_cons.mpr ⟨lw_p4, List.forall_mem_cons.mpr ⟨lw_p5, List.forall_mem_cons.mpr ⟨lw_p6, List.forall_mem_cons.mpr ⟨lw_p7, List.forall_mem_cons.mpr ⟨lw_p8, List.forall_mem_cons.mpr ⟨lw_p9, List.forall_mem_cons.mpr ⟨lw_p10, List.forall_mem_cons.mpr ⟨lw_p11, List.forall_mem_cons.mpr ⟨lw_p12, List.forall_mem_cons.mpr ⟨lw_p13, List.forall_mem_cons.mpr ⟨lw_p14, List.forall_mem_cons.mpr ⟨lw_p15, fun _ h => absurd h List.not_mem_nil⟩⟩⟩⟩⟩⟩⟩⟩⟩⟩⟩⟩⟩⟩⟩⟩
theorem lw_p16 : lw_okq (⟨"CoresAreWills$Cover", "comesTo", "(III)V"⟩, 4) := ⟨⟨by decide +kernel, by decide +kernel⟩, List.mem_of_getElem? (i := 76) (by decide +kernel), List.mem_of_getElem? (i := 499) (by decide +kernel), List.mem_of_getElem? (i := 500) (by decide +kernel)⟩
theorem lw_p17 : lw_okq (⟨"CoresAreWills$Cover", "steps", "()V"⟩, 4) := ⟨⟨by decide +kernel, by decide +kernel⟩, List.mem_of_getElem? (i := 76) (by decide +kernel), List.mem_of_getElem? (i := 505) (by decide +kernel), List.mem_of_getElem? (i := 506) (by decide +kernel)⟩
theorem lw_p18 : lw_okq (⟨"CoresAreWills$Cover", "goesOn", "(III)V"⟩, 4) := ⟨⟨by decide +kernel, by decide +kernel⟩, List.mem_of_getElem? (i := 76) (by decide +kernel), List.mem_of_getElem? (i := 509) (by decide +kernel), List.mem_of_getElem? (i := 510) (by decide +kernel)⟩
theorem lw_p19 : lw_okq (⟨"CoresAreWills", "isSettled", "(I)Z"⟩, 11) := ⟨⟨by decide +kernel, by decide +kernel⟩, List.mem_of_getElem? (i := 17) (by decide +kernel), List.mem_of_getElem? (i := 532) (by decide +kernel), List.mem_of_getElem? (i := 533) (by decide +kernel)⟩
theorem lw_p20 : lw_okq (⟨"CoresAreWills", "firstCellThatSettles", "(II)I"⟩, 11) := ⟨⟨by decide +kernel, by decide +kernel⟩, List.mem_of_getElem? (i := 17) (by decide +kernel), List.mem_of_getElem? (i := 536) (by decide +kernel), List.mem_of_getElem? (i := 537) (by decide +kernel)⟩
theorem lw_p21 : lw_okq (⟨"CoresAreWills", "firstOfTwoThatSettle", "()I"⟩, 11) := ⟨⟨by decide +kernel, by decide +kernel⟩, List.mem_of_getElem? (i := 17) (by decide +kernel), List.mem_of_getElem? (i := 540) (by decide +kernel), List.mem_of_getElem? (i := 541) (by decide +kernel)⟩
theorem lw_p22 : lw_okq (⟨"CoresAreWills", "furthestBite", "(III)I"⟩, 11) := ⟨⟨by decide +kernel, by decide +kernel⟩, List.mem_of_getElem? (i := 17) (by decide +kernel), List.mem_of_getElem? (i := 575) (by decide +kernel), List.mem_of_getElem? (i := 576) (by decide +kernel)⟩
theorem lw_p23 : lw_okq (⟨"CoresAreWills", "toldBite", "(III)I"⟩, 11) := ⟨⟨by decide +kernel, by decide +kernel⟩, List.mem_of_getElem? (i := 17) (by decide +kernel), List.mem_of_getElem? (i := 579) (by decide +kernel), List.mem_of_getElem? (i := 580) (by decide +kernel)⟩
theorem lw_p24 : lw_okq (⟨"CoresAreWills", "firstBiteTo", "(IIII)I"⟩, 11) := ⟨⟨by decide +kernel, by decide +kernel⟩, List.mem_of_getElem? (i := 17) (by decide +kernel), List.mem_of_getElem? (i := 594) (by decide +kernel), List.mem_of_getElem? (i := 595) (by decide +kernel)⟩
theorem lw_p25 : lw_okq (⟨"CoresAreWills", "firstOfTwoBitesTo", "(II)I"⟩, 11) := ⟨⟨by decide +kernel, by decide +kernel⟩, List.mem_of_getElem? (i := 17) (by decide +kernel), List.mem_of_getElem? (i := 598) (by decide +kernel), List.mem_of_getElem? (i := 599) (by decide +kernel)⟩
theorem lw_p26 : lw_okq (⟨"CoresAreWills", "changesNobody", "(I)Z"⟩, 11) := ⟨⟨by decide +kernel, by decide +kernel⟩, List.mem_of_getElem? (i := 17) (by decide +kernel), List.mem_of_getElem? (i := 606) (by decide +kernel), List.mem_of_getElem? (i := 607) (by decide +kernel)⟩
theorem lw_p27 : lw_okq (⟨"CoresAreWills", "areTwo", "(II)Z"⟩, 11) := ⟨⟨by decide +kernel, by decide +kernel⟩, List.mem_of_getElem? (i := 17) (by decide +kernel), List.mem_of_getElem? (i := 618) (by decide +kernel), List.mem_of_getElem? (i := 619) (by decide +kernel)⟩
theorem lw_p28 : lw_okq (⟨"CoresAreWills", "chosen", "(III)I"⟩, 11) := ⟨⟨by decide +kernel, by decide +kernel⟩, List.mem_of_getElem? (i := 17) (by decide +kernel), List.mem_of_getElem? (i := 627) (by decide +kernel), List.mem_of_getElem? (i := 628) (by decide +kernel)⟩
theorem lw_p29 : lw_okq (⟨"CoresAreWills", "singlesTo", "(IIII)I"⟩, 11) := ⟨⟨by decide +kernel, by decide +kernel⟩, List.mem_of_getElem? (i := 17) (by decide +kernel), List.mem_of_getElem? (i := 639) (by decide +kernel), List.mem_of_getElem? (i := 640) (by decide +kernel)⟩
theorem lw_p30 : lw_okq (⟨"CoresAreWills", "pairsTo", "(II)I"⟩, 11) := ⟨⟨by decide +kernel, by decide +kernel⟩, List.mem_of_getElem? (i := 17) (by decide +kernel), List.mem_of_getElem? (i := 643) (by decide +kernel), List.mem_of_getElem? (i := 644) (by decide +kernel)⟩
theorem lw_p31 : lw_okq (⟨"CoresAreWills", "fitsTold", "(II)Z"⟩, 11) := ⟨⟨by decide +kernel, by decide +kernel⟩, List.mem_of_getElem? (i := 17) (by decide +kernel), List.mem_of_getElem? (i := 655) (by decide +kernel), List.mem_of_getElem? (i := 656) (by decide +kernel)⟩
def lw_privs_2 : List (MethodName × Nat) := [(⟨"CoresAreWills$Cover", "comesTo", "(III)V"⟩, 4), (⟨"CoresAreWills$Cover", "steps", "()V"⟩, 4), (⟨"CoresAreWills$Cover", "goesOn", "(III)V"⟩, 4), (⟨"CoresAreWills", "isSettled", "(I)Z"⟩, 11), (⟨"CoresAreWills", "firstCellThatSettles", "(II)I"⟩, 11), (⟨"CoresAreWills", "firstOfTwoThatSettle", "()I"⟩, 11), (⟨"CoresAreWills", "furthestBite", "(III)I"⟩, 11), (⟨"CoresAreWills", "toldBite", "(III)I"⟩, 11), (⟨"CoresAreWills", "firstBiteTo", "(IIII)I"⟩, 11), (⟨"CoresAreWills", "firstOfTwoBitesTo", "(II)I"⟩, 11), (⟨"CoresAreWills", "changesNobody", "(I)Z"⟩, 11), (⟨"CoresAreWills", "areTwo", "(II)Z"⟩, 11), (⟨"CoresAreWills", "chosen", "(III)I"⟩, 11), (⟨"CoresAreWills", "singlesTo", "(IIII)I"⟩, 11), (⟨"CoresAreWills", "pairsTo", "(II)I"⟩, 11), (⟨"CoresAreWills", "fitsTold", "(II)Z"⟩, 11)]
theorem lw_r2 : ∀ q ∈ lw_privs_2, lw_okq q := List.forall_mem_cons.mpr ⟨lw_p16, List.forall_mem_cons.mpr ⟨lw_p17, List.forall_mem_cons.mpr ⟨lw_p18, List.forall_mem_cons.mpr ⟨lw_p19, List.forall_mem_cons.mpr ⟨lw_p20, List.forall_mem_cons.mpr ⟨lw_p21, List.forall_mem_cons.mpr ⟨lw_p22, List.forall_mem_cons.mpr ⟨lw_p23, List.forall_mem_cons.mpr ⟨lw_p24, List.forall_mem_cons.mpr ⟨lw_p25, List.forall_mem_cons.mpr ⟨lw_p26, List.forall_mem_cons.mpr ⟨lw_p27, List.forall_mem_cons.mpr ⟨lw_p28, List.forall_mem_cons.mpr ⟨lw_p29, List.forall_mem_cons.mpr ⟨lw_p30, List.forall_mem_cons.mpr ⟨lw_p31, fun _ h => absurd h List.not_mem_nil⟩⟩⟩⟩⟩⟩⟩⟩⟩⟩⟩⟩⟩⟩⟩⟩
theorem lw_p32 : lw_okq (⟨"CoresAreWills", "firstWronglyTold", "()I"⟩, 11) := ⟨⟨by decide +kernel, by decide +kernel⟩, List.mem_of_getElem? (i := 17) (by decide +kernel), List.mem_of_getElem? (i := 667) (by decide +kernel), List.mem_of_getElem? (i := 668) (by decide +kernel)⟩
theorem lw_p33 : lw_okq (⟨"CoresAreWillsModel", "no", "(I)I"⟩, 26) := ⟨⟨by decide +kernel, by decide +kernel⟩, List.mem_of_getElem? (i := 700) (by decide +kernel), List.mem_of_getElem? (i := 790) (by decide +kernel), List.mem_of_getElem? (i := 791) (by decide +kernel)⟩
theorem lw_p34 : lw_okq (⟨"CoresAreWillsModel", "readsStatement", "()Z"⟩, 26) := ⟨⟨by decide +kernel, by decide +kernel⟩, List.mem_of_getElem? (i := 700) (by decide +kernel), List.mem_of_getElem? (i := 798) (by decide +kernel), List.mem_of_getElem? (i := 799) (by decide +kernel)⟩
theorem lw_p35 : lw_okq (⟨"CoresAreWillsModel", "here", "()I"⟩, 26) := ⟨⟨by decide +kernel, by decide +kernel⟩, List.mem_of_getElem? (i := 700) (by decide +kernel), List.mem_of_getElem? (i := 802) (by decide +kernel), List.mem_of_getElem? (i := 803) (by decide +kernel)⟩
theorem lw_p36 : lw_okq (⟨"CoresAreWillsModel", "readsKind", "()Z"⟩, 26) := ⟨⟨by decide +kernel, by decide +kernel⟩, List.mem_of_getElem? (i := 700) (by decide +kernel), List.mem_of_getElem? (i := 806) (by decide +kernel), List.mem_of_getElem? (i := 807) (by decide +kernel)⟩
theorem lw_p37 : lw_okq (⟨"CoresAreWillsModel", "readsNumber", "(II)Z"⟩, 26) := ⟨⟨by decide +kernel, by decide +kernel⟩, List.mem_of_getElem? (i := 700) (by decide +kernel), List.mem_of_getElem? (i := 813) (by decide +kernel), List.mem_of_getElem? (i := 814) (by decide +kernel)⟩
theorem lw_p38 : lw_okq (⟨"CoresAreWillsModel", "lays", "()V"⟩, 26) := ⟨⟨by decide +kernel, by decide +kernel⟩, List.mem_of_getElem? (i := 700) (by decide +kernel), List.mem_of_getElem? (i := 820) (by decide +kernel), List.mem_of_getElem? (i := 821) (by decide +kernel)⟩
theorem lw_p39 : lw_okq (⟨"CoresAreWillsModel", "isDone", "(I)Z"⟩, 26) := ⟨⟨by decide +kernel, by decide +kernel⟩, List.mem_of_getElem? (i := 700) (by decide +kernel), List.mem_of_getElem? (i := 824) (by decide +kernel), List.mem_of_getElem? (i := 825) (by decide +kernel)⟩
theorem lw_p40 : lw_okq (⟨"CoresAreWillsModel", "bitesOff", "(I)V"⟩, 26) := ⟨⟨by decide +kernel, by decide +kernel⟩, List.mem_of_getElem? (i := 700) (by decide +kernel), List.mem_of_getElem? (i := 837) (by decide +kernel), List.mem_of_getElem? (i := 838) (by decide +kernel)⟩
theorem lw_p41 : lw_okq (⟨"CoresAreWillsModel", "allAgain", "()V"⟩, 26) := ⟨⟨by decide +kernel, by decide +kernel⟩, List.mem_of_getElem? (i := 700) (by decide +kernel), List.mem_of_getElem? (i := 850) (by decide +kernel), List.mem_of_getElem? (i := 851) (by decide +kernel)⟩
theorem lw_p42 : lw_okq (⟨"CoresAreWillsModel", "laysBack", "()V"⟩, 26) := ⟨⟨by decide +kernel, by decide +kernel⟩, List.mem_of_getElem? (i := 700) (by decide +kernel), List.mem_of_getElem? (i := 854) (by decide +kernel), List.mem_of_getElem? (i := 855) (by decide +kernel)⟩
theorem lw_p43 : lw_okq (⟨"CoresAreWillsModel", "isHeir", "(I)Z"⟩, 26) := ⟨⟨by decide +kernel, by decide +kernel⟩, List.mem_of_getElem? (i := 700) (by decide +kernel), List.mem_of_getElem? (i := 875) (by decide +kernel), List.mem_of_getElem? (i := 876) (by decide +kernel)⟩
theorem lw_p44 : lw_okq (⟨"CoresAreWillsModel", "shareOf", "(II)I"⟩, 26) := ⟨⟨by decide +kernel, by decide +kernel⟩, List.mem_of_getElem? (i := 700) (by decide +kernel), List.mem_of_getElem? (i := 879) (by decide +kernel), List.mem_of_getElem? (i := 880) (by decide +kernel)⟩
theorem lw_p45 : lw_okq (⟨"CoresAreWillsModel", "sharesOf", "(I)I"⟩, 26) := ⟨⟨by decide +kernel, by decide +kernel⟩, List.mem_of_getElem? (i := 700) (by decide +kernel), List.mem_of_getElem? (i := 928) (by decide +kernel), List.mem_of_getElem? (i := 929) (by decide +kernel)⟩
theorem lw_p46 : lw_okq (⟨"CoresAreWillsModel", "biteTold", "(III)I"⟩, 26) := ⟨⟨by decide +kernel, by decide +kernel⟩, List.mem_of_getElem? (i := 700) (by decide +kernel), List.mem_of_getElem? (i := 950) (by decide +kernel), List.mem_of_getElem? (i := 951) (by decide +kernel)⟩
theorem lw_p47 : lw_okq (⟨"CoresAreWillsModel", "biteFor", "(III)I"⟩, 26) := ⟨⟨by decide +kernel, by decide +kernel⟩, List.mem_of_getElem? (i := 700) (by decide +kernel), List.mem_of_getElem? (i := 954) (by decide +kernel), List.mem_of_getElem? (i := 955) (by decide +kernel)⟩
def lw_privs_3 : List (MethodName × Nat) := [(⟨"CoresAreWills", "firstWronglyTold", "()I"⟩, 11), (⟨"CoresAreWillsModel", "no", "(I)I"⟩, 26), (⟨"CoresAreWillsModel", "readsStatement", "()Z"⟩, 26), (⟨"CoresAreWillsModel", "here", "()I"⟩, 26), (⟨"CoresAreWillsModel", "readsKind", "()Z"⟩, 26), (⟨"CoresAreWillsModel", "readsNumber", "(II)Z"⟩, 26), (⟨"CoresAreWillsModel", "lays", "()V"⟩, 26), (⟨"CoresAreWillsModel", "isDone", "(I)Z"⟩, 26), (⟨"CoresAreWillsModel", "bitesOff", "(I)V"⟩, 26), (⟨"CoresAreWillsModel", "allAgain", "()V"⟩, 26), (⟨"CoresAreWillsModel", "laysBack", "()V"⟩, 26), (⟨"CoresAreWillsModel", "isHeir", "(I)Z"⟩, 26), (⟨"CoresAreWillsModel", "shareOf", "(II)I"⟩, 26), (⟨"CoresAreWillsModel", "sharesOf", "(I)I"⟩, 26), (⟨"CoresAreWillsModel", "biteTold", "(III)I"⟩, 26), (⟨"CoresAreWillsModel", "biteFor", "(III)I"⟩, 26)]
theorem lw_r3 : ∀ q ∈ lw_privs_3, lw_okq q := List.forall_mem_cons.mpr ⟨lw_p32, List.forall_mem_cons.mpr ⟨lw_p33, List.forall_mem_cons.mpr ⟨lw_p34, List.forall_mem_cons.mpr ⟨lw_p35, List.forall_mem_cons.mpr ⟨lw_p36, List.forall_mem_cons.mpr ⟨lw_p37, List.forall_mem_cons.mpr ⟨lw_p38, List.forall_mem_cons.mpr ⟨lw_p39, List.forall_mem_cons.mpr ⟨lw_p40, List.forall_mem_cons.mpr ⟨lw_p41, List.forall_mem_cons.mpr ⟨lw_p42, List.forall_mem_cons.mpr ⟨lw_p43, List.forall_mem_cons.mpr ⟨lw_p44, List.forall_mem_cons.mpr ⟨lw_p45, List.forall_mem_cons.mpr ⟨lw_p46, List.forall_mem_cons.mpr ⟨lw_p47, fun _ h => absurd h List.not_mem_nil⟩⟩⟩⟩⟩⟩⟩⟩⟩⟩⟩⟩⟩⟩⟩⟩
theorem lw_p48 : lw_okq (⟨"CoresAreWillsModel", "isSoBy", "(IIII)Z"⟩, 26) := ⟨⟨by decide +kernel, by decide +kernel⟩, List.mem_of_getElem? (i := 700) (by decide +kernel), List.mem_of_getElem? (i := 969) (by decide +kernel), List.mem_of_getElem? (i := 970) (by decide +kernel)⟩
theorem lw_p49 : lw_okq (⟨"CoresAreWillsModel", "firstSo", "(III)I"⟩, 26) := ⟨⟨by decide +kernel, by decide +kernel⟩, List.mem_of_getElem? (i := 700) (by decide +kernel), List.mem_of_getElem? (i := 973) (by decide +kernel), List.mem_of_getElem? (i := 974) (by decide +kernel)⟩
theorem lw_p50 : lw_okq (⟨"CoresAreWillsModel", "comesTo", "(IIII)V"⟩, 26) := ⟨⟨by decide +kernel, by decide +kernel⟩, List.mem_of_getElem? (i := 700) (by decide +kernel), List.mem_of_getElem? (i := 990) (by decide +kernel), List.mem_of_getElem? (i := 991) (by decide +kernel)⟩
theorem lw_p51 : lw_okq (⟨"CoresAreWillsModel", "areTwo", "(II)Z"⟩, 26) := ⟨⟨by decide +kernel, by decide +kernel⟩, List.mem_of_getElem? (i := 700) (by decide +kernel), List.mem_of_getElem? (i := 1015) (by decide +kernel), List.mem_of_getElem? (i := 1016) (by decide +kernel)⟩
theorem lw_p52 : lw_okq (⟨"CoresAreWillsModel", "noFar", "(I)I"⟩, 26) := ⟨⟨by decide +kernel, by decide +kernel⟩, List.mem_of_getElem? (i := 700) (by decide +kernel), List.mem_of_getElem? (i := 1019) (by decide +kernel), List.mem_of_getElem? (i := 1020) (by decide +kernel)⟩
theorem lw_p53 : lw_okq (⟨"CoresAreWillsModel", "stepsFrom", "(I)I"⟩, 26) := ⟨⟨by decide +kernel, by decide +kernel⟩, List.mem_of_getElem? (i := 700) (by decide +kernel), List.mem_of_getElem? (i := 1031) (by decide +kernel), List.mem_of_getElem? (i := 1032) (by decide +kernel)⟩
theorem lw_p54 : lw_okq (⟨"CoresAreWillsModel", "shareBoth", "(IIIII)I"⟩, 26) := ⟨⟨by decide +kernel, by decide +kernel⟩, List.mem_of_getElem? (i := 700) (by decide +kernel), List.mem_of_getElem? (i := 1039) (by decide +kernel), List.mem_of_getElem? (i := 1040) (by decide +kernel)⟩
theorem lw_p55 : lw_okq (⟨"CoresAreWillsModel", "firstBite", "(I)I"⟩, 26) := ⟨⟨by decide +kernel, by decide +kernel⟩, List.mem_of_getElem? (i := 700) (by decide +kernel), List.mem_of_getElem? (i := 1043) (by decide +kernel), List.mem_of_getElem? (i := 1044) (by decide +kernel)⟩
theorem lw_p56 : lw_okq (⟨"CoresAreWillsModel", "noWide", "(I)J"⟩, 26) := ⟨⟨by decide +kernel, by decide +kernel⟩, List.mem_of_getElem? (i := 700) (by decide +kernel), List.mem_of_getElem? (i := 1051) (by decide +kernel), List.mem_of_getElem? (i := 1052) (by decide +kernel)⟩
theorem lw_p57 : lw_okq (⟨"CoresAreWillsModel", "waysFor", "(IIII)J"⟩, 26) := ⟨⟨by decide +kernel, by decide +kernel⟩, List.mem_of_getElem? (i := 700) (by decide +kernel), List.mem_of_getElem? (i := 1056) (by decide +kernel), List.mem_of_getElem? (i := 1057) (by decide +kernel)⟩
theorem lw_p58 : lw_okq (⟨"CoresAreWillsModel", "drawn", "(I)I"⟩, 26) := ⟨⟨by decide +kernel, by decide +kernel⟩, List.mem_of_getElem? (i := 700) (by decide +kernel), List.mem_of_getElem? (i := 1090) (by decide +kernel), List.mem_of_getElem? (i := 1091) (by decide +kernel)⟩
def lw_privs_4 : List (MethodName × Nat) := [(⟨"CoresAreWillsModel", "isSoBy", "(IIII)Z"⟩, 26), (⟨"CoresAreWillsModel", "firstSo", "(III)I"⟩, 26), (⟨"CoresAreWillsModel", "comesTo", "(IIII)V"⟩, 26), (⟨"CoresAreWillsModel", "areTwo", "(II)Z"⟩, 26), (⟨"CoresAreWillsModel", "noFar", "(I)I"⟩, 26), (⟨"CoresAreWillsModel", "stepsFrom", "(I)I"⟩, 26), (⟨"CoresAreWillsModel", "shareBoth", "(IIIII)I"⟩, 26), (⟨"CoresAreWillsModel", "firstBite", "(I)I"⟩, 26), (⟨"CoresAreWillsModel", "noWide", "(I)J"⟩, 26), (⟨"CoresAreWillsModel", "waysFor", "(IIII)J"⟩, 26), (⟨"CoresAreWillsModel", "drawn", "(I)I"⟩, 26)]
theorem lw_r4 : ∀ q ∈ lw_privs_4, lw_okq q := List.forall_mem_cons.mpr ⟨lw_p48, List.forall_mem_cons.mpr ⟨lw_p49, List.forall_mem_cons.mpr ⟨lw_p50, List.forall_mem_cons.mpr ⟨lw_p51, List.forall_mem_cons.mpr ⟨lw_p52, List.forall_mem_cons.mpr ⟨lw_p53, List.forall_mem_cons.mpr ⟨lw_p54, List.forall_mem_cons.mpr ⟨lw_p55, List.forall_mem_cons.mpr ⟨lw_p56, List.forall_mem_cons.mpr ⟨lw_p57, List.forall_mem_cons.mpr ⟨lw_p58, fun _ h => absurd h List.not_mem_nil⟩⟩⟩⟩⟩⟩⟩⟩⟩⟩⟩
def lw_privs : List (MethodName × Nat) := lw_privs_1 ++ (lw_privs_2 ++ (lw_privs_3 ++ (lw_privs_4)))
def lw_tbl : List Cond := k2_sels lw_privs ++ tables_1
theorem lw_privs_ok : ∀ q ∈ lw_privs, lw_okq q := by
  show ∀ q ∈ lw_privs_1 ++ (lw_privs_2 ++ (lw_privs_3 ++ (lw_privs_4))), lw_okq q
  exact List.forall_mem_append.mpr ⟨lw_r1, List.forall_mem_append.mpr ⟨lw_r2, List.forall_mem_append.mpr ⟨lw_r3, lw_r4⟩⟩⟩
-- ===== end of PART A; then your names; then what follows =====
def RX0 : String := "CoresAreWills$Core"
def TX0 : u_T := fun k => match k with
  | 0 => ("CoresAreWills$Core", "kinds", "[I", true)
  | 1 => ("CoresAreWills$Core", "figures", "[I", true)
  | 2 => ("CoresAreWills$Core", "heirs", "I", false)
  | 3 => ("CoresAreWills$Core", "left", "I", false)
  | _ => ("CoresAreWills$Core", "bitten", "I", false)
def tyX0 : Nat → FieldType := fun k => match k with
  | 0 => .array .int
  | 1 => .array .int
  | 2 => .int
  | 3 => .int
  | _ => .int
abbrev wsX00 : List Cond := u_ws RX0 TX0 5
theorem nmX0 : ∀ a, a < 5 → ∀ b, b < 5 → a ≠ b → (TX0 a).2.1 ≠ (TX0 b).2.1 := by decide +kernel
theorem tyX0_ok : ∀ k, k < 5 → parseFieldDescriptor (TX0 k).2.2.1 = some (tyX0 k) := by decide +kernel
abbrev cX0_init : ByteArray := prog_2_method_1_code
def yX0_init : MethodName := ⟨RX0, "<init>", "()V"⟩
abbrev cX0_becomes : ByteArray := prog_2_method_2_code
def yX0_becomes : MethodName := ⟨RX0, "becomes", "(LCoresAreWills$Core;)V"⟩
abbrev cX0_takesHeir : ByteArray := prog_2_method_3_code
def yX0_takesHeir : MethodName := ⟨RX0, "takesHeir", "(II)Z"⟩
abbrev cX0_takesBite : ByteArray := prog_2_method_4_code
def yX0_takesBite : MethodName := ⟨RX0, "takesBite", "(II)Z"⟩
abbrev cX0_mends : ByteArray := prog_2_method_5_code
def yX0_mends : MethodName := ⟨RX0, "mends", "(I)Z"⟩
abbrev cX0_turnsBy : ByteArray := prog_2_method_6_code
def yX0_turnsBy : MethodName := ⟨RX0, "turnsBy", "(I)Z"⟩
abbrev cX0_renews : ByteArray := prog_2_method_7_code
def yX0_renews : MethodName := ⟨RX0, "renews", "()Z"⟩
def RX1 : String := "CoresAreWills$Cover"
def TX1 : u_T := fun k => match k with
  | 0 => ("CoresAreWills$Cover", "ways", "[I", false)
  | 1 => ("CoresAreWills$Cover", "fewest", "[I", false)
  | 2 => ("CoresAreWills$Cover", "nextWays", "[I", false)
  | _ => ("CoresAreWills$Cover", "nextFewest", "[I", false)
def tyX1 : Nat → FieldType := fun k => match k with
  | 0 => .array .int
  | 1 => .array .int
  | 2 => .array .int
  | _ => .array .int
abbrev wsX10 : List Cond := u_ws RX1 TX1 4
theorem nmX1 : ∀ a, a < 4 → ∀ b, b < 4 → a ≠ b → (TX1 a).2.1 ≠ (TX1 b).2.1 := by decide +kernel
theorem tyX1_ok : ∀ k, k < 4 → parseFieldDescriptor (TX1 k).2.2.1 = some (tyX1 k) := by decide +kernel
abbrev cX1_init : ByteArray := prog_3_method_1_code
def yX1_init : MethodName := ⟨RX1, "<init>", "()V"⟩
abbrev cX1_waysDone : ByteArray := prog_3_method_2_code
def yX1_waysDone : MethodName := ⟨RX1, "waysDone", "()I"⟩
abbrev cX1_fewDone : ByteArray := prog_3_method_3_code
def yX1_fewDone : MethodName := ⟨RX1, "fewDone", "()I"⟩
abbrev cX1_covers : ByteArray := prog_3_method_4_code
def yX1_covers : MethodName := ⟨RX1, "covers", "(I)V"⟩
abbrev cX1_goesOn : ByteArray := prog_3_method_5_code
def yX1_goesOn : MethodName := ⟨RX1, "goesOn", "(III)V"⟩
abbrev cX1_comesTo : ByteArray := prog_3_method_6_code
def yX1_comesTo : MethodName := ⟨RX1, "comesTo", "(III)V"⟩
abbrev cX1_steps : ByteArray := prog_3_method_7_code
def yX1_steps : MethodName := ⟨RX1, "steps", "()V"⟩
abbrev cX1_empties : ByteArray := prog_3_method_8_code
def yX1_empties : MethodName := ⟨RX1, "empties", "()V"⟩
def RX2 : String := "CoresAreWills$Grid"
def TX2 : u_T := fun k => match k with
  | _ => ("", "", "", false)
def tyX2 : Nat → FieldType := fun k => match k with
  | _ => .int
abbrev wsX20 : List Cond := u_ws RX2 TX2 0
theorem nmX2 : ∀ a, a < 0 → ∀ b, b < 0 → a ≠ b → (TX2 a).2.1 ≠ (TX2 b).2.1 := by decide +kernel
theorem tyX2_ok : ∀ k, k < 0 → parseFieldDescriptor (TX2 k).2.2.1 = some (tyX2 k) := by decide +kernel
abbrev cX2_cellsOf : ByteArray := prog_4_method_2_code
def yX2_cellsOf : MethodName := ⟨RX2, "cellsOf", "(II)I"⟩
abbrev cX2_behind : ByteArray := prog_4_method_3_code
def yX2_behind : MethodName := ⟨RX2, "behind", "(II)I"⟩
abbrev cX2_besides : ByteArray := prog_4_method_4_code
def yX2_besides : MethodName := ⟨RX2, "besides", "(I)I"⟩
abbrev cX2_heapOf : ByteArray := prog_4_method_5_code
def yX2_heapOf : MethodName := ⟨RX2, "heapOf", "(II)I"⟩
abbrev cX2_heapsOf : ByteArray := prog_4_method_6_code
def yX2_heapsOf : MethodName := ⟨RX2, "heapsOf", "(I)I"⟩
abbrev cX2_holesOf : ByteArray := prog_4_method_7_code
def yX2_holesOf : MethodName := ⟨RX2, "holesOf", "(I)I"⟩
abbrev cX2_openSides : ByteArray := prog_4_method_8_code
def yX2_openSides : MethodName := ⟨RX2, "openSides", "(I)I"⟩
abbrev cX2_turned : ByteArray := prog_4_method_9_code
def yX2_turned : MethodName := ⟨RX2, "turned", "(I)I"⟩
abbrev cX2_leastCell : ByteArray := prog_4_method_10_code
def yX2_leastCell : MethodName := ⟨RX2, "leastCell", "(I)I"⟩
abbrev cX2_middleOf : ByteArray := prog_4_method_11_code
def yX2_middleOf : MethodName := ⟨RX2, "middleOf", "(I)I"⟩
abbrev cX2_stepsToAll : ByteArray := prog_4_method_12_code
def yX2_stepsToAll : MethodName := ⟨RX2, "stepsToAll", "(II)I"⟩
def RX3 : String := "CoresAreWills$Reading"
def TX3 : u_T := fun k => match k with
  | 0 => ("CoresAreWills$Reading", "gone", "I", false)
  | 1 => ("CoresAreWills$Reading", "heaps", "I", false)
  | 2 => ("CoresAreWills$Reading", "fewestCells", "I", false)
  | _ => ("CoresAreWills$Reading", "deed", "I", false)
def tyX3 : Nat → FieldType := fun k => match k with
  | 0 => .int
  | 1 => .int
  | 2 => .int
  | _ => .int
abbrev wsX30 : List Cond := u_ws RX3 TX3 4
theorem nmX3 : ∀ a, a < 4 → ∀ b, b < 4 → a ≠ b → (TX3 a).2.1 ≠ (TX3 b).2.1 := by decide +kernel
theorem tyX3_ok : ∀ k, k < 4 → parseFieldDescriptor (TX3 k).2.2.1 = some (tyX3 k) := by decide +kernel
abbrev cX3_init : ByteArray := prog_5_method_1_code
def yX3_init : MethodName := ⟨RX3, "<init>", "()V"⟩
abbrev cX3_reads : ByteArray := prog_5_method_2_code
def yX3_reads : MethodName := ⟨RX3, "reads", "(I)V"⟩
abbrev cX3_isInChancery : ByteArray := prog_5_method_3_code
def yX3_isInChancery : MethodName := ⟨RX3, "isInChancery", "()Z"⟩
abbrev cX3_shareBy : ByteArray := prog_5_method_4_code
def yX3_shareBy : MethodName := ⟨RX3, "shareBy", "(II)I"⟩
abbrev cX3_nephews : ByteArray := prog_5_method_5_code
def yX3_nephews : MethodName := ⟨RX3, "nephews", "(I)I"⟩
abbrev cX3_elders : ByteArray := prog_5_method_6_code
def yX3_elders : MethodName := ⟨RX3, "elders", "(I)I"⟩
abbrev cX3_widows : ByteArray := prog_5_method_7_code
def yX3_widows : MethodName := ⟨RX3, "widows", "(I)I"⟩
def RX4 : String := "CoresAreWills$Text"
def TX4 : u_T := fun k => match k with
  | 0 => ("CoresAreWills$Text", "letters", "[I", true)
  | _ => ("CoresAreWills$Text", "length", "I", false)
def tyX4 : Nat → FieldType := fun k => match k with
  | 0 => .array .int
  | _ => .int
abbrev wsX40 : List Cond := u_ws RX4 TX4 2
theorem nmX4 : ∀ a, a < 2 → ∀ b, b < 2 → a ≠ b → (TX4 a).2.1 ≠ (TX4 b).2.1 := by decide +kernel
theorem tyX4_ok : ∀ k, k < 2 → parseFieldDescriptor (TX4 k).2.2.1 = some (tyX4 k) := by decide +kernel
abbrev cX4_init : ByteArray := prog_6_method_1_code
def yX4_init : MethodName := ⟨RX4, "<init>", "()V"⟩
abbrev cX4_takes : ByteArray := prog_6_method_2_code
def yX4_takes : MethodName := ⟨RX4, "takes", "(I)I"⟩
abbrev cX4_misfit : ByteArray := prog_6_method_3_code
def yX4_misfit : MethodName := ⟨RX4, "misfit", "()I"⟩
abbrev cX4_formAt : ByteArray := prog_6_method_4_code
def yX4_formAt : MethodName := ⟨RX4, "formAt", "(I)Ljava/lang/String;"⟩
abbrev cX4_doesStatement : ByteArray := prog_6_method_5_code
def yX4_doesStatement : MethodName := ⟨RX4, "doesStatement", "(ILCoresAreWills$Core;)Z"⟩
abbrev cX4_suits : ByteArray := prog_6_method_6_code
def yX4_suits : MethodName := ⟨RX4, "suits", "(Ljava/lang/String;II)Z"⟩
abbrev cX4_letterAt : ByteArray := prog_6_method_7_code
def yX4_letterAt : MethodName := ⟨RX4, "letterAt", "(I)I"⟩
abbrev cX4_kindAt : ByteArray := prog_6_method_8_code
def yX4_kindAt : MethodName := ⟨RX4, "kindAt", "(I)I"⟩
abbrev cX4_digitAt : ByteArray := prog_6_method_9_code
def yX4_digitAt : MethodName := ⟨RX4, "digitAt", "(I)I"⟩
abbrev cX4_numberAt : ByteArray := prog_6_method_10_code
def yX4_numberAt : MethodName := ⟨RX4, "numberAt", "(I)I"⟩
def RX5 : String := "CoresAreWills"
def TX5 : u_T := fun k => match k with
  | 0 => ("CoresAreWills", "now", "LCoresAreWills$Core;", true)
  | 1 => ("CoresAreWills", "kept", "LCoresAreWills$Core;", true)
  | 2 => ("CoresAreWills", "trial", "LCoresAreWills$Core;", true)
  | 3 => ("CoresAreWills", "reading", "LCoresAreWills$Reading;", true)
  | 4 => ("CoresAreWills", "cover", "LCoresAreWills$Cover;", true)
  | 5 => ("CoresAreWills", "text", "LCoresAreWills$Text;", true)
  | 6 => ("CoresAreWills", "told", "[I", true)
  | 7 => ("CoresAreWills", "refusals", "[I", true)
  | 8 => ("CoresAreWills", "ends", "[I", true)
  | 9 => ("CoresAreWills", "tolds", "I", false)
  | _ => ("CoresAreWills", "hasImage", "Z", false)
def tyX5 : Nat → FieldType := fun k => match k with
  | 0 => .object "CoresAreWills$Core"
  | 1 => .object "CoresAreWills$Core"
  | 2 => .object "CoresAreWills$Core"
  | 3 => .object "CoresAreWills$Reading"
  | 4 => .object "CoresAreWills$Cover"
  | 5 => .object "CoresAreWills$Text"
  | 6 => .array .int
  | 7 => .array .int
  | 8 => .array .int
  | 9 => .int
  | _ => .boolean
abbrev wsX50 : List Cond := u_ws RX5 TX5 11
theorem nmX5 : ∀ a, a < 11 → ∀ b, b < 11 → a ≠ b → (TX5 a).2.1 ≠ (TX5 b).2.1 := by decide +kernel
theorem tyX5_ok : ∀ k, k < 11 → parseFieldDescriptor (TX5 k).2.2.1 = some (tyX5 k) := by decide +kernel
abbrev cX5_init : ByteArray := prog_1_method_1_code
def yX5_init : MethodName := ⟨RX5, "<init>", "()V"⟩
abbrev cX5_letter : ByteArray := prog_1_method_2_code
def yX5_letter : MethodName := ⟨RX5, "letter", "(I)I"⟩
abbrev cX5_core : ByteArray := prog_1_method_3_code
def yX5_core : MethodName := ⟨RX5, "core", "()I"⟩
abbrev cX5_cell : ByteArray := prog_1_method_4_code
def yX5_cell : MethodName := ⟨RX5, "cell", "(II)I"⟩
abbrev cX5_heir : ByteArray := prog_1_method_5_code
def yX5_heir : MethodName := ⟨RX5, "heir", "(II)I"⟩
abbrev cX5_bites : ByteArray := prog_1_method_6_code
def yX5_bites : MethodName := ⟨RX5, "bites", "(II)I"⟩
abbrev cX5_heals : ByteArray := prog_1_method_7_code
def yX5_heals : MethodName := ⟨RX5, "heals", "(I)I"⟩
abbrev cX5_rolls : ByteArray := prog_1_method_8_code
def yX5_rolls : MethodName := ⟨RX5, "rolls", "(I)I"⟩
abbrev cX5_turn : ByteArray := prog_1_method_9_code
def yX5_turn : MethodName := ⟨RX5, "turn", "(III)I"⟩
abbrev cX5_anew : ByteArray := prog_1_method_10_code
def yX5_anew : MethodName := ⟨RX5, "anew", "()I"⟩
abbrev cX5_shares : ByteArray := prog_1_method_11_code
def yX5_shares : MethodName := ⟨RX5, "shares", "(I)I"⟩
abbrev cX5_pieces : ByteArray := prog_1_method_12_code
def yX5_pieces : MethodName := ⟨RX5, "pieces", "(I)I"⟩
abbrev cX5_edge : ByteArray := prog_1_method_13_code
def yX5_edge : MethodName := ⟨RX5, "edge", "(I)I"⟩
abbrev cX5_can : ByteArray := prog_1_method_14_code
def yX5_can : MethodName := ⟨RX5, "can", "(I)I"⟩
abbrev cX5_ways : ByteArray := prog_1_method_15_code
def yX5_ways : MethodName := ⟨RX5, "ways", "(I)I"⟩
abbrev cX5_alike : ByteArray := prog_1_method_16_code
def yX5_alike : MethodName := ⟨RX5, "alike", "(I)I"⟩
abbrev cX5_settles : ByteArray := prog_1_method_17_code
def yX5_settles : MethodName := ⟨RX5, "settles", "(I)I"⟩
abbrev cX5_pips : ByteArray := prog_1_method_18_code
def yX5_pips : MethodName := ⟨RX5, "pips", "(I)I"⟩
abbrev cX5_join : ByteArray := prog_1_method_19_code
def yX5_join : MethodName := ⟨RX5, "join", "(I)I"⟩
abbrev cX5_bridge : ByteArray := prog_1_method_20_code
def yX5_bridge : MethodName := ⟨RX5, "bridge", "(I)I"⟩
abbrev cX5_best : ByteArray := prog_1_method_21_code
def yX5_best : MethodName := ⟨RX5, "best", "(II)I"⟩
abbrev cX5_worst : ByteArray := prog_1_method_22_code
def yX5_worst : MethodName := ⟨RX5, "worst", "(II)I"⟩
abbrev cX5_fewest : ByteArray := prog_1_method_23_code
def yX5_fewest : MethodName := ⟨RX5, "fewest", "(III)I"⟩
abbrev cX5_safe : ByteArray := prog_1_method_24_code
def yX5_safe : MethodName := ⟨RX5, "safe", "()I"⟩
abbrev cX5_grudge : ByteArray := prog_1_method_25_code
def yX5_grudge : MethodName := ⟨RX5, "grudge", "(I)I"⟩
abbrev cX5_gain : ByteArray := prog_1_method_26_code
def yX5_gain : MethodName := ⟨RX5, "gain", "(II)I"⟩
abbrev cX5_two : ByteArray := prog_1_method_27_code
def yX5_two : MethodName := ⟨RX5, "two", "(II)I"⟩
abbrev cX5_chance : ByteArray := prog_1_method_28_code
def yX5_chance : MethodName := ⟨RX5, "chance", "(IIII)J"⟩
abbrev cX5_mean : ByteArray := prog_1_method_29_code
def yX5_mean : MethodName := ⟨RX5, "mean", "(I)J"⟩
abbrev cX5_whatIs : ByteArray := prog_1_method_30_code
def yX5_whatIs : MethodName := ⟨RX5, "whatIs", "(II)I"⟩
abbrev cX5_row : ByteArray := prog_1_method_31_code
def yX5_row : MethodName := ⟨RX5, "row", "(I)I"⟩
abbrev cX5_judge : ByteArray := prog_1_method_32_code
def yX5_judge : MethodName := ⟨RX5, "judge", "()I"⟩
abbrev cX5_clear : ByteArray := prog_1_method_33_code
def yX5_clear : MethodName := ⟨RX5, "clear", "()I"⟩
abbrev cX5_lots : ByteArray := prog_1_method_34_code
def yX5_lots : MethodName := ⟨RX5, "lots", "(III)I"⟩
abbrev cX5_image : ByteArray := prog_1_method_35_code
def yX5_image : MethodName := ⟨RX5, "image", "()I"⟩
abbrev cX5_on : ByteArray := prog_1_method_36_code
def yX5_on : MethodName := ⟨RX5, "on", "()I"⟩
abbrev cX5_count : ByteArray := prog_1_method_37_code
def yX5_count : MethodName := ⟨RX5, "count", "(I)I"⟩
abbrev cX5_refused : ByteArray := prog_1_method_38_code
def yX5_refused : MethodName := ⟨RX5, "refused", "(I)I"⟩
abbrev cX5_isCell : ByteArray := prog_1_method_39_code
def yX5_isCell : MethodName := ⟨RX5, "isCell", "(I)Z"⟩
abbrev cX5_isTwofold : ByteArray := prog_1_method_40_code
def yX5_isTwofold : MethodName := ⟨RX5, "isTwofold", "(I)Z"⟩
abbrev cX5_isHeir : ByteArray := prog_1_method_41_code
def yX5_isHeir : MethodName := ⟨RX5, "isHeir", "(I)Z"⟩
abbrev cX5_areTwo : ByteArray := prog_1_method_42_code
def yX5_areTwo : MethodName := ⟨RX5, "areTwo", "(II)Z"⟩
abbrev cX5_isLeft : ByteArray := prog_1_method_43_code
def yX5_isLeft : MethodName := ⟨RX5, "isLeft", "(I)Z"⟩
abbrev cX5_shareOf : ByteArray := prog_1_method_44_code
def yX5_shareOf : MethodName := ⟨RX5, "shareOf", "(II)I"⟩
abbrev cX5_readShare : ByteArray := prog_1_method_45_code
def yX5_readShare : MethodName := ⟨RX5, "readShare", "(I)I"⟩
abbrev cX5_sharesTogether : ByteArray := prog_1_method_46_code
def yX5_sharesTogether : MethodName := ⟨RX5, "sharesTogether", "(I)I"⟩
abbrev cX5_richest : ByteArray := prog_1_method_47_code
def yX5_richest : MethodName := ⟨RX5, "richest", "()I"⟩
abbrev cX5_changesNobody : ByteArray := prog_1_method_48_code
def yX5_changesNobody : MethodName := ⟨RX5, "changesNobody", "(I)Z"⟩
abbrev cX5_isSettled : ByteArray := prog_1_method_49_code
def yX5_isSettled : MethodName := ⟨RX5, "isSettled", "(I)Z"⟩
abbrev cX5_bitesName : ByteArray := prog_1_method_50_code
def yX5_bitesName : MethodName := ⟨RX5, "bitesName", "(I)I"⟩
abbrev cX5_toldBite : ByteArray := prog_1_method_51_code
def yX5_toldBite : MethodName := ⟨RX5, "toldBite", "(III)I"⟩
abbrev cX5_furthestBite : ByteArray := prog_1_method_52_code
def yX5_furthestBite : MethodName := ⟨RX5, "furthestBite", "(III)I"⟩
abbrev cX5_firstBiteTo : ByteArray := prog_1_method_53_code
def yX5_firstBiteTo : MethodName := ⟨RX5, "firstBiteTo", "(IIII)I"⟩
abbrev cX5_firstOfTwoBitesTo : ByteArray := prog_1_method_54_code
def yX5_firstOfTwoBitesTo : MethodName := ⟨RX5, "firstOfTwoBitesTo", "(II)I"⟩
abbrev cX5_chosen : ByteArray := prog_1_method_55_code
def yX5_chosen : MethodName := ⟨RX5, "chosen", "(III)I"⟩
abbrev cX5_firstOfTwoThatSettle : ByteArray := prog_1_method_56_code
def yX5_firstOfTwoThatSettle : MethodName := ⟨RX5, "firstOfTwoThatSettle", "()I"⟩
abbrev cX5_firstCellThatSettles : ByteArray := prog_1_method_57_code
def yX5_firstCellThatSettles : MethodName := ⟨RX5, "firstCellThatSettles", "(II)I"⟩
abbrev cX5_bridgesOf : ByteArray := prog_1_method_58_code
def yX5_bridgesOf : MethodName := ⟨RX5, "bridgesOf", "(I)I"⟩
abbrev cX5_singlesTo : ByteArray := prog_1_method_59_code
def yX5_singlesTo : MethodName := ⟨RX5, "singlesTo", "(IIII)I"⟩
abbrev cX5_pairsTo : ByteArray := prog_1_method_60_code
def yX5_pairsTo : MethodName := ⟨RX5, "pairsTo", "(II)I"⟩
abbrev cX5_partOf : ByteArray := prog_1_method_61_code
def yX5_partOf : MethodName := ⟨RX5, "partOf", "(III)J"⟩
abbrev cX5_fitsTold : ByteArray := prog_1_method_62_code
def yX5_fitsTold : MethodName := ⟨RX5, "fitsTold", "(II)Z"⟩
abbrev cX5_firstWronglyTold : ByteArray := prog_1_method_63_code
def yX5_firstWronglyTold : MethodName := ⟨RX5, "firstWronglyTold", "()I"⟩
abbrev cX5_nextSeed : ByteArray := prog_1_method_64_code
def yX5_nextSeed : MethodName := ⟨RX5, "nextSeed", "(I)I"⟩
abbrev cX5_drawnFrom : ByteArray := prog_1_method_65_code
def yX5_drawnFrom : MethodName := ⟨RX5, "drawnFrom", "(I)I"⟩
abbrev cX5_trialOfText : ByteArray := prog_1_method_66_code
def yX5_trialOfText : MethodName := ⟨RX5, "trialOfText", "()I"⟩
def RX6 : String := "CoresAreWillsModel"
def TX6 : u_T := fun k => match k with
  | 0 => ("CoresAreWillsModel", "left", "I", false)
  | 1 => ("CoresAreWillsModel", "bites", "I", false)
  | 2 => ("CoresAreWillsModel", "many", "I", false)
  | 3 => ("CoresAreWillsModel", "imageLeft", "I", false)
  | 4 => ("CoresAreWillsModel", "imageBites", "I", false)
  | 5 => ("CoresAreWillsModel", "imageMany", "I", false)
  | 6 => ("CoresAreWillsModel", "wasLeft", "I", false)
  | 7 => ("CoresAreWillsModel", "wasBites", "I", false)
  | 8 => ("CoresAreWillsModel", "wasMany", "I", false)
  | 9 => ("CoresAreWillsModel", "kind", "[I", true)
  | 10 => ("CoresAreWillsModel", "figure", "[I", true)
  | 11 => ("CoresAreWillsModel", "imageKind", "[I", true)
  | 12 => ("CoresAreWillsModel", "imageFigure", "[I", true)
  | 13 => ("CoresAreWillsModel", "wasKind", "[I", true)
  | 14 => ("CoresAreWillsModel", "wasFigure", "[I", true)
  | 15 => ("CoresAreWillsModel", "hasImage", "Z", false)
  | 16 => ("CoresAreWillsModel", "letters", "[I", true)
  | 17 => ("CoresAreWillsModel", "row", "[I", true)
  | 18 => ("CoresAreWillsModel", "refused", "[I", true)
  | 19 => ("CoresAreWillsModel", "letterMany", "I", false)
  | 20 => ("CoresAreWillsModel", "rowMany", "I", false)
  | 21 => ("CoresAreWillsModel", "place", "I", false)
  | 22 => ("CoresAreWillsModel", "numbers", "[I", true)
  | 23 => ("CoresAreWillsModel", "counted", "[I", true)
  | 24 => ("CoresAreWillsModel", "few", "[I", true)
  | _ => ("CoresAreWillsModel", "seed", "I", false)
def tyX6 : Nat → FieldType := fun k => match k with
  | 0 => .int
  | 1 => .int
  | 2 => .int
  | 3 => .int
  | 4 => .int
  | 5 => .int
  | 6 => .int
  | 7 => .int
  | 8 => .int
  | 9 => .array .int
  | 10 => .array .int
  | 11 => .array .int
  | 12 => .array .int
  | 13 => .array .int
  | 14 => .array .int
  | 15 => .boolean
  | 16 => .array .int
  | 17 => .array .int
  | 18 => .array .int
  | 19 => .int
  | 20 => .int
  | 21 => .int
  | 22 => .array .int
  | 23 => .array .int
  | 24 => .array .int
  | _ => .int
abbrev wsX60 : List Cond := u_ws RX6 TX6 26
theorem nmX6 : ∀ a, a < 26 → ∀ b, b < 26 → a ≠ b → (TX6 a).2.1 ≠ (TX6 b).2.1 := by decide +kernel
theorem tyX6_ok : ∀ k, k < 26 → parseFieldDescriptor (TX6 k).2.2.1 = some (tyX6 k) := by decide +kernel
abbrev cX6_init : ByteArray := prog_8_method_1_code
def yX6_init : MethodName := ⟨RX6, "<init>", "()V"⟩
abbrev cX6_isIn : ByteArray := prog_8_method_2_code
def yX6_isIn : MethodName := ⟨RX6, "isIn", "(III)Z"⟩
abbrev cX6_least : ByteArray := prog_8_method_3_code
def yX6_least : MethodName := ⟨RX6, "least", "(II)I"⟩
abbrev cX6_no : ByteArray := prog_8_method_4_code
def yX6_no : MethodName := ⟨RX6, "no", "(I)I"⟩
abbrev cX6_noFar : ByteArray := prog_8_method_5_code
def yX6_noFar : MethodName := ⟨RX6, "noFar", "(I)I"⟩
abbrev cX6_noWide : ByteArray := prog_8_method_6_code
def yX6_noWide : MethodName := ⟨RX6, "noWide", "(I)J"⟩
abbrev cX6_isCell : ByteArray := prog_8_method_7_code
def yX6_isCell : MethodName := ⟨RX6, "isCell", "(I)Z"⟩
abbrev cX6_isHeir : ByteArray := prog_8_method_8_code
def yX6_isHeir : MethodName := ⟨RX6, "isHeir", "(I)Z"⟩
abbrev cX6_has : ByteArray := prog_8_method_9_code
def yX6_has : MethodName := ⟨RX6, "has", "(II)Z"⟩
abbrev cX6_bits : ByteArray := prog_8_method_10_code
def yX6_bits : MethodName := ⟨RX6, "bits", "(I)I"⟩
abbrev cX6_bite : ByteArray := prog_8_method_11_code
def yX6_bite : MethodName := ⟨RX6, "bite", "(II)I"⟩
abbrev cX6_canBite : ByteArray := prog_8_method_12_code
def yX6_canBite : MethodName := ⟨RX6, "canBite", "(III)Z"⟩
abbrev cX6_besideOf : ByteArray := prog_8_method_13_code
def yX6_besideOf : MethodName := ⟨RX6, "besideOf", "(I)I"⟩
abbrev cX6_heapOf : ByteArray := prog_8_method_14_code
def yX6_heapOf : MethodName := ⟨RX6, "heapOf", "(II)I"⟩
abbrev cX6_leastOf : ByteArray := prog_8_method_15_code
def yX6_leastOf : MethodName := ⟨RX6, "leastOf", "(I)I"⟩
abbrev cX6_heaps : ByteArray := prog_8_method_16_code
def yX6_heaps : MethodName := ⟨RX6, "heaps", "(I)I"⟩
abbrev cX6_deed : ByteArray := prog_8_method_17_code
def yX6_deed : MethodName := ⟨RX6, "deed", "(I)I"⟩
abbrev cX6_most : ByteArray := prog_8_method_18_code
def yX6_most : MethodName := ⟨RX6, "most", "(II)I"⟩
abbrev cX6_shareBy : ByteArray := prog_8_method_19_code
def yX6_shareBy : MethodName := ⟨RX6, "shareBy", "(III)I"⟩
abbrev cX6_shareOf : ByteArray := prog_8_method_20_code
def yX6_shareOf : MethodName := ⟨RX6, "shareOf", "(II)I"⟩
abbrev cX6_sharesOf : ByteArray := prog_8_method_21_code
def yX6_sharesOf : MethodName := ⟨RX6, "sharesOf", "(I)I"⟩
abbrev cX6_turned : ByteArray := prog_8_method_22_code
def yX6_turned : MethodName := ⟨RX6, "turned", "(I)I"⟩
abbrev cX6_turnedBy : ByteArray := prog_8_method_23_code
def yX6_turnedBy : MethodName := ⟨RX6, "turnedBy", "(II)I"⟩
abbrev cX6_letter : ByteArray := prog_8_method_24_code
def yX6_letter : MethodName := ⟨RX6, "letter", "(I)I"⟩
abbrev cX6_here : ByteArray := prog_8_method_25_code
def yX6_here : MethodName := ⟨RX6, "here", "()I"⟩
abbrev cX6_readsNumber : ByteArray := prog_8_method_26_code
def yX6_readsNumber : MethodName := ⟨RX6, "readsNumber", "(II)Z"⟩
abbrev cX6_kindBy : ByteArray := prog_8_method_27_code
def yX6_kindBy : MethodName := ⟨RX6, "kindBy", "(I)I"⟩
abbrev cX6_readsKind : ByteArray := prog_8_method_28_code
def yX6_readsKind : MethodName := ⟨RX6, "readsKind", "()Z"⟩
abbrev cX6_readsStatement : ByteArray := prog_8_method_29_code
def yX6_readsStatement : MethodName := ⟨RX6, "readsStatement", "()Z"⟩
abbrev cX6_bitesOff : ByteArray := prog_8_method_30_code
def yX6_bitesOff : MethodName := ⟨RX6, "bitesOff", "(I)V"⟩
abbrev cX6_allAgain : ByteArray := prog_8_method_31_code
def yX6_allAgain : MethodName := ⟨RX6, "allAgain", "()V"⟩
abbrev cX6_isDone : ByteArray := prog_8_method_32_code
def yX6_isDone : MethodName := ⟨RX6, "isDone", "(I)Z"⟩
abbrev cX6_lays : ByteArray := prog_8_method_33_code
def yX6_lays : MethodName := ⟨RX6, "lays", "()V"⟩
abbrev cX6_laysBack : ByteArray := prog_8_method_34_code
def yX6_laysBack : MethodName := ⟨RX6, "laysBack", "()V"⟩
abbrev cX6_core : ByteArray := prog_8_method_35_code
def yX6_core : MethodName := ⟨RX6, "core", "()I"⟩
abbrev cX6_cell : ByteArray := prog_8_method_36_code
def yX6_cell : MethodName := ⟨RX6, "cell", "(II)I"⟩
abbrev cX6_heir : ByteArray := prog_8_method_37_code
def yX6_heir : MethodName := ⟨RX6, "heir", "(II)I"⟩
abbrev cX6_bites : ByteArray := prog_8_method_38_code
def yX6_bites : MethodName := ⟨RX6, "bites", "(II)I"⟩
abbrev cX6_heals : ByteArray := prog_8_method_39_code
def yX6_heals : MethodName := ⟨RX6, "heals", "(I)I"⟩
abbrev cX6_rolls : ByteArray := prog_8_method_40_code
def yX6_rolls : MethodName := ⟨RX6, "rolls", "(I)I"⟩
abbrev cX6_wrongBy : ByteArray := prog_8_method_41_code
def yX6_wrongBy : MethodName := ⟨RX6, "wrongBy", "(II)I"⟩
abbrev cX6_turn : ByteArray := prog_8_method_42_code
def yX6_turn : MethodName := ⟨RX6, "turn", "(III)I"⟩
abbrev cX6_anew : ByteArray := prog_8_method_43_code
def yX6_anew : MethodName := ⟨RX6, "anew", "()I"⟩
abbrev cX6_shares : ByteArray := prog_8_method_44_code
def yX6_shares : MethodName := ⟨RX6, "shares", "(I)I"⟩
abbrev cX6_leastHeap : ByteArray := prog_8_method_45_code
def yX6_leastHeap : MethodName := ⟨RX6, "leastHeap", "(I)I"⟩
abbrev cX6_pieces : ByteArray := prog_8_method_46_code
def yX6_pieces : MethodName := ⟨RX6, "pieces", "(I)I"⟩
abbrev cX6_border : ByteArray := prog_8_method_47_code
def yX6_border : MethodName := ⟨RX6, "border", "()I"⟩
abbrev cX6_edge : ByteArray := prog_8_method_48_code
def yX6_edge : MethodName := ⟨RX6, "edge", "(I)I"⟩
abbrev cX6_biteFor : ByteArray := prog_8_method_49_code
def yX6_biteFor : MethodName := ⟨RX6, "biteFor", "(III)I"⟩
abbrev cX6_after : ByteArray := prog_8_method_50_code
def yX6_after : MethodName := ⟨RX6, "after", "(II)I"⟩
abbrev cX6_biteTold : ByteArray := prog_8_method_51_code
def yX6_biteTold : MethodName := ⟨RX6, "biteTold", "(III)I"⟩
abbrev cX6_best : ByteArray := prog_8_method_52_code
def yX6_best : MethodName := ⟨RX6, "best", "(II)I"⟩
abbrev cX6_worst : ByteArray := prog_8_method_53_code
def yX6_worst : MethodName := ⟨RX6, "worst", "(II)I"⟩
abbrev cX6_isSoBy : ByteArray := prog_8_method_54_code
def yX6_isSoBy : MethodName := ⟨RX6, "isSoBy", "(IIII)Z"⟩
abbrev cX6_firstSo : ByteArray := prog_8_method_55_code
def yX6_firstSo : MethodName := ⟨RX6, "firstSo", "(III)I"⟩
abbrev cX6_fewest : ByteArray := prog_8_method_56_code
def yX6_fewest : MethodName := ⟨RX6, "fewest", "(III)I"⟩
abbrev cX6_safe : ByteArray := prog_8_method_57_code
def yX6_safe : MethodName := ⟨RX6, "safe", "()I"⟩
abbrev cX6_can : ByteArray := prog_8_method_58_code
def yX6_can : MethodName := ⟨RX6, "can", "(I)I"⟩
abbrev cX6_comesTo : ByteArray := prog_8_method_59_code
def yX6_comesTo : MethodName := ⟨RX6, "comesTo", "(IIII)V"⟩
abbrev cX6_ways : ByteArray := prog_8_method_60_code
def yX6_ways : MethodName := ⟨RX6, "ways", "(I)I"⟩
abbrev cX6_alike : ByteArray := prog_8_method_61_code
def yX6_alike : MethodName := ⟨RX6, "alike", "(I)I"⟩
abbrev cX6_settles : ByteArray := prog_8_method_62_code
def yX6_settles : MethodName := ⟨RX6, "settles", "(I)I"⟩
abbrev cX6_pips : ByteArray := prog_8_method_63_code
def yX6_pips : MethodName := ⟨RX6, "pips", "(I)I"⟩
abbrev cX6_grudge : ByteArray := prog_8_method_64_code
def yX6_grudge : MethodName := ⟨RX6, "grudge", "(I)I"⟩
abbrev cX6_areTwo : ByteArray := prog_8_method_65_code
def yX6_areTwo : MethodName := ⟨RX6, "areTwo", "(II)Z"⟩
abbrev cX6_gain : ByteArray := prog_8_method_66_code
def yX6_gain : MethodName := ⟨RX6, "gain", "(II)I"⟩
abbrev cX6_join : ByteArray := prog_8_method_67_code
def yX6_join : MethodName := ⟨RX6, "join", "(I)I"⟩
abbrev cX6_stepsFrom : ByteArray := prog_8_method_68_code
def yX6_stepsFrom : MethodName := ⟨RX6, "stepsFrom", "(I)I"⟩
abbrev cX6_bridge : ByteArray := prog_8_method_69_code
def yX6_bridge : MethodName := ⟨RX6, "bridge", "(I)I"⟩
abbrev cX6_firstBite : ByteArray := prog_8_method_70_code
def yX6_firstBite : MethodName := ⟨RX6, "firstBite", "(I)I"⟩
abbrev cX6_shareBoth : ByteArray := prog_8_method_71_code
def yX6_shareBoth : MethodName := ⟨RX6, "shareBoth", "(IIIII)I"⟩
abbrev cX6_two : ByteArray := prog_8_method_72_code
def yX6_two : MethodName := ⟨RX6, "two", "(II)I"⟩
abbrev cX6_gcd : ByteArray := prog_8_method_73_code
def yX6_gcd : MethodName := ⟨RX6, "gcd", "(JJ)J"⟩
abbrev cX6_partOf : ByteArray := prog_8_method_74_code
def yX6_partOf : MethodName := ⟨RX6, "partOf", "(JJI)J"⟩
abbrev cX6_waysFor : ByteArray := prog_8_method_75_code
def yX6_waysFor : MethodName := ⟨RX6, "waysFor", "(IIII)J"⟩
abbrev cX6_chance : ByteArray := prog_8_method_76_code
def yX6_chance : MethodName := ⟨RX6, "chance", "(IIII)J"⟩
abbrev cX6_mean : ByteArray := prog_8_method_77_code
def yX6_mean : MethodName := ⟨RX6, "mean", "(I)J"⟩
abbrev cX6_whatIs : ByteArray := prog_8_method_78_code
def yX6_whatIs : MethodName := ⟨RX6, "whatIs", "(II)I"⟩
abbrev cX6_row : ByteArray := prog_8_method_79_code
def yX6_row : MethodName := ⟨RX6, "row", "(I)I"⟩
abbrev cX6_judge : ByteArray := prog_8_method_80_code
def yX6_judge : MethodName := ⟨RX6, "judge", "()I"⟩
abbrev cX6_clear : ByteArray := prog_8_method_81_code
def yX6_clear : MethodName := ⟨RX6, "clear", "()I"⟩
abbrev cX6_drawn : ByteArray := prog_8_method_82_code
def yX6_drawn : MethodName := ⟨RX6, "drawn", "(I)I"⟩
abbrev cX6_lots : ByteArray := prog_8_method_83_code
def yX6_lots : MethodName := ⟨RX6, "lots", "(III)I"⟩
abbrev cX6_image : ByteArray := prog_8_method_84_code
def yX6_image : MethodName := ⟨RX6, "image", "()I"⟩
abbrev cX6_on : ByteArray := prog_8_method_85_code
def yX6_on : MethodName := ⟨RX6, "on", "()I"⟩
abbrev cX6_count : ByteArray := prog_8_method_86_code
def yX6_count : MethodName := ⟨RX6, "count", "(I)I"⟩
def RJ11 : String := "java/lang/Character"
def TJ11 : u_T := fun k => match k with
  | _ => ("", "", "", false)
def tyJ11 : Nat → FieldType := fun k => match k with
  | _ => .int
abbrev wsJ110 : List Cond := u_ws RJ11 TJ11 0
theorem nmJ11 : ∀ a, a < 0 → ∀ b, b < 0 → a ≠ b → (TJ11 a).2.1 ≠ (TJ11 b).2.1 := by decide +kernel
theorem tyJ11_ok : ∀ k, k < 0 → parseFieldDescriptor (TJ11 k).2.2.1 = some (tyJ11 k) := by decide +kernel
abbrev cJ11_isValidCodePoint_9a6ad : ByteArray := prog_9_method_11_code
def yJ11_isValidCodePoint_9a6ad : MethodName := ⟨RJ11, "isValidCodePoint", "(I)Z"⟩
abbrev cJ11_highSurrogate_5068e : ByteArray := prog_9_method_28_code
def yJ11_highSurrogate_5068e : MethodName := ⟨RJ11, "highSurrogate", "(I)C"⟩
abbrev cJ11_lowSurrogate_5068e : ByteArray := prog_9_method_29_code
def yJ11_lowSurrogate_5068e : MethodName := ⟨RJ11, "lowSurrogate", "(I)C"⟩
def RJ6 : String := "java/lang/Integer"
def TJ6 : u_T := fun k => match k with
  | _ => ("", "", "", false)
def tyJ6 : Nat → FieldType := fun k => match k with
  | _ => .int
abbrev wsJ60 : List Cond := u_ws RJ6 TJ6 0
theorem nmJ6 : ∀ a, a < 0 → ∀ b, b < 0 → a ≠ b → (TJ6 a).2.1 ≠ (TJ6 b).2.1 := by decide +kernel
theorem tyJ6_ok : ∀ k, k < 0 → parseFieldDescriptor (TJ6 k).2.2.1 = some (tyJ6 k) := by decide +kernel
abbrev cJ6_bitCount_0f7a4 : ByteArray := prog_10_method_49_code
def yJ6_bitCount_0f7a4 : MethodName := ⟨RJ6, "bitCount", "(I)I"⟩
def RJ9 : String := "java/lang/Math"
def TJ9 : u_T := fun k => match k with
  | _ => ("", "", "", false)
def tyJ9 : Nat → FieldType := fun k => match k with
  | _ => .int
abbrev wsJ90 : List Cond := u_ws RJ9 TJ9 0
theorem nmJ9 : ∀ a, a < 0 → ∀ b, b < 0 → a ≠ b → (TJ9 a).2.1 ≠ (TJ9 b).2.1 := by decide +kernel
theorem tyJ9_ok : ∀ k, k < 0 → parseFieldDescriptor (TJ9 k).2.2.1 = some (tyJ9 k) := by decide +kernel
abbrev cJ9_abs_0f7a4 : ByteArray := prog_11_method_59_code
def yJ9_abs_0f7a4 : MethodName := ⟨RJ9, "abs", "(I)I"⟩
abbrev cJ9_max_7cf53 : ByteArray := prog_11_method_65_code
def yJ9_max_7cf53 : MethodName := ⟨RJ9, "max", "(II)I"⟩
abbrev cJ9_min_7cf53 : ByteArray := prog_11_method_69_code
def yJ9_min_7cf53 : MethodName := ⟨RJ9, "min", "(II)I"⟩
def RJ0 : String := "java/lang/String"
def TJ0 : u_T := fun k => match k with
  | _ => ("", "", "", false)
def tyJ0 : Nat → FieldType := fun k => match k with
  | _ => .int
abbrev wsJ00 : List Cond := u_ws RJ0 TJ0 0
theorem nmJ0 : ∀ a, a < 0 → ∀ b, b < 0 → a ≠ b → (TJ0 a).2.1 ≠ (TJ0 b).2.1 := by decide +kernel
theorem tyJ0_ok : ∀ k, k < 0 → parseFieldDescriptor (TJ0 k).2.2.1 = some (tyJ0 k) := by decide +kernel
abbrev cJ0_length_8abf5 : ByteArray := prog_12_method_54_code
def yJ0_length_8abf5 : MethodName := ⟨RJ0, "length", "()I"⟩
abbrev cJ0_charAt_5068e : ByteArray := prog_12_method_56_code
def yJ0_charAt_5068e : MethodName := ⟨RJ0, "charAt", "(I)C"⟩
abbrev cJ0_indexOf_0f7a4 : ByteArray := prog_12_method_79_code
def yJ0_indexOf_0f7a4 : MethodName := ⟨RJ0, "indexOf", "(I)I"⟩
abbrev cJ0_indexOf_7cf53 : ByteArray := prog_12_method_80_code
def yJ0_indexOf_7cf53 : MethodName := ⟨RJ0, "indexOf", "(II)I"⟩
abbrev cJ0_coder_7d493 : ByteArray := prog_12_method_152_code
def yJ0_coder_7d493 : MethodName := ⟨RJ0, "coder", "()B"⟩
abbrev cJ0_isLatin1_aae02 : ByteArray := prog_12_method_154_code
def yJ0_isLatin1_aae02 : MethodName := ⟨RJ0, "isLatin1", "()Z"⟩
abbrev cJ0_checkIndex_df160 : ByteArray := prog_12_method_155_code
def yJ0_checkIndex_df160 : MethodName := ⟨RJ0, "checkIndex", "(II)V"⟩
abbrev cJ0_checkBoundsBeginEnd_23922 : ByteArray := prog_12_method_158_code
def yJ0_checkBoundsBeginEnd_23922 : MethodName := ⟨RJ0, "checkBoundsBeginEnd", "(III)V"⟩
def RJ1 : String := "java/lang/StringLatin1"
def TJ1 : u_T := fun k => match k with
  | _ => ("", "", "", false)
def tyJ1 : Nat → FieldType := fun k => match k with
  | _ => .int
abbrev wsJ10 : List Cond := u_ws RJ1 TJ1 0
theorem nmJ1 : ∀ a, a < 0 → ∀ b, b < 0 → a ≠ b → (TJ1 a).2.1 ≠ (TJ1 b).2.1 := by decide +kernel
theorem tyJ1_ok : ∀ k, k < 0 → parseFieldDescriptor (TJ1 k).2.2.1 = some (tyJ1 k) := by decide +kernel
abbrev cJ1_charAt_3b067 : ByteArray := prog_13_method_2_code
def yJ1_charAt_3b067 : MethodName := ⟨RJ1, "charAt", "([BI)C"⟩
abbrev cJ1_canEncode_9a6ad : ByteArray := prog_13_method_4_code
def yJ1_canEncode_9a6ad : MethodName := ⟨RJ1, "canEncode", "(I)Z"⟩
abbrev cJ1_indexOf_4cfef : ByteArray := prog_13_method_22_code
def yJ1_indexOf_4cfef : MethodName := ⟨RJ1, "indexOf", "([BIII)I"⟩
abbrev cJ1_indexOfChar_4cfef : ByteArray := prog_13_method_23_code
def yJ1_indexOfChar_4cfef : MethodName := ⟨RJ1, "indexOfChar", "([BIII)I"⟩
def RJ2 : String := "java/lang/StringUTF16"
def TJ2 : u_T := fun k => match k with
  | _ => ("", "", "", false)
def tyJ2 : Nat → FieldType := fun k => match k with
  | _ => .int
abbrev wsJ20 : List Cond := u_ws RJ2 TJ2 0
theorem nmJ2 : ∀ a, a < 0 → ∀ b, b < 0 → a ≠ b → (TJ2 a).2.1 ≠ (TJ2 b).2.1 := by decide +kernel
theorem tyJ2_ok : ∀ k, k < 0 → parseFieldDescriptor (TJ2 k).2.2.1 = some (tyJ2 k) := by decide +kernel
abbrev cJ2_getChar_3b067 : ByteArray := prog_14_method_5_code
def yJ2_getChar_3b067 : MethodName := ⟨RJ2, "getChar", "([BI)C"⟩
abbrev cJ2_length_9d52b : ByteArray := prog_14_method_6_code
def yJ2_length_9d52b : MethodName := ⟨RJ2, "length", "([B)I"⟩
abbrev cJ2_indexOf_4cfef : ByteArray := prog_14_method_40_code
def yJ2_indexOf_4cfef : MethodName := ⟨RJ2, "indexOf", "([BIII)I"⟩
abbrev cJ2_indexOfChar_4cfef : ByteArray := prog_14_method_47_code
def yJ2_indexOfChar_4cfef : MethodName := ⟨RJ2, "indexOfChar", "([BIII)I"⟩
abbrev cJ2_indexOfCharUnsafe_4cfef : ByteArray := prog_14_method_48_code
def yJ2_indexOfCharUnsafe_4cfef : MethodName := ⟨RJ2, "indexOfCharUnsafe", "([BIII)I"⟩
abbrev cJ2_indexOfSupplementary_4cfef : ByteArray := prog_14_method_49_code
def yJ2_indexOfSupplementary_4cfef : MethodName := ⟨RJ2, "indexOfSupplementary", "([BIII)I"⟩
abbrev cJ2_charAt_3b067 : ByteArray := prog_14_method_83_code
def yJ2_charAt_3b067 : MethodName := ⟨RJ2, "charAt", "([BI)C"⟩
abbrev cJ2_checkIndex_2214a : ByteArray := prog_14_method_91_code
def yJ2_checkIndex_2214a : MethodName := ⟨RJ2, "checkIndex", "(I[B)V"⟩
abbrev cJ2_checkBoundsBeginEnd_d044e : ByteArray := prog_14_method_93_code
def yJ2_checkBoundsBeginEnd_d044e : MethodName := ⟨RJ2, "checkBoundsBeginEnd", "(II[B)V"⟩
def RJ10 : String := "java/lang/System"
def TJ10 : u_T := fun k => match k with
  | _ => ("", "", "", false)
def tyJ10 : Nat → FieldType := fun k => match k with
  | _ => .int
abbrev wsJ100 : List Cond := u_ws RJ10 TJ10 0
theorem nmJ10 : ∀ a, a < 0 → ∀ b, b < 0 → a ≠ b → (TJ10 a).2.1 ≠ (TJ10 b).2.1 := by decide +kernel
theorem tyJ10_ok : ∀ k, k < 0 → parseFieldDescriptor (TJ10 k).2.2.1 = some (tyJ10 k) := by decide +kernel
def RJ3 : String := "jdk/internal/util/Preconditions"
def TJ3 : u_T := fun k => match k with
  | _ => ("", "", "", false)
def tyJ3 : Nat → FieldType := fun k => match k with
  | _ => .int
abbrev wsJ30 : List Cond := u_ws RJ3 TJ3 0
theorem nmJ3 : ∀ a, a < 0 → ∀ b, b < 0 → a ≠ b → (TJ3 a).2.1 ≠ (TJ3 b).2.1 := by decide +kernel
theorem tyJ3_ok : ∀ k, k < 0 → parseFieldDescriptor (TJ3 k).2.2.1 = some (tyJ3 k) := by decide +kernel
abbrev cJ3_checkIndex_8e157 : ByteArray := prog_16_method_11_code
def yJ3_checkIndex_8e157 : MethodName := ⟨RJ3, "checkIndex", "(IILjava/util/function/BiFunction;)I"⟩
abbrev cJ3_checkFromToIndex_8c36e : ByteArray := prog_16_method_12_code
def yJ3_checkFromToIndex_8c36e : MethodName := ⟨RJ3, "checkFromToIndex", "(IIILjava/util/function/BiFunction;)I"⟩
def RL : String := "CoresAreWillsLaw"
abbrev cL_law : ByteArray := code
def yL_law : MethodName := ⟨RL, "law", "([I)Z"⟩
abbrev vwCl : List vw_C := [(RX0, TX0, 5), (RX1, TX1, 4), (RX3, TX3, 4), (RX4, TX4, 2), (RX5, TX5, 11), (RX6, TX6, 26)]
end
section
/-- the words of the tables that a callee may ask for -/
def UU : List Cond := lw_tbl.filter goodWord
theorem uu_t {w : Cond} (h : w ∈ tables_1) (g : goodWord w = true) : w ∈ UU := List.mem_filter.mpr ⟨List.mem_append_right _ h, g⟩
theorem uu_s {w : Cond} (h : w ∈ k2_sels lw_privs) (g : goodWord w = true) : w ∈ UU := List.mem_filter.mpr ⟨List.mem_append_left _ h, g⟩
theorem uu_good : ∀ w ∈ UU, w ∈ UU ∧ ((w.onTables && w.keeps) = true ∨ ∃ ty, w = .arrayClass ty) := fun w h => ⟨h, good_of_word (List.mem_filter.mp h).2⟩
theorem uu_t1 {w : Cond} (h : w ∈ tables_1_1) (g : goodWord w = true) : w ∈ UU := uu_t (List.mem_append_left _ h) g
theorem uu_t2 {w : Cond} (h : w ∈ tables_1_2) (g : goodWord w = true) : w ∈ UU := uu_t (List.mem_append_right _ (List.mem_append_left _ h)) g
theorem uu_t3 {w : Cond} (h : w ∈ tables_1_3) (g : goodWord w = true) : w ∈ UU := uu_t (List.mem_append_right _ (List.mem_append_right _ (List.mem_append_left _ h))) g
theorem uu_t4 {w : Cond} (h : w ∈ tables_1_4) (g : goodWord w = true) : w ∈ UU := uu_t (List.mem_append_right _ (List.mem_append_right _ (List.mem_append_right _ (List.mem_append_left _ h)))) g
theorem uu_t5 {w : Cond} (h : w ∈ tables_1_5) (g : goodWord w = true) : w ∈ UU := uu_t (List.mem_append_right _ (List.mem_append_right _ (List.mem_append_right _ (List.mem_append_right _ h)))) g
/-- a method's words: its code, and all of UU -/
abbrev wy (y : MethodName) (b : ByteArray) (n : Nat) (ret : Option FieldType) : List Cond := Cond.code y b n ret :: UU
theorem gC {y : MethodName} {b : ByteArray} {n : Nat} {ret : Option FieldType} (h : Cond.code y b n ret ∈ UU) : GoodIn UU (wy y b n ret) := fun w hw => (List.mem_cons.mp hw).elim (fun e => e ▸ uu_good _ h) (uu_good w)
theorem gV {own C : String} {idx : Nat} {y : MethodName} {b : ByteArray} {n : Nat} {ret : Option FieldType} (h1 : Cond.methodLink own idx y ∈ UU) (h2 : Cond.instanceMethod y ∈ UU) (h3 : Cond.selects C y y ∈ UU) (h4 : Cond.initialized C ∈ UU) (h : Cond.code y b n ret ∈ UU) : GoodIn UU (wsV own idx C y (wy y b n ret)) := fun w hw => (List.mem_append.mp hw).elim (fun q => by
  simp only [List.mem_cons, List.not_mem_nil, or_false] at q
  rcases q with rfl | rfl | rfl | rfl
  · exact uu_good _ h1
  · exact uu_good _ h2
  · exact uu_good _ h3
  · exact uu_good _ h4) (gC h w)
theorem gS {own : String} {idx : Nat} {y : MethodName} {b : ByteArray} {n : Nat} {ret : Option FieldType} (h1 : Cond.methodLink own idx y ∈ UU) (h2 : Cond.static y ∈ UU) (h4 : Cond.initialized y.cls ∈ UU) (h : Cond.code y b n ret ∈ UU) : GoodIn UU (va_wsS own idx y (wy y b n ret)) := fun w hw => (List.mem_append.mp hw).elim (fun q => by
  simp only [List.mem_cons, List.not_mem_nil, or_false] at q
  rcases q with rfl | rfl | rfl
  · exact uu_good _ h1
  · exact uu_good _ h2
  · exact uu_good _ h4) (gC h w)
theorem uu0 : (.initialized RL : Cond) ∈ UU := uu_t1 (List.mem_of_getElem? (i := 0) rfl) rfl
theorem uu1 : (.initialized RX5 : Cond) ∈ UU := uu_t1 (List.mem_of_getElem? (i := 1) rfl) rfl
theorem uu2 : (.initialized RX0 : Cond) ∈ UU := uu_t1 (List.mem_of_getElem? (i := 2) rfl) rfl
theorem uu3 : (.initialized RX3 : Cond) ∈ UU := uu_t1 (List.mem_of_getElem? (i := 3) rfl) rfl
theorem uu4 : (.initialized RX1 : Cond) ∈ UU := uu_t1 (List.mem_of_getElem? (i := 4) rfl) rfl
theorem uu5 : (.initialized RX4 : Cond) ∈ UU := uu_t1 (List.mem_of_getElem? (i := 5) rfl) rfl
theorem uu6 : (.initialized RX6 : Cond) ∈ UU := uu_t1 (List.mem_of_getElem? (i := 6) rfl) rfl
theorem uu7 : (.initialized RJ0 : Cond) ∈ UU := uu_t1 (List.mem_of_getElem? (i := 7) rfl) rfl
theorem uu8 : (.initialized RJ1 : Cond) ∈ UU := uu_t1 (List.mem_of_getElem? (i := 8) rfl) rfl
theorem uu9 : (.initialized RJ3 : Cond) ∈ UU := uu_t1 (List.mem_of_getElem? (i := 9) rfl) rfl
theorem uu10 : (.initialized RJ2 : Cond) ∈ UU := uu_t1 (List.mem_of_getElem? (i := 10) rfl) rfl
theorem uu11 : (.initialized RJ9 : Cond) ∈ UU := uu_t1 (List.mem_of_getElem? (i := 11) rfl) rfl
theorem uu12 : (.initialized RJ11 : Cond) ∈ UU := uu_t1 (List.mem_of_getElem? (i := 12) rfl) rfl
theorem uu13 : (.initialized RJ10 : Cond) ∈ UU := uu_t1 (List.mem_of_getElem? (i := 13) rfl) rfl
theorem uu14 : (.initialized RX2 : Cond) ∈ UU := uu_t1 (List.mem_of_getElem? (i := 14) rfl) rfl
theorem uu15 : (.initialized RJ6 : Cond) ∈ UU := uu_t1 (List.mem_of_getElem? (i := 15) rfl) rfl
theorem uu16 : (.classLink RL 7 RX5 : Cond) ∈ UU := uu_t1 (List.mem_of_getElem? (i := 16) rfl) rfl
theorem uu17 : (.instantiable RX5 11 : Cond) ∈ UU := uu_t1 (List.mem_of_getElem? (i := 17) rfl) rfl
theorem uu18 : (.methodLink RL 9 yX5_init : Cond) ∈ UU := uu_t1 (List.mem_of_getElem? (i := 18) rfl) rfl
theorem uu20 : (.instanceMethod yX5_init : Cond) ∈ UU := uu_t1 (List.mem_of_getElem? (i := 19) rfl) rfl
theorem uu21 : (.code yX5_init cX5_init 1 none : Cond) ∈ UU := uu_t1 (List.mem_of_getElem? (i := 20) rfl) rfl
theorem uu23 : (.methodLink RX5 1 objectInit : Cond) ∈ UU := uu_t1 (List.mem_of_getElem? (i := 21) rfl) rfl
theorem uu25 : (.instanceMethod objectInit : Cond) ∈ UU := uu_t1 (List.mem_of_getElem? (i := 22) rfl) rfl
theorem uu26 : (.code objectInit object_method_1_code 1 none : Cond) ∈ UU := uu_t1 (List.mem_of_getElem? (i := 23) rfl) rfl
theorem uu28 : (.classLink RX5 7 RX0 : Cond) ∈ UU := uu_t1 (List.mem_of_getElem? (i := 24) rfl) rfl
theorem uu29 : (.instantiable RX0 5 : Cond) ∈ UU := uu_t1 (List.mem_of_getElem? (i := 25) rfl) rfl
theorem uu30 : (.methodLink RX5 9 yX0_init : Cond) ∈ UU := uu_t1 (List.mem_of_getElem? (i := 26) rfl) rfl
theorem uu32 : (.instanceMethod yX0_init : Cond) ∈ UU := uu_t1 (List.mem_of_getElem? (i := 27) rfl) rfl
theorem uu33 : (.code yX0_init cX0_init 1 none : Cond) ∈ UU := uu_t1 (List.mem_of_getElem? (i := 28) rfl) rfl
theorem uu35 : (.methodLink RX0 3 objectInit : Cond) ∈ UU := uu_t1 (List.mem_of_getElem? (i := 29) rfl) rfl
theorem uu37 : (.constant RX0 22 (33554431) : Cond) ∈ UU := uu_t1 (List.mem_of_getElem? (i := 30) rfl) rfl
theorem uu39 : (.fieldLink RX0 9 "CoresAreWills$Core" "kinds" "[I" : Cond) ∈ UU := uu_t1 (List.mem_of_getElem? (i := 31) rfl) rfl
theorem uu41 : (.fieldLink RX5 96 "CoresAreWills$Core" "kinds" "[I" : Cond) ∈ UU := uu_t1 (List.mem_of_getElem? (i := 32) rfl) rfl
theorem uu43 : (.fieldLink RX0 15 "CoresAreWills$Core" "figures" "[I" : Cond) ∈ UU := uu_t1 (List.mem_of_getElem? (i := 33) rfl) rfl
theorem uu45 : (.fieldLink RX5 99 "CoresAreWills$Core" "figures" "[I" : Cond) ∈ UU := uu_t1 (List.mem_of_getElem? (i := 34) rfl) rfl
theorem uu47 : (.fieldLink RX0 18 "CoresAreWills$Core" "heirs" "I" : Cond) ∈ UU := uu_t1 (List.mem_of_getElem? (i := 35) rfl) rfl
theorem uu49 : (.fieldLink RX5 217 "CoresAreWills$Core" "heirs" "I" : Cond) ∈ UU := uu_t1 (List.mem_of_getElem? (i := 36) rfl) rfl
theorem uu51 : (.fieldLink RX0 23 "CoresAreWills$Core" "left" "I" : Cond) ∈ UU := uu_t1 (List.mem_of_getElem? (i := 37) rfl) rfl
theorem uu53 : (.fieldLink RX5 76 "CoresAreWills$Core" "left" "I" : Cond) ∈ UU := uu_t1 (List.mem_of_getElem? (i := 38) rfl) rfl
theorem uu55 : (.fieldLink RX0 26 "CoresAreWills$Core" "bitten" "I" : Cond) ∈ UU := uu_t1 (List.mem_of_getElem? (i := 39) rfl) rfl
theorem uu57 : (.fieldLink RX5 118 "CoresAreWills$Core" "bitten" "I" : Cond) ∈ UU := uu_t1 (List.mem_of_getElem? (i := 40) rfl) rfl
theorem uu59 : (.laysFinal "CoresAreWills$Core" "CoresAreWills$Core" "kinds" "[I" : Cond) ∈ UU := uu_t1 (List.mem_of_getElem? (i := 41) rfl) rfl
theorem uu60 : (.laysFinal "CoresAreWills$Core" "CoresAreWills$Core" "figures" "[I" : Cond) ∈ UU := uu_t1 (List.mem_of_getElem? (i := 43) rfl) rfl
theorem uu61 : (.lays "CoresAreWills$Core" "CoresAreWills$Core" "heirs" "I" : Cond) ∈ UU := uu_t1 (List.mem_of_getElem? (i := 45) rfl) rfl
theorem uu62 : (.lays "CoresAreWills$Core" "CoresAreWills$Core" "left" "I" : Cond) ∈ UU := uu_t1 (List.mem_of_getElem? (i := 47) rfl) rfl
theorem uu63 : (.lays "CoresAreWills$Core" "CoresAreWills$Core" "bitten" "I" : Cond) ∈ UU := uu_t1 (List.mem_of_getElem? (i := 49) rfl) rfl
theorem uu64 : (.arrayClass .int : Cond) ∈ UU := uu_t1 (List.mem_of_getElem? (i := 52) rfl) rfl
theorem uu65 : (.classLink RX5 22 RX3 : Cond) ∈ UU := uu_t1 (List.mem_of_getElem? (i := 53) rfl) rfl
theorem uu66 : (.instantiable RX3 4 : Cond) ∈ UU := uu_t1 (List.mem_of_getElem? (i := 54) rfl) rfl
theorem uu67 : (.methodLink RX5 24 yX3_init : Cond) ∈ UU := uu_t1 (List.mem_of_getElem? (i := 55) rfl) rfl
theorem uu69 : (.instanceMethod yX3_init : Cond) ∈ UU := uu_t1 (List.mem_of_getElem? (i := 56) rfl) rfl
theorem uu70 : (.code yX3_init cX3_init 1 none : Cond) ∈ UU := uu_t1 (List.mem_of_getElem? (i := 57) rfl) rfl
theorem uu72 : (.methodLink RX3 3 objectInit : Cond) ∈ UU := uu_t1 (List.mem_of_getElem? (i := 58) rfl) rfl
theorem uu74 : (.fieldLink RX3 15 "CoresAreWills$Reading" "gone" "I" : Cond) ∈ UU := uu_t1 (List.mem_of_getElem? (i := 59) rfl) rfl
theorem uu76 : (.fieldLink RX3 21 "CoresAreWills$Reading" "heaps" "I" : Cond) ∈ UU := uu_t1 (List.mem_of_getElem? (i := 60) rfl) rfl
theorem uu78 : (.fieldLink RX5 138 "CoresAreWills$Reading" "heaps" "I" : Cond) ∈ UU := uu_t1 (List.mem_of_getElem? (i := 61) rfl) rfl
theorem uu80 : (.fieldLink RX3 24 "CoresAreWills$Reading" "fewestCells" "I" : Cond) ∈ UU := uu_t1 (List.mem_of_getElem? (i := 62) rfl) rfl
theorem uu82 : (.fieldLink RX5 141 "CoresAreWills$Reading" "fewestCells" "I" : Cond) ∈ UU := uu_t1 (List.mem_of_getElem? (i := 63) rfl) rfl
theorem uu84 : (.fieldLink RX3 27 "CoresAreWills$Reading" "deed" "I" : Cond) ∈ UU := uu_t1 (List.mem_of_getElem? (i := 64) rfl) rfl
theorem uu86 : (.fieldLink RX5 147 "CoresAreWills$Reading" "deed" "I" : Cond) ∈ UU := uu_t1 (List.mem_of_getElem? (i := 65) rfl) rfl
theorem uu88 : (.lays "CoresAreWills$Reading" "CoresAreWills$Reading" "gone" "I" : Cond) ∈ UU := uu_t1 (List.mem_of_getElem? (i := 66) rfl) rfl
theorem uu89 : (.lays "CoresAreWills$Reading" "CoresAreWills$Reading" "heaps" "I" : Cond) ∈ UU := uu_t1 (List.mem_of_getElem? (i := 68) rfl) rfl
theorem uu90 : (.lays "CoresAreWills$Reading" "CoresAreWills$Reading" "fewestCells" "I" : Cond) ∈ UU := uu_t1 (List.mem_of_getElem? (i := 70) rfl) rfl
theorem uu91 : (.lays "CoresAreWills$Reading" "CoresAreWills$Reading" "deed" "I" : Cond) ∈ UU := uu_t1 (List.mem_of_getElem? (i := 72) rfl) rfl
theorem uu92 : (.classLink RX5 29 RX1 : Cond) ∈ UU := uu_t1 (List.mem_of_getElem? (i := 75) rfl) rfl
theorem uu93 : (.instantiable RX1 4 : Cond) ∈ UU := uu_t1 (List.mem_of_getElem? (i := 76) rfl) rfl
theorem uu94 : (.methodLink RX5 31 yX1_init : Cond) ∈ UU := uu_t1 (List.mem_of_getElem? (i := 77) rfl) rfl
theorem uu96 : (.instanceMethod yX1_init : Cond) ∈ UU := uu_t1 (List.mem_of_getElem? (i := 78) rfl) rfl
theorem uu97 : (.code yX1_init cX1_init 1 none : Cond) ∈ UU := uu_t1 (List.mem_of_getElem? (i := 79) rfl) rfl
theorem uu99 : (.methodLink RX1 3 objectInit : Cond) ∈ UU := uu_t1 (List.mem_of_getElem? (i := 80) rfl) rfl
theorem uu101 : (.fieldLink RX1 11 "CoresAreWills$Cover" "ways" "[I" : Cond) ∈ UU := uu_t1 (List.mem_of_getElem? (i := 81) rfl) rfl
theorem uu103 : (.fieldLink RX1 15 "CoresAreWills$Cover" "fewest" "[I" : Cond) ∈ UU := uu_t1 (List.mem_of_getElem? (i := 82) rfl) rfl
theorem uu105 : (.fieldLink RX1 18 "CoresAreWills$Cover" "nextWays" "[I" : Cond) ∈ UU := uu_t1 (List.mem_of_getElem? (i := 83) rfl) rfl
theorem uu107 : (.fieldLink RX1 21 "CoresAreWills$Cover" "nextFewest" "[I" : Cond) ∈ UU := uu_t1 (List.mem_of_getElem? (i := 84) rfl) rfl
theorem uu109 : (.lays "CoresAreWills$Cover" "CoresAreWills$Cover" "ways" "[I" : Cond) ∈ UU := uu_t1 (List.mem_of_getElem? (i := 85) rfl) rfl
theorem uu110 : (.lays "CoresAreWills$Cover" "CoresAreWills$Cover" "fewest" "[I" : Cond) ∈ UU := uu_t1 (List.mem_of_getElem? (i := 87) rfl) rfl
theorem uu111 : (.lays "CoresAreWills$Cover" "CoresAreWills$Cover" "nextWays" "[I" : Cond) ∈ UU := uu_t1 (List.mem_of_getElem? (i := 89) rfl) rfl
theorem uu112 : (.lays "CoresAreWills$Cover" "CoresAreWills$Cover" "nextFewest" "[I" : Cond) ∈ UU := uu_t1 (List.mem_of_getElem? (i := 91) rfl) rfl
theorem uu113 : (.classLink RX5 36 RX4 : Cond) ∈ UU := uu_t1 (List.mem_of_getElem? (i := 94) rfl) rfl
theorem uu114 : (.instantiable RX4 2 : Cond) ∈ UU := uu_t1 (List.mem_of_getElem? (i := 95) rfl) rfl
theorem uu115 : (.methodLink RX5 38 yX4_init : Cond) ∈ UU := uu_t1 (List.mem_of_getElem? (i := 96) rfl) rfl
theorem uu117 : (.instanceMethod yX4_init : Cond) ∈ UU := uu_t1 (List.mem_of_getElem? (i := 97) rfl) rfl
theorem uu118 : (.code yX4_init cX4_init 1 none : Cond) ∈ UU := uu_t1 (List.mem_of_getElem? (i := 98) rfl) rfl
theorem uu120 : (.methodLink RX4 3 objectInit : Cond) ∈ UU := uu_t1 (List.mem_of_getElem? (i := 99) rfl) rfl
theorem uu122 : (.fieldLink RX4 9 "CoresAreWills$Text" "letters" "[I" : Cond) ∈ UU := uu_t1 (List.mem_of_getElem? (i := 100) rfl) rfl
theorem uu124 : (.fieldLink RX4 15 "CoresAreWills$Text" "length" "I" : Cond) ∈ UU := uu_t1 (List.mem_of_getElem? (i := 101) rfl) rfl
theorem uu126 : (.fieldLink RX5 57 "CoresAreWills$Text" "length" "I" : Cond) ∈ UU := uu_t1 (List.mem_of_getElem? (i := 102) rfl) rfl
theorem uu128 : (.laysFinal "CoresAreWills$Text" "CoresAreWills$Text" "letters" "[I" : Cond) ∈ UU := uu_t1 (List.mem_of_getElem? (i := 103) rfl) rfl
theorem uu129 : (.lays "CoresAreWills$Text" "CoresAreWills$Text" "length" "I" : Cond) ∈ UU := uu_t1 (List.mem_of_getElem? (i := 105) rfl) rfl
theorem uu130 : (.fieldLink RX5 10 "CoresAreWills" "now" "LCoresAreWills$Core;" : Cond) ∈ UU := uu_t1 (List.mem_of_getElem? (i := 108) rfl) rfl
theorem uu132 : (.fieldLink RX5 16 "CoresAreWills" "kept" "LCoresAreWills$Core;" : Cond) ∈ UU := uu_t1 (List.mem_of_getElem? (i := 109) rfl) rfl
theorem uu134 : (.fieldLink RX5 19 "CoresAreWills" "trial" "LCoresAreWills$Core;" : Cond) ∈ UU := uu_t1 (List.mem_of_getElem? (i := 110) rfl) rfl
theorem uu136 : (.fieldLink RX5 25 "CoresAreWills" "reading" "LCoresAreWills$Reading;" : Cond) ∈ UU := uu_t1 (List.mem_of_getElem? (i := 111) rfl) rfl
theorem uu138 : (.fieldLink RX5 32 "CoresAreWills" "cover" "LCoresAreWills$Cover;" : Cond) ∈ UU := uu_t1 (List.mem_of_getElem? (i := 112) rfl) rfl
theorem uu140 : (.fieldLink RX5 39 "CoresAreWills" "text" "LCoresAreWills$Text;" : Cond) ∈ UU := uu_t1 (List.mem_of_getElem? (i := 113) rfl) rfl
theorem uu142 : (.fieldLink RX5 43 "CoresAreWills" "told" "[I" : Cond) ∈ UU := uu_t1 (List.mem_of_getElem? (i := 114) rfl) rfl
theorem uu144 : (.fieldLink RX5 47 "CoresAreWills" "refusals" "[I" : Cond) ∈ UU := uu_t1 (List.mem_of_getElem? (i := 115) rfl) rfl
theorem uu146 : (.fieldLink RX5 50 "CoresAreWills" "ends" "[I" : Cond) ∈ UU := uu_t1 (List.mem_of_getElem? (i := 116) rfl) rfl
theorem uu148 : (.fieldLink RX5 245 "CoresAreWills" "tolds" "I" : Cond) ∈ UU := uu_t1 (List.mem_of_getElem? (i := 117) rfl) rfl
theorem uu150 : (.fieldLink RX5 257 "CoresAreWills" "hasImage" "Z" : Cond) ∈ UU := uu_t1 (List.mem_of_getElem? (i := 118) rfl) rfl
theorem uu152 : (.laysFinal "CoresAreWills" "CoresAreWills" "now" "LCoresAreWills$Core;" : Cond) ∈ UU := uu_t1 (List.mem_of_getElem? (i := 119) rfl) rfl
theorem uu153 : (.laysFinal "CoresAreWills" "CoresAreWills" "kept" "LCoresAreWills$Core;" : Cond) ∈ UU := uu_t1 (List.mem_of_getElem? (i := 121) rfl) rfl
theorem uu154 : (.laysFinal "CoresAreWills" "CoresAreWills" "trial" "LCoresAreWills$Core;" : Cond) ∈ UU := uu_t1 (List.mem_of_getElem? (i := 123) rfl) rfl
theorem uu155 : (.laysFinal "CoresAreWills" "CoresAreWills" "reading" "LCoresAreWills$Reading;" : Cond) ∈ UU := uu_t1 (List.mem_of_getElem? (i := 125) rfl) rfl
theorem uu156 : (.laysFinal "CoresAreWills" "CoresAreWills" "cover" "LCoresAreWills$Cover;" : Cond) ∈ UU := uu_t1 (List.mem_of_getElem? (i := 127) rfl) rfl
theorem uu157 : (.laysFinal "CoresAreWills" "CoresAreWills" "text" "LCoresAreWills$Text;" : Cond) ∈ UU := uu_t1 (List.mem_of_getElem? (i := 129) rfl) rfl
theorem uu158 : (.laysFinal "CoresAreWills" "CoresAreWills" "told" "[I" : Cond) ∈ UU := uu_t1 (List.mem_of_getElem? (i := 131) rfl) rfl
theorem uu159 : (.laysFinal "CoresAreWills" "CoresAreWills" "refusals" "[I" : Cond) ∈ UU := uu_t1 (List.mem_of_getElem? (i := 133) rfl) rfl
theorem uu160 : (.laysFinal "CoresAreWills" "CoresAreWills" "ends" "[I" : Cond) ∈ UU := uu_t1 (List.mem_of_getElem? (i := 135) rfl) rfl
theorem uu161 : (.lays "CoresAreWills" "CoresAreWills" "tolds" "I" : Cond) ∈ UU := uu_t1 (List.mem_of_getElem? (i := 137) rfl) rfl
theorem uu162 : (.lays "CoresAreWills" "CoresAreWills" "hasImage" "Z" : Cond) ∈ UU := uu_t1 (List.mem_of_getElem? (i := 139) rfl) rfl
theorem uu163 : (.methodLink RL 13 yX5_letter : Cond) ∈ UU := uu_t1 (List.mem_of_getElem? (i := 142) rfl) rfl
theorem uu165 : (.instanceMethod yX5_letter : Cond) ∈ UU := uu_t1 (List.mem_of_getElem? (i := 143) rfl) rfl
theorem uu166 : (.selects RX5 yX5_letter yX5_letter : Cond) ∈ UU := uu_t1 (List.mem_of_getElem? (i := 144) rfl) rfl
theorem uu167 : (.code yX5_letter cX5_letter 2 (some .int) : Cond) ∈ UU := uu_t1 (List.mem_of_getElem? (i := 145) rfl) rfl
theorem uu169 : (.methodLink RX5 53 yX5_refused : Cond) ∈ UU := uu_t1 (List.mem_of_getElem? (i := 146) rfl) rfl
theorem uu171 : (.instanceMethod yX5_refused : Cond) ∈ UU := uu_t1 (List.mem_of_getElem? (i := 148) rfl) rfl
theorem uu172 : (.code yX5_refused cX5_refused 2 (some .int) : Cond) ∈ UU := uu_t1 (List.mem_of_getElem? (i := 149) rfl) rfl
theorem uu174 : (.methodLink RX5 61 yX4_takes : Cond) ∈ UU := uu_t1 (List.mem_of_getElem? (i := 150) rfl) rfl
theorem uu176 : (.instanceMethod yX4_takes : Cond) ∈ UU := uu_t1 (List.mem_of_getElem? (i := 151) rfl) rfl
theorem uu177 : (.selects RX4 yX4_takes yX4_takes : Cond) ∈ UU := uu_t1 (List.mem_of_getElem? (i := 152) rfl) rfl
theorem uu178 : (.code yX4_takes cX4_takes 2 (some .int) : Cond) ∈ UU := uu_t1 (List.mem_of_getElem? (i := 153) rfl) rfl
theorem uu180 : (.methodLink RL 18 yX5_core : Cond) ∈ UU := uu_t1 (List.mem_of_getElem? (i := 154) rfl) rfl
theorem uu182 : (.instanceMethod yX5_core : Cond) ∈ UU := uu_t1 (List.mem_of_getElem? (i := 155) rfl) rfl
theorem uu183 : (.selects RX5 yX5_core yX5_core : Cond) ∈ UU := uu_t1 (List.mem_of_getElem? (i := 156) rfl) rfl
theorem uu184 : (.code yX5_core cX5_core 2 (some .int) : Cond) ∈ UU := uu_t1 (List.mem_of_getElem? (i := 157) rfl) rfl
theorem uu186 : (.methodLink RX5 64 yX5_trialOfText : Cond) ∈ UU := uu_t1 (List.mem_of_getElem? (i := 158) rfl) rfl
theorem uu188 : (.instanceMethod yX5_trialOfText : Cond) ∈ UU := uu_t1 (List.mem_of_getElem? (i := 160) rfl) rfl
theorem uu189 : (.code yX5_trialOfText cX5_trialOfText 4 (some .int) : Cond) ∈ UU := uu_t1 (List.mem_of_getElem? (i := 161) rfl) rfl
theorem uu191 : (.methodLink RX5 270 yX4_misfit : Cond) ∈ UU := uu_t1 (List.mem_of_getElem? (i := 162) rfl) rfl
theorem uu193 : (.instanceMethod yX4_misfit : Cond) ∈ UU := uu_t1 (List.mem_of_getElem? (i := 163) rfl) rfl
theorem uu194 : (.selects RX4 yX4_misfit yX4_misfit : Cond) ∈ UU := uu_t1 (List.mem_of_getElem? (i := 164) rfl) rfl
theorem uu195 : (.code yX4_misfit cX4_misfit 4 (some .int) : Cond) ∈ UU := uu_t1 (List.mem_of_getElem? (i := 165) rfl) rfl
theorem uu197 : (.methodLink RX4 19 yX4_formAt : Cond) ∈ UU := uu_t1 (List.mem_of_getElem? (i := 166) rfl) rfl
theorem uu199 : (.instanceMethod yX4_formAt : Cond) ∈ UU := uu_t1 (List.mem_of_getElem? (i := 167) rfl) rfl
theorem uu200 : (.selects RX4 yX4_formAt yX4_formAt : Cond) ∈ UU := uu_t1 (List.mem_of_getElem? (i := 168) rfl) rfl
theorem uu201 : (.code yX4_formAt cX4_formAt 2 (some (.object "java/lang/String")) : Cond) ∈ UU := uu_t1 (List.mem_of_getElem? (i := 169) rfl) rfl
theorem uu203 : (.methodLink RX4 32 yX4_letterAt : Cond) ∈ UU := uu_t1 (List.mem_of_getElem? (i := 170) rfl) rfl
theorem uu205 : (.instanceMethod yX4_letterAt : Cond) ∈ UU := uu_t1 (List.mem_of_getElem? (i := 172) rfl) rfl
theorem uu206 : (.code yX4_letterAt cX4_letterAt 2 (some .int) : Cond) ∈ UU := uu_t1 (List.mem_of_getElem? (i := 173) rfl) rfl
theorem uu208 : (.methodLink RX4 23 yX4_suits : Cond) ∈ UU := uu_t1 (List.mem_of_getElem? (i := 180) rfl) rfl
theorem uu210 : (.static yX4_suits : Cond) ∈ UU := uu_t1 (List.mem_of_getElem? (i := 181) rfl) rfl
theorem uu211 : (.code yX4_suits cX4_suits 4 (some .boolean) : Cond) ∈ UU := uu_t1 (List.mem_of_getElem? (i := 182) rfl) rfl
theorem uu213 : (.methodLink RX4 27 yJ0_length_8abf5 : Cond) ∈ UU := uu_t1 (List.mem_of_getElem? (i := 183) rfl) rfl
theorem uu215 : (.instanceMethod yJ0_length_8abf5 : Cond) ∈ UU := uu_t1 (List.mem_of_getElem? (i := 184) rfl) rfl
theorem uu216 : (.selects RJ0 yJ0_length_8abf5 yJ0_length_8abf5 : Cond) ∈ UU := uu_t1 (List.mem_of_getElem? (i := 185) rfl) rfl
theorem uu217 : (.code yJ0_length_8abf5 cJ0_length_8abf5 1 (some .int) : Cond) ∈ UU := uu_t1 (List.mem_of_getElem? (i := 186) rfl) rfl
theorem uu219 : (.methodLink RJ0 335 yJ0_coder_7d493 : Cond) ∈ UU := uu_t1 (List.mem_of_getElem? (i := 187) rfl) rfl
theorem uu221 : (.instanceMethod yJ0_coder_7d493 : Cond) ∈ UU := uu_t1 (List.mem_of_getElem? (i := 188) rfl) rfl
theorem uu222 : (.selects RJ0 yJ0_coder_7d493 yJ0_coder_7d493 : Cond) ∈ UU := uu_t1 (List.mem_of_getElem? (i := 189) rfl) rfl
theorem uu223 : (.code yJ0_coder_7d493 cJ0_coder_7d493 1 (some .byte) : Cond) ∈ UU := uu_t1 (List.mem_of_getElem? (i := 190) rfl) rfl
theorem uu225 : (.fieldLink RJ0 38 "java/lang/String" "COMPACT_STRINGS" "Z" : Cond) ∈ UU := uu_t1 (List.mem_of_getElem? (i := 191) rfl) rfl
theorem uu227 : (.methodLink RX4 77 yJ0_charAt_5068e : Cond) ∈ UU := uu_t1 (List.mem_of_getElem? (i := 193) rfl) rfl
theorem uu229 : (.instanceMethod yJ0_charAt_5068e : Cond) ∈ UU := uu_t1 (List.mem_of_getElem? (i := 194) rfl) rfl
theorem uu230 : (.selects RJ0 yJ0_charAt_5068e yJ0_charAt_5068e : Cond) ∈ UU := uu_t1 (List.mem_of_getElem? (i := 195) rfl) rfl
theorem uu231 : (.code yJ0_charAt_5068e cJ0_charAt_5068e 2 (some .char) : Cond) ∈ UU := uu_t1 (List.mem_of_getElem? (i := 196) rfl) rfl
theorem uu233 : (.methodLink RJ0 492 yJ0_isLatin1_aae02 : Cond) ∈ UU := uu_t1 (List.mem_of_getElem? (i := 197) rfl) rfl
theorem uu235 : (.instanceMethod yJ0_isLatin1_aae02 : Cond) ∈ UU := uu_t1 (List.mem_of_getElem? (i := 198) rfl) rfl
theorem uu236 : (.selects RJ0 yJ0_isLatin1_aae02 yJ0_isLatin1_aae02 : Cond) ∈ UU := uu_t1 (List.mem_of_getElem? (i := 199) rfl) rfl
theorem uu237 : (.code yJ0_isLatin1_aae02 cJ0_isLatin1_aae02 1 (some .boolean) : Cond) ∈ UU := uu_t1 (List.mem_of_getElem? (i := 200) rfl) rfl
theorem uu239 : (.methodLink RJ0 495 yJ1_charAt_3b067 : Cond) ∈ UU := uu_t1 (List.mem_of_getElem? (i := 201) rfl) rfl
theorem uu241 : (.static yJ1_charAt_3b067 : Cond) ∈ UU := uu_t1 (List.mem_of_getElem? (i := 202) rfl) rfl
theorem uu242 : (.code yJ1_charAt_3b067 cJ1_charAt_3b067 2 (some .char) : Cond) ∈ UU := uu_t1 (List.mem_of_getElem? (i := 203) rfl) rfl
theorem uu244 : (.methodLink RJ1 9 yJ0_checkIndex_df160 : Cond) ∈ UU := uu_t1 (List.mem_of_getElem? (i := 204) rfl) rfl
theorem uu246 : (.static yJ0_checkIndex_df160 : Cond) ∈ UU := uu_t1 (List.mem_of_getElem? (i := 205) rfl) rfl
theorem uu247 : (.code yJ0_checkIndex_df160 cJ0_checkIndex_df160 2 none : Cond) ∈ UU := uu_t1 (List.mem_of_getElem? (i := 206) rfl) rfl
theorem uu249 : (.fieldLink RJ0 1053 "jdk/internal/util/Preconditions" "SIOOBE_FORMATTER" "Ljava/util/function/BiFunction;" : Cond) ∈ UU := uu_t1 (List.mem_of_getElem? (i := 207) rfl) rfl
theorem uu251 : (.methodLink RJ0 1059 yJ3_checkIndex_8e157 : Cond) ∈ UU := uu_t1 (List.mem_of_getElem? (i := 209) rfl) rfl
theorem uu253 : (.static yJ3_checkIndex_8e157 : Cond) ∈ UU := uu_t1 (List.mem_of_getElem? (i := 210) rfl) rfl
theorem uu254 : (.code yJ3_checkIndex_8e157 cJ3_checkIndex_8e157 3 (some .int) : Cond) ∈ UU := uu_t1 (List.mem_of_getElem? (i := 211) rfl) rfl
theorem uu256 : (.methodLink RJ0 498 yJ2_charAt_3b067 : Cond) ∈ UU := uu_t1 (List.mem_of_getElem? (i := 212) rfl) rfl
theorem uu258 : (.static yJ2_charAt_3b067 : Cond) ∈ UU := uu_t1 (List.mem_of_getElem? (i := 213) rfl) rfl
theorem uu259 : (.code yJ2_charAt_3b067 cJ2_charAt_3b067 2 (some .char) : Cond) ∈ UU := uu_t1 (List.mem_of_getElem? (i := 214) rfl) rfl
theorem uu261 : (.methodLink RJ2 67 yJ2_checkIndex_2214a : Cond) ∈ UU := uu_t1 (List.mem_of_getElem? (i := 215) rfl) rfl
theorem uu263 : (.static yJ2_checkIndex_2214a : Cond) ∈ UU := uu_t1 (List.mem_of_getElem? (i := 216) rfl) rfl
theorem uu264 : (.code yJ2_checkIndex_2214a cJ2_checkIndex_2214a 2 none : Cond) ∈ UU := uu_t1 (List.mem_of_getElem? (i := 217) rfl) rfl
theorem uu266 : (.methodLink RJ2 48 yJ2_length_9d52b : Cond) ∈ UU := uu_t1 (List.mem_of_getElem? (i := 218) rfl) rfl
theorem uu268 : (.static yJ2_length_9d52b : Cond) ∈ UU := uu_t1 (List.mem_of_getElem? (i := 219) rfl) rfl
theorem uu269 : (.code yJ2_length_9d52b cJ2_length_9d52b 1 (some .int) : Cond) ∈ UU := uu_t1 (List.mem_of_getElem? (i := 220) rfl) rfl
theorem uu271 : (.methodLink RJ2 414 yJ0_checkIndex_df160 : Cond) ∈ UU := uu_t1 (List.mem_of_getElem? (i := 221) rfl) rfl
theorem uu273 : (.methodLink RJ2 71 yJ2_getChar_3b067 : Cond) ∈ UU := uu_t1 (List.mem_of_getElem? (i := 222) rfl) rfl
theorem uu275 : (.static yJ2_getChar_3b067 : Cond) ∈ UU := uu_t1 (List.mem_of_getElem? (i := 223) rfl) rfl
theorem uu276 : (.code yJ2_getChar_3b067 cJ2_getChar_3b067 2 (some .char) : Cond) ∈ UU := uu_t1 (List.mem_of_getElem? (i := 224) rfl) rfl
theorem uu278 : (.fieldLink RJ2 44 "java/lang/StringUTF16" "$assertionsDisabled" "Z" : Cond) ∈ UU := uu_t1 (List.mem_of_getElem? (i := 225) rfl) rfl
theorem uu280 : (.fieldLink RJ2 59 "java/lang/StringUTF16" "HI_BYTE_SHIFT" "I" : Cond) ∈ UU := uu_t1 (List.mem_of_getElem? (i := 227) rfl) rfl
theorem uu282 : (.fieldLink RJ2 63 "java/lang/StringUTF16" "LO_BYTE_SHIFT" "I" : Cond) ∈ UU := uu_t1 (List.mem_of_getElem? (i := 229) rfl) rfl
theorem uu284 : (.methodLink RX4 83 yJ0_indexOf_0f7a4 : Cond) ∈ UU := uu_t1 (List.mem_of_getElem? (i := 232) rfl) rfl
theorem uu286 : (.instanceMethod yJ0_indexOf_0f7a4 : Cond) ∈ UU := uu_t1 (List.mem_of_getElem? (i := 233) rfl) rfl
theorem uu287 : (.selects RJ0 yJ0_indexOf_0f7a4 yJ0_indexOf_0f7a4 : Cond) ∈ UU := uu_t1 (List.mem_of_getElem? (i := 234) rfl) rfl
theorem uu288 : (.code yJ0_indexOf_0f7a4 cJ0_indexOf_0f7a4 2 (some .int) : Cond) ∈ UU := uu_t1 (List.mem_of_getElem? (i := 235) rfl) rfl
theorem uu290 : (.methodLink RJ0 633 yJ0_indexOf_7cf53 : Cond) ∈ UU := uu_t1 (List.mem_of_getElem? (i := 236) rfl) rfl
theorem uu292 : (.instanceMethod yJ0_indexOf_7cf53 : Cond) ∈ UU := uu_t1 (List.mem_of_getElem? (i := 237) rfl) rfl
theorem uu293 : (.selects RJ0 yJ0_indexOf_7cf53 yJ0_indexOf_7cf53 : Cond) ∈ UU := uu_t1 (List.mem_of_getElem? (i := 238) rfl) rfl
theorem uu294 : (.code yJ0_indexOf_7cf53 cJ0_indexOf_7cf53 3 (some .int) : Cond) ∈ UU := uu_t1 (List.mem_of_getElem? (i := 239) rfl) rfl
theorem uu296 : (.methodLink RJ0 505 yJ0_length_8abf5 : Cond) ∈ UU := uu_t2 (List.mem_of_getElem? (i := 0) rfl) rfl
theorem uu298 : (.methodLink RJ0 637 yJ1_indexOf_4cfef : Cond) ∈ UU := uu_t2 (List.mem_of_getElem? (i := 1) rfl) rfl
theorem uu300 : (.static yJ1_indexOf_4cfef : Cond) ∈ UU := uu_t2 (List.mem_of_getElem? (i := 2) rfl) rfl
theorem uu301 : (.code yJ1_indexOf_4cfef cJ1_indexOf_4cfef 4 (some .int) : Cond) ∈ UU := uu_t2 (List.mem_of_getElem? (i := 3) rfl) rfl
theorem uu303 : (.methodLink RJ1 88 yJ1_canEncode_9a6ad : Cond) ∈ UU := uu_t2 (List.mem_of_getElem? (i := 4) rfl) rfl
theorem uu305 : (.static yJ1_canEncode_9a6ad : Cond) ∈ UU := uu_t2 (List.mem_of_getElem? (i := 5) rfl) rfl
theorem uu306 : (.code yJ1_canEncode_9a6ad cJ1_canEncode_9a6ad 1 (some .boolean) : Cond) ∈ UU := uu_t2 (List.mem_of_getElem? (i := 6) rfl) rfl
theorem uu308 : (.methodLink RJ1 92 yJ9_max_7cf53 : Cond) ∈ UU := uu_t2 (List.mem_of_getElem? (i := 7) rfl) rfl
theorem uu310 : (.static yJ9_max_7cf53 : Cond) ∈ UU := uu_t2 (List.mem_of_getElem? (i := 8) rfl) rfl
theorem uu311 : (.code yJ9_max_7cf53 cJ9_max_7cf53 2 (some .int) : Cond) ∈ UU := uu_t2 (List.mem_of_getElem? (i := 9) rfl) rfl
theorem uu313 : (.methodLink RJ1 38 yJ9_min_7cf53 : Cond) ∈ UU := uu_t2 (List.mem_of_getElem? (i := 10) rfl) rfl
theorem uu315 : (.static yJ9_min_7cf53 : Cond) ∈ UU := uu_t2 (List.mem_of_getElem? (i := 11) rfl) rfl
theorem uu316 : (.code yJ9_min_7cf53 cJ9_min_7cf53 2 (some .int) : Cond) ∈ UU := uu_t2 (List.mem_of_getElem? (i := 12) rfl) rfl
theorem uu318 : (.methodLink RJ1 95 yJ1_indexOfChar_4cfef : Cond) ∈ UU := uu_t2 (List.mem_of_getElem? (i := 13) rfl) rfl
theorem uu320 : (.static yJ1_indexOfChar_4cfef : Cond) ∈ UU := uu_t2 (List.mem_of_getElem? (i := 14) rfl) rfl
theorem uu321 : (.code yJ1_indexOfChar_4cfef cJ1_indexOfChar_4cfef 6 (some .int) : Cond) ∈ UU := uu_t2 (List.mem_of_getElem? (i := 15) rfl) rfl
theorem uu323 : (.methodLink RJ0 640 yJ2_indexOf_4cfef : Cond) ∈ UU := uu_t2 (List.mem_of_getElem? (i := 16) rfl) rfl
theorem uu325 : (.static yJ2_indexOf_4cfef : Cond) ∈ UU := uu_t2 (List.mem_of_getElem? (i := 17) rfl) rfl
theorem uu326 : (.code yJ2_indexOf_4cfef cJ2_indexOf_4cfef 4 (some .int) : Cond) ∈ UU := uu_t2 (List.mem_of_getElem? (i := 18) rfl) rfl
theorem uu328 : (.methodLink RJ2 224 yJ9_max_7cf53 : Cond) ∈ UU := uu_t2 (List.mem_of_getElem? (i := 19) rfl) rfl
theorem uu330 : (.methodLink RJ2 183 yJ9_min_7cf53 : Cond) ∈ UU := uu_t2 (List.mem_of_getElem? (i := 20) rfl) rfl
theorem uu332 : (.constant RJ2 227 (65536) : Cond) ∈ UU := uu_t2 (List.mem_of_getElem? (i := 21) rfl) rfl
theorem uu334 : (.methodLink RJ2 228 yJ2_indexOfChar_4cfef : Cond) ∈ UU := uu_t2 (List.mem_of_getElem? (i := 22) rfl) rfl
theorem uu336 : (.static yJ2_indexOfChar_4cfef : Cond) ∈ UU := uu_t2 (List.mem_of_getElem? (i := 23) rfl) rfl
theorem uu337 : (.code yJ2_indexOfChar_4cfef cJ2_indexOfChar_4cfef 4 (some .int) : Cond) ∈ UU := uu_t2 (List.mem_of_getElem? (i := 24) rfl) rfl
theorem uu339 : (.methodLink RJ2 96 yJ2_checkBoundsBeginEnd_d044e : Cond) ∈ UU := uu_t2 (List.mem_of_getElem? (i := 25) rfl) rfl
theorem uu341 : (.static yJ2_checkBoundsBeginEnd_d044e : Cond) ∈ UU := uu_t2 (List.mem_of_getElem? (i := 26) rfl) rfl
theorem uu342 : (.code yJ2_checkBoundsBeginEnd_d044e cJ2_checkBoundsBeginEnd_d044e 3 none : Cond) ∈ UU := uu_t2 (List.mem_of_getElem? (i := 27) rfl) rfl
theorem uu344 : (.methodLink RJ2 241 yJ0_checkBoundsBeginEnd_23922 : Cond) ∈ UU := uu_t2 (List.mem_of_getElem? (i := 28) rfl) rfl
theorem uu346 : (.static yJ0_checkBoundsBeginEnd_23922 : Cond) ∈ UU := uu_t2 (List.mem_of_getElem? (i := 29) rfl) rfl
theorem uu347 : (.code yJ0_checkBoundsBeginEnd_23922 cJ0_checkBoundsBeginEnd_23922 3 none : Cond) ∈ UU := uu_t2 (List.mem_of_getElem? (i := 30) rfl) rfl
theorem uu349 : (.methodLink RJ0 1062 yJ3_checkFromToIndex_8c36e : Cond) ∈ UU := uu_t2 (List.mem_of_getElem? (i := 31) rfl) rfl
theorem uu351 : (.static yJ3_checkFromToIndex_8c36e : Cond) ∈ UU := uu_t2 (List.mem_of_getElem? (i := 32) rfl) rfl
theorem uu352 : (.code yJ3_checkFromToIndex_8c36e cJ3_checkFromToIndex_8c36e 4 (some .int) : Cond) ∈ UU := uu_t2 (List.mem_of_getElem? (i := 33) rfl) rfl
theorem uu354 : (.methodLink RJ2 244 yJ2_indexOfCharUnsafe_4cfef : Cond) ∈ UU := uu_t2 (List.mem_of_getElem? (i := 34) rfl) rfl
theorem uu356 : (.static yJ2_indexOfCharUnsafe_4cfef : Cond) ∈ UU := uu_t2 (List.mem_of_getElem? (i := 35) rfl) rfl
theorem uu357 : (.code yJ2_indexOfCharUnsafe_4cfef cJ2_indexOfCharUnsafe_4cfef 5 (some .int) : Cond) ∈ UU := uu_t2 (List.mem_of_getElem? (i := 36) rfl) rfl
theorem uu359 : (.methodLink RJ2 232 yJ2_indexOfSupplementary_4cfef : Cond) ∈ UU := uu_t2 (List.mem_of_getElem? (i := 37) rfl) rfl
theorem uu361 : (.static yJ2_indexOfSupplementary_4cfef : Cond) ∈ UU := uu_t2 (List.mem_of_getElem? (i := 38) rfl) rfl
theorem uu362 : (.code yJ2_indexOfSupplementary_4cfef cJ2_indexOfSupplementary_4cfef 7 (some .int) : Cond) ∈ UU := uu_t2 (List.mem_of_getElem? (i := 39) rfl) rfl
theorem uu364 : (.methodLink RJ2 164 yJ11_isValidCodePoint_9a6ad : Cond) ∈ UU := uu_t2 (List.mem_of_getElem? (i := 40) rfl) rfl
theorem uu366 : (.static yJ11_isValidCodePoint_9a6ad : Cond) ∈ UU := uu_t2 (List.mem_of_getElem? (i := 41) rfl) rfl
theorem uu367 : (.code yJ11_isValidCodePoint_9a6ad cJ11_isValidCodePoint_9a6ad 2 (some .boolean) : Cond) ∈ UU := uu_t2 (List.mem_of_getElem? (i := 42) rfl) rfl
theorem uu369 : (.methodLink RJ2 157 yJ11_highSurrogate_5068e : Cond) ∈ UU := uu_t2 (List.mem_of_getElem? (i := 43) rfl) rfl
theorem uu371 : (.static yJ11_highSurrogate_5068e : Cond) ∈ UU := uu_t2 (List.mem_of_getElem? (i := 44) rfl) rfl
theorem uu372 : (.code yJ11_highSurrogate_5068e cJ11_highSurrogate_5068e 1 (some .char) : Cond) ∈ UU := uu_t2 (List.mem_of_getElem? (i := 45) rfl) rfl
theorem uu374 : (.constant RJ11 110 (55232) : Cond) ∈ UU := uu_t2 (List.mem_of_getElem? (i := 46) rfl) rfl
theorem uu376 : (.methodLink RJ2 161 yJ11_lowSurrogate_5068e : Cond) ∈ UU := uu_t2 (List.mem_of_getElem? (i := 47) rfl) rfl
theorem uu378 : (.static yJ11_lowSurrogate_5068e : Cond) ∈ UU := uu_t2 (List.mem_of_getElem? (i := 48) rfl) rfl
theorem uu379 : (.code yJ11_lowSurrogate_5068e cJ11_lowSurrogate_5068e 1 (some .char) : Cond) ∈ UU := uu_t2 (List.mem_of_getElem? (i := 49) rfl) rfl
theorem uu381 : (.constant RJ11 76 (56320) : Cond) ∈ UU := uu_t2 (List.mem_of_getElem? (i := 50) rfl) rfl
theorem uu383 : (.methodLink RX5 68 yX0_becomes : Cond) ∈ UU := uu_t2 (List.mem_of_getElem? (i := 51) rfl) rfl
theorem uu385 : (.instanceMethod yX0_becomes : Cond) ∈ UU := uu_t2 (List.mem_of_getElem? (i := 52) rfl) rfl
theorem uu386 : (.selects RX0 yX0_becomes yX0_becomes : Cond) ∈ UU := uu_t2 (List.mem_of_getElem? (i := 53) rfl) rfl
theorem uu387 : (.code yX0_becomes cX0_becomes 2 none : Cond) ∈ UU := uu_t2 (List.mem_of_getElem? (i := 54) rfl) rfl
theorem uu389 : (.methodLink RX0 29 arraycopyName : Cond) ∈ UU := uu_t2 (List.mem_of_getElem? (i := 55) rfl) rfl
theorem uu391 : (.static arraycopyName : Cond) ∈ UU := uu_t2 (List.mem_of_getElem? (i := 56) rfl) rfl
theorem uu392 : (.native arraycopyName : Cond) ∈ UU := uu_t2 (List.mem_of_getElem? (i := 57) rfl) rfl
theorem uu393 : (.methodLink RX5 273 yX4_doesStatement : Cond) ∈ UU := uu_t2 (List.mem_of_getElem? (i := 58) rfl) rfl
theorem uu395 : (.instanceMethod yX4_doesStatement : Cond) ∈ UU := uu_t2 (List.mem_of_getElem? (i := 59) rfl) rfl
theorem uu396 : (.selects RX4 yX4_doesStatement yX4_doesStatement : Cond) ∈ UU := uu_t2 (List.mem_of_getElem? (i := 60) rfl) rfl
theorem uu397 : (.code yX4_doesStatement cX4_doesStatement 3 (some .boolean) : Cond) ∈ UU := uu_t2 (List.mem_of_getElem? (i := 61) rfl) rfl
theorem uu399 : (.methodLink RX4 48 yX4_kindAt : Cond) ∈ UU := uu_t2 (List.mem_of_getElem? (i := 62) rfl) rfl
theorem uu401 : (.instanceMethod yX4_kindAt : Cond) ∈ UU := uu_t2 (List.mem_of_getElem? (i := 64) rfl) rfl
theorem uu402 : (.code yX4_kindAt cX4_kindAt 2 (some .int) : Cond) ∈ UU := uu_t2 (List.mem_of_getElem? (i := 65) rfl) rfl
theorem uu404 : (.methodLink RX4 51 yX4_digitAt : Cond) ∈ UU := uu_t2 (List.mem_of_getElem? (i := 66) rfl) rfl
theorem uu406 : (.instanceMethod yX4_digitAt : Cond) ∈ UU := uu_t2 (List.mem_of_getElem? (i := 68) rfl) rfl
theorem uu407 : (.code yX4_digitAt cX4_digitAt 2 (some .int) : Cond) ∈ UU := uu_t2 (List.mem_of_getElem? (i := 69) rfl) rfl
theorem uu409 : (.methodLink RX4 54 yX0_takesHeir : Cond) ∈ UU := uu_t2 (List.mem_of_getElem? (i := 70) rfl) rfl
theorem uu411 : (.instanceMethod yX0_takesHeir : Cond) ∈ UU := uu_t2 (List.mem_of_getElem? (i := 71) rfl) rfl
theorem uu412 : (.selects RX0 yX0_takesHeir yX0_takesHeir : Cond) ∈ UU := uu_t2 (List.mem_of_getElem? (i := 72) rfl) rfl
theorem uu413 : (.code yX0_takesHeir cX0_takesHeir 3 (some .boolean) : Cond) ∈ UU := uu_t2 (List.mem_of_getElem? (i := 73) rfl) rfl
theorem uu415 : (.methodLink RX4 60 yX4_numberAt : Cond) ∈ UU := uu_t2 (List.mem_of_getElem? (i := 74) rfl) rfl
theorem uu417 : (.instanceMethod yX4_numberAt : Cond) ∈ UU := uu_t2 (List.mem_of_getElem? (i := 76) rfl) rfl
theorem uu418 : (.code yX4_numberAt cX4_numberAt 2 (some .int) : Cond) ∈ UU := uu_t2 (List.mem_of_getElem? (i := 77) rfl) rfl
theorem uu420 : (.methodLink RX4 63 yX0_takesBite : Cond) ∈ UU := uu_t2 (List.mem_of_getElem? (i := 78) rfl) rfl
theorem uu422 : (.instanceMethod yX0_takesBite : Cond) ∈ UU := uu_t2 (List.mem_of_getElem? (i := 79) rfl) rfl
theorem uu423 : (.selects RX0 yX0_takesBite yX0_takesBite : Cond) ∈ UU := uu_t2 (List.mem_of_getElem? (i := 80) rfl) rfl
theorem uu424 : (.code yX0_takesBite cX0_takesBite 4 (some .boolean) : Cond) ∈ UU := uu_t2 (List.mem_of_getElem? (i := 81) rfl) rfl
theorem uu426 : (.methodLink RX0 35 yX2_cellsOf : Cond) ∈ UU := uu_t2 (List.mem_of_getElem? (i := 82) rfl) rfl
theorem uu428 : (.static yX2_cellsOf : Cond) ∈ UU := uu_t2 (List.mem_of_getElem? (i := 83) rfl) rfl
theorem uu429 : (.code yX2_cellsOf cX2_cellsOf 5 (some .int) : Cond) ∈ UU := uu_t2 (List.mem_of_getElem? (i := 84) rfl) rfl
theorem uu432 : (.static yX5_isCell : Cond) ∈ UU := uu_t2 (List.mem_of_getElem? (i := 86) rfl) rfl
theorem uu433 : (.code yX5_isCell cX5_isCell 1 (some .boolean) : Cond) ∈ UU := uu_t2 (List.mem_of_getElem? (i := 87) rfl) rfl
theorem uu435 : (.methodLink RX0 41 yJ9_min_7cf53 : Cond) ∈ UU := uu_t2 (List.mem_of_getElem? (i := 88) rfl) rfl
theorem uu437 : (.methodLink RX4 66 yX0_mends : Cond) ∈ UU := uu_t2 (List.mem_of_getElem? (i := 89) rfl) rfl
theorem uu439 : (.instanceMethod yX0_mends : Cond) ∈ UU := uu_t2 (List.mem_of_getElem? (i := 90) rfl) rfl
theorem uu440 : (.selects RX0 yX0_mends yX0_mends : Cond) ∈ UU := uu_t2 (List.mem_of_getElem? (i := 91) rfl) rfl
theorem uu441 : (.code yX0_mends cX0_mends 2 (some .boolean) : Cond) ∈ UU := uu_t2 (List.mem_of_getElem? (i := 92) rfl) rfl
theorem uu444 : (.methodLink RX4 70 yX0_turnsBy : Cond) ∈ UU := uu_t2 (List.mem_of_getElem? (i := 94) rfl) rfl
theorem uu446 : (.instanceMethod yX0_turnsBy : Cond) ∈ UU := uu_t2 (List.mem_of_getElem? (i := 95) rfl) rfl
theorem uu447 : (.selects RX0 yX0_turnsBy yX0_turnsBy : Cond) ∈ UU := uu_t2 (List.mem_of_getElem? (i := 96) rfl) rfl
theorem uu448 : (.code yX0_turnsBy cX0_turnsBy 3 (some .boolean) : Cond) ∈ UU := uu_t2 (List.mem_of_getElem? (i := 97) rfl) rfl
theorem uu450 : (.methodLink RX0 50 yX2_turned : Cond) ∈ UU := uu_t2 (List.mem_of_getElem? (i := 98) rfl) rfl
theorem uu452 : (.static yX2_turned : Cond) ∈ UU := uu_t2 (List.mem_of_getElem? (i := 99) rfl) rfl
theorem uu453 : (.code yX2_turned cX2_turned 4 (some .int) : Cond) ∈ UU := uu_t2 (List.mem_of_getElem? (i := 100) rfl) rfl
theorem uu455 : (.methodLink RX4 73 yX0_renews : Cond) ∈ UU := uu_t2 (List.mem_of_getElem? (i := 101) rfl) rfl
theorem uu457 : (.instanceMethod yX0_renews : Cond) ∈ UU := uu_t2 (List.mem_of_getElem? (i := 102) rfl) rfl
theorem uu458 : (.selects RX0 yX0_renews yX0_renews : Cond) ∈ UU := uu_t2 (List.mem_of_getElem? (i := 103) rfl) rfl
theorem uu459 : (.code yX0_renews cX0_renews 1 (some .boolean) : Cond) ∈ UU := uu_t2 (List.mem_of_getElem? (i := 104) rfl) rfl
theorem uu461 : (.methodLink RX5 277 yX4_formAt : Cond) ∈ UU := uu_t2 (List.mem_of_getElem? (i := 105) rfl) rfl
theorem uu463 : (.methodLink RX5 281 yJ0_length_8abf5 : Cond) ∈ UU := uu_t2 (List.mem_of_getElem? (i := 106) rfl) rfl
theorem uu465 : (.methodLink RX5 239 yJ9_max_7cf53 : Cond) ∈ UU := uu_t2 (List.mem_of_getElem? (i := 107) rfl) rfl
theorem uu467 : (.arrayClass .byte : Cond) ∈ UU := uu_t2 (List.mem_of_getElem? (i := 108) rfl) rfl
theorem uu468 : (.methodLink RL 23 yX5_cell : Cond) ∈ UU := uu_t2 (List.mem_of_getElem? (i := 109) rfl) rfl
theorem uu470 : (.instanceMethod yX5_cell : Cond) ∈ UU := uu_t2 (List.mem_of_getElem? (i := 110) rfl) rfl
theorem uu471 : (.selects RX5 yX5_cell yX5_cell : Cond) ∈ UU := uu_t2 (List.mem_of_getElem? (i := 111) rfl) rfl
theorem uu472 : (.code yX5_cell cX5_cell 4 (some .int) : Cond) ∈ UU := uu_t2 (List.mem_of_getElem? (i := 112) rfl) rfl
theorem uu474 : (.methodLink RX5 72 yX5_isCell : Cond) ∈ UU := uu_t2 (List.mem_of_getElem? (i := 113) rfl) rfl
theorem uu476 : (.methodLink RX5 79 yX2_besides : Cond) ∈ UU := uu_t2 (List.mem_of_getElem? (i := 114) rfl) rfl
theorem uu478 : (.static yX2_besides : Cond) ∈ UU := uu_t2 (List.mem_of_getElem? (i := 115) rfl) rfl
theorem uu479 : (.code yX2_besides cX2_besides 2 (some .int) : Cond) ∈ UU := uu_t2 (List.mem_of_getElem? (i := 116) rfl) rfl
theorem uu481 : (.constant RX2 19 (-1082402) : Cond) ∈ UU := uu_t2 (List.mem_of_getElem? (i := 117) rfl) rfl
theorem uu483 : (.constant RX2 20 (-17318417) : Cond) ∈ UU := uu_t2 (List.mem_of_getElem? (i := 118) rfl) rfl
theorem uu485 : (.constant RX2 21 (33554431) : Cond) ∈ UU := uu_t2 (List.mem_of_getElem? (i := 119) rfl) rfl
theorem uu487 : (.methodLink RX5 84 yJ6_bitCount_0f7a4 : Cond) ∈ UU := uu_t2 (List.mem_of_getElem? (i := 120) rfl) rfl
theorem uu489 : (.static yJ6_bitCount_0f7a4 : Cond) ∈ UU := uu_t2 (List.mem_of_getElem? (i := 121) rfl) rfl
theorem uu490 : (.code yJ6_bitCount_0f7a4 cJ6_bitCount_0f7a4 1 (some .int) : Cond) ∈ UU := uu_t2 (List.mem_of_getElem? (i := 122) rfl) rfl
theorem uu492 : (.constant RJ6 265 (1431655765) : Cond) ∈ UU := uu_t2 (List.mem_of_getElem? (i := 123) rfl) rfl
theorem uu494 : (.constant RJ6 266 (858993459) : Cond) ∈ UU := uu_t2 (List.mem_of_getElem? (i := 124) rfl) rfl
theorem uu496 : (.constant RJ6 267 (252645135) : Cond) ∈ UU := uu_t2 (List.mem_of_getElem? (i := 125) rfl) rfl
theorem uu498 : (.methodLink RX5 89 yX2_heapOf : Cond) ∈ UU := uu_t2 (List.mem_of_getElem? (i := 126) rfl) rfl
theorem uu500 : (.static yX2_heapOf : Cond) ∈ UU := uu_t2 (List.mem_of_getElem? (i := 127) rfl) rfl
theorem uu501 : (.code yX2_heapOf cX2_heapOf 5 (some .int) : Cond) ∈ UU := uu_t2 (List.mem_of_getElem? (i := 128) rfl) rfl
theorem uu503 : (.methodLink RX2 22 yX2_besides : Cond) ∈ UU := uu_t2 (List.mem_of_getElem? (i := 129) rfl) rfl
theorem uu505 : (.methodLink RL 28 yX5_heir : Cond) ∈ UU := uu_t2 (List.mem_of_getElem? (i := 130) rfl) rfl
theorem uu507 : (.instanceMethod yX5_heir : Cond) ∈ UU := uu_t2 (List.mem_of_getElem? (i := 131) rfl) rfl
theorem uu508 : (.selects RX5 yX5_heir yX5_heir : Cond) ∈ UU := uu_t2 (List.mem_of_getElem? (i := 132) rfl) rfl
theorem uu509 : (.code yX5_heir cX5_heir 3 (some .int) : Cond) ∈ UU := uu_t2 (List.mem_of_getElem? (i := 133) rfl) rfl
theorem uu511 : (.methodLink RX5 93 yX5_isHeir : Cond) ∈ UU := uu_t2 (List.mem_of_getElem? (i := 134) rfl) rfl
theorem uu513 : (.instanceMethod yX5_isHeir : Cond) ∈ UU := uu_t2 (List.mem_of_getElem? (i := 136) rfl) rfl
theorem uu514 : (.code yX5_isHeir cX5_isHeir 2 (some .boolean) : Cond) ∈ UU := uu_t2 (List.mem_of_getElem? (i := 137) rfl) rfl
theorem uu516 : (.methodLink RX5 102 yX5_shareOf : Cond) ∈ UU := uu_t2 (List.mem_of_getElem? (i := 138) rfl) rfl
theorem uu518 : (.instanceMethod yX5_shareOf : Cond) ∈ UU := uu_t2 (List.mem_of_getElem? (i := 140) rfl) rfl
theorem uu519 : (.code yX5_shareOf cX5_shareOf 3 (some .int) : Cond) ∈ UU := uu_t2 (List.mem_of_getElem? (i := 141) rfl) rfl
theorem uu521 : (.methodLink RX5 134 yX3_reads : Cond) ∈ UU := uu_t2 (List.mem_of_getElem? (i := 142) rfl) rfl
theorem uu523 : (.instanceMethod yX3_reads : Cond) ∈ UU := uu_t2 (List.mem_of_getElem? (i := 143) rfl) rfl
theorem uu524 : (.selects RX3 yX3_reads yX3_reads : Cond) ∈ UU := uu_t2 (List.mem_of_getElem? (i := 144) rfl) rfl
theorem uu525 : (.code yX3_reads cX3_reads 7 none : Cond) ∈ UU := uu_t2 (List.mem_of_getElem? (i := 145) rfl) rfl
theorem uu527 : (.methodLink RX3 9 yJ6_bitCount_0f7a4 : Cond) ∈ UU := uu_t2 (List.mem_of_getElem? (i := 146) rfl) rfl
theorem uu529 : (.methodLink RX3 30 yX2_heapOf : Cond) ∈ UU := uu_t2 (List.mem_of_getElem? (i := 147) rfl) rfl
theorem uu531 : (.methodLink RX3 36 yJ9_max_7cf53 : Cond) ∈ UU := uu_t2 (List.mem_of_getElem? (i := 148) rfl) rfl
theorem uu533 : (.methodLink RX5 261 yX5_readShare : Cond) ∈ UU := uu_t2 (List.mem_of_getElem? (i := 149) rfl) rfl
theorem uu535 : (.instanceMethod yX5_readShare : Cond) ∈ UU := uu_t2 (List.mem_of_getElem? (i := 151) rfl) rfl
theorem uu536 : (.code yX5_readShare cX5_readShare 2 (some .int) : Cond) ∈ UU := uu_t2 (List.mem_of_getElem? (i := 152) rfl) rfl
theorem uu538 : (.methodLink RX5 264 yX3_shareBy : Cond) ∈ UU := uu_t2 (List.mem_of_getElem? (i := 153) rfl) rfl
theorem uu540 : (.instanceMethod yX3_shareBy : Cond) ∈ UU := uu_t2 (List.mem_of_getElem? (i := 154) rfl) rfl
theorem uu541 : (.selects RX3 yX3_shareBy yX3_shareBy : Cond) ∈ UU := uu_t2 (List.mem_of_getElem? (i := 155) rfl) rfl
theorem uu542 : (.code yX3_shareBy cX3_shareBy 3 (some .int) : Cond) ∈ UU := uu_t2 (List.mem_of_getElem? (i := 156) rfl) rfl
theorem uu544 : (.methodLink RX3 41 yX3_isInChancery : Cond) ∈ UU := uu_t2 (List.mem_of_getElem? (i := 157) rfl) rfl
theorem uu546 : (.instanceMethod yX3_isInChancery : Cond) ∈ UU := uu_t2 (List.mem_of_getElem? (i := 158) rfl) rfl
theorem uu547 : (.selects RX3 yX3_isInChancery yX3_isInChancery : Cond) ∈ UU := uu_t2 (List.mem_of_getElem? (i := 159) rfl) rfl
theorem uu548 : (.code yX3_isInChancery cX3_isInChancery 1 (some .boolean) : Cond) ∈ UU := uu_t2 (List.mem_of_getElem? (i := 160) rfl) rfl
theorem uu550 : (.methodLink RX3 45 yX3_nephews : Cond) ∈ UU := uu_t2 (List.mem_of_getElem? (i := 161) rfl) rfl
theorem uu552 : (.instanceMethod yX3_nephews : Cond) ∈ UU := uu_t2 (List.mem_of_getElem? (i := 163) rfl) rfl
theorem uu553 : (.code yX3_nephews cX3_nephews 2 (some .int) : Cond) ∈ UU := uu_t2 (List.mem_of_getElem? (i := 164) rfl) rfl
theorem uu555 : (.constant RX3 54 (1082401) : Cond) ∈ UU := uu_t2 (List.mem_of_getElem? (i := 165) rfl) rfl
theorem uu557 : (.methodLink RX3 48 yX3_elders : Cond) ∈ UU := uu_t2 (List.mem_of_getElem? (i := 166) rfl) rfl
theorem uu559 : (.instanceMethod yX3_elders : Cond) ∈ UU := uu_t2 (List.mem_of_getElem? (i := 168) rfl) rfl
theorem uu560 : (.code yX3_elders cX3_elders 2 (some .int) : Cond) ∈ UU := uu_t2 (List.mem_of_getElem? (i := 169) rfl) rfl
theorem uu562 : (.methodLink RX3 51 yX3_widows : Cond) ∈ UU := uu_t2 (List.mem_of_getElem? (i := 170) rfl) rfl
theorem uu564 : (.instanceMethod yX3_widows : Cond) ∈ UU := uu_t2 (List.mem_of_getElem? (i := 172) rfl) rfl
theorem uu565 : (.code yX3_widows cX3_widows 2 (some .int) : Cond) ∈ UU := uu_t2 (List.mem_of_getElem? (i := 173) rfl) rfl
theorem uu567 : (.methodLink RL 32 yX5_bites : Cond) ∈ UU := uu_t2 (List.mem_of_getElem? (i := 174) rfl) rfl
theorem uu569 : (.instanceMethod yX5_bites : Cond) ∈ UU := uu_t2 (List.mem_of_getElem? (i := 175) rfl) rfl
theorem uu570 : (.selects RX5 yX5_bites yX5_bites : Cond) ∈ UU := uu_t2 (List.mem_of_getElem? (i := 176) rfl) rfl
theorem uu571 : (.code yX5_bites cX5_bites 3 (some .int) : Cond) ∈ UU := uu_t2 (List.mem_of_getElem? (i := 177) rfl) rfl
theorem uu573 : (.methodLink RX5 105 yX0_takesBite : Cond) ∈ UU := uu_t2 (List.mem_of_getElem? (i := 178) rfl) rfl
theorem uu575 : (.methodLink RL 36 yX5_heals : Cond) ∈ UU := uu_t2 (List.mem_of_getElem? (i := 179) rfl) rfl
theorem uu577 : (.instanceMethod yX5_heals : Cond) ∈ UU := uu_t2 (List.mem_of_getElem? (i := 180) rfl) rfl
theorem uu578 : (.selects RX5 yX5_heals yX5_heals : Cond) ∈ UU := uu_t2 (List.mem_of_getElem? (i := 181) rfl) rfl
theorem uu579 : (.code yX5_heals cX5_heals 2 (some .int) : Cond) ∈ UU := uu_t2 (List.mem_of_getElem? (i := 182) rfl) rfl
theorem uu581 : (.methodLink RX5 109 yX5_isLeft : Cond) ∈ UU := uu_t2 (List.mem_of_getElem? (i := 183) rfl) rfl
theorem uu583 : (.instanceMethod yX5_isLeft : Cond) ∈ UU := uu_t2 (List.mem_of_getElem? (i := 185) rfl) rfl
theorem uu584 : (.code yX5_isLeft cX5_isLeft 2 (some .boolean) : Cond) ∈ UU := uu_t2 (List.mem_of_getElem? (i := 186) rfl) rfl
theorem uu586 : (.methodLink RX5 112 yX0_mends : Cond) ∈ UU := uu_t2 (List.mem_of_getElem? (i := 187) rfl) rfl
theorem uu588 : (.methodLink RL 40 yX5_rolls : Cond) ∈ UU := uu_t2 (List.mem_of_getElem? (i := 188) rfl) rfl
theorem uu590 : (.instanceMethod yX5_rolls : Cond) ∈ UU := uu_t2 (List.mem_of_getElem? (i := 189) rfl) rfl
theorem uu591 : (.selects RX5 yX5_rolls yX5_rolls : Cond) ∈ UU := uu_t2 (List.mem_of_getElem? (i := 190) rfl) rfl
theorem uu592 : (.code yX5_rolls cX5_rolls 2 (some .int) : Cond) ∈ UU := uu_t2 (List.mem_of_getElem? (i := 191) rfl) rfl
theorem uu594 : (.methodLink RX5 115 yX0_turnsBy : Cond) ∈ UU := uu_t2 (List.mem_of_getElem? (i := 192) rfl) rfl
theorem uu596 : (.methodLink RL 44 yX5_turn : Cond) ∈ UU := uu_t2 (List.mem_of_getElem? (i := 193) rfl) rfl
theorem uu598 : (.instanceMethod yX5_turn : Cond) ∈ UU := uu_t2 (List.mem_of_getElem? (i := 194) rfl) rfl
theorem uu599 : (.selects RX5 yX5_turn yX5_turn : Cond) ∈ UU := uu_t2 (List.mem_of_getElem? (i := 195) rfl) rfl
theorem uu600 : (.code yX5_turn cX5_turn 5 (some .int) : Cond) ∈ UU := uu_t2 (List.mem_of_getElem? (i := 196) rfl) rfl
theorem uu602 : (.methodLink RL 49 yX5_anew : Cond) ∈ UU := uu_t2 (List.mem_of_getElem? (i := 197) rfl) rfl
theorem uu604 : (.instanceMethod yX5_anew : Cond) ∈ UU := uu_t2 (List.mem_of_getElem? (i := 198) rfl) rfl
theorem uu605 : (.selects RX5 yX5_anew yX5_anew : Cond) ∈ UU := uu_t2 (List.mem_of_getElem? (i := 199) rfl) rfl
theorem uu606 : (.code yX5_anew cX5_anew 2 (some .int) : Cond) ∈ UU := uu_t2 (List.mem_of_getElem? (i := 200) rfl) rfl
theorem uu608 : (.methodLink RX5 121 yX0_renews : Cond) ∈ UU := uu_t2 (List.mem_of_getElem? (i := 201) rfl) rfl
theorem uu610 : (.methodLink RL 53 yX5_shares : Cond) ∈ UU := uu_t2 (List.mem_of_getElem? (i := 202) rfl) rfl
theorem uu612 : (.instanceMethod yX5_shares : Cond) ∈ UU := uu_t2 (List.mem_of_getElem? (i := 203) rfl) rfl
theorem uu613 : (.selects RX5 yX5_shares yX5_shares : Cond) ∈ UU := uu_t2 (List.mem_of_getElem? (i := 204) rfl) rfl
theorem uu614 : (.code yX5_shares cX5_shares 2 (some .int) : Cond) ∈ UU := uu_t2 (List.mem_of_getElem? (i := 205) rfl) rfl
theorem uu616 : (.methodLink RX5 125 yX5_isTwofold : Cond) ∈ UU := uu_t2 (List.mem_of_getElem? (i := 206) rfl) rfl
theorem uu618 : (.static yX5_isTwofold : Cond) ∈ UU := uu_t2 (List.mem_of_getElem? (i := 207) rfl) rfl
theorem uu619 : (.code yX5_isTwofold cX5_isTwofold 1 (some .boolean) : Cond) ∈ UU := uu_t2 (List.mem_of_getElem? (i := 208) rfl) rfl
theorem uu621 : (.methodLink RX5 128 yX5_sharesTogether : Cond) ∈ UU := uu_t2 (List.mem_of_getElem? (i := 209) rfl) rfl
theorem uu623 : (.instanceMethod yX5_sharesTogether : Cond) ∈ UU := uu_t2 (List.mem_of_getElem? (i := 211) rfl) rfl
theorem uu624 : (.code yX5_sharesTogether cX5_sharesTogether 4 (some .int) : Cond) ∈ UU := uu_t2 (List.mem_of_getElem? (i := 212) rfl) rfl
theorem uu626 : (.methodLink RX5 131 yX5_richest : Cond) ∈ UU := uu_t2 (List.mem_of_getElem? (i := 213) rfl) rfl
theorem uu628 : (.instanceMethod yX5_richest : Cond) ∈ UU := uu_t2 (List.mem_of_getElem? (i := 215) rfl) rfl
theorem uu629 : (.code yX5_richest cX5_richest 5 (some .int) : Cond) ∈ UU := uu_t2 (List.mem_of_getElem? (i := 216) rfl) rfl
theorem uu631 : (.methodLink RL 57 yX5_pieces : Cond) ∈ UU := uu_t2 (List.mem_of_getElem? (i := 217) rfl) rfl
theorem uu633 : (.instanceMethod yX5_pieces : Cond) ∈ UU := uu_t2 (List.mem_of_getElem? (i := 218) rfl) rfl
theorem uu634 : (.selects RX5 yX5_pieces yX5_pieces : Cond) ∈ UU := uu_t2 (List.mem_of_getElem? (i := 219) rfl) rfl
theorem uu635 : (.code yX5_pieces cX5_pieces 2 (some .int) : Cond) ∈ UU := uu_t2 (List.mem_of_getElem? (i := 220) rfl) rfl
theorem uu637 : (.methodLink RX5 144 yX3_isInChancery : Cond) ∈ UU := uu_t2 (List.mem_of_getElem? (i := 221) rfl) rfl
theorem uu639 : (.methodLink RX5 150 yX2_leastCell : Cond) ∈ UU := uu_t2 (List.mem_of_getElem? (i := 222) rfl) rfl
theorem uu641 : (.static yX2_leastCell : Cond) ∈ UU := uu_t2 (List.mem_of_getElem? (i := 223) rfl) rfl
theorem uu642 : (.code yX2_leastCell cX2_leastCell 1 (some .int) : Cond) ∈ UU := uu_t2 (List.mem_of_getElem? (i := 224) rfl) rfl
theorem uu644 : (.methodLink RX2 30 yJ6_bitCount_0f7a4 : Cond) ∈ UU := uu_t2 (List.mem_of_getElem? (i := 225) rfl) rfl
theorem uu646 : (.methodLink RL 61 yX5_edge : Cond) ∈ UU := uu_t2 (List.mem_of_getElem? (i := 226) rfl) rfl
theorem uu648 : (.instanceMethod yX5_edge : Cond) ∈ UU := uu_t2 (List.mem_of_getElem? (i := 227) rfl) rfl
theorem uu649 : (.selects RX5 yX5_edge yX5_edge : Cond) ∈ UU := uu_t2 (List.mem_of_getElem? (i := 228) rfl) rfl
theorem uu650 : (.code yX5_edge cX5_edge 2 (some .int) : Cond) ∈ UU := uu_t2 (List.mem_of_getElem? (i := 229) rfl) rfl
theorem uu652 : (.methodLink RX5 153 yX2_openSides : Cond) ∈ UU := uu_t2 (List.mem_of_getElem? (i := 230) rfl) rfl
theorem uu654 : (.static yX2_openSides : Cond) ∈ UU := uu_t2 (List.mem_of_getElem? (i := 231) rfl) rfl
theorem uu655 : (.code yX2_openSides cX2_openSides 3 (some .int) : Cond) ∈ UU := uu_t2 (List.mem_of_getElem? (i := 232) rfl) rfl
theorem uu657 : (.methodLink RX5 156 yX2_holesOf : Cond) ∈ UU := uu_t2 (List.mem_of_getElem? (i := 233) rfl) rfl
theorem uu659 : (.static yX2_holesOf : Cond) ∈ UU := uu_t2 (List.mem_of_getElem? (i := 234) rfl) rfl
theorem uu660 : (.code yX2_holesOf cX2_holesOf 5 (some .int) : Cond) ∈ UU := uu_t2 (List.mem_of_getElem? (i := 235) rfl) rfl
theorem uu662 : (.methodLink RX2 26 yX2_heapOf : Cond) ∈ UU := uu_t2 (List.mem_of_getElem? (i := 236) rfl) rfl
theorem uu664 : (.constant RX2 29 (33080895) : Cond) ∈ UU := uu_t2 (List.mem_of_getElem? (i := 237) rfl) rfl
theorem uu666 : (.methodLink RL 81 yX5_can : Cond) ∈ UU := uu_t2 (List.mem_of_getElem? (i := 238) rfl) rfl
theorem uu668 : (.instanceMethod yX5_can : Cond) ∈ UU := uu_t2 (List.mem_of_getElem? (i := 239) rfl) rfl
theorem uu669 : (.selects RX5 yX5_can yX5_can : Cond) ∈ UU := uu_t3 (List.mem_of_getElem? (i := 0) rfl) rfl
theorem uu670 : (.code yX5_can cX5_can 6 (some .int) : Cond) ∈ UU := uu_t3 (List.mem_of_getElem? (i := 1) rfl) rfl
theorem uu672 : (.methodLink RX5 159 yX2_behind : Cond) ∈ UU := uu_t3 (List.mem_of_getElem? (i := 2) rfl) rfl
theorem uu674 : (.static yX2_behind : Cond) ∈ UU := uu_t3 (List.mem_of_getElem? (i := 3) rfl) rfl
theorem uu675 : (.code yX2_behind cX2_behind 3 (some .int) : Cond) ∈ UU := uu_t3 (List.mem_of_getElem? (i := 4) rfl) rfl
theorem uu677 : (.methodLink RX2 13 yX2_cellsOf : Cond) ∈ UU := uu_t3 (List.mem_of_getElem? (i := 5) rfl) rfl
theorem uu679 : (.methodLink RL 85 yX5_ways : Cond) ∈ UU := uu_t3 (List.mem_of_getElem? (i := 6) rfl) rfl
theorem uu681 : (.instanceMethod yX5_ways : Cond) ∈ UU := uu_t3 (List.mem_of_getElem? (i := 7) rfl) rfl
theorem uu682 : (.selects RX5 yX5_ways yX5_ways : Cond) ∈ UU := uu_t3 (List.mem_of_getElem? (i := 8) rfl) rfl
theorem uu683 : (.code yX5_ways cX5_ways 2 (some .int) : Cond) ∈ UU := uu_t3 (List.mem_of_getElem? (i := 9) rfl) rfl
theorem uu685 : (.methodLink RX5 162 yX1_covers : Cond) ∈ UU := uu_t3 (List.mem_of_getElem? (i := 10) rfl) rfl
theorem uu687 : (.instanceMethod yX1_covers : Cond) ∈ UU := uu_t3 (List.mem_of_getElem? (i := 11) rfl) rfl
theorem uu688 : (.selects RX1 yX1_covers yX1_covers : Cond) ∈ UU := uu_t3 (List.mem_of_getElem? (i := 12) rfl) rfl
theorem uu689 : (.code yX1_covers cX1_covers 4 none : Cond) ∈ UU := uu_t3 (List.mem_of_getElem? (i := 13) rfl) rfl
theorem uu691 : (.methodLink RX1 24 yX1_empties : Cond) ∈ UU := uu_t3 (List.mem_of_getElem? (i := 14) rfl) rfl
theorem uu693 : (.instanceMethod yX1_empties : Cond) ∈ UU := uu_t3 (List.mem_of_getElem? (i := 16) rfl) rfl
theorem uu694 : (.code yX1_empties cX1_empties 2 none : Cond) ∈ UU := uu_t3 (List.mem_of_getElem? (i := 17) rfl) rfl
theorem uu696 : (.methodLink RX1 27 yX1_comesTo : Cond) ∈ UU := uu_t3 (List.mem_of_getElem? (i := 18) rfl) rfl
theorem uu698 : (.instanceMethod yX1_comesTo : Cond) ∈ UU := uu_t3 (List.mem_of_getElem? (i := 20) rfl) rfl
theorem uu699 : (.code yX1_comesTo cX1_comesTo 4 none : Cond) ∈ UU := uu_t3 (List.mem_of_getElem? (i := 21) rfl) rfl
theorem uu701 : (.constant RX1 43 (1000003) : Cond) ∈ UU := uu_t3 (List.mem_of_getElem? (i := 22) rfl) rfl
theorem uu703 : (.methodLink RX1 44 yJ9_min_7cf53 : Cond) ∈ UU := uu_t3 (List.mem_of_getElem? (i := 23) rfl) rfl
theorem uu705 : (.methodLink RX1 31 yX1_steps : Cond) ∈ UU := uu_t3 (List.mem_of_getElem? (i := 24) rfl) rfl
theorem uu707 : (.instanceMethod yX1_steps : Cond) ∈ UU := uu_t3 (List.mem_of_getElem? (i := 26) rfl) rfl
theorem uu708 : (.code yX1_steps cX1_steps 3 none : Cond) ∈ UU := uu_t3 (List.mem_of_getElem? (i := 27) rfl) rfl
theorem uu710 : (.methodLink RX1 34 yX1_goesOn : Cond) ∈ UU := uu_t3 (List.mem_of_getElem? (i := 28) rfl) rfl
theorem uu712 : (.instanceMethod yX1_goesOn : Cond) ∈ UU := uu_t3 (List.mem_of_getElem? (i := 30) rfl) rfl
theorem uu713 : (.code yX1_goesOn cX1_goesOn 7 none : Cond) ∈ UU := uu_t3 (List.mem_of_getElem? (i := 31) rfl) rfl
theorem uu715 : (.methodLink RX1 37 yX2_cellsOf : Cond) ∈ UU := uu_t3 (List.mem_of_getElem? (i := 32) rfl) rfl
theorem uu717 : (.methodLink RX5 165 yX1_waysDone : Cond) ∈ UU := uu_t3 (List.mem_of_getElem? (i := 33) rfl) rfl
theorem uu719 : (.instanceMethod yX1_waysDone : Cond) ∈ UU := uu_t3 (List.mem_of_getElem? (i := 34) rfl) rfl
theorem uu720 : (.selects RX1 yX1_waysDone yX1_waysDone : Cond) ∈ UU := uu_t3 (List.mem_of_getElem? (i := 35) rfl) rfl
theorem uu721 : (.code yX1_waysDone cX1_waysDone 1 (some .int) : Cond) ∈ UU := uu_t3 (List.mem_of_getElem? (i := 36) rfl) rfl
theorem uu723 : (.methodLink RX5 168 yX1_fewDone : Cond) ∈ UU := uu_t3 (List.mem_of_getElem? (i := 37) rfl) rfl
theorem uu725 : (.instanceMethod yX1_fewDone : Cond) ∈ UU := uu_t3 (List.mem_of_getElem? (i := 38) rfl) rfl
theorem uu726 : (.selects RX1 yX1_fewDone yX1_fewDone : Cond) ∈ UU := uu_t3 (List.mem_of_getElem? (i := 39) rfl) rfl
theorem uu727 : (.code yX1_fewDone cX1_fewDone 1 (some .int) : Cond) ∈ UU := uu_t3 (List.mem_of_getElem? (i := 40) rfl) rfl
theorem uu729 : (.methodLink RL 89 yX5_alike : Cond) ∈ UU := uu_t3 (List.mem_of_getElem? (i := 41) rfl) rfl
theorem uu731 : (.instanceMethod yX5_alike : Cond) ∈ UU := uu_t3 (List.mem_of_getElem? (i := 42) rfl) rfl
theorem uu732 : (.selects RX5 yX5_alike yX5_alike : Cond) ∈ UU := uu_t3 (List.mem_of_getElem? (i := 43) rfl) rfl
theorem uu733 : (.code yX5_alike cX5_alike 5 (some .int) : Cond) ∈ UU := uu_t3 (List.mem_of_getElem? (i := 44) rfl) rfl
theorem uu735 : (.methodLink RX5 171 yX2_turned : Cond) ∈ UU := uu_t3 (List.mem_of_getElem? (i := 45) rfl) rfl
theorem uu737 : (.methodLink RX5 174 yJ9_min_7cf53 : Cond) ∈ UU := uu_t3 (List.mem_of_getElem? (i := 46) rfl) rfl
theorem uu739 : (.methodLink RL 93 yX5_settles : Cond) ∈ UU := uu_t3 (List.mem_of_getElem? (i := 47) rfl) rfl
theorem uu741 : (.instanceMethod yX5_settles : Cond) ∈ UU := uu_t3 (List.mem_of_getElem? (i := 48) rfl) rfl
theorem uu742 : (.selects RX5 yX5_settles yX5_settles : Cond) ∈ UU := uu_t3 (List.mem_of_getElem? (i := 49) rfl) rfl
theorem uu743 : (.code yX5_settles cX5_settles 4 (some .int) : Cond) ∈ UU := uu_t3 (List.mem_of_getElem? (i := 50) rfl) rfl
theorem uu745 : (.methodLink RX5 179 yX5_isSettled : Cond) ∈ UU := uu_t3 (List.mem_of_getElem? (i := 51) rfl) rfl
theorem uu747 : (.instanceMethod yX5_isSettled : Cond) ∈ UU := uu_t3 (List.mem_of_getElem? (i := 53) rfl) rfl
theorem uu748 : (.code yX5_isSettled cX5_isSettled 2 (some .boolean) : Cond) ∈ UU := uu_t3 (List.mem_of_getElem? (i := 54) rfl) rfl
theorem uu750 : (.methodLink RX5 182 yX5_firstCellThatSettles : Cond) ∈ UU := uu_t3 (List.mem_of_getElem? (i := 55) rfl) rfl
theorem uu752 : (.instanceMethod yX5_firstCellThatSettles : Cond) ∈ UU := uu_t3 (List.mem_of_getElem? (i := 57) rfl) rfl
theorem uu753 : (.code yX5_firstCellThatSettles cX5_firstCellThatSettles 5 (some .int) : Cond) ∈ UU := uu_t3 (List.mem_of_getElem? (i := 58) rfl) rfl
theorem uu755 : (.methodLink RX5 185 yX5_firstOfTwoThatSettle : Cond) ∈ UU := uu_t3 (List.mem_of_getElem? (i := 59) rfl) rfl
theorem uu757 : (.instanceMethod yX5_firstOfTwoThatSettle : Cond) ∈ UU := uu_t3 (List.mem_of_getElem? (i := 61) rfl) rfl
theorem uu758 : (.code yX5_firstOfTwoThatSettle cX5_firstOfTwoThatSettle 2 (some .int) : Cond) ∈ UU := uu_t3 (List.mem_of_getElem? (i := 62) rfl) rfl
theorem uu760 : (.methodLink RL 97 yX5_pips : Cond) ∈ UU := uu_t3 (List.mem_of_getElem? (i := 63) rfl) rfl
theorem uu762 : (.instanceMethod yX5_pips : Cond) ∈ UU := uu_t3 (List.mem_of_getElem? (i := 64) rfl) rfl
theorem uu763 : (.selects RX5 yX5_pips yX5_pips : Cond) ∈ UU := uu_t3 (List.mem_of_getElem? (i := 65) rfl) rfl
theorem uu764 : (.code yX5_pips cX5_pips 2 (some .int) : Cond) ∈ UU := uu_t3 (List.mem_of_getElem? (i := 66) rfl) rfl
theorem uu766 : (.methodLink RL 109 yX5_join : Cond) ∈ UU := uu_t3 (List.mem_of_getElem? (i := 67) rfl) rfl
theorem uu768 : (.instanceMethod yX5_join : Cond) ∈ UU := uu_t3 (List.mem_of_getElem? (i := 68) rfl) rfl
theorem uu769 : (.selects RX5 yX5_join yX5_join : Cond) ∈ UU := uu_t3 (List.mem_of_getElem? (i := 69) rfl) rfl
theorem uu770 : (.code yX5_join cX5_join 2 (some .int) : Cond) ∈ UU := uu_t3 (List.mem_of_getElem? (i := 70) rfl) rfl
theorem uu772 : (.methodLink RX5 188 yX2_heapsOf : Cond) ∈ UU := uu_t3 (List.mem_of_getElem? (i := 71) rfl) rfl
theorem uu774 : (.static yX2_heapsOf : Cond) ∈ UU := uu_t3 (List.mem_of_getElem? (i := 72) rfl) rfl
theorem uu775 : (.code yX2_heapsOf cX2_heapsOf 4 (some .int) : Cond) ∈ UU := uu_t3 (List.mem_of_getElem? (i := 73) rfl) rfl
theorem uu777 : (.methodLink RL 113 yX5_bridge : Cond) ∈ UU := uu_t3 (List.mem_of_getElem? (i := 74) rfl) rfl
theorem uu779 : (.instanceMethod yX5_bridge : Cond) ∈ UU := uu_t3 (List.mem_of_getElem? (i := 75) rfl) rfl
theorem uu780 : (.selects RX5 yX5_bridge yX5_bridge : Cond) ∈ UU := uu_t3 (List.mem_of_getElem? (i := 76) rfl) rfl
theorem uu781 : (.code yX5_bridge cX5_bridge 3 (some .int) : Cond) ∈ UU := uu_t3 (List.mem_of_getElem? (i := 77) rfl) rfl
theorem uu783 : (.methodLink RX5 191 yX2_middleOf : Cond) ∈ UU := uu_t3 (List.mem_of_getElem? (i := 78) rfl) rfl
theorem uu785 : (.static yX2_middleOf : Cond) ∈ UU := uu_t3 (List.mem_of_getElem? (i := 79) rfl) rfl
theorem uu786 : (.code yX2_middleOf cX2_middleOf 5 (some .int) : Cond) ∈ UU := uu_t3 (List.mem_of_getElem? (i := 80) rfl) rfl
theorem uu788 : (.methodLink RX2 35 yX2_stepsToAll : Cond) ∈ UU := uu_t3 (List.mem_of_getElem? (i := 81) rfl) rfl
theorem uu790 : (.static yX2_stepsToAll : Cond) ∈ UU := uu_t3 (List.mem_of_getElem? (i := 82) rfl) rfl
theorem uu791 : (.code yX2_stepsToAll cX2_stepsToAll 4 (some .int) : Cond) ∈ UU := uu_t3 (List.mem_of_getElem? (i := 83) rfl) rfl
theorem uu793 : (.methodLink RX2 38 yJ9_abs_0f7a4 : Cond) ∈ UU := uu_t3 (List.mem_of_getElem? (i := 84) rfl) rfl
theorem uu795 : (.static yJ9_abs_0f7a4 : Cond) ∈ UU := uu_t3 (List.mem_of_getElem? (i := 85) rfl) rfl
theorem uu796 : (.code yJ9_abs_0f7a4 cJ9_abs_0f7a4 1 (some .int) : Cond) ∈ UU := uu_t3 (List.mem_of_getElem? (i := 86) rfl) rfl
theorem uu798 : (.methodLink RX5 194 yX5_bridgesOf : Cond) ∈ UU := uu_t3 (List.mem_of_getElem? (i := 87) rfl) rfl
theorem uu800 : (.static yX5_bridgesOf : Cond) ∈ UU := uu_t3 (List.mem_of_getElem? (i := 88) rfl) rfl
theorem uu801 : (.code yX5_bridgesOf cX5_bridgesOf 5 (some .int) : Cond) ∈ UU := uu_t3 (List.mem_of_getElem? (i := 89) rfl) rfl
theorem uu803 : (.methodLink RL 65 yX5_best : Cond) ∈ UU := uu_t3 (List.mem_of_getElem? (i := 90) rfl) rfl
theorem uu805 : (.instanceMethod yX5_best : Cond) ∈ UU := uu_t3 (List.mem_of_getElem? (i := 91) rfl) rfl
theorem uu806 : (.selects RX5 yX5_best yX5_best : Cond) ∈ UU := uu_t3 (List.mem_of_getElem? (i := 92) rfl) rfl
theorem uu807 : (.code yX5_best cX5_best 3 (some .int) : Cond) ∈ UU := uu_t3 (List.mem_of_getElem? (i := 93) rfl) rfl
theorem uu809 : (.methodLink RX5 197 yX5_furthestBite : Cond) ∈ UU := uu_t3 (List.mem_of_getElem? (i := 94) rfl) rfl
theorem uu811 : (.instanceMethod yX5_furthestBite : Cond) ∈ UU := uu_t3 (List.mem_of_getElem? (i := 96) rfl) rfl
theorem uu812 : (.code yX5_furthestBite cX5_furthestBite 9 (some .int) : Cond) ∈ UU := uu_t3 (List.mem_of_getElem? (i := 97) rfl) rfl
theorem uu814 : (.methodLink RX5 201 yX5_toldBite : Cond) ∈ UU := uu_t3 (List.mem_of_getElem? (i := 98) rfl) rfl
theorem uu816 : (.instanceMethod yX5_toldBite : Cond) ∈ UU := uu_t3 (List.mem_of_getElem? (i := 100) rfl) rfl
theorem uu817 : (.code yX5_toldBite cX5_toldBite 4 (some .int) : Cond) ∈ UU := uu_t3 (List.mem_of_getElem? (i := 101) rfl) rfl
theorem uu819 : (.methodLink RX5 208 yX5_bitesName : Cond) ∈ UU := uu_t3 (List.mem_of_getElem? (i := 102) rfl) rfl
theorem uu821 : (.static yX5_bitesName : Cond) ∈ UU := uu_t3 (List.mem_of_getElem? (i := 103) rfl) rfl
theorem uu822 : (.code yX5_bitesName cX5_bitesName 1 (some .int) : Cond) ∈ UU := uu_t3 (List.mem_of_getElem? (i := 104) rfl) rfl
theorem uu824 : (.methodLink RL 69 yX5_worst : Cond) ∈ UU := uu_t3 (List.mem_of_getElem? (i := 105) rfl) rfl
theorem uu826 : (.instanceMethod yX5_worst : Cond) ∈ UU := uu_t3 (List.mem_of_getElem? (i := 106) rfl) rfl
theorem uu827 : (.selects RX5 yX5_worst yX5_worst : Cond) ∈ UU := uu_t3 (List.mem_of_getElem? (i := 107) rfl) rfl
theorem uu828 : (.code yX5_worst cX5_worst 3 (some .int) : Cond) ∈ UU := uu_t3 (List.mem_of_getElem? (i := 108) rfl) rfl
theorem uu830 : (.methodLink RL 73 yX5_fewest : Cond) ∈ UU := uu_t3 (List.mem_of_getElem? (i := 109) rfl) rfl
theorem uu832 : (.instanceMethod yX5_fewest : Cond) ∈ UU := uu_t3 (List.mem_of_getElem? (i := 110) rfl) rfl
theorem uu833 : (.selects RX5 yX5_fewest yX5_fewest : Cond) ∈ UU := uu_t3 (List.mem_of_getElem? (i := 111) rfl) rfl
theorem uu834 : (.code yX5_fewest cX5_fewest 6 (some .int) : Cond) ∈ UU := uu_t3 (List.mem_of_getElem? (i := 112) rfl) rfl
theorem uu836 : (.methodLink RX5 204 yX5_firstBiteTo : Cond) ∈ UU := uu_t3 (List.mem_of_getElem? (i := 113) rfl) rfl
theorem uu838 : (.instanceMethod yX5_firstBiteTo : Cond) ∈ UU := uu_t3 (List.mem_of_getElem? (i := 115) rfl) rfl
theorem uu839 : (.code yX5_firstBiteTo cX5_firstBiteTo 7 (some .int) : Cond) ∈ UU := uu_t3 (List.mem_of_getElem? (i := 116) rfl) rfl
theorem uu841 : (.methodLink RX5 211 yX5_firstOfTwoBitesTo : Cond) ∈ UU := uu_t3 (List.mem_of_getElem? (i := 117) rfl) rfl
theorem uu843 : (.instanceMethod yX5_firstOfTwoBitesTo : Cond) ∈ UU := uu_t3 (List.mem_of_getElem? (i := 119) rfl) rfl
theorem uu844 : (.code yX5_firstOfTwoBitesTo cX5_firstOfTwoBitesTo 5 (some .int) : Cond) ∈ UU := uu_t3 (List.mem_of_getElem? (i := 120) rfl) rfl
theorem uu846 : (.methodLink RL 77 yX5_safe : Cond) ∈ UU := uu_t3 (List.mem_of_getElem? (i := 121) rfl) rfl
theorem uu848 : (.instanceMethod yX5_safe : Cond) ∈ UU := uu_t3 (List.mem_of_getElem? (i := 122) rfl) rfl
theorem uu849 : (.selects RX5 yX5_safe yX5_safe : Cond) ∈ UU := uu_t3 (List.mem_of_getElem? (i := 123) rfl) rfl
theorem uu850 : (.code yX5_safe cX5_safe 4 (some .int) : Cond) ∈ UU := uu_t3 (List.mem_of_getElem? (i := 124) rfl) rfl
theorem uu852 : (.methodLink RX5 214 yX5_changesNobody : Cond) ∈ UU := uu_t3 (List.mem_of_getElem? (i := 125) rfl) rfl
theorem uu854 : (.instanceMethod yX5_changesNobody : Cond) ∈ UU := uu_t3 (List.mem_of_getElem? (i := 127) rfl) rfl
theorem uu855 : (.code yX5_changesNobody cX5_changesNobody 3 (some .boolean) : Cond) ∈ UU := uu_t3 (List.mem_of_getElem? (i := 128) rfl) rfl
theorem uu857 : (.methodLink RL 101 yX5_grudge : Cond) ∈ UU := uu_t3 (List.mem_of_getElem? (i := 129) rfl) rfl
theorem uu859 : (.instanceMethod yX5_grudge : Cond) ∈ UU := uu_t3 (List.mem_of_getElem? (i := 130) rfl) rfl
theorem uu860 : (.selects RX5 yX5_grudge yX5_grudge : Cond) ∈ UU := uu_t3 (List.mem_of_getElem? (i := 131) rfl) rfl
theorem uu861 : (.code yX5_grudge cX5_grudge 7 (some .int) : Cond) ∈ UU := uu_t3 (List.mem_of_getElem? (i := 132) rfl) rfl
theorem uu863 : (.methodLink RL 105 yX5_gain : Cond) ∈ UU := uu_t3 (List.mem_of_getElem? (i := 133) rfl) rfl
theorem uu865 : (.instanceMethod yX5_gain : Cond) ∈ UU := uu_t3 (List.mem_of_getElem? (i := 134) rfl) rfl
theorem uu866 : (.selects RX5 yX5_gain yX5_gain : Cond) ∈ UU := uu_t3 (List.mem_of_getElem? (i := 135) rfl) rfl
theorem uu867 : (.code yX5_gain cX5_gain 4 (some .int) : Cond) ∈ UU := uu_t3 (List.mem_of_getElem? (i := 136) rfl) rfl
theorem uu869 : (.methodLink RX5 220 yX5_areTwo : Cond) ∈ UU := uu_t3 (List.mem_of_getElem? (i := 137) rfl) rfl
theorem uu871 : (.instanceMethod yX5_areTwo : Cond) ∈ UU := uu_t3 (List.mem_of_getElem? (i := 139) rfl) rfl
theorem uu872 : (.code yX5_areTwo cX5_areTwo 3 (some .boolean) : Cond) ∈ UU := uu_t3 (List.mem_of_getElem? (i := 140) rfl) rfl
theorem uu874 : (.constant RX5 223 (1000000000) : Cond) ∈ UU := uu_t3 (List.mem_of_getElem? (i := 141) rfl) rfl
theorem uu876 : (.methodLink RL 117 yX5_two : Cond) ∈ UU := uu_t3 (List.mem_of_getElem? (i := 142) rfl) rfl
theorem uu878 : (.instanceMethod yX5_two : Cond) ∈ UU := uu_t3 (List.mem_of_getElem? (i := 143) rfl) rfl
theorem uu879 : (.selects RX5 yX5_two yX5_two : Cond) ∈ UU := uu_t3 (List.mem_of_getElem? (i := 144) rfl) rfl
theorem uu880 : (.code yX5_two cX5_two 5 (some .int) : Cond) ∈ UU := uu_t3 (List.mem_of_getElem? (i := 145) rfl) rfl
theorem uu882 : (.methodLink RX5 224 yX5_chosen : Cond) ∈ UU := uu_t3 (List.mem_of_getElem? (i := 146) rfl) rfl
theorem uu884 : (.instanceMethod yX5_chosen : Cond) ∈ UU := uu_t3 (List.mem_of_getElem? (i := 148) rfl) rfl
theorem uu885 : (.code yX5_chosen cX5_chosen 4 (some .int) : Cond) ∈ UU := uu_t3 (List.mem_of_getElem? (i := 149) rfl) rfl
theorem uu887 : (.methodLink RL 121 yX5_chance : Cond) ∈ UU := uu_t3 (List.mem_of_getElem? (i := 150) rfl) rfl
theorem uu889 : (.instanceMethod yX5_chance : Cond) ∈ UU := uu_t3 (List.mem_of_getElem? (i := 151) rfl) rfl
theorem uu890 : (.selects RX5 yX5_chance yX5_chance : Cond) ∈ UU := uu_t3 (List.mem_of_getElem? (i := 152) rfl) rfl
theorem uu891 : (.code yX5_chance cX5_chance 7 (some .long) : Cond) ∈ UU := uu_t3 (List.mem_of_getElem? (i := 153) rfl) rfl
theorem uu893 : (.constantLong RX5 227 (4000000000000000000) : Cond) ∈ UU := uu_t3 (List.mem_of_getElem? (i := 154) rfl) rfl
theorem uu895 : (.methodLink RX5 229 yX5_partOf : Cond) ∈ UU := uu_t3 (List.mem_of_getElem? (i := 155) rfl) rfl
theorem uu897 : (.static yX5_partOf : Cond) ∈ UU := uu_t3 (List.mem_of_getElem? (i := 156) rfl) rfl
theorem uu898 : (.code yX5_partOf cX5_partOf 7 (some .long) : Cond) ∈ UU := uu_t3 (List.mem_of_getElem? (i := 157) rfl) rfl
theorem uu900 : (.methodLink RX5 233 yX5_singlesTo : Cond) ∈ UU := uu_t3 (List.mem_of_getElem? (i := 158) rfl) rfl
theorem uu902 : (.instanceMethod yX5_singlesTo : Cond) ∈ UU := uu_t3 (List.mem_of_getElem? (i := 160) rfl) rfl
theorem uu903 : (.code yX5_singlesTo cX5_singlesTo 8 (some .int) : Cond) ∈ UU := uu_t3 (List.mem_of_getElem? (i := 161) rfl) rfl
theorem uu905 : (.methodLink RX5 236 yX5_pairsTo : Cond) ∈ UU := uu_t3 (List.mem_of_getElem? (i := 162) rfl) rfl
theorem uu907 : (.instanceMethod yX5_pairsTo : Cond) ∈ UU := uu_t3 (List.mem_of_getElem? (i := 164) rfl) rfl
theorem uu908 : (.code yX5_pairsTo cX5_pairsTo 6 (some .int) : Cond) ∈ UU := uu_t3 (List.mem_of_getElem? (i := 165) rfl) rfl
theorem uu910 : (.methodLink RL 126 yX5_mean : Cond) ∈ UU := uu_t3 (List.mem_of_getElem? (i := 166) rfl) rfl
theorem uu912 : (.instanceMethod yX5_mean : Cond) ∈ UU := uu_t3 (List.mem_of_getElem? (i := 167) rfl) rfl
theorem uu913 : (.selects RX5 yX5_mean yX5_mean : Cond) ∈ UU := uu_t3 (List.mem_of_getElem? (i := 168) rfl) rfl
theorem uu914 : (.code yX5_mean cX5_mean 2 (some .long) : Cond) ∈ UU := uu_t3 (List.mem_of_getElem? (i := 169) rfl) rfl
theorem uu916 : (.methodLink RL 131 yX5_whatIs : Cond) ∈ UU := uu_t3 (List.mem_of_getElem? (i := 170) rfl) rfl
theorem uu918 : (.instanceMethod yX5_whatIs : Cond) ∈ UU := uu_t3 (List.mem_of_getElem? (i := 171) rfl) rfl
theorem uu919 : (.selects RX5 yX5_whatIs yX5_whatIs : Cond) ∈ UU := uu_t3 (List.mem_of_getElem? (i := 172) rfl) rfl
theorem uu920 : (.code yX5_whatIs cX5_whatIs 8 (some .int) : Cond) ∈ UU := uu_t3 (List.mem_of_getElem? (i := 173) rfl) rfl
theorem uu922 : (.methodLink RX5 242 yX5_fitsTold : Cond) ∈ UU := uu_t3 (List.mem_of_getElem? (i := 174) rfl) rfl
theorem uu924 : (.instanceMethod yX5_fitsTold : Cond) ∈ UU := uu_t3 (List.mem_of_getElem? (i := 176) rfl) rfl
theorem uu925 : (.code yX5_fitsTold cX5_fitsTold 5 (some .boolean) : Cond) ∈ UU := uu_t3 (List.mem_of_getElem? (i := 177) rfl) rfl
theorem uu927 : (.methodLink RL 135 yX5_row : Cond) ∈ UU := uu_t3 (List.mem_of_getElem? (i := 178) rfl) rfl
theorem uu929 : (.instanceMethod yX5_row : Cond) ∈ UU := uu_t3 (List.mem_of_getElem? (i := 179) rfl) rfl
theorem uu930 : (.selects RX5 yX5_row yX5_row : Cond) ∈ UU := uu_t3 (List.mem_of_getElem? (i := 180) rfl) rfl
theorem uu931 : (.code yX5_row cX5_row 2 (some .int) : Cond) ∈ UU := uu_t3 (List.mem_of_getElem? (i := 181) rfl) rfl
theorem uu933 : (.methodLink RL 139 yX5_judge : Cond) ∈ UU := uu_t3 (List.mem_of_getElem? (i := 182) rfl) rfl
theorem uu935 : (.instanceMethod yX5_judge : Cond) ∈ UU := uu_t3 (List.mem_of_getElem? (i := 183) rfl) rfl
theorem uu936 : (.selects RX5 yX5_judge yX5_judge : Cond) ∈ UU := uu_t3 (List.mem_of_getElem? (i := 184) rfl) rfl
theorem uu937 : (.code yX5_judge cX5_judge 2 (some .int) : Cond) ∈ UU := uu_t3 (List.mem_of_getElem? (i := 185) rfl) rfl
theorem uu939 : (.methodLink RX5 248 yX5_firstWronglyTold : Cond) ∈ UU := uu_t3 (List.mem_of_getElem? (i := 186) rfl) rfl
theorem uu941 : (.instanceMethod yX5_firstWronglyTold : Cond) ∈ UU := uu_t3 (List.mem_of_getElem? (i := 188) rfl) rfl
theorem uu942 : (.code yX5_firstWronglyTold cX5_firstWronglyTold 2 (some .int) : Cond) ∈ UU := uu_t3 (List.mem_of_getElem? (i := 189) rfl) rfl
theorem uu944 : (.methodLink RL 143 yX5_clear : Cond) ∈ UU := uu_t3 (List.mem_of_getElem? (i := 190) rfl) rfl
theorem uu946 : (.instanceMethod yX5_clear : Cond) ∈ UU := uu_t3 (List.mem_of_getElem? (i := 191) rfl) rfl
theorem uu947 : (.selects RX5 yX5_clear yX5_clear : Cond) ∈ UU := uu_t3 (List.mem_of_getElem? (i := 192) rfl) rfl
theorem uu948 : (.code yX5_clear cX5_clear 2 (some .int) : Cond) ∈ UU := uu_t3 (List.mem_of_getElem? (i := 193) rfl) rfl
theorem uu950 : (.methodLink RL 147 yX5_lots : Cond) ∈ UU := uu_t3 (List.mem_of_getElem? (i := 194) rfl) rfl
theorem uu952 : (.instanceMethod yX5_lots : Cond) ∈ UU := uu_t3 (List.mem_of_getElem? (i := 195) rfl) rfl
theorem uu953 : (.selects RX5 yX5_lots yX5_lots : Cond) ∈ UU := uu_t3 (List.mem_of_getElem? (i := 196) rfl) rfl
theorem uu954 : (.code yX5_lots cX5_lots 12 (some .int) : Cond) ∈ UU := uu_t3 (List.mem_of_getElem? (i := 197) rfl) rfl
theorem uu956 : (.methodLink RX5 251 yX5_nextSeed : Cond) ∈ UU := uu_t3 (List.mem_of_getElem? (i := 198) rfl) rfl
theorem uu958 : (.static yX5_nextSeed : Cond) ∈ UU := uu_t3 (List.mem_of_getElem? (i := 199) rfl) rfl
theorem uu959 : (.code yX5_nextSeed cX5_nextSeed 1 (some .int) : Cond) ∈ UU := uu_t3 (List.mem_of_getElem? (i := 200) rfl) rfl
theorem uu961 : (.constant RX5 267 (1664525) : Cond) ∈ UU := uu_t3 (List.mem_of_getElem? (i := 201) rfl) rfl
theorem uu963 : (.constant RX5 268 (1013904223) : Cond) ∈ UU := uu_t3 (List.mem_of_getElem? (i := 202) rfl) rfl
theorem uu965 : (.methodLink RX5 254 yX5_drawnFrom : Cond) ∈ UU := uu_t3 (List.mem_of_getElem? (i := 203) rfl) rfl
theorem uu967 : (.static yX5_drawnFrom : Cond) ∈ UU := uu_t3 (List.mem_of_getElem? (i := 204) rfl) rfl
theorem uu968 : (.code yX5_drawnFrom cX5_drawnFrom 1 (some .int) : Cond) ∈ UU := uu_t3 (List.mem_of_getElem? (i := 205) rfl) rfl
theorem uu970 : (.constant RX5 269 (2147483647) : Cond) ∈ UU := uu_t3 (List.mem_of_getElem? (i := 206) rfl) rfl
theorem uu972 : (.methodLink RL 151 yX5_image : Cond) ∈ UU := uu_t3 (List.mem_of_getElem? (i := 207) rfl) rfl
theorem uu974 : (.instanceMethod yX5_image : Cond) ∈ UU := uu_t3 (List.mem_of_getElem? (i := 208) rfl) rfl
theorem uu975 : (.selects RX5 yX5_image yX5_image : Cond) ∈ UU := uu_t3 (List.mem_of_getElem? (i := 209) rfl) rfl
theorem uu976 : (.code yX5_image cX5_image 1 (some .int) : Cond) ∈ UU := uu_t3 (List.mem_of_getElem? (i := 210) rfl) rfl
theorem uu978 : (.methodLink RL 155 yX5_on : Cond) ∈ UU := uu_t3 (List.mem_of_getElem? (i := 211) rfl) rfl
theorem uu980 : (.instanceMethod yX5_on : Cond) ∈ UU := uu_t3 (List.mem_of_getElem? (i := 212) rfl) rfl
theorem uu981 : (.selects RX5 yX5_on yX5_on : Cond) ∈ UU := uu_t3 (List.mem_of_getElem? (i := 213) rfl) rfl
theorem uu982 : (.code yX5_on cX5_on 1 (some .int) : Cond) ∈ UU := uu_t3 (List.mem_of_getElem? (i := 214) rfl) rfl
theorem uu984 : (.methodLink RL 159 yX5_count : Cond) ∈ UU := uu_t3 (List.mem_of_getElem? (i := 215) rfl) rfl
theorem uu986 : (.instanceMethod yX5_count : Cond) ∈ UU := uu_t3 (List.mem_of_getElem? (i := 216) rfl) rfl
theorem uu987 : (.selects RX5 yX5_count yX5_count : Cond) ∈ UU := uu_t3 (List.mem_of_getElem? (i := 217) rfl) rfl
theorem uu988 : (.code yX5_count cX5_count 2 (some .int) : Cond) ∈ UU := uu_t3 (List.mem_of_getElem? (i := 218) rfl) rfl
theorem uu990 : (.classLink RL 10 RX6 : Cond) ∈ UU := uu_t3 (List.mem_of_getElem? (i := 219) rfl) rfl
theorem uu991 : (.instantiable RX6 26 : Cond) ∈ UU := uu_t3 (List.mem_of_getElem? (i := 220) rfl) rfl
theorem uu992 : (.methodLink RL 12 yX6_init : Cond) ∈ UU := uu_t3 (List.mem_of_getElem? (i := 221) rfl) rfl
theorem uu994 : (.instanceMethod yX6_init : Cond) ∈ UU := uu_t3 (List.mem_of_getElem? (i := 222) rfl) rfl
theorem uu995 : (.code yX6_init cX6_init 1 none : Cond) ∈ UU := uu_t3 (List.mem_of_getElem? (i := 223) rfl) rfl
theorem uu997 : (.methodLink RX6 1 objectInit : Cond) ∈ UU := uu_t3 (List.mem_of_getElem? (i := 224) rfl) rfl
theorem uu999 : (.constant RX6 9 (33554431) : Cond) ∈ UU := uu_t3 (List.mem_of_getElem? (i := 225) rfl) rfl
theorem uu1001 : (.fieldLink RX6 10 "CoresAreWillsModel" "left" "I" : Cond) ∈ UU := uu_t3 (List.mem_of_getElem? (i := 226) rfl) rfl
theorem uu1003 : (.fieldLink RX6 124 "CoresAreWillsModel" "bites" "I" : Cond) ∈ UU := uu_t3 (List.mem_of_getElem? (i := 227) rfl) rfl
theorem uu1005 : (.fieldLink RX6 62 "CoresAreWillsModel" "many" "I" : Cond) ∈ UU := uu_t3 (List.mem_of_getElem? (i := 228) rfl) rfl
theorem uu1007 : (.fieldLink RX6 248 "CoresAreWillsModel" "imageLeft" "I" : Cond) ∈ UU := uu_t3 (List.mem_of_getElem? (i := 229) rfl) rfl
theorem uu1009 : (.fieldLink RX6 251 "CoresAreWillsModel" "imageBites" "I" : Cond) ∈ UU := uu_t3 (List.mem_of_getElem? (i := 230) rfl) rfl
theorem uu1011 : (.fieldLink RX6 254 "CoresAreWillsModel" "imageMany" "I" : Cond) ∈ UU := uu_t3 (List.mem_of_getElem? (i := 231) rfl) rfl
theorem uu1013 : (.fieldLink RX6 147 "CoresAreWillsModel" "wasLeft" "I" : Cond) ∈ UU := uu_t3 (List.mem_of_getElem? (i := 232) rfl) rfl
theorem uu1015 : (.fieldLink RX6 150 "CoresAreWillsModel" "wasBites" "I" : Cond) ∈ UU := uu_t3 (List.mem_of_getElem? (i := 233) rfl) rfl
theorem uu1017 : (.fieldLink RX6 153 "CoresAreWillsModel" "wasMany" "I" : Cond) ∈ UU := uu_t3 (List.mem_of_getElem? (i := 234) rfl) rfl
theorem uu1019 : (.fieldLink RX6 14 "CoresAreWillsModel" "kind" "[I" : Cond) ∈ UU := uu_t3 (List.mem_of_getElem? (i := 235) rfl) rfl
theorem uu1021 : (.fieldLink RX6 18 "CoresAreWillsModel" "figure" "[I" : Cond) ∈ UU := uu_t3 (List.mem_of_getElem? (i := 236) rfl) rfl
theorem uu1023 : (.fieldLink RX6 21 "CoresAreWillsModel" "imageKind" "[I" : Cond) ∈ UU := uu_t3 (List.mem_of_getElem? (i := 237) rfl) rfl
theorem uu1025 : (.fieldLink RX6 24 "CoresAreWillsModel" "imageFigure" "[I" : Cond) ∈ UU := uu_t3 (List.mem_of_getElem? (i := 238) rfl) rfl
theorem uu1027 : (.fieldLink RX6 27 "CoresAreWillsModel" "wasKind" "[I" : Cond) ∈ UU := uu_t3 (List.mem_of_getElem? (i := 239) rfl) rfl
theorem uu1029 : (.fieldLink RX6 30 "CoresAreWillsModel" "wasFigure" "[I" : Cond) ∈ UU := uu_t4 (List.mem_of_getElem? (i := 0) rfl) rfl
theorem uu1031 : (.fieldLink RX6 257 "CoresAreWillsModel" "hasImage" "Z" : Cond) ∈ UU := uu_t4 (List.mem_of_getElem? (i := 1) rfl) rfl
theorem uu1033 : (.fieldLink RX6 33 "CoresAreWillsModel" "letters" "[I" : Cond) ∈ UU := uu_t4 (List.mem_of_getElem? (i := 2) rfl) rfl
theorem uu1035 : (.fieldLink RX6 36 "CoresAreWillsModel" "row" "[I" : Cond) ∈ UU := uu_t4 (List.mem_of_getElem? (i := 3) rfl) rfl
theorem uu1037 : (.fieldLink RX6 39 "CoresAreWillsModel" "refused" "[I" : Cond) ∈ UU := uu_t4 (List.mem_of_getElem? (i := 4) rfl) rfl
theorem uu1039 : (.fieldLink RX6 104 "CoresAreWillsModel" "letterMany" "I" : Cond) ∈ UU := uu_t4 (List.mem_of_getElem? (i := 5) rfl) rfl
theorem uu1041 : (.fieldLink RX6 236 "CoresAreWillsModel" "rowMany" "I" : Cond) ∈ UU := uu_t4 (List.mem_of_getElem? (i := 6) rfl) rfl
theorem uu1043 : (.fieldLink RX6 107 "CoresAreWillsModel" "place" "I" : Cond) ∈ UU := uu_t4 (List.mem_of_getElem? (i := 7) rfl) rfl
theorem uu1045 : (.fieldLink RX6 42 "CoresAreWillsModel" "numbers" "[I" : Cond) ∈ UU := uu_t4 (List.mem_of_getElem? (i := 8) rfl) rfl
theorem uu1047 : (.fieldLink RX6 45 "CoresAreWillsModel" "counted" "[I" : Cond) ∈ UU := uu_t4 (List.mem_of_getElem? (i := 9) rfl) rfl
theorem uu1049 : (.fieldLink RX6 48 "CoresAreWillsModel" "few" "[I" : Cond) ∈ UU := uu_t4 (List.mem_of_getElem? (i := 10) rfl) rfl
theorem uu1051 : (.fieldLink RX6 239 "CoresAreWillsModel" "seed" "I" : Cond) ∈ UU := uu_t4 (List.mem_of_getElem? (i := 11) rfl) rfl
theorem uu1053 : (.lays "CoresAreWillsModel" "CoresAreWillsModel" "left" "I" : Cond) ∈ UU := uu_t4 (List.mem_of_getElem? (i := 12) rfl) rfl
theorem uu1054 : (.lays "CoresAreWillsModel" "CoresAreWillsModel" "bites" "I" : Cond) ∈ UU := uu_t4 (List.mem_of_getElem? (i := 14) rfl) rfl
theorem uu1055 : (.lays "CoresAreWillsModel" "CoresAreWillsModel" "many" "I" : Cond) ∈ UU := uu_t4 (List.mem_of_getElem? (i := 16) rfl) rfl
theorem uu1056 : (.lays "CoresAreWillsModel" "CoresAreWillsModel" "imageLeft" "I" : Cond) ∈ UU := uu_t4 (List.mem_of_getElem? (i := 18) rfl) rfl
theorem uu1057 : (.lays "CoresAreWillsModel" "CoresAreWillsModel" "imageBites" "I" : Cond) ∈ UU := uu_t4 (List.mem_of_getElem? (i := 20) rfl) rfl
theorem uu1058 : (.lays "CoresAreWillsModel" "CoresAreWillsModel" "imageMany" "I" : Cond) ∈ UU := uu_t4 (List.mem_of_getElem? (i := 22) rfl) rfl
theorem uu1059 : (.lays "CoresAreWillsModel" "CoresAreWillsModel" "wasLeft" "I" : Cond) ∈ UU := uu_t4 (List.mem_of_getElem? (i := 24) rfl) rfl
theorem uu1060 : (.lays "CoresAreWillsModel" "CoresAreWillsModel" "wasBites" "I" : Cond) ∈ UU := uu_t4 (List.mem_of_getElem? (i := 26) rfl) rfl
theorem uu1061 : (.lays "CoresAreWillsModel" "CoresAreWillsModel" "wasMany" "I" : Cond) ∈ UU := uu_t4 (List.mem_of_getElem? (i := 28) rfl) rfl
theorem uu1062 : (.laysFinal "CoresAreWillsModel" "CoresAreWillsModel" "kind" "[I" : Cond) ∈ UU := uu_t4 (List.mem_of_getElem? (i := 30) rfl) rfl
theorem uu1063 : (.laysFinal "CoresAreWillsModel" "CoresAreWillsModel" "figure" "[I" : Cond) ∈ UU := uu_t4 (List.mem_of_getElem? (i := 32) rfl) rfl
theorem uu1064 : (.laysFinal "CoresAreWillsModel" "CoresAreWillsModel" "imageKind" "[I" : Cond) ∈ UU := uu_t4 (List.mem_of_getElem? (i := 34) rfl) rfl
theorem uu1065 : (.laysFinal "CoresAreWillsModel" "CoresAreWillsModel" "imageFigure" "[I" : Cond) ∈ UU := uu_t4 (List.mem_of_getElem? (i := 36) rfl) rfl
theorem uu1066 : (.laysFinal "CoresAreWillsModel" "CoresAreWillsModel" "wasKind" "[I" : Cond) ∈ UU := uu_t4 (List.mem_of_getElem? (i := 38) rfl) rfl
theorem uu1067 : (.laysFinal "CoresAreWillsModel" "CoresAreWillsModel" "wasFigure" "[I" : Cond) ∈ UU := uu_t4 (List.mem_of_getElem? (i := 40) rfl) rfl
theorem uu1068 : (.lays "CoresAreWillsModel" "CoresAreWillsModel" "hasImage" "Z" : Cond) ∈ UU := uu_t4 (List.mem_of_getElem? (i := 42) rfl) rfl
theorem uu1069 : (.laysFinal "CoresAreWillsModel" "CoresAreWillsModel" "letters" "[I" : Cond) ∈ UU := uu_t4 (List.mem_of_getElem? (i := 44) rfl) rfl
theorem uu1070 : (.laysFinal "CoresAreWillsModel" "CoresAreWillsModel" "row" "[I" : Cond) ∈ UU := uu_t4 (List.mem_of_getElem? (i := 46) rfl) rfl
theorem uu1071 : (.laysFinal "CoresAreWillsModel" "CoresAreWillsModel" "refused" "[I" : Cond) ∈ UU := uu_t4 (List.mem_of_getElem? (i := 48) rfl) rfl
theorem uu1072 : (.lays "CoresAreWillsModel" "CoresAreWillsModel" "letterMany" "I" : Cond) ∈ UU := uu_t4 (List.mem_of_getElem? (i := 50) rfl) rfl
theorem uu1073 : (.lays "CoresAreWillsModel" "CoresAreWillsModel" "rowMany" "I" : Cond) ∈ UU := uu_t4 (List.mem_of_getElem? (i := 52) rfl) rfl
theorem uu1074 : (.lays "CoresAreWillsModel" "CoresAreWillsModel" "place" "I" : Cond) ∈ UU := uu_t4 (List.mem_of_getElem? (i := 54) rfl) rfl
theorem uu1075 : (.laysFinal "CoresAreWillsModel" "CoresAreWillsModel" "numbers" "[I" : Cond) ∈ UU := uu_t4 (List.mem_of_getElem? (i := 56) rfl) rfl
theorem uu1076 : (.laysFinal "CoresAreWillsModel" "CoresAreWillsModel" "counted" "[I" : Cond) ∈ UU := uu_t4 (List.mem_of_getElem? (i := 58) rfl) rfl
theorem uu1077 : (.laysFinal "CoresAreWillsModel" "CoresAreWillsModel" "few" "[I" : Cond) ∈ UU := uu_t4 (List.mem_of_getElem? (i := 60) rfl) rfl
theorem uu1078 : (.lays "CoresAreWillsModel" "CoresAreWillsModel" "seed" "I" : Cond) ∈ UU := uu_t4 (List.mem_of_getElem? (i := 62) rfl) rfl
theorem uu1079 : (.methodLink RL 17 yX6_letter : Cond) ∈ UU := uu_t4 (List.mem_of_getElem? (i := 65) rfl) rfl
theorem uu1081 : (.instanceMethod yX6_letter : Cond) ∈ UU := uu_t4 (List.mem_of_getElem? (i := 66) rfl) rfl
theorem uu1082 : (.selects RX6 yX6_letter yX6_letter : Cond) ∈ UU := uu_t4 (List.mem_of_getElem? (i := 67) rfl) rfl
theorem uu1083 : (.code yX6_letter cX6_letter 2 (some .int) : Cond) ∈ UU := uu_t4 (List.mem_of_getElem? (i := 68) rfl) rfl
theorem uu1085 : (.methodLink RX6 52 yX6_no : Cond) ∈ UU := uu_t4 (List.mem_of_getElem? (i := 69) rfl) rfl
theorem uu1087 : (.instanceMethod yX6_no : Cond) ∈ UU := uu_t4 (List.mem_of_getElem? (i := 71) rfl) rfl
theorem uu1088 : (.code yX6_no cX6_no 2 (some .int) : Cond) ∈ UU := uu_t4 (List.mem_of_getElem? (i := 72) rfl) rfl
theorem uu1090 : (.methodLink RL 22 yX6_core : Cond) ∈ UU := uu_t4 (List.mem_of_getElem? (i := 73) rfl) rfl
theorem uu1092 : (.instanceMethod yX6_core : Cond) ∈ UU := uu_t4 (List.mem_of_getElem? (i := 74) rfl) rfl
theorem uu1093 : (.selects RX6 yX6_core yX6_core : Cond) ∈ UU := uu_t4 (List.mem_of_getElem? (i := 75) rfl) rfl
theorem uu1094 : (.code yX6_core cX6_core 6 (some .int) : Cond) ∈ UU := uu_t4 (List.mem_of_getElem? (i := 76) rfl) rfl
theorem uu1096 : (.methodLink RX6 156 yX6_readsStatement : Cond) ∈ UU := uu_t4 (List.mem_of_getElem? (i := 77) rfl) rfl
theorem uu1098 : (.instanceMethod yX6_readsStatement : Cond) ∈ UU := uu_t4 (List.mem_of_getElem? (i := 79) rfl) rfl
theorem uu1099 : (.code yX6_readsStatement cX6_readsStatement 3 (some .boolean) : Cond) ∈ UU := uu_t4 (List.mem_of_getElem? (i := 80) rfl) rfl
theorem uu1101 : (.methodLink RX6 110 yX6_here : Cond) ∈ UU := uu_t4 (List.mem_of_getElem? (i := 81) rfl) rfl
theorem uu1103 : (.instanceMethod yX6_here : Cond) ∈ UU := uu_t4 (List.mem_of_getElem? (i := 83) rfl) rfl
theorem uu1104 : (.code yX6_here cX6_here 1 (some .int) : Cond) ∈ UU := uu_t4 (List.mem_of_getElem? (i := 84) rfl) rfl
theorem uu1106 : (.methodLink RX6 117 yX6_readsKind : Cond) ∈ UU := uu_t4 (List.mem_of_getElem? (i := 85) rfl) rfl
theorem uu1108 : (.instanceMethod yX6_readsKind : Cond) ∈ UU := uu_t4 (List.mem_of_getElem? (i := 87) rfl) rfl
theorem uu1109 : (.code yX6_readsKind cX6_readsKind 1 (some .boolean) : Cond) ∈ UU := uu_t4 (List.mem_of_getElem? (i := 88) rfl) rfl
theorem uu1111 : (.methodLink RX6 114 yX6_kindBy : Cond) ∈ UU := uu_t4 (List.mem_of_getElem? (i := 89) rfl) rfl
theorem uu1113 : (.static yX6_kindBy : Cond) ∈ UU := uu_t4 (List.mem_of_getElem? (i := 90) rfl) rfl
theorem uu1114 : (.code yX6_kindBy cX6_kindBy 1 (some .int) : Cond) ∈ UU := uu_t4 (List.mem_of_getElem? (i := 91) rfl) rfl
theorem uu1116 : (.methodLink RX6 121 yX6_readsNumber : Cond) ∈ UU := uu_t4 (List.mem_of_getElem? (i := 92) rfl) rfl
theorem uu1118 : (.instanceMethod yX6_readsNumber : Cond) ∈ UU := uu_t4 (List.mem_of_getElem? (i := 94) rfl) rfl
theorem uu1119 : (.code yX6_readsNumber cX6_readsNumber 4 (some .boolean) : Cond) ∈ UU := uu_t4 (List.mem_of_getElem? (i := 95) rfl) rfl
theorem uu1121 : (.methodLink RX6 58 yX6_isIn : Cond) ∈ UU := uu_t4 (List.mem_of_getElem? (i := 96) rfl) rfl
theorem uu1123 : (.static yX6_isIn : Cond) ∈ UU := uu_t4 (List.mem_of_getElem? (i := 97) rfl) rfl
theorem uu1124 : (.code yX6_isIn cX6_isIn 3 (some .boolean) : Cond) ∈ UU := uu_t4 (List.mem_of_getElem? (i := 98) rfl) rfl
theorem uu1126 : (.methodLink RX6 159 yX6_lays : Cond) ∈ UU := uu_t4 (List.mem_of_getElem? (i := 99) rfl) rfl
theorem uu1128 : (.instanceMethod yX6_lays : Cond) ∈ UU := uu_t4 (List.mem_of_getElem? (i := 101) rfl) rfl
theorem uu1129 : (.code yX6_lays cX6_lays 2 none : Cond) ∈ UU := uu_t4 (List.mem_of_getElem? (i := 102) rfl) rfl
theorem uu1131 : (.methodLink RX6 162 yX6_isDone : Cond) ∈ UU := uu_t4 (List.mem_of_getElem? (i := 103) rfl) rfl
theorem uu1133 : (.instanceMethod yX6_isDone : Cond) ∈ UU := uu_t4 (List.mem_of_getElem? (i := 105) rfl) rfl
theorem uu1134 : (.code yX6_isDone cX6_isDone 4 (some .boolean) : Cond) ∈ UU := uu_t4 (List.mem_of_getElem? (i := 106) rfl) rfl
theorem uu1136 : (.methodLink RX6 130 yX6_isCell : Cond) ∈ UU := uu_t4 (List.mem_of_getElem? (i := 107) rfl) rfl
theorem uu1138 : (.static yX6_isCell : Cond) ∈ UU := uu_t4 (List.mem_of_getElem? (i := 108) rfl) rfl
theorem uu1139 : (.code yX6_isCell cX6_isCell 1 (some .boolean) : Cond) ∈ UU := uu_t4 (List.mem_of_getElem? (i := 109) rfl) rfl
theorem uu1141 : (.methodLink RX6 134 yX6_canBite : Cond) ∈ UU := uu_t4 (List.mem_of_getElem? (i := 110) rfl) rfl
theorem uu1143 : (.static yX6_canBite : Cond) ∈ UU := uu_t4 (List.mem_of_getElem? (i := 111) rfl) rfl
theorem uu1144 : (.code yX6_canBite cX6_canBite 3 (some .boolean) : Cond) ∈ UU := uu_t4 (List.mem_of_getElem? (i := 112) rfl) rfl
theorem uu1146 : (.methodLink RX6 65 yX6_bite : Cond) ∈ UU := uu_t4 (List.mem_of_getElem? (i := 113) rfl) rfl
theorem uu1148 : (.static yX6_bite : Cond) ∈ UU := uu_t4 (List.mem_of_getElem? (i := 114) rfl) rfl
theorem uu1149 : (.code yX6_bite cX6_bite 5 (some .int) : Cond) ∈ UU := uu_t4 (List.mem_of_getElem? (i := 115) rfl) rfl
theorem uu1151 : (.methodLink RX6 137 yX6_bitesOff : Cond) ∈ UU := uu_t4 (List.mem_of_getElem? (i := 116) rfl) rfl
theorem uu1153 : (.instanceMethod yX6_bitesOff : Cond) ∈ UU := uu_t4 (List.mem_of_getElem? (i := 118) rfl) rfl
theorem uu1154 : (.code yX6_bitesOff cX6_bitesOff 2 none : Cond) ∈ UU := uu_t4 (List.mem_of_getElem? (i := 119) rfl) rfl
theorem uu1156 : (.methodLink RX6 127 yX6_least : Cond) ∈ UU := uu_t4 (List.mem_of_getElem? (i := 120) rfl) rfl
theorem uu1158 : (.static yX6_least : Cond) ∈ UU := uu_t4 (List.mem_of_getElem? (i := 121) rfl) rfl
theorem uu1159 : (.code yX6_least cX6_least 2 (some .int) : Cond) ∈ UU := uu_t4 (List.mem_of_getElem? (i := 122) rfl) rfl
theorem uu1161 : (.methodLink RX6 141 yX6_turnedBy : Cond) ∈ UU := uu_t4 (List.mem_of_getElem? (i := 123) rfl) rfl
theorem uu1163 : (.static yX6_turnedBy : Cond) ∈ UU := uu_t4 (List.mem_of_getElem? (i := 124) rfl) rfl
theorem uu1164 : (.code yX6_turnedBy cX6_turnedBy 4 (some .int) : Cond) ∈ UU := uu_t4 (List.mem_of_getElem? (i := 125) rfl) rfl
theorem uu1166 : (.methodLink RX6 101 yX6_turned : Cond) ∈ UU := uu_t4 (List.mem_of_getElem? (i := 126) rfl) rfl
theorem uu1168 : (.static yX6_turned : Cond) ∈ UU := uu_t4 (List.mem_of_getElem? (i := 127) rfl) rfl
theorem uu1169 : (.code yX6_turned cX6_turned 3 (some .int) : Cond) ∈ UU := uu_t4 (List.mem_of_getElem? (i := 128) rfl) rfl
theorem uu1171 : (.methodLink RX6 144 yX6_allAgain : Cond) ∈ UU := uu_t4 (List.mem_of_getElem? (i := 129) rfl) rfl
theorem uu1173 : (.instanceMethod yX6_allAgain : Cond) ∈ UU := uu_t4 (List.mem_of_getElem? (i := 131) rfl) rfl
theorem uu1174 : (.code yX6_allAgain cX6_allAgain 1 none : Cond) ∈ UU := uu_t4 (List.mem_of_getElem? (i := 132) rfl) rfl
theorem uu1176 : (.methodLink RX6 165 yX6_laysBack : Cond) ∈ UU := uu_t4 (List.mem_of_getElem? (i := 133) rfl) rfl
theorem uu1178 : (.instanceMethod yX6_laysBack : Cond) ∈ UU := uu_t4 (List.mem_of_getElem? (i := 135) rfl) rfl
theorem uu1179 : (.code yX6_laysBack cX6_laysBack 2 none : Cond) ∈ UU := uu_t4 (List.mem_of_getElem? (i := 136) rfl) rfl
theorem uu1181 : (.methodLink RL 27 yX6_cell : Cond) ∈ UU := uu_t4 (List.mem_of_getElem? (i := 137) rfl) rfl
theorem uu1183 : (.instanceMethod yX6_cell : Cond) ∈ UU := uu_t4 (List.mem_of_getElem? (i := 138) rfl) rfl
theorem uu1184 : (.selects RX6 yX6_cell yX6_cell : Cond) ∈ UU := uu_t4 (List.mem_of_getElem? (i := 139) rfl) rfl
theorem uu1185 : (.code yX6_cell cX6_cell 3 (some .int) : Cond) ∈ UU := uu_t4 (List.mem_of_getElem? (i := 140) rfl) rfl
theorem uu1187 : (.methodLink RX6 69 yX6_besideOf : Cond) ∈ UU := uu_t4 (List.mem_of_getElem? (i := 141) rfl) rfl
theorem uu1189 : (.static yX6_besideOf : Cond) ∈ UU := uu_t4 (List.mem_of_getElem? (i := 142) rfl) rfl
theorem uu1190 : (.code yX6_besideOf cX6_besideOf 3 (some .int) : Cond) ∈ UU := uu_t4 (List.mem_of_getElem? (i := 143) rfl) rfl
theorem uu1192 : (.methodLink RX6 82 yX6_bits : Cond) ∈ UU := uu_t4 (List.mem_of_getElem? (i := 144) rfl) rfl
theorem uu1194 : (.static yX6_bits : Cond) ∈ UU := uu_t4 (List.mem_of_getElem? (i := 145) rfl) rfl
theorem uu1195 : (.code yX6_bits cX6_bits 3 (some .int) : Cond) ∈ UU := uu_t4 (List.mem_of_getElem? (i := 146) rfl) rfl
theorem uu1197 : (.methodLink RX6 79 yX6_heapOf : Cond) ∈ UU := uu_t4 (List.mem_of_getElem? (i := 147) rfl) rfl
theorem uu1199 : (.static yX6_heapOf : Cond) ∈ UU := uu_t4 (List.mem_of_getElem? (i := 148) rfl) rfl
theorem uu1200 : (.code yX6_heapOf cX6_heapOf 4 (some .int) : Cond) ∈ UU := uu_t4 (List.mem_of_getElem? (i := 149) rfl) rfl
theorem uu1202 : (.methodLink RL 31 yX6_heir : Cond) ∈ UU := uu_t4 (List.mem_of_getElem? (i := 150) rfl) rfl
theorem uu1204 : (.instanceMethod yX6_heir : Cond) ∈ UU := uu_t4 (List.mem_of_getElem? (i := 151) rfl) rfl
theorem uu1205 : (.selects RX6 yX6_heir yX6_heir : Cond) ∈ UU := uu_t4 (List.mem_of_getElem? (i := 152) rfl) rfl
theorem uu1206 : (.code yX6_heir cX6_heir 3 (some .int) : Cond) ∈ UU := uu_t4 (List.mem_of_getElem? (i := 153) rfl) rfl
theorem uu1208 : (.methodLink RX6 168 yX6_isHeir : Cond) ∈ UU := uu_t4 (List.mem_of_getElem? (i := 154) rfl) rfl
theorem uu1210 : (.instanceMethod yX6_isHeir : Cond) ∈ UU := uu_t4 (List.mem_of_getElem? (i := 156) rfl) rfl
theorem uu1211 : (.code yX6_isHeir cX6_isHeir 2 (some .boolean) : Cond) ∈ UU := uu_t4 (List.mem_of_getElem? (i := 157) rfl) rfl
theorem uu1213 : (.methodLink RX6 98 yX6_shareOf : Cond) ∈ UU := uu_t4 (List.mem_of_getElem? (i := 158) rfl) rfl
theorem uu1215 : (.instanceMethod yX6_shareOf : Cond) ∈ UU := uu_t4 (List.mem_of_getElem? (i := 160) rfl) rfl
theorem uu1216 : (.code yX6_shareOf cX6_shareOf 3 (some .int) : Cond) ∈ UU := uu_t4 (List.mem_of_getElem? (i := 161) rfl) rfl
theorem uu1218 : (.methodLink RX6 94 yX6_shareBy : Cond) ∈ UU := uu_t4 (List.mem_of_getElem? (i := 162) rfl) rfl
theorem uu1220 : (.static yX6_shareBy : Cond) ∈ UU := uu_t4 (List.mem_of_getElem? (i := 163) rfl) rfl
theorem uu1221 : (.code yX6_shareBy cX6_shareBy 7 (some .int) : Cond) ∈ UU := uu_t4 (List.mem_of_getElem? (i := 164) rfl) rfl
theorem uu1223 : (.methodLink RX6 85 yX6_deed : Cond) ∈ UU := uu_t4 (List.mem_of_getElem? (i := 165) rfl) rfl
theorem uu1225 : (.static yX6_deed : Cond) ∈ UU := uu_t4 (List.mem_of_getElem? (i := 166) rfl) rfl
theorem uu1226 : (.code yX6_deed cX6_deed 5 (some .int) : Cond) ∈ UU := uu_t4 (List.mem_of_getElem? (i := 167) rfl) rfl
theorem uu1228 : (.methodLink RX6 76 yX6_leastOf : Cond) ∈ UU := uu_t4 (List.mem_of_getElem? (i := 168) rfl) rfl
theorem uu1230 : (.static yX6_leastOf : Cond) ∈ UU := uu_t4 (List.mem_of_getElem? (i := 169) rfl) rfl
theorem uu1231 : (.code yX6_leastOf cX6_leastOf 2 (some .int) : Cond) ∈ UU := uu_t4 (List.mem_of_getElem? (i := 170) rfl) rfl
theorem uu1233 : (.methodLink RX6 72 yX6_has : Cond) ∈ UU := uu_t4 (List.mem_of_getElem? (i := 171) rfl) rfl
theorem uu1235 : (.static yX6_has : Cond) ∈ UU := uu_t4 (List.mem_of_getElem? (i := 172) rfl) rfl
theorem uu1236 : (.code yX6_has cX6_has 2 (some .boolean) : Cond) ∈ UU := uu_t4 (List.mem_of_getElem? (i := 173) rfl) rfl
theorem uu1238 : (.methodLink RX6 88 yX6_most : Cond) ∈ UU := uu_t4 (List.mem_of_getElem? (i := 174) rfl) rfl
theorem uu1240 : (.static yX6_most : Cond) ∈ UU := uu_t4 (List.mem_of_getElem? (i := 175) rfl) rfl
theorem uu1241 : (.code yX6_most cX6_most 2 (some .int) : Cond) ∈ UU := uu_t4 (List.mem_of_getElem? (i := 176) rfl) rfl
theorem uu1243 : (.methodLink RX6 91 yX6_heaps : Cond) ∈ UU := uu_t4 (List.mem_of_getElem? (i := 177) rfl) rfl
theorem uu1245 : (.static yX6_heaps : Cond) ∈ UU := uu_t4 (List.mem_of_getElem? (i := 178) rfl) rfl
theorem uu1246 : (.code yX6_heaps cX6_heaps 3 (some .int) : Cond) ∈ UU := uu_t4 (List.mem_of_getElem? (i := 179) rfl) rfl
theorem uu1248 : (.methodLink RL 35 yX6_bites : Cond) ∈ UU := uu_t4 (List.mem_of_getElem? (i := 180) rfl) rfl
theorem uu1250 : (.instanceMethod yX6_bites : Cond) ∈ UU := uu_t4 (List.mem_of_getElem? (i := 181) rfl) rfl
theorem uu1251 : (.selects RX6 yX6_bites yX6_bites : Cond) ∈ UU := uu_t4 (List.mem_of_getElem? (i := 182) rfl) rfl
theorem uu1252 : (.code yX6_bites cX6_bites 3 (some .int) : Cond) ∈ UU := uu_t4 (List.mem_of_getElem? (i := 183) rfl) rfl
theorem uu1254 : (.methodLink RL 39 yX6_heals : Cond) ∈ UU := uu_t4 (List.mem_of_getElem? (i := 184) rfl) rfl
theorem uu1256 : (.instanceMethod yX6_heals : Cond) ∈ UU := uu_t4 (List.mem_of_getElem? (i := 185) rfl) rfl
theorem uu1257 : (.selects RX6 yX6_heals yX6_heals : Cond) ∈ UU := uu_t4 (List.mem_of_getElem? (i := 186) rfl) rfl
theorem uu1258 : (.code yX6_heals cX6_heals 2 (some .int) : Cond) ∈ UU := uu_t4 (List.mem_of_getElem? (i := 187) rfl) rfl
theorem uu1260 : (.methodLink RL 43 yX6_rolls : Cond) ∈ UU := uu_t4 (List.mem_of_getElem? (i := 188) rfl) rfl
theorem uu1262 : (.instanceMethod yX6_rolls : Cond) ∈ UU := uu_t4 (List.mem_of_getElem? (i := 189) rfl) rfl
theorem uu1263 : (.selects RX6 yX6_rolls yX6_rolls : Cond) ∈ UU := uu_t4 (List.mem_of_getElem? (i := 190) rfl) rfl
theorem uu1264 : (.code yX6_rolls cX6_rolls 2 (some .int) : Cond) ∈ UU := uu_t4 (List.mem_of_getElem? (i := 191) rfl) rfl
theorem uu1266 : (.methodLink RL 48 yX6_turn : Cond) ∈ UU := uu_t4 (List.mem_of_getElem? (i := 192) rfl) rfl
theorem uu1268 : (.instanceMethod yX6_turn : Cond) ∈ UU := uu_t4 (List.mem_of_getElem? (i := 193) rfl) rfl
theorem uu1269 : (.selects RX6 yX6_turn yX6_turn : Cond) ∈ UU := uu_t4 (List.mem_of_getElem? (i := 194) rfl) rfl
theorem uu1270 : (.code yX6_turn cX6_turn 6 (some .int) : Cond) ∈ UU := uu_t4 (List.mem_of_getElem? (i := 195) rfl) rfl
theorem uu1272 : (.methodLink RX6 171 yX6_wrongBy : Cond) ∈ UU := uu_t4 (List.mem_of_getElem? (i := 196) rfl) rfl
theorem uu1274 : (.static yX6_wrongBy : Cond) ∈ UU := uu_t4 (List.mem_of_getElem? (i := 197) rfl) rfl
theorem uu1275 : (.code yX6_wrongBy cX6_wrongBy 2 (some .int) : Cond) ∈ UU := uu_t4 (List.mem_of_getElem? (i := 198) rfl) rfl
theorem uu1277 : (.methodLink RL 52 yX6_anew : Cond) ∈ UU := uu_t4 (List.mem_of_getElem? (i := 199) rfl) rfl
theorem uu1279 : (.instanceMethod yX6_anew : Cond) ∈ UU := uu_t4 (List.mem_of_getElem? (i := 200) rfl) rfl
theorem uu1280 : (.selects RX6 yX6_anew yX6_anew : Cond) ∈ UU := uu_t4 (List.mem_of_getElem? (i := 201) rfl) rfl
theorem uu1281 : (.code yX6_anew cX6_anew 2 (some .int) : Cond) ∈ UU := uu_t4 (List.mem_of_getElem? (i := 202) rfl) rfl
theorem uu1283 : (.methodLink RL 56 yX6_shares : Cond) ∈ UU := uu_t4 (List.mem_of_getElem? (i := 203) rfl) rfl
theorem uu1285 : (.instanceMethod yX6_shares : Cond) ∈ UU := uu_t4 (List.mem_of_getElem? (i := 204) rfl) rfl
theorem uu1286 : (.selects RX6 yX6_shares yX6_shares : Cond) ∈ UU := uu_t4 (List.mem_of_getElem? (i := 205) rfl) rfl
theorem uu1287 : (.code yX6_shares cX6_shares 4 (some .int) : Cond) ∈ UU := uu_t4 (List.mem_of_getElem? (i := 206) rfl) rfl
theorem uu1289 : (.methodLink RX6 174 yX6_sharesOf : Cond) ∈ UU := uu_t4 (List.mem_of_getElem? (i := 207) rfl) rfl
theorem uu1291 : (.instanceMethod yX6_sharesOf : Cond) ∈ UU := uu_t4 (List.mem_of_getElem? (i := 209) rfl) rfl
theorem uu1292 : (.code yX6_sharesOf cX6_sharesOf 4 (some .int) : Cond) ∈ UU := uu_t4 (List.mem_of_getElem? (i := 210) rfl) rfl
theorem uu1294 : (.methodLink RL 60 yX6_pieces : Cond) ∈ UU := uu_t4 (List.mem_of_getElem? (i := 211) rfl) rfl
theorem uu1296 : (.instanceMethod yX6_pieces : Cond) ∈ UU := uu_t4 (List.mem_of_getElem? (i := 212) rfl) rfl
theorem uu1297 : (.selects RX6 yX6_pieces yX6_pieces : Cond) ∈ UU := uu_t4 (List.mem_of_getElem? (i := 213) rfl) rfl
theorem uu1298 : (.code yX6_pieces cX6_pieces 3 (some .int) : Cond) ∈ UU := uu_t4 (List.mem_of_getElem? (i := 214) rfl) rfl
theorem uu1300 : (.methodLink RX6 177 yX6_leastHeap : Cond) ∈ UU := uu_t4 (List.mem_of_getElem? (i := 215) rfl) rfl
theorem uu1302 : (.static yX6_leastHeap : Cond) ∈ UU := uu_t4 (List.mem_of_getElem? (i := 216) rfl) rfl
theorem uu1303 : (.code yX6_leastHeap cX6_leastHeap 4 (some .int) : Cond) ∈ UU := uu_t4 (List.mem_of_getElem? (i := 217) rfl) rfl
theorem uu1305 : (.methodLink RL 64 yX6_edge : Cond) ∈ UU := uu_t4 (List.mem_of_getElem? (i := 218) rfl) rfl
theorem uu1307 : (.instanceMethod yX6_edge : Cond) ∈ UU := uu_t4 (List.mem_of_getElem? (i := 219) rfl) rfl
theorem uu1308 : (.selects RX6 yX6_edge yX6_edge : Cond) ∈ UU := uu_t4 (List.mem_of_getElem? (i := 220) rfl) rfl
theorem uu1309 : (.code yX6_edge cX6_edge 5 (some .int) : Cond) ∈ UU := uu_t4 (List.mem_of_getElem? (i := 221) rfl) rfl
theorem uu1311 : (.methodLink RX6 180 yX6_border : Cond) ∈ UU := uu_t4 (List.mem_of_getElem? (i := 222) rfl) rfl
theorem uu1313 : (.static yX6_border : Cond) ∈ UU := uu_t4 (List.mem_of_getElem? (i := 223) rfl) rfl
theorem uu1314 : (.code yX6_border cX6_border 2 (some .int) : Cond) ∈ UU := uu_t4 (List.mem_of_getElem? (i := 224) rfl) rfl
theorem uu1316 : (.methodLink RL 68 yX6_best : Cond) ∈ UU := uu_t4 (List.mem_of_getElem? (i := 225) rfl) rfl
theorem uu1318 : (.instanceMethod yX6_best : Cond) ∈ UU := uu_t4 (List.mem_of_getElem? (i := 226) rfl) rfl
theorem uu1319 : (.selects RX6 yX6_best yX6_best : Cond) ∈ UU := uu_t4 (List.mem_of_getElem? (i := 227) rfl) rfl
theorem uu1320 : (.code yX6_best cX6_best 3 (some .int) : Cond) ∈ UU := uu_t4 (List.mem_of_getElem? (i := 228) rfl) rfl
theorem uu1322 : (.methodLink RX6 189 yX6_biteTold : Cond) ∈ UU := uu_t4 (List.mem_of_getElem? (i := 229) rfl) rfl
theorem uu1324 : (.instanceMethod yX6_biteTold : Cond) ∈ UU := uu_t4 (List.mem_of_getElem? (i := 231) rfl) rfl
theorem uu1325 : (.code yX6_biteTold cX6_biteTold 5 (some .int) : Cond) ∈ UU := uu_t4 (List.mem_of_getElem? (i := 232) rfl) rfl
theorem uu1327 : (.methodLink RX6 183 yX6_biteFor : Cond) ∈ UU := uu_t4 (List.mem_of_getElem? (i := 233) rfl) rfl
theorem uu1329 : (.instanceMethod yX6_biteFor : Cond) ∈ UU := uu_t4 (List.mem_of_getElem? (i := 235) rfl) rfl
theorem uu1330 : (.code yX6_biteFor cX6_biteFor 9 (some .int) : Cond) ∈ UU := uu_t4 (List.mem_of_getElem? (i := 236) rfl) rfl
theorem uu1332 : (.methodLink RX6 186 yX6_after : Cond) ∈ UU := uu_t4 (List.mem_of_getElem? (i := 237) rfl) rfl
theorem uu1334 : (.static yX6_after : Cond) ∈ UU := uu_t4 (List.mem_of_getElem? (i := 238) rfl) rfl
theorem uu1335 : (.code yX6_after cX6_after 2 (some .int) : Cond) ∈ UU := uu_t4 (List.mem_of_getElem? (i := 239) rfl) rfl
theorem uu1337 : (.methodLink RL 72 yX6_worst : Cond) ∈ UU := uu_t5 (List.mem_of_getElem? (i := 0) rfl) rfl
theorem uu1339 : (.instanceMethod yX6_worst : Cond) ∈ UU := uu_t5 (List.mem_of_getElem? (i := 1) rfl) rfl
theorem uu1340 : (.selects RX6 yX6_worst yX6_worst : Cond) ∈ UU := uu_t5 (List.mem_of_getElem? (i := 2) rfl) rfl
theorem uu1341 : (.code yX6_worst cX6_worst 3 (some .int) : Cond) ∈ UU := uu_t5 (List.mem_of_getElem? (i := 3) rfl) rfl
theorem uu1343 : (.methodLink RL 76 yX6_fewest : Cond) ∈ UU := uu_t5 (List.mem_of_getElem? (i := 4) rfl) rfl
theorem uu1345 : (.instanceMethod yX6_fewest : Cond) ∈ UU := uu_t5 (List.mem_of_getElem? (i := 5) rfl) rfl
theorem uu1346 : (.selects RX6 yX6_fewest yX6_fewest : Cond) ∈ UU := uu_t5 (List.mem_of_getElem? (i := 6) rfl) rfl
theorem uu1347 : (.code yX6_fewest cX6_fewest 6 (some .int) : Cond) ∈ UU := uu_t5 (List.mem_of_getElem? (i := 7) rfl) rfl
theorem uu1349 : (.methodLink RX6 192 yX6_isSoBy : Cond) ∈ UU := uu_t5 (List.mem_of_getElem? (i := 8) rfl) rfl
theorem uu1351 : (.instanceMethod yX6_isSoBy : Cond) ∈ UU := uu_t5 (List.mem_of_getElem? (i := 10) rfl) rfl
theorem uu1352 : (.code yX6_isSoBy cX6_isSoBy 7 (some .boolean) : Cond) ∈ UU := uu_t5 (List.mem_of_getElem? (i := 11) rfl) rfl
theorem uu1354 : (.methodLink RX6 196 yX6_firstSo : Cond) ∈ UU := uu_t5 (List.mem_of_getElem? (i := 12) rfl) rfl
theorem uu1356 : (.instanceMethod yX6_firstSo : Cond) ∈ UU := uu_t5 (List.mem_of_getElem? (i := 14) rfl) rfl
theorem uu1357 : (.code yX6_firstSo cX6_firstSo 6 (some .int) : Cond) ∈ UU := uu_t5 (List.mem_of_getElem? (i := 15) rfl) rfl
theorem uu1359 : (.methodLink RL 80 yX6_safe : Cond) ∈ UU := uu_t5 (List.mem_of_getElem? (i := 16) rfl) rfl
theorem uu1361 : (.instanceMethod yX6_safe : Cond) ∈ UU := uu_t5 (List.mem_of_getElem? (i := 17) rfl) rfl
theorem uu1362 : (.selects RX6 yX6_safe yX6_safe : Cond) ∈ UU := uu_t5 (List.mem_of_getElem? (i := 18) rfl) rfl
theorem uu1363 : (.code yX6_safe cX6_safe 6 (some .int) : Cond) ∈ UU := uu_t5 (List.mem_of_getElem? (i := 19) rfl) rfl
theorem uu1365 : (.methodLink RL 84 yX6_can : Cond) ∈ UU := uu_t5 (List.mem_of_getElem? (i := 20) rfl) rfl
theorem uu1367 : (.instanceMethod yX6_can : Cond) ∈ UU := uu_t5 (List.mem_of_getElem? (i := 21) rfl) rfl
theorem uu1368 : (.selects RX6 yX6_can yX6_can : Cond) ∈ UU := uu_t5 (List.mem_of_getElem? (i := 22) rfl) rfl
theorem uu1369 : (.code yX6_can cX6_can 5 (some .int) : Cond) ∈ UU := uu_t5 (List.mem_of_getElem? (i := 23) rfl) rfl
theorem uu1371 : (.methodLink RL 88 yX6_ways : Cond) ∈ UU := uu_t5 (List.mem_of_getElem? (i := 24) rfl) rfl
theorem uu1373 : (.instanceMethod yX6_ways : Cond) ∈ UU := uu_t5 (List.mem_of_getElem? (i := 25) rfl) rfl
theorem uu1374 : (.selects RX6 yX6_ways yX6_ways : Cond) ∈ UU := uu_t5 (List.mem_of_getElem? (i := 26) rfl) rfl
theorem uu1375 : (.code yX6_ways cX6_ways 8 (some .int) : Cond) ∈ UU := uu_t5 (List.mem_of_getElem? (i := 27) rfl) rfl
theorem uu1377 : (.constant RX6 51 (1000000000) : Cond) ∈ UU := uu_t5 (List.mem_of_getElem? (i := 28) rfl) rfl
theorem uu1379 : (.methodLink RX6 200 yX6_comesTo : Cond) ∈ UU := uu_t5 (List.mem_of_getElem? (i := 29) rfl) rfl
theorem uu1381 : (.instanceMethod yX6_comesTo : Cond) ∈ UU := uu_t5 (List.mem_of_getElem? (i := 31) rfl) rfl
theorem uu1382 : (.code yX6_comesTo cX6_comesTo 6 none : Cond) ∈ UU := uu_t5 (List.mem_of_getElem? (i := 32) rfl) rfl
theorem uu1384 : (.constant RX6 199 (1000003) : Cond) ∈ UU := uu_t5 (List.mem_of_getElem? (i := 33) rfl) rfl
theorem uu1386 : (.methodLink RL 92 yX6_alike : Cond) ∈ UU := uu_t5 (List.mem_of_getElem? (i := 34) rfl) rfl
theorem uu1388 : (.instanceMethod yX6_alike : Cond) ∈ UU := uu_t5 (List.mem_of_getElem? (i := 35) rfl) rfl
theorem uu1389 : (.selects RX6 yX6_alike yX6_alike : Cond) ∈ UU := uu_t5 (List.mem_of_getElem? (i := 36) rfl) rfl
theorem uu1390 : (.code yX6_alike cX6_alike 4 (some .int) : Cond) ∈ UU := uu_t5 (List.mem_of_getElem? (i := 37) rfl) rfl
theorem uu1392 : (.methodLink RL 96 yX6_settles : Cond) ∈ UU := uu_t5 (List.mem_of_getElem? (i := 38) rfl) rfl
theorem uu1394 : (.instanceMethod yX6_settles : Cond) ∈ UU := uu_t5 (List.mem_of_getElem? (i := 39) rfl) rfl
theorem uu1395 : (.selects RX6 yX6_settles yX6_settles : Cond) ∈ UU := uu_t5 (List.mem_of_getElem? (i := 40) rfl) rfl
theorem uu1396 : (.code yX6_settles cX6_settles 4 (some .int) : Cond) ∈ UU := uu_t5 (List.mem_of_getElem? (i := 41) rfl) rfl
theorem uu1398 : (.methodLink RL 100 yX6_pips : Cond) ∈ UU := uu_t5 (List.mem_of_getElem? (i := 42) rfl) rfl
theorem uu1400 : (.instanceMethod yX6_pips : Cond) ∈ UU := uu_t5 (List.mem_of_getElem? (i := 43) rfl) rfl
theorem uu1401 : (.selects RX6 yX6_pips yX6_pips : Cond) ∈ UU := uu_t5 (List.mem_of_getElem? (i := 44) rfl) rfl
theorem uu1402 : (.code yX6_pips cX6_pips 2 (some .int) : Cond) ∈ UU := uu_t5 (List.mem_of_getElem? (i := 45) rfl) rfl
theorem uu1404 : (.methodLink RL 104 yX6_grudge : Cond) ∈ UU := uu_t5 (List.mem_of_getElem? (i := 46) rfl) rfl
theorem uu1406 : (.instanceMethod yX6_grudge : Cond) ∈ UU := uu_t5 (List.mem_of_getElem? (i := 47) rfl) rfl
theorem uu1407 : (.selects RX6 yX6_grudge yX6_grudge : Cond) ∈ UU := uu_t5 (List.mem_of_getElem? (i := 48) rfl) rfl
theorem uu1408 : (.code yX6_grudge cX6_grudge 6 (some .int) : Cond) ∈ UU := uu_t5 (List.mem_of_getElem? (i := 49) rfl) rfl
theorem uu1410 : (.methodLink RL 108 yX6_gain : Cond) ∈ UU := uu_t5 (List.mem_of_getElem? (i := 50) rfl) rfl
theorem uu1412 : (.instanceMethod yX6_gain : Cond) ∈ UU := uu_t5 (List.mem_of_getElem? (i := 51) rfl) rfl
theorem uu1413 : (.selects RX6 yX6_gain yX6_gain : Cond) ∈ UU := uu_t5 (List.mem_of_getElem? (i := 52) rfl) rfl
theorem uu1414 : (.code yX6_gain cX6_gain 3 (some .int) : Cond) ∈ UU := uu_t5 (List.mem_of_getElem? (i := 53) rfl) rfl
theorem uu1416 : (.methodLink RX6 204 yX6_areTwo : Cond) ∈ UU := uu_t5 (List.mem_of_getElem? (i := 54) rfl) rfl
theorem uu1418 : (.instanceMethod yX6_areTwo : Cond) ∈ UU := uu_t5 (List.mem_of_getElem? (i := 56) rfl) rfl
theorem uu1419 : (.code yX6_areTwo cX6_areTwo 3 (some .boolean) : Cond) ∈ UU := uu_t5 (List.mem_of_getElem? (i := 57) rfl) rfl
theorem uu1421 : (.methodLink RX6 207 yX6_noFar : Cond) ∈ UU := uu_t5 (List.mem_of_getElem? (i := 58) rfl) rfl
theorem uu1423 : (.instanceMethod yX6_noFar : Cond) ∈ UU := uu_t5 (List.mem_of_getElem? (i := 60) rfl) rfl
theorem uu1424 : (.code yX6_noFar cX6_noFar 2 (some .int) : Cond) ∈ UU := uu_t5 (List.mem_of_getElem? (i := 61) rfl) rfl
theorem uu1426 : (.methodLink RL 112 yX6_join : Cond) ∈ UU := uu_t5 (List.mem_of_getElem? (i := 62) rfl) rfl
theorem uu1428 : (.instanceMethod yX6_join : Cond) ∈ UU := uu_t5 (List.mem_of_getElem? (i := 63) rfl) rfl
theorem uu1429 : (.selects RX6 yX6_join yX6_join : Cond) ∈ UU := uu_t5 (List.mem_of_getElem? (i := 64) rfl) rfl
theorem uu1430 : (.code yX6_join cX6_join 2 (some .int) : Cond) ∈ UU := uu_t5 (List.mem_of_getElem? (i := 65) rfl) rfl
theorem uu1432 : (.methodLink RL 116 yX6_bridge : Cond) ∈ UU := uu_t5 (List.mem_of_getElem? (i := 66) rfl) rfl
theorem uu1434 : (.instanceMethod yX6_bridge : Cond) ∈ UU := uu_t5 (List.mem_of_getElem? (i := 67) rfl) rfl
theorem uu1435 : (.selects RX6 yX6_bridge yX6_bridge : Cond) ∈ UU := uu_t5 (List.mem_of_getElem? (i := 68) rfl) rfl
theorem uu1436 : (.code yX6_bridge cX6_bridge 7 (some .int) : Cond) ∈ UU := uu_t5 (List.mem_of_getElem? (i := 69) rfl) rfl
theorem uu1438 : (.methodLink RX6 210 yX6_stepsFrom : Cond) ∈ UU := uu_t5 (List.mem_of_getElem? (i := 70) rfl) rfl
theorem uu1440 : (.instanceMethod yX6_stepsFrom : Cond) ∈ UU := uu_t5 (List.mem_of_getElem? (i := 72) rfl) rfl
theorem uu1441 : (.code yX6_stepsFrom cX6_stepsFrom 6 (some .int) : Cond) ∈ UU := uu_t5 (List.mem_of_getElem? (i := 73) rfl) rfl
theorem uu1443 : (.methodLink RL 120 yX6_two : Cond) ∈ UU := uu_t5 (List.mem_of_getElem? (i := 74) rfl) rfl
theorem uu1445 : (.instanceMethod yX6_two : Cond) ∈ UU := uu_t5 (List.mem_of_getElem? (i := 75) rfl) rfl
theorem uu1446 : (.selects RX6 yX6_two yX6_two : Cond) ∈ UU := uu_t5 (List.mem_of_getElem? (i := 76) rfl) rfl
theorem uu1447 : (.code yX6_two cX6_two 6 (some .int) : Cond) ∈ UU := uu_t5 (List.mem_of_getElem? (i := 77) rfl) rfl
theorem uu1449 : (.methodLink RX6 216 yX6_shareBoth : Cond) ∈ UU := uu_t5 (List.mem_of_getElem? (i := 78) rfl) rfl
theorem uu1451 : (.instanceMethod yX6_shareBoth : Cond) ∈ UU := uu_t5 (List.mem_of_getElem? (i := 80) rfl) rfl
theorem uu1452 : (.code yX6_shareBoth cX6_shareBoth 7 (some .int) : Cond) ∈ UU := uu_t5 (List.mem_of_getElem? (i := 81) rfl) rfl
theorem uu1454 : (.methodLink RX6 213 yX6_firstBite : Cond) ∈ UU := uu_t5 (List.mem_of_getElem? (i := 82) rfl) rfl
theorem uu1456 : (.instanceMethod yX6_firstBite : Cond) ∈ UU := uu_t5 (List.mem_of_getElem? (i := 84) rfl) rfl
theorem uu1457 : (.code yX6_firstBite cX6_firstBite 4 (some .int) : Cond) ∈ UU := uu_t5 (List.mem_of_getElem? (i := 85) rfl) rfl
theorem uu1459 : (.methodLink RL 125 yX6_chance : Cond) ∈ UU := uu_t5 (List.mem_of_getElem? (i := 86) rfl) rfl
theorem uu1461 : (.instanceMethod yX6_chance : Cond) ∈ UU := uu_t5 (List.mem_of_getElem? (i := 87) rfl) rfl
theorem uu1462 : (.selects RX6 yX6_chance yX6_chance : Cond) ∈ UU := uu_t5 (List.mem_of_getElem? (i := 88) rfl) rfl
theorem uu1463 : (.code yX6_chance cX6_chance 8 (some .long) : Cond) ∈ UU := uu_t5 (List.mem_of_getElem? (i := 89) rfl) rfl
theorem uu1465 : (.methodLink RX6 228 yX6_noWide : Cond) ∈ UU := uu_t5 (List.mem_of_getElem? (i := 90) rfl) rfl
theorem uu1467 : (.instanceMethod yX6_noWide : Cond) ∈ UU := uu_t5 (List.mem_of_getElem? (i := 92) rfl) rfl
theorem uu1468 : (.code yX6_noWide cX6_noWide 2 (some .long) : Cond) ∈ UU := uu_t5 (List.mem_of_getElem? (i := 93) rfl) rfl
theorem uu1470 : (.constantLong RX6 56 (4000000000000000000) : Cond) ∈ UU := uu_t5 (List.mem_of_getElem? (i := 94) rfl) rfl
theorem uu1472 : (.methodLink RX6 224 yX6_waysFor : Cond) ∈ UU := uu_t5 (List.mem_of_getElem? (i := 95) rfl) rfl
theorem uu1474 : (.instanceMethod yX6_waysFor : Cond) ∈ UU := uu_t5 (List.mem_of_getElem? (i := 97) rfl) rfl
theorem uu1475 : (.code yX6_waysFor cX6_waysFor 8 (some .long) : Cond) ∈ UU := uu_t5 (List.mem_of_getElem? (i := 98) rfl) rfl
theorem uu1477 : (.methodLink RX6 232 yX6_partOf : Cond) ∈ UU := uu_t5 (List.mem_of_getElem? (i := 99) rfl) rfl
theorem uu1479 : (.static yX6_partOf : Cond) ∈ UU := uu_t5 (List.mem_of_getElem? (i := 100) rfl) rfl
theorem uu1480 : (.code yX6_partOf cX6_partOf 5 (some .long) : Cond) ∈ UU := uu_t5 (List.mem_of_getElem? (i := 101) rfl) rfl
theorem uu1482 : (.methodLink RX6 220 yX6_gcd : Cond) ∈ UU := uu_t5 (List.mem_of_getElem? (i := 102) rfl) rfl
theorem uu1484 : (.static yX6_gcd : Cond) ∈ UU := uu_t5 (List.mem_of_getElem? (i := 103) rfl) rfl
theorem uu1485 : (.code yX6_gcd cX6_gcd 10 (some .long) : Cond) ∈ UU := uu_t5 (List.mem_of_getElem? (i := 104) rfl) rfl
theorem uu1487 : (.methodLink RL 130 yX6_mean : Cond) ∈ UU := uu_t5 (List.mem_of_getElem? (i := 105) rfl) rfl
theorem uu1489 : (.instanceMethod yX6_mean : Cond) ∈ UU := uu_t5 (List.mem_of_getElem? (i := 106) rfl) rfl
theorem uu1490 : (.selects RX6 yX6_mean yX6_mean : Cond) ∈ UU := uu_t5 (List.mem_of_getElem? (i := 107) rfl) rfl
theorem uu1491 : (.code yX6_mean cX6_mean 2 (some .long) : Cond) ∈ UU := uu_t5 (List.mem_of_getElem? (i := 108) rfl) rfl
theorem uu1493 : (.methodLink RL 134 yX6_whatIs : Cond) ∈ UU := uu_t5 (List.mem_of_getElem? (i := 109) rfl) rfl
theorem uu1495 : (.instanceMethod yX6_whatIs : Cond) ∈ UU := uu_t5 (List.mem_of_getElem? (i := 110) rfl) rfl
theorem uu1496 : (.selects RX6 yX6_whatIs yX6_whatIs : Cond) ∈ UU := uu_t5 (List.mem_of_getElem? (i := 111) rfl) rfl
theorem uu1497 : (.code yX6_whatIs cX6_whatIs 7 (some .int) : Cond) ∈ UU := uu_t5 (List.mem_of_getElem? (i := 112) rfl) rfl
theorem uu1499 : (.methodLink RL 138 yX6_row : Cond) ∈ UU := uu_t5 (List.mem_of_getElem? (i := 113) rfl) rfl
theorem uu1501 : (.instanceMethod yX6_row : Cond) ∈ UU := uu_t5 (List.mem_of_getElem? (i := 114) rfl) rfl
theorem uu1502 : (.selects RX6 yX6_row yX6_row : Cond) ∈ UU := uu_t5 (List.mem_of_getElem? (i := 115) rfl) rfl
theorem uu1503 : (.code yX6_row cX6_row 3 (some .int) : Cond) ∈ UU := uu_t5 (List.mem_of_getElem? (i := 116) rfl) rfl
theorem uu1505 : (.methodLink RL 142 yX6_judge : Cond) ∈ UU := uu_t5 (List.mem_of_getElem? (i := 117) rfl) rfl
theorem uu1507 : (.instanceMethod yX6_judge : Cond) ∈ UU := uu_t5 (List.mem_of_getElem? (i := 118) rfl) rfl
theorem uu1508 : (.selects RX6 yX6_judge yX6_judge : Cond) ∈ UU := uu_t5 (List.mem_of_getElem? (i := 119) rfl) rfl
theorem uu1509 : (.code yX6_judge cX6_judge 3 (some .int) : Cond) ∈ UU := uu_t5 (List.mem_of_getElem? (i := 120) rfl) rfl
theorem uu1511 : (.methodLink RL 146 yX6_clear : Cond) ∈ UU := uu_t5 (List.mem_of_getElem? (i := 121) rfl) rfl
theorem uu1513 : (.instanceMethod yX6_clear : Cond) ∈ UU := uu_t5 (List.mem_of_getElem? (i := 122) rfl) rfl
theorem uu1514 : (.selects RX6 yX6_clear yX6_clear : Cond) ∈ UU := uu_t5 (List.mem_of_getElem? (i := 123) rfl) rfl
theorem uu1515 : (.code yX6_clear cX6_clear 2 (some .int) : Cond) ∈ UU := uu_t5 (List.mem_of_getElem? (i := 124) rfl) rfl
theorem uu1517 : (.methodLink RL 150 yX6_lots : Cond) ∈ UU := uu_t5 (List.mem_of_getElem? (i := 125) rfl) rfl
theorem uu1519 : (.instanceMethod yX6_lots : Cond) ∈ UU := uu_t5 (List.mem_of_getElem? (i := 126) rfl) rfl
theorem uu1520 : (.selects RX6 yX6_lots yX6_lots : Cond) ∈ UU := uu_t5 (List.mem_of_getElem? (i := 127) rfl) rfl
theorem uu1521 : (.code yX6_lots cX6_lots 10 (some .int) : Cond) ∈ UU := uu_t5 (List.mem_of_getElem? (i := 128) rfl) rfl
theorem uu1523 : (.methodLink RX6 245 yX6_drawn : Cond) ∈ UU := uu_t5 (List.mem_of_getElem? (i := 129) rfl) rfl
theorem uu1525 : (.instanceMethod yX6_drawn : Cond) ∈ UU := uu_t5 (List.mem_of_getElem? (i := 131) rfl) rfl
theorem uu1526 : (.code yX6_drawn cX6_drawn 2 (some .int) : Cond) ∈ UU := uu_t5 (List.mem_of_getElem? (i := 132) rfl) rfl
theorem uu1528 : (.constant RX6 242 (1664525) : Cond) ∈ UU := uu_t5 (List.mem_of_getElem? (i := 133) rfl) rfl
theorem uu1530 : (.constant RX6 243 (1013904223) : Cond) ∈ UU := uu_t5 (List.mem_of_getElem? (i := 134) rfl) rfl
theorem uu1532 : (.constant RX6 244 (2147483647) : Cond) ∈ UU := uu_t5 (List.mem_of_getElem? (i := 135) rfl) rfl
theorem uu1534 : (.methodLink RL 154 yX6_image : Cond) ∈ UU := uu_t5 (List.mem_of_getElem? (i := 136) rfl) rfl
theorem uu1536 : (.instanceMethod yX6_image : Cond) ∈ UU := uu_t5 (List.mem_of_getElem? (i := 137) rfl) rfl
theorem uu1537 : (.selects RX6 yX6_image yX6_image : Cond) ∈ UU := uu_t5 (List.mem_of_getElem? (i := 138) rfl) rfl
theorem uu1538 : (.code yX6_image cX6_image 2 (some .int) : Cond) ∈ UU := uu_t5 (List.mem_of_getElem? (i := 139) rfl) rfl
theorem uu1540 : (.methodLink RL 158 yX6_on : Cond) ∈ UU := uu_t5 (List.mem_of_getElem? (i := 140) rfl) rfl
theorem uu1542 : (.instanceMethod yX6_on : Cond) ∈ UU := uu_t5 (List.mem_of_getElem? (i := 141) rfl) rfl
theorem uu1543 : (.selects RX6 yX6_on yX6_on : Cond) ∈ UU := uu_t5 (List.mem_of_getElem? (i := 142) rfl) rfl
theorem uu1544 : (.code yX6_on cX6_on 2 (some .int) : Cond) ∈ UU := uu_t5 (List.mem_of_getElem? (i := 143) rfl) rfl
theorem uu1546 : (.methodLink RL 162 yX6_count : Cond) ∈ UU := uu_t5 (List.mem_of_getElem? (i := 144) rfl) rfl
theorem uu1548 : (.instanceMethod yX6_count : Cond) ∈ UU := uu_t5 (List.mem_of_getElem? (i := 145) rfl) rfl
theorem uu1549 : (.selects RX6 yX6_count yX6_count : Cond) ∈ UU := uu_t5 (List.mem_of_getElem? (i := 146) rfl) rfl
theorem uu1550 : (.code yX6_count cX6_count 2 (some .int) : Cond) ∈ UU := uu_t5 (List.mem_of_getElem? (i := 147) rfl) rfl
theorem uu1552 : (.fieldLink RJ0 9 "java/lang/String" "value" "[B" : Cond) ∈ UU := uu_t5 (List.mem_of_getElem? (i := 148) rfl) rfl
theorem uu1554 : (.fieldLink RJ0 15 "java/lang/String" "coder" "B" : Cond) ∈ UU := uu_t5 (List.mem_of_getElem? (i := 149) rfl) rfl
theorem uu1556 : (.selects RX5 yX5_refused yX5_refused : Cond) ∈ UU := uu_s (List.mem_of_getElem? (i := 0) rfl) rfl
theorem uu1557 : (.selects RX5 yX5_trialOfText yX5_trialOfText : Cond) ∈ UU := uu_s (List.mem_of_getElem? (i := 1) rfl) rfl
theorem uu1558 : (.selects RX4 yX4_letterAt yX4_letterAt : Cond) ∈ UU := uu_s (List.mem_of_getElem? (i := 2) rfl) rfl
theorem uu1559 : (.selects RX4 yX4_kindAt yX4_kindAt : Cond) ∈ UU := uu_s (List.mem_of_getElem? (i := 3) rfl) rfl
theorem uu1560 : (.selects RX4 yX4_digitAt yX4_digitAt : Cond) ∈ UU := uu_s (List.mem_of_getElem? (i := 4) rfl) rfl
theorem uu1561 : (.selects RX4 yX4_numberAt yX4_numberAt : Cond) ∈ UU := uu_s (List.mem_of_getElem? (i := 5) rfl) rfl
theorem uu1562 : (.selects RX5 yX5_isHeir yX5_isHeir : Cond) ∈ UU := uu_s (List.mem_of_getElem? (i := 6) rfl) rfl
theorem uu1563 : (.selects RX5 yX5_shareOf yX5_shareOf : Cond) ∈ UU := uu_s (List.mem_of_getElem? (i := 7) rfl) rfl
theorem uu1564 : (.selects RX5 yX5_readShare yX5_readShare : Cond) ∈ UU := uu_s (List.mem_of_getElem? (i := 8) rfl) rfl
theorem uu1565 : (.selects RX3 yX3_nephews yX3_nephews : Cond) ∈ UU := uu_s (List.mem_of_getElem? (i := 9) rfl) rfl
theorem uu1566 : (.selects RX3 yX3_elders yX3_elders : Cond) ∈ UU := uu_s (List.mem_of_getElem? (i := 10) rfl) rfl
theorem uu1567 : (.selects RX3 yX3_widows yX3_widows : Cond) ∈ UU := uu_s (List.mem_of_getElem? (i := 11) rfl) rfl
theorem uu1568 : (.selects RX5 yX5_isLeft yX5_isLeft : Cond) ∈ UU := uu_s (List.mem_of_getElem? (i := 12) rfl) rfl
theorem uu1569 : (.selects RX5 yX5_sharesTogether yX5_sharesTogether : Cond) ∈ UU := uu_s (List.mem_of_getElem? (i := 13) rfl) rfl
theorem uu1570 : (.selects RX5 yX5_richest yX5_richest : Cond) ∈ UU := uu_s (List.mem_of_getElem? (i := 14) rfl) rfl
theorem uu1571 : (.selects RX1 yX1_empties yX1_empties : Cond) ∈ UU := uu_s (List.mem_of_getElem? (i := 15) rfl) rfl
theorem uu1572 : (.selects RX1 yX1_comesTo yX1_comesTo : Cond) ∈ UU := uu_s (List.mem_of_getElem? (i := 16) rfl) rfl
theorem uu1573 : (.selects RX1 yX1_steps yX1_steps : Cond) ∈ UU := uu_s (List.mem_of_getElem? (i := 17) rfl) rfl
theorem uu1574 : (.selects RX1 yX1_goesOn yX1_goesOn : Cond) ∈ UU := uu_s (List.mem_of_getElem? (i := 18) rfl) rfl
theorem uu1575 : (.selects RX5 yX5_isSettled yX5_isSettled : Cond) ∈ UU := uu_s (List.mem_of_getElem? (i := 19) rfl) rfl
theorem uu1576 : (.selects RX5 yX5_firstCellThatSettles yX5_firstCellThatSettles : Cond) ∈ UU := uu_s (List.mem_of_getElem? (i := 20) rfl) rfl
theorem uu1577 : (.selects RX5 yX5_firstOfTwoThatSettle yX5_firstOfTwoThatSettle : Cond) ∈ UU := uu_s (List.mem_of_getElem? (i := 21) rfl) rfl
theorem uu1578 : (.selects RX5 yX5_furthestBite yX5_furthestBite : Cond) ∈ UU := uu_s (List.mem_of_getElem? (i := 22) rfl) rfl
theorem uu1579 : (.selects RX5 yX5_toldBite yX5_toldBite : Cond) ∈ UU := uu_s (List.mem_of_getElem? (i := 23) rfl) rfl
theorem uu1580 : (.selects RX5 yX5_firstBiteTo yX5_firstBiteTo : Cond) ∈ UU := uu_s (List.mem_of_getElem? (i := 24) rfl) rfl
theorem uu1581 : (.selects RX5 yX5_firstOfTwoBitesTo yX5_firstOfTwoBitesTo : Cond) ∈ UU := uu_s (List.mem_of_getElem? (i := 25) rfl) rfl
theorem uu1582 : (.selects RX5 yX5_changesNobody yX5_changesNobody : Cond) ∈ UU := uu_s (List.mem_of_getElem? (i := 26) rfl) rfl
theorem uu1583 : (.selects RX5 yX5_areTwo yX5_areTwo : Cond) ∈ UU := uu_s (List.mem_of_getElem? (i := 27) rfl) rfl
theorem uu1584 : (.selects RX5 yX5_chosen yX5_chosen : Cond) ∈ UU := uu_s (List.mem_of_getElem? (i := 28) rfl) rfl
theorem uu1585 : (.selects RX5 yX5_singlesTo yX5_singlesTo : Cond) ∈ UU := uu_s (List.mem_of_getElem? (i := 29) rfl) rfl
theorem uu1586 : (.selects RX5 yX5_pairsTo yX5_pairsTo : Cond) ∈ UU := uu_s (List.mem_of_getElem? (i := 30) rfl) rfl
theorem uu1587 : (.selects RX5 yX5_fitsTold yX5_fitsTold : Cond) ∈ UU := uu_s (List.mem_of_getElem? (i := 31) rfl) rfl
theorem uu1588 : (.selects RX5 yX5_firstWronglyTold yX5_firstWronglyTold : Cond) ∈ UU := uu_s (List.mem_of_getElem? (i := 32) rfl) rfl
theorem uu1589 : (.selects RX6 yX6_no yX6_no : Cond) ∈ UU := uu_s (List.mem_of_getElem? (i := 33) rfl) rfl
theorem uu1590 : (.selects RX6 yX6_readsStatement yX6_readsStatement : Cond) ∈ UU := uu_s (List.mem_of_getElem? (i := 34) rfl) rfl
theorem uu1591 : (.selects RX6 yX6_here yX6_here : Cond) ∈ UU := uu_s (List.mem_of_getElem? (i := 35) rfl) rfl
theorem uu1592 : (.selects RX6 yX6_readsKind yX6_readsKind : Cond) ∈ UU := uu_s (List.mem_of_getElem? (i := 36) rfl) rfl
theorem uu1593 : (.selects RX6 yX6_readsNumber yX6_readsNumber : Cond) ∈ UU := uu_s (List.mem_of_getElem? (i := 37) rfl) rfl
theorem uu1594 : (.selects RX6 yX6_lays yX6_lays : Cond) ∈ UU := uu_s (List.mem_of_getElem? (i := 38) rfl) rfl
theorem uu1595 : (.selects RX6 yX6_isDone yX6_isDone : Cond) ∈ UU := uu_s (List.mem_of_getElem? (i := 39) rfl) rfl
theorem uu1596 : (.selects RX6 yX6_bitesOff yX6_bitesOff : Cond) ∈ UU := uu_s (List.mem_of_getElem? (i := 40) rfl) rfl
theorem uu1597 : (.selects RX6 yX6_allAgain yX6_allAgain : Cond) ∈ UU := uu_s (List.mem_of_getElem? (i := 41) rfl) rfl
theorem uu1598 : (.selects RX6 yX6_laysBack yX6_laysBack : Cond) ∈ UU := uu_s (List.mem_of_getElem? (i := 42) rfl) rfl
theorem uu1599 : (.selects RX6 yX6_isHeir yX6_isHeir : Cond) ∈ UU := uu_s (List.mem_of_getElem? (i := 43) rfl) rfl
theorem uu1600 : (.selects RX6 yX6_shareOf yX6_shareOf : Cond) ∈ UU := uu_s (List.mem_of_getElem? (i := 44) rfl) rfl
theorem uu1601 : (.selects RX6 yX6_sharesOf yX6_sharesOf : Cond) ∈ UU := uu_s (List.mem_of_getElem? (i := 45) rfl) rfl
theorem uu1602 : (.selects RX6 yX6_biteTold yX6_biteTold : Cond) ∈ UU := uu_s (List.mem_of_getElem? (i := 46) rfl) rfl
theorem uu1603 : (.selects RX6 yX6_biteFor yX6_biteFor : Cond) ∈ UU := uu_s (List.mem_of_getElem? (i := 47) rfl) rfl
theorem uu1604 : (.selects RX6 yX6_isSoBy yX6_isSoBy : Cond) ∈ UU := uu_s (List.mem_of_getElem? (i := 48) rfl) rfl
theorem uu1605 : (.selects RX6 yX6_firstSo yX6_firstSo : Cond) ∈ UU := uu_s (List.mem_of_getElem? (i := 49) rfl) rfl
theorem uu1606 : (.selects RX6 yX6_comesTo yX6_comesTo : Cond) ∈ UU := uu_s (List.mem_of_getElem? (i := 50) rfl) rfl
theorem uu1607 : (.selects RX6 yX6_areTwo yX6_areTwo : Cond) ∈ UU := uu_s (List.mem_of_getElem? (i := 51) rfl) rfl
theorem uu1608 : (.selects RX6 yX6_noFar yX6_noFar : Cond) ∈ UU := uu_s (List.mem_of_getElem? (i := 52) rfl) rfl
theorem uu1609 : (.selects RX6 yX6_stepsFrom yX6_stepsFrom : Cond) ∈ UU := uu_s (List.mem_of_getElem? (i := 53) rfl) rfl
theorem uu1610 : (.selects RX6 yX6_shareBoth yX6_shareBoth : Cond) ∈ UU := uu_s (List.mem_of_getElem? (i := 54) rfl) rfl
theorem uu1611 : (.selects RX6 yX6_firstBite yX6_firstBite : Cond) ∈ UU := uu_s (List.mem_of_getElem? (i := 55) rfl) rfl
theorem uu1612 : (.selects RX6 yX6_noWide yX6_noWide : Cond) ∈ UU := uu_s (List.mem_of_getElem? (i := 56) rfl) rfl
theorem uu1613 : (.selects RX6 yX6_waysFor yX6_waysFor : Cond) ∈ UU := uu_s (List.mem_of_getElem? (i := 57) rfl) rfl
theorem uu1614 : (.selects RX6 yX6_drawn yX6_drawn : Cond) ∈ UU := uu_s (List.mem_of_getElem? (i := 58) rfl) rfl
theorem uX0_eq : u_ws RX0 TX0 5 = ([.laysFinal "CoresAreWills$Core" "CoresAreWills$Core" "kinds" "[I", .laysFinal "CoresAreWills$Core" "CoresAreWills$Core" "figures" "[I", .lays "CoresAreWills$Core" "CoresAreWills$Core" "heirs" "I", .lays "CoresAreWills$Core" "CoresAreWills$Core" "left" "I", .lays "CoresAreWills$Core" "CoresAreWills$Core" "bitten" "I"] : List Cond) := rfl
theorem uX0 : ∀ w ∈ u_ws RX0 TX0 5, w ∈ UU := by
  rw [uX0_eq]
  exact List.forall_mem_cons.mpr ⟨uu59, List.forall_mem_cons.mpr ⟨uu60, List.forall_mem_cons.mpr ⟨uu61, List.forall_mem_cons.mpr ⟨uu62, List.forall_mem_cons.mpr ⟨uu63, fun _ h => absurd h List.not_mem_nil⟩⟩⟩⟩⟩
theorem uX1_eq : u_ws RX1 TX1 4 = ([.lays "CoresAreWills$Cover" "CoresAreWills$Cover" "ways" "[I", .lays "CoresAreWills$Cover" "CoresAreWills$Cover" "fewest" "[I", .lays "CoresAreWills$Cover" "CoresAreWills$Cover" "nextWays" "[I", .lays "CoresAreWills$Cover" "CoresAreWills$Cover" "nextFewest" "[I"] : List Cond) := rfl
theorem uX1 : ∀ w ∈ u_ws RX1 TX1 4, w ∈ UU := by
  rw [uX1_eq]
  exact List.forall_mem_cons.mpr ⟨uu109, List.forall_mem_cons.mpr ⟨uu110, List.forall_mem_cons.mpr ⟨uu111, List.forall_mem_cons.mpr ⟨uu112, fun _ h => absurd h List.not_mem_nil⟩⟩⟩⟩
theorem uX3_eq : u_ws RX3 TX3 4 = ([.lays "CoresAreWills$Reading" "CoresAreWills$Reading" "gone" "I", .lays "CoresAreWills$Reading" "CoresAreWills$Reading" "heaps" "I", .lays "CoresAreWills$Reading" "CoresAreWills$Reading" "fewestCells" "I", .lays "CoresAreWills$Reading" "CoresAreWills$Reading" "deed" "I"] : List Cond) := rfl
theorem uX3 : ∀ w ∈ u_ws RX3 TX3 4, w ∈ UU := by
  rw [uX3_eq]
  exact List.forall_mem_cons.mpr ⟨uu88, List.forall_mem_cons.mpr ⟨uu89, List.forall_mem_cons.mpr ⟨uu90, List.forall_mem_cons.mpr ⟨uu91, fun _ h => absurd h List.not_mem_nil⟩⟩⟩⟩
theorem uX4_eq : u_ws RX4 TX4 2 = ([.laysFinal "CoresAreWills$Text" "CoresAreWills$Text" "letters" "[I", .lays "CoresAreWills$Text" "CoresAreWills$Text" "length" "I"] : List Cond) := rfl
theorem uX4 : ∀ w ∈ u_ws RX4 TX4 2, w ∈ UU := by
  rw [uX4_eq]
  exact List.forall_mem_cons.mpr ⟨uu128, List.forall_mem_cons.mpr ⟨uu129, fun _ h => absurd h List.not_mem_nil⟩⟩
theorem uX5_eq : u_ws RX5 TX5 11 = ([.laysFinal "CoresAreWills" "CoresAreWills" "now" "LCoresAreWills$Core;", .laysFinal "CoresAreWills" "CoresAreWills" "kept" "LCoresAreWills$Core;", .laysFinal "CoresAreWills" "CoresAreWills" "trial" "LCoresAreWills$Core;", .laysFinal "CoresAreWills" "CoresAreWills" "reading" "LCoresAreWills$Reading;", .laysFinal "CoresAreWills" "CoresAreWills" "cover" "LCoresAreWills$Cover;", .laysFinal "CoresAreWills" "CoresAreWills" "text" "LCoresAreWills$Text;", .laysFinal "CoresAreWills" "CoresAreWills" "told" "[I", .laysFinal "CoresAreWills" "CoresAreWills" "refusals" "[I", .laysFinal "CoresAreWills" "CoresAreWills" "ends" "[I", .lays "CoresAreWills" "CoresAreWills" "tolds" "I", .lays "CoresAreWills" "CoresAreWills" "hasImage" "Z"] : List Cond) := rfl
theorem uX5 : ∀ w ∈ u_ws RX5 TX5 11, w ∈ UU := by
  rw [uX5_eq]
  exact List.forall_mem_cons.mpr ⟨uu152, List.forall_mem_cons.mpr ⟨uu153, List.forall_mem_cons.mpr ⟨uu154, List.forall_mem_cons.mpr ⟨uu155, List.forall_mem_cons.mpr ⟨uu156, List.forall_mem_cons.mpr ⟨uu157, List.forall_mem_cons.mpr ⟨uu158, List.forall_mem_cons.mpr ⟨uu159, List.forall_mem_cons.mpr ⟨uu160, List.forall_mem_cons.mpr ⟨uu161, List.forall_mem_cons.mpr ⟨uu162, fun _ h => absurd h List.not_mem_nil⟩⟩⟩⟩⟩⟩⟩⟩⟩⟩⟩
theorem uX6_eq : u_ws RX6 TX6 26 = ([.lays "CoresAreWillsModel" "CoresAreWillsModel" "left" "I", .lays "CoresAreWillsModel" "CoresAreWillsModel" "bites" "I", .lays "CoresAreWillsModel" "CoresAreWillsModel" "many" "I", .lays "CoresAreWillsModel" "CoresAreWillsModel" "imageLeft" "I", .lays "CoresAreWillsModel" "CoresAreWillsModel" "imageBites" "I", .lays "CoresAreWillsModel" "CoresAreWillsModel" "imageMany" "I", .lays "CoresAreWillsModel" "CoresAreWillsModel" "wasLeft" "I", .lays "CoresAreWillsModel" "CoresAreWillsModel" "wasBites" "I", .lays "CoresAreWillsModel" "CoresAreWillsModel" "wasMany" "I", .laysFinal "CoresAreWillsModel" "CoresAreWillsModel" "kind" "[I", .laysFinal "CoresAreWillsModel" "CoresAreWillsModel" "figure" "[I", .laysFinal "CoresAreWillsModel" "CoresAreWillsModel" "imageKind" "[I", .laysFinal "CoresAreWillsModel" "CoresAreWillsModel" "imageFigure" "[I", .laysFinal "CoresAreWillsModel" "CoresAreWillsModel" "wasKind" "[I", .laysFinal "CoresAreWillsModel" "CoresAreWillsModel" "wasFigure" "[I", .lays "CoresAreWillsModel" "CoresAreWillsModel" "hasImage" "Z", .laysFinal "CoresAreWillsModel" "CoresAreWillsModel" "letters" "[I", .laysFinal "CoresAreWillsModel" "CoresAreWillsModel" "row" "[I", .laysFinal "CoresAreWillsModel" "CoresAreWillsModel" "refused" "[I", .lays "CoresAreWillsModel" "CoresAreWillsModel" "letterMany" "I", .lays "CoresAreWillsModel" "CoresAreWillsModel" "rowMany" "I", .lays "CoresAreWillsModel" "CoresAreWillsModel" "place" "I", .laysFinal "CoresAreWillsModel" "CoresAreWillsModel" "numbers" "[I", .laysFinal "CoresAreWillsModel" "CoresAreWillsModel" "counted" "[I", .laysFinal "CoresAreWillsModel" "CoresAreWillsModel" "few" "[I", .lays "CoresAreWillsModel" "CoresAreWillsModel" "seed" "I"] : List Cond) := rfl
theorem uX6 : ∀ w ∈ u_ws RX6 TX6 26, w ∈ UU := by
  rw [uX6_eq]
  exact List.forall_mem_cons.mpr ⟨uu1053, List.forall_mem_cons.mpr ⟨uu1054, List.forall_mem_cons.mpr ⟨uu1055, List.forall_mem_cons.mpr ⟨uu1056, List.forall_mem_cons.mpr ⟨uu1057, List.forall_mem_cons.mpr ⟨uu1058, List.forall_mem_cons.mpr ⟨uu1059, List.forall_mem_cons.mpr ⟨uu1060, List.forall_mem_cons.mpr ⟨uu1061, List.forall_mem_cons.mpr ⟨uu1062, List.forall_mem_cons.mpr ⟨uu1063, List.forall_mem_cons.mpr ⟨uu1064, List.forall_mem_cons.mpr ⟨uu1065, List.forall_mem_cons.mpr ⟨uu1066, List.forall_mem_cons.mpr ⟨uu1067, List.forall_mem_cons.mpr ⟨uu1068, List.forall_mem_cons.mpr ⟨uu1069, List.forall_mem_cons.mpr ⟨uu1070, List.forall_mem_cons.mpr ⟨uu1071, List.forall_mem_cons.mpr ⟨uu1072, List.forall_mem_cons.mpr ⟨uu1073, List.forall_mem_cons.mpr ⟨uu1074, List.forall_mem_cons.mpr ⟨uu1075, List.forall_mem_cons.mpr ⟨uu1076, List.forall_mem_cons.mpr ⟨uu1077, List.forall_mem_cons.mpr ⟨uu1078, fun _ h => absurd h List.not_mem_nil⟩⟩⟩⟩⟩⟩⟩⟩⟩⟩⟩⟩⟩⟩⟩⟩⟩⟩⟩⟩⟩⟩⟩⟩⟩⟩
end
section
theorem dX0_init_0 : decode cX0_init 0 = .ok (.aload_n 0, 1) := by decide +kernel
theorem dX0_init_1 : decode cX0_init 1 = .ok (.invokespecial 3, 3) := by decide +kernel
theorem dX0_init_4 : decode cX0_init 4 = .ok (.aload_n 0, 1) := by decide +kernel
theorem dX0_init_5 : decode cX0_init 5 = .ok (.iconst 5, 1) := by decide +kernel
theorem dX0_init_6 : decode cX0_init 6 = .ok (.newarray .int, 2) := by decide +kernel
theorem dX0_init_8 : decode cX0_init 8 = .ok (.putfield 9, 3) := by decide +kernel
theorem dX0_init_11 : decode cX0_init 11 = .ok (.aload_n 0, 1) := by decide +kernel
theorem dX0_init_12 : decode cX0_init 12 = .ok (.iconst 5, 1) := by decide +kernel
theorem dX0_init_13 : decode cX0_init 13 = .ok (.newarray .int, 2) := by decide +kernel
theorem dX0_init_15 : decode cX0_init 15 = .ok (.putfield 15, 3) := by decide +kernel
theorem dX0_init_18 : decode cX0_init 18 = .ok (.aload_n 0, 1) := by decide +kernel
theorem dX0_init_19 : decode cX0_init 19 = .ok (.iconst 0, 1) := by decide +kernel
theorem dX0_init_20 : decode cX0_init 20 = .ok (.putfield 18, 3) := by decide +kernel
theorem dX0_init_23 : decode cX0_init 23 = .ok (.aload_n 0, 1) := by decide +kernel
theorem dX0_init_24 : decode cX0_init 24 = .ok (.ldc 22, 2) := by decide +kernel
theorem dX0_init_26 : decode cX0_init 26 = .ok (.putfield 23, 3) := by decide +kernel
theorem dX0_init_29 : decode cX0_init 29 = .ok (.aload_n 0, 1) := by decide +kernel
theorem dX0_init_30 : decode cX0_init 30 = .ok (.iconst 0, 1) := by decide +kernel
theorem dX0_init_31 : decode cX0_init 31 = .ok (.putfield 26, 3) := by decide +kernel
theorem dX0_init_34 : decode cX0_init 34 = .ok (.return_, 1) := by decide +kernel
theorem dX0_becomes_0 : decode cX0_becomes 0 = .ok (.aload_n 1, 1) := by decide +kernel
theorem dX0_becomes_1 : decode cX0_becomes 1 = .ok (.getfield 9, 3) := by decide +kernel
theorem dX0_becomes_4 : decode cX0_becomes 4 = .ok (.iconst 0, 1) := by decide +kernel
theorem dX0_becomes_5 : decode cX0_becomes 5 = .ok (.aload_n 0, 1) := by decide +kernel
theorem dX0_becomes_6 : decode cX0_becomes 6 = .ok (.getfield 9, 3) := by decide +kernel
theorem dX0_becomes_9 : decode cX0_becomes 9 = .ok (.iconst 0, 1) := by decide +kernel
theorem dX0_becomes_10 : decode cX0_becomes 10 = .ok (.iconst 5, 1) := by decide +kernel
theorem dX0_becomes_11 : decode cX0_becomes 11 = .ok (.invokestatic 29, 3) := by decide +kernel
theorem dX0_becomes_14 : decode cX0_becomes 14 = .ok (.aload_n 1, 1) := by decide +kernel
theorem dX0_becomes_15 : decode cX0_becomes 15 = .ok (.getfield 15, 3) := by decide +kernel
theorem dX0_becomes_18 : decode cX0_becomes 18 = .ok (.iconst 0, 1) := by decide +kernel
theorem dX0_becomes_19 : decode cX0_becomes 19 = .ok (.aload_n 0, 1) := by decide +kernel
theorem dX0_becomes_20 : decode cX0_becomes 20 = .ok (.getfield 15, 3) := by decide +kernel
theorem dX0_becomes_23 : decode cX0_becomes 23 = .ok (.iconst 0, 1) := by decide +kernel
theorem dX0_becomes_24 : decode cX0_becomes 24 = .ok (.iconst 5, 1) := by decide +kernel
theorem dX0_becomes_25 : decode cX0_becomes 25 = .ok (.invokestatic 29, 3) := by decide +kernel
theorem dX0_becomes_28 : decode cX0_becomes 28 = .ok (.aload_n 0, 1) := by decide +kernel
theorem dX0_becomes_29 : decode cX0_becomes 29 = .ok (.aload_n 1, 1) := by decide +kernel
theorem dX0_becomes_30 : decode cX0_becomes 30 = .ok (.getfield 18, 3) := by decide +kernel
theorem dX0_becomes_33 : decode cX0_becomes 33 = .ok (.putfield 18, 3) := by decide +kernel
theorem dX0_becomes_36 : decode cX0_becomes 36 = .ok (.aload_n 0, 1) := by decide +kernel
theorem dX0_becomes_37 : decode cX0_becomes 37 = .ok (.aload_n 1, 1) := by decide +kernel
theorem dX0_becomes_38 : decode cX0_becomes 38 = .ok (.getfield 23, 3) := by decide +kernel
theorem dX0_becomes_41 : decode cX0_becomes 41 = .ok (.putfield 23, 3) := by decide +kernel
theorem dX0_becomes_44 : decode cX0_becomes 44 = .ok (.aload_n 0, 1) := by decide +kernel
theorem dX0_becomes_45 : decode cX0_becomes 45 = .ok (.aload_n 1, 1) := by decide +kernel
theorem dX0_becomes_46 : decode cX0_becomes 46 = .ok (.getfield 26, 3) := by decide +kernel
theorem dX0_becomes_49 : decode cX0_becomes 49 = .ok (.putfield 26, 3) := by decide +kernel
theorem dX0_becomes_52 : decode cX0_becomes 52 = .ok (.return_, 1) := by decide +kernel
theorem dX0_takesHeir_0 : decode cX0_takesHeir 0 = .ok (.aload_n 0, 1) := by decide +kernel
theorem dX0_takesHeir_1 : decode cX0_takesHeir 1 = .ok (.getfield 18, 3) := by decide +kernel
theorem dX0_takesHeir_4 : decode cX0_takesHeir 4 = .ok (.iconst 5, 1) := by decide +kernel
theorem dX0_takesHeir_5 : decode cX0_takesHeir 5 = .ok (.if_icmp .lt 5, 3) := by decide +kernel
theorem dX0_takesHeir_8 : decode cX0_takesHeir 8 = .ok (.iconst 0, 1) := by decide +kernel
theorem dX0_takesHeir_9 : decode cX0_takesHeir 9 = .ok (.ireturn, 1) := by decide +kernel
theorem dX0_takesHeir_10 : decode cX0_takesHeir 10 = .ok (.aload_n 0, 1) := by decide +kernel
theorem dX0_takesHeir_11 : decode cX0_takesHeir 11 = .ok (.getfield 9, 3) := by decide +kernel
theorem dX0_takesHeir_14 : decode cX0_takesHeir 14 = .ok (.aload_n 0, 1) := by decide +kernel
theorem dX0_takesHeir_15 : decode cX0_takesHeir 15 = .ok (.getfield 18, 3) := by decide +kernel
theorem dX0_takesHeir_18 : decode cX0_takesHeir 18 = .ok (.iload_n 1, 1) := by decide +kernel
theorem dX0_takesHeir_19 : decode cX0_takesHeir 19 = .ok (.iastore, 1) := by decide +kernel
theorem dX0_takesHeir_20 : decode cX0_takesHeir 20 = .ok (.aload_n 0, 1) := by decide +kernel
theorem dX0_takesHeir_21 : decode cX0_takesHeir 21 = .ok (.getfield 15, 3) := by decide +kernel
theorem dX0_takesHeir_24 : decode cX0_takesHeir 24 = .ok (.aload_n 0, 1) := by decide +kernel
theorem dX0_takesHeir_25 : decode cX0_takesHeir 25 = .ok (.getfield 18, 3) := by decide +kernel
theorem dX0_takesHeir_28 : decode cX0_takesHeir 28 = .ok (.iload_n 2, 1) := by decide +kernel
theorem dX0_takesHeir_29 : decode cX0_takesHeir 29 = .ok (.iastore, 1) := by decide +kernel
theorem dX0_takesHeir_30 : decode cX0_takesHeir 30 = .ok (.aload_n 0, 1) := by decide +kernel
theorem dX0_takesHeir_31 : decode cX0_takesHeir 31 = .ok (.dup, 1) := by decide +kernel
theorem dX0_takesHeir_32 : decode cX0_takesHeir 32 = .ok (.getfield 18, 3) := by decide +kernel
theorem dX0_takesHeir_35 : decode cX0_takesHeir 35 = .ok (.iconst 1, 1) := by decide +kernel
theorem dX0_takesHeir_36 : decode cX0_takesHeir 36 = .ok (.iadd, 1) := by decide +kernel
theorem dX0_takesHeir_37 : decode cX0_takesHeir 37 = .ok (.putfield 18, 3) := by decide +kernel
theorem dX0_takesHeir_40 : decode cX0_takesHeir 40 = .ok (.iconst 1, 1) := by decide +kernel
theorem dX0_takesHeir_41 : decode cX0_takesHeir 41 = .ok (.ireturn, 1) := by decide +kernel
theorem dX0_takesBite_0 : decode cX0_takesBite 0 = .ok (.iload_n 1, 1) := by decide +kernel
theorem dX0_takesBite_1 : decode cX0_takesBite 1 = .ok (.iload_n 2, 1) := by decide +kernel
theorem dX0_takesBite_2 : decode cX0_takesBite 2 = .ok (.invokestatic 35, 3) := by decide +kernel
theorem dX0_takesBite_5 : decode cX0_takesBite 5 = .ok (.istore_n 3, 1) := by decide +kernel
theorem dX0_takesBite_6 : decode cX0_takesBite 6 = .ok (.iload_n 3, 1) := by decide +kernel
theorem dX0_takesBite_7 : decode cX0_takesBite 7 = .ok (.ifCond .eq 13, 3) := by decide +kernel
theorem dX0_takesBite_10 : decode cX0_takesBite 10 = .ok (.aload_n 0, 1) := by decide +kernel
theorem dX0_takesBite_11 : decode cX0_takesBite 11 = .ok (.getfield 23, 3) := by decide +kernel
theorem dX0_takesBite_14 : decode cX0_takesBite 14 = .ok (.iload_n 3, 1) := by decide +kernel
theorem dX0_takesBite_15 : decode cX0_takesBite 15 = .ok (.iand, 1) := by decide +kernel
theorem dX0_takesBite_16 : decode cX0_takesBite 16 = .ok (.iload_n 3, 1) := by decide +kernel
theorem dX0_takesBite_17 : decode cX0_takesBite 17 = .ok (.if_icmp .eq 5, 3) := by decide +kernel
theorem dX0_takesBite_20 : decode cX0_takesBite 20 = .ok (.iconst 0, 1) := by decide +kernel
theorem dX0_takesBite_21 : decode cX0_takesBite 21 = .ok (.ireturn, 1) := by decide +kernel
theorem dX0_takesBite_22 : decode cX0_takesBite 22 = .ok (.aload_n 0, 1) := by decide +kernel
theorem dX0_takesBite_23 : decode cX0_takesBite 23 = .ok (.dup, 1) := by decide +kernel
theorem dX0_takesBite_24 : decode cX0_takesBite 24 = .ok (.getfield 23, 3) := by decide +kernel
theorem dX0_takesBite_27 : decode cX0_takesBite 27 = .ok (.iload_n 3, 1) := by decide +kernel
theorem dX0_takesBite_28 : decode cX0_takesBite 28 = .ok (.iconst (-1), 1) := by decide +kernel
theorem dX0_takesBite_29 : decode cX0_takesBite 29 = .ok (.ixor, 1) := by decide +kernel
theorem dX0_takesBite_30 : decode cX0_takesBite 30 = .ok (.iand, 1) := by decide +kernel
theorem dX0_takesBite_31 : decode cX0_takesBite 31 = .ok (.putfield 23, 3) := by decide +kernel
theorem dX0_takesBite_34 : decode cX0_takesBite 34 = .ok (.aload_n 0, 1) := by decide +kernel
theorem dX0_takesBite_35 : decode cX0_takesBite 35 = .ok (.sipush 999, 3) := by decide +kernel
theorem dX0_takesBite_38 : decode cX0_takesBite 38 = .ok (.aload_n 0, 1) := by decide +kernel
theorem dX0_takesBite_39 : decode cX0_takesBite 39 = .ok (.getfield 26, 3) := by decide +kernel
theorem dX0_takesBite_42 : decode cX0_takesBite 42 = .ok (.iconst 1, 1) := by decide +kernel
theorem dX0_takesBite_43 : decode cX0_takesBite 43 = .ok (.iadd, 1) := by decide +kernel
theorem dX0_takesBite_44 : decode cX0_takesBite 44 = .ok (.invokestatic 41, 3) := by decide +kernel
theorem dX0_takesBite_47 : decode cX0_takesBite 47 = .ok (.putfield 26, 3) := by decide +kernel
theorem dX0_takesBite_50 : decode cX0_takesBite 50 = .ok (.iconst 1, 1) := by decide +kernel
theorem dX0_takesBite_51 : decode cX0_takesBite 51 = .ok (.ireturn, 1) := by decide +kernel
theorem dX0_mends_0 : decode cX0_mends 0 = .ok (.iload_n 1, 1) := by decide +kernel
theorem dX0_mends_1 : decode cX0_mends 1 = .ok (.invokestatic 46, 3) := by decide +kernel
theorem dX0_mends_4 : decode cX0_mends 4 = .ok (.ifCond .ne 5, 3) := by decide +kernel
theorem dX0_mends_7 : decode cX0_mends 7 = .ok (.iconst 0, 1) := by decide +kernel
theorem dX0_mends_8 : decode cX0_mends 8 = .ok (.ireturn, 1) := by decide +kernel
theorem dX0_mends_9 : decode cX0_mends 9 = .ok (.aload_n 0, 1) := by decide +kernel
theorem dX0_mends_10 : decode cX0_mends 10 = .ok (.dup, 1) := by decide +kernel
theorem dX0_mends_11 : decode cX0_mends 11 = .ok (.getfield 23, 3) := by decide +kernel
theorem dX0_mends_14 : decode cX0_mends 14 = .ok (.iconst 1, 1) := by decide +kernel
theorem dX0_mends_15 : decode cX0_mends 15 = .ok (.iload_n 1, 1) := by decide +kernel
theorem dX0_mends_16 : decode cX0_mends 16 = .ok (.ishl, 1) := by decide +kernel
theorem dX0_mends_17 : decode cX0_mends 17 = .ok (.ior, 1) := by decide +kernel
theorem dX0_mends_18 : decode cX0_mends 18 = .ok (.putfield 23, 3) := by decide +kernel
theorem dX0_mends_21 : decode cX0_mends 21 = .ok (.iconst 1, 1) := by decide +kernel
theorem dX0_mends_22 : decode cX0_mends 22 = .ok (.ireturn, 1) := by decide +kernel
theorem dX0_turnsBy_0 : decode cX0_turnsBy 0 = .ok (.iload_n 1, 1) := by decide +kernel
theorem dX0_turnsBy_1 : decode cX0_turnsBy 1 = .ok (.iconst 1, 1) := by decide +kernel
theorem dX0_turnsBy_2 : decode cX0_turnsBy 2 = .ok (.if_icmp .lt 8, 3) := by decide +kernel
theorem dX0_turnsBy_5 : decode cX0_turnsBy 5 = .ok (.iload_n 1, 1) := by decide +kernel
theorem dX0_turnsBy_6 : decode cX0_turnsBy 6 = .ok (.iconst 3, 1) := by decide +kernel
theorem dX0_turnsBy_7 : decode cX0_turnsBy 7 = .ok (.if_icmp .le 5, 3) := by decide +kernel
theorem dX0_turnsBy_10 : decode cX0_turnsBy 10 = .ok (.iconst 0, 1) := by decide +kernel
theorem dX0_turnsBy_11 : decode cX0_turnsBy 11 = .ok (.ireturn, 1) := by decide +kernel
theorem dX0_turnsBy_12 : decode cX0_turnsBy 12 = .ok (.iconst 0, 1) := by decide +kernel
theorem dX0_turnsBy_13 : decode cX0_turnsBy 13 = .ok (.istore_n 2, 1) := by decide +kernel
theorem dX0_turnsBy_14 : decode cX0_turnsBy 14 = .ok (.iload_n 2, 1) := by decide +kernel
theorem dX0_turnsBy_15 : decode cX0_turnsBy 15 = .ok (.iload_n 1, 1) := by decide +kernel
theorem dX0_turnsBy_16 : decode cX0_turnsBy 16 = .ok (.if_icmp .ge 20, 3) := by decide +kernel
theorem dX0_turnsBy_19 : decode cX0_turnsBy 19 = .ok (.aload_n 0, 1) := by decide +kernel
theorem dX0_turnsBy_20 : decode cX0_turnsBy 20 = .ok (.aload_n 0, 1) := by decide +kernel
theorem dX0_turnsBy_21 : decode cX0_turnsBy 21 = .ok (.getfield 23, 3) := by decide +kernel
theorem dX0_turnsBy_24 : decode cX0_turnsBy 24 = .ok (.invokestatic 50, 3) := by decide +kernel
theorem dX0_turnsBy_27 : decode cX0_turnsBy 27 = .ok (.putfield 23, 3) := by decide +kernel
theorem dX0_turnsBy_30 : decode cX0_turnsBy 30 = .ok (.iinc 2 1, 3) := by decide +kernel
theorem dX0_turnsBy_33 : decode cX0_turnsBy 33 = .ok (.goto (-19), 3) := by decide +kernel
theorem dX0_turnsBy_36 : decode cX0_turnsBy 36 = .ok (.iconst 1, 1) := by decide +kernel
theorem dX0_turnsBy_37 : decode cX0_turnsBy 37 = .ok (.ireturn, 1) := by decide +kernel
theorem dX0_renews_0 : decode cX0_renews 0 = .ok (.aload_n 0, 1) := by decide +kernel
theorem dX0_renews_1 : decode cX0_renews 1 = .ok (.ldc 22, 2) := by decide +kernel
theorem dX0_renews_3 : decode cX0_renews 3 = .ok (.putfield 23, 3) := by decide +kernel
theorem dX0_renews_6 : decode cX0_renews 6 = .ok (.aload_n 0, 1) := by decide +kernel
theorem dX0_renews_7 : decode cX0_renews 7 = .ok (.iconst 0, 1) := by decide +kernel
theorem dX0_renews_8 : decode cX0_renews 8 = .ok (.putfield 26, 3) := by decide +kernel
theorem dX0_renews_11 : decode cX0_renews 11 = .ok (.iconst 1, 1) := by decide +kernel
theorem dX0_renews_12 : decode cX0_renews 12 = .ok (.ireturn, 1) := by decide +kernel
theorem dX1_init_0 : decode cX1_init 0 = .ok (.aload_n 0, 1) := by decide +kernel
theorem dX1_init_1 : decode cX1_init 1 = .ok (.invokespecial 3, 3) := by decide +kernel
theorem dX1_init_4 : decode cX1_init 4 = .ok (.aload_n 0, 1) := by decide +kernel
theorem dX1_init_5 : decode cX1_init 5 = .ok (.bipush 64, 2) := by decide +kernel
theorem dX1_init_7 : decode cX1_init 7 = .ok (.newarray .int, 2) := by decide +kernel
theorem dX1_init_9 : decode cX1_init 9 = .ok (.putfield 11, 3) := by decide +kernel
theorem dX1_init_12 : decode cX1_init 12 = .ok (.aload_n 0, 1) := by decide +kernel
theorem dX1_init_13 : decode cX1_init 13 = .ok (.bipush 64, 2) := by decide +kernel
theorem dX1_init_15 : decode cX1_init 15 = .ok (.newarray .int, 2) := by decide +kernel
theorem dX1_init_17 : decode cX1_init 17 = .ok (.putfield 15, 3) := by decide +kernel
theorem dX1_init_20 : decode cX1_init 20 = .ok (.aload_n 0, 1) := by decide +kernel
theorem dX1_init_21 : decode cX1_init 21 = .ok (.bipush 64, 2) := by decide +kernel
theorem dX1_init_23 : decode cX1_init 23 = .ok (.newarray .int, 2) := by decide +kernel
theorem dX1_init_25 : decode cX1_init 25 = .ok (.putfield 18, 3) := by decide +kernel
theorem dX1_init_28 : decode cX1_init 28 = .ok (.aload_n 0, 1) := by decide +kernel
theorem dX1_init_29 : decode cX1_init 29 = .ok (.bipush 64, 2) := by decide +kernel
theorem dX1_init_31 : decode cX1_init 31 = .ok (.newarray .int, 2) := by decide +kernel
theorem dX1_init_33 : decode cX1_init 33 = .ok (.putfield 21, 3) := by decide +kernel
theorem dX1_init_36 : decode cX1_init 36 = .ok (.return_, 1) := by decide +kernel
theorem dX1_waysDone_0 : decode cX1_waysDone 0 = .ok (.aload_n 0, 1) := by decide +kernel
theorem dX1_waysDone_1 : decode cX1_waysDone 1 = .ok (.getfield 11, 3) := by decide +kernel
theorem dX1_waysDone_4 : decode cX1_waysDone 4 = .ok (.iconst 0, 1) := by decide +kernel
theorem dX1_waysDone_5 : decode cX1_waysDone 5 = .ok (.iaload, 1) := by decide +kernel
theorem dX1_waysDone_6 : decode cX1_waysDone 6 = .ok (.ireturn, 1) := by decide +kernel
theorem dX1_fewDone_0 : decode cX1_fewDone 0 = .ok (.aload_n 0, 1) := by decide +kernel
theorem dX1_fewDone_1 : decode cX1_fewDone 1 = .ok (.getfield 15, 3) := by decide +kernel
theorem dX1_fewDone_4 : decode cX1_fewDone 4 = .ok (.iconst 0, 1) := by decide +kernel
theorem dX1_fewDone_5 : decode cX1_fewDone 5 = .ok (.iaload, 1) := by decide +kernel
theorem dX1_fewDone_6 : decode cX1_fewDone 6 = .ok (.ireturn, 1) := by decide +kernel
theorem dX1_covers_0 : decode cX1_covers 0 = .ok (.aload_n 0, 1) := by decide +kernel
theorem dX1_covers_1 : decode cX1_covers 1 = .ok (.invokevirtual 24, 3) := by decide +kernel
theorem dX1_covers_4 : decode cX1_covers 4 = .ok (.aload_n 0, 1) := by decide +kernel
theorem dX1_covers_5 : decode cX1_covers 5 = .ok (.iconst 0, 1) := by decide +kernel
theorem dX1_covers_6 : decode cX1_covers 6 = .ok (.iconst 1, 1) := by decide +kernel
theorem dX1_covers_7 : decode cX1_covers 7 = .ok (.iconst 0, 1) := by decide +kernel
theorem dX1_covers_8 : decode cX1_covers 8 = .ok (.invokevirtual 27, 3) := by decide +kernel
theorem dX1_covers_11 : decode cX1_covers 11 = .ok (.iconst 0, 1) := by decide +kernel
theorem dX1_covers_12 : decode cX1_covers 12 = .ok (.istore_n 2, 1) := by decide +kernel
theorem dX1_covers_13 : decode cX1_covers 13 = .ok (.iload_n 2, 1) := by decide +kernel
theorem dX1_covers_14 : decode cX1_covers 14 = .ok (.bipush 25, 2) := by decide +kernel
theorem dX1_covers_16 : decode cX1_covers 16 = .ok (.if_icmp .ge 46, 3) := by decide +kernel
theorem dX1_covers_19 : decode cX1_covers 19 = .ok (.aload_n 0, 1) := by decide +kernel
theorem dX1_covers_20 : decode cX1_covers 20 = .ok (.invokevirtual 31, 3) := by decide +kernel
theorem dX1_covers_23 : decode cX1_covers 23 = .ok (.iconst 0, 1) := by decide +kernel
theorem dX1_covers_24 : decode cX1_covers 24 = .ok (.istore_n 3, 1) := by decide +kernel
theorem dX1_covers_25 : decode cX1_covers 25 = .ok (.iload_n 3, 1) := by decide +kernel
theorem dX1_covers_26 : decode cX1_covers 26 = .ok (.bipush 64, 2) := by decide +kernel
theorem dX1_covers_28 : decode cX1_covers 28 = .ok (.if_icmp .ge 28, 3) := by decide +kernel
theorem dX1_covers_31 : decode cX1_covers 31 = .ok (.aload_n 0, 1) := by decide +kernel
theorem dX1_covers_32 : decode cX1_covers 32 = .ok (.getfield 15, 3) := by decide +kernel
theorem dX1_covers_35 : decode cX1_covers 35 = .ok (.iload_n 3, 1) := by decide +kernel
theorem dX1_covers_36 : decode cX1_covers 36 = .ok (.iaload, 1) := by decide +kernel
theorem dX1_covers_37 : decode cX1_covers 37 = .ok (.sipush 1000, 3) := by decide +kernel
theorem dX1_covers_40 : decode cX1_covers 40 = .ok (.if_icmp .ge 10, 3) := by decide +kernel
theorem dX1_covers_43 : decode cX1_covers 43 = .ok (.aload_n 0, 1) := by decide +kernel
theorem dX1_covers_44 : decode cX1_covers 44 = .ok (.iload_n 3, 1) := by decide +kernel
theorem dX1_covers_45 : decode cX1_covers 45 = .ok (.iload_n 2, 1) := by decide +kernel
theorem dX1_covers_46 : decode cX1_covers 46 = .ok (.iload_n 1, 1) := by decide +kernel
theorem dX1_covers_47 : decode cX1_covers 47 = .ok (.invokevirtual 34, 3) := by decide +kernel
theorem dX1_covers_50 : decode cX1_covers 50 = .ok (.iinc 3 1, 3) := by decide +kernel
theorem dX1_covers_53 : decode cX1_covers 53 = .ok (.goto (-28), 3) := by decide +kernel
theorem dX1_covers_56 : decode cX1_covers 56 = .ok (.iinc 2 1, 3) := by decide +kernel
theorem dX1_covers_59 : decode cX1_covers 59 = .ok (.goto (-46), 3) := by decide +kernel
theorem dX1_covers_62 : decode cX1_covers 62 = .ok (.aload_n 0, 1) := by decide +kernel
theorem dX1_covers_63 : decode cX1_covers 63 = .ok (.invokevirtual 31, 3) := by decide +kernel
theorem dX1_covers_66 : decode cX1_covers 66 = .ok (.return_, 1) := by decide +kernel
theorem dX1_goesOn_0 : decode cX1_goesOn 0 = .ok (.iload_n 1, 1) := by decide +kernel
theorem dX1_goesOn_1 : decode cX1_goesOn 1 = .ok (.iconst 1, 1) := by decide +kernel
theorem dX1_goesOn_2 : decode cX1_goesOn 2 = .ok (.iand, 1) := by decide +kernel
theorem dX1_goesOn_3 : decode cX1_goesOn 3 = .ok (.ifCond .ne 11, 3) := by decide +kernel
theorem dX1_goesOn_6 : decode cX1_goesOn 6 = .ok (.iload_n 3, 1) := by decide +kernel
theorem dX1_goesOn_7 : decode cX1_goesOn 7 = .ok (.iload_n 2, 1) := by decide +kernel
theorem dX1_goesOn_8 : decode cX1_goesOn 8 = .ok (.ishr, 1) := by decide +kernel
theorem dX1_goesOn_9 : decode cX1_goesOn 9 = .ok (.iconst 1, 1) := by decide +kernel
theorem dX1_goesOn_10 : decode cX1_goesOn 10 = .ok (.iand, 1) := by decide +kernel
theorem dX1_goesOn_11 : decode cX1_goesOn 11 = .ok (.ifCond .eq 23, 3) := by decide +kernel
theorem dX1_goesOn_14 : decode cX1_goesOn 14 = .ok (.aload_n 0, 1) := by decide +kernel
theorem dX1_goesOn_15 : decode cX1_goesOn 15 = .ok (.iload_n 1, 1) := by decide +kernel
theorem dX1_goesOn_16 : decode cX1_goesOn 16 = .ok (.iconst 1, 1) := by decide +kernel
theorem dX1_goesOn_17 : decode cX1_goesOn 17 = .ok (.ishr, 1) := by decide +kernel
theorem dX1_goesOn_18 : decode cX1_goesOn 18 = .ok (.aload_n 0, 1) := by decide +kernel
theorem dX1_goesOn_19 : decode cX1_goesOn 19 = .ok (.getfield 11, 3) := by decide +kernel
theorem dX1_goesOn_22 : decode cX1_goesOn 22 = .ok (.iload_n 1, 1) := by decide +kernel
theorem dX1_goesOn_23 : decode cX1_goesOn 23 = .ok (.iaload, 1) := by decide +kernel
theorem dX1_goesOn_24 : decode cX1_goesOn 24 = .ok (.aload_n 0, 1) := by decide +kernel
theorem dX1_goesOn_25 : decode cX1_goesOn 25 = .ok (.getfield 15, 3) := by decide +kernel
theorem dX1_goesOn_28 : decode cX1_goesOn 28 = .ok (.iload_n 1, 1) := by decide +kernel
theorem dX1_goesOn_29 : decode cX1_goesOn 29 = .ok (.iaload, 1) := by decide +kernel
theorem dX1_goesOn_30 : decode cX1_goesOn 30 = .ok (.invokevirtual 27, 3) := by decide +kernel
theorem dX1_goesOn_33 : decode cX1_goesOn 33 = .ok (.return_, 1) := by decide +kernel
theorem dX1_goesOn_34 : decode cX1_goesOn 34 = .ok (.iconst 0, 1) := by decide +kernel
theorem dX1_goesOn_35 : decode cX1_goesOn 35 = .ok (.istore 4, 2) := by decide +kernel
theorem dX1_goesOn_37 : decode cX1_goesOn 37 = .ok (.iload 4, 2) := by decide +kernel
theorem dX1_goesOn_39 : decode cX1_goesOn 39 = .ok (.iconst 4, 1) := by decide +kernel
theorem dX1_goesOn_40 : decode cX1_goesOn 40 = .ok (.if_icmp .ge 69, 3) := by decide +kernel
theorem dX1_goesOn_43 : decode cX1_goesOn 43 = .ok (.iload 4, 2) := by decide +kernel
theorem dX1_goesOn_45 : decode cX1_goesOn 45 = .ok (.iload_n 2, 1) := by decide +kernel
theorem dX1_goesOn_46 : decode cX1_goesOn 46 = .ok (.invokestatic 37, 3) := by decide +kernel
theorem dX1_goesOn_49 : decode cX1_goesOn 49 = .ok (.istore 5, 2) := by decide +kernel
theorem dX1_goesOn_51 : decode cX1_goesOn 51 = .ok (.iload 5, 2) := by decide +kernel
theorem dX1_goesOn_53 : decode cX1_goesOn 53 = .ok (.iload_n 2, 1) := by decide +kernel
theorem dX1_goesOn_54 : decode cX1_goesOn 54 = .ok (.ishr, 1) := by decide +kernel
theorem dX1_goesOn_55 : decode cX1_goesOn 55 = .ok (.istore 6, 2) := by decide +kernel
theorem dX1_goesOn_57 : decode cX1_goesOn 57 = .ok (.iload 5, 2) := by decide +kernel
theorem dX1_goesOn_59 : decode cX1_goesOn 59 = .ok (.ifCond .eq 44, 3) := by decide +kernel
theorem dX1_goesOn_62 : decode cX1_goesOn 62 = .ok (.iload 5, 2) := by decide +kernel
theorem dX1_goesOn_64 : decode cX1_goesOn 64 = .ok (.iload_n 3, 1) := by decide +kernel
theorem dX1_goesOn_65 : decode cX1_goesOn 65 = .ok (.iand, 1) := by decide +kernel
theorem dX1_goesOn_66 : decode cX1_goesOn 66 = .ok (.ifCond .ne 37, 3) := by decide +kernel
theorem dX1_goesOn_69 : decode cX1_goesOn 69 = .ok (.iload 6, 2) := by decide +kernel
theorem dX1_goesOn_71 : decode cX1_goesOn 71 = .ok (.iload_n 1, 1) := by decide +kernel
theorem dX1_goesOn_72 : decode cX1_goesOn 72 = .ok (.iand, 1) := by decide +kernel
theorem dX1_goesOn_73 : decode cX1_goesOn 73 = .ok (.ifCond .eq 6, 3) := by decide +kernel
theorem dX1_goesOn_76 : decode cX1_goesOn 76 = .ok (.goto 27, 3) := by decide +kernel
theorem dX1_goesOn_79 : decode cX1_goesOn 79 = .ok (.aload_n 0, 1) := by decide +kernel
theorem dX1_goesOn_80 : decode cX1_goesOn 80 = .ok (.iload_n 1, 1) := by decide +kernel
theorem dX1_goesOn_81 : decode cX1_goesOn 81 = .ok (.iload 6, 2) := by decide +kernel
theorem dX1_goesOn_83 : decode cX1_goesOn 83 = .ok (.ior, 1) := by decide +kernel
theorem dX1_goesOn_84 : decode cX1_goesOn 84 = .ok (.iconst 1, 1) := by decide +kernel
theorem dX1_goesOn_85 : decode cX1_goesOn 85 = .ok (.ishr, 1) := by decide +kernel
theorem dX1_goesOn_86 : decode cX1_goesOn 86 = .ok (.aload_n 0, 1) := by decide +kernel
theorem dX1_goesOn_87 : decode cX1_goesOn 87 = .ok (.getfield 11, 3) := by decide +kernel
theorem dX1_goesOn_90 : decode cX1_goesOn 90 = .ok (.iload_n 1, 1) := by decide +kernel
theorem dX1_goesOn_91 : decode cX1_goesOn 91 = .ok (.iaload, 1) := by decide +kernel
theorem dX1_goesOn_92 : decode cX1_goesOn 92 = .ok (.aload_n 0, 1) := by decide +kernel
theorem dX1_goesOn_93 : decode cX1_goesOn 93 = .ok (.getfield 15, 3) := by decide +kernel
theorem dX1_goesOn_96 : decode cX1_goesOn 96 = .ok (.iload_n 1, 1) := by decide +kernel
theorem dX1_goesOn_97 : decode cX1_goesOn 97 = .ok (.iaload, 1) := by decide +kernel
theorem dX1_goesOn_98 : decode cX1_goesOn 98 = .ok (.iconst 1, 1) := by decide +kernel
theorem dX1_goesOn_99 : decode cX1_goesOn 99 = .ok (.iadd, 1) := by decide +kernel
theorem dX1_goesOn_100 : decode cX1_goesOn 100 = .ok (.invokevirtual 27, 3) := by decide +kernel
theorem dX1_goesOn_103 : decode cX1_goesOn 103 = .ok (.iinc 4 1, 3) := by decide +kernel
theorem dX1_goesOn_106 : decode cX1_goesOn 106 = .ok (.goto (-69), 3) := by decide +kernel
theorem dX1_goesOn_109 : decode cX1_goesOn 109 = .ok (.return_, 1) := by decide +kernel
theorem dX1_comesTo_0 : decode cX1_comesTo 0 = .ok (.iload_n 1, 1) := by decide +kernel
theorem dX1_comesTo_1 : decode cX1_comesTo 1 = .ok (.ifCond .lt 9, 3) := by decide +kernel
theorem dX1_comesTo_4 : decode cX1_comesTo 4 = .ok (.iload_n 1, 1) := by decide +kernel
theorem dX1_comesTo_5 : decode cX1_comesTo 5 = .ok (.bipush 64, 2) := by decide +kernel
theorem dX1_comesTo_7 : decode cX1_comesTo 7 = .ok (.if_icmp .lt 4, 3) := by decide +kernel
theorem dX1_comesTo_10 : decode cX1_comesTo 10 = .ok (.return_, 1) := by decide +kernel
theorem dX1_comesTo_11 : decode cX1_comesTo 11 = .ok (.aload_n 0, 1) := by decide +kernel
theorem dX1_comesTo_12 : decode cX1_comesTo 12 = .ok (.getfield 18, 3) := by decide +kernel
theorem dX1_comesTo_15 : decode cX1_comesTo 15 = .ok (.iload_n 1, 1) := by decide +kernel
theorem dX1_comesTo_16 : decode cX1_comesTo 16 = .ok (.aload_n 0, 1) := by decide +kernel
theorem dX1_comesTo_17 : decode cX1_comesTo 17 = .ok (.getfield 18, 3) := by decide +kernel
theorem dX1_comesTo_20 : decode cX1_comesTo 20 = .ok (.iload_n 1, 1) := by decide +kernel
theorem dX1_comesTo_21 : decode cX1_comesTo 21 = .ok (.iaload, 1) := by decide +kernel
theorem dX1_comesTo_22 : decode cX1_comesTo 22 = .ok (.iload_n 2, 1) := by decide +kernel
theorem dX1_comesTo_23 : decode cX1_comesTo 23 = .ok (.iadd, 1) := by decide +kernel
theorem dX1_comesTo_24 : decode cX1_comesTo 24 = .ok (.ldc 43, 2) := by decide +kernel
theorem dX1_comesTo_26 : decode cX1_comesTo 26 = .ok (.irem, 1) := by decide +kernel
theorem dX1_comesTo_27 : decode cX1_comesTo 27 = .ok (.iastore, 1) := by decide +kernel
theorem dX1_comesTo_28 : decode cX1_comesTo 28 = .ok (.aload_n 0, 1) := by decide +kernel
theorem dX1_comesTo_29 : decode cX1_comesTo 29 = .ok (.getfield 21, 3) := by decide +kernel
theorem dX1_comesTo_32 : decode cX1_comesTo 32 = .ok (.iload_n 1, 1) := by decide +kernel
theorem dX1_comesTo_33 : decode cX1_comesTo 33 = .ok (.aload_n 0, 1) := by decide +kernel
theorem dX1_comesTo_34 : decode cX1_comesTo 34 = .ok (.getfield 21, 3) := by decide +kernel
theorem dX1_comesTo_37 : decode cX1_comesTo 37 = .ok (.iload_n 1, 1) := by decide +kernel
theorem dX1_comesTo_38 : decode cX1_comesTo 38 = .ok (.iaload, 1) := by decide +kernel
theorem dX1_comesTo_39 : decode cX1_comesTo 39 = .ok (.iload_n 3, 1) := by decide +kernel
theorem dX1_comesTo_40 : decode cX1_comesTo 40 = .ok (.invokestatic 44, 3) := by decide +kernel
theorem dX1_comesTo_43 : decode cX1_comesTo 43 = .ok (.iastore, 1) := by decide +kernel
theorem dX1_comesTo_44 : decode cX1_comesTo 44 = .ok (.return_, 1) := by decide +kernel
theorem dX1_steps_0 : decode cX1_steps 0 = .ok (.aload_n 0, 1) := by decide +kernel
theorem dX1_steps_1 : decode cX1_steps 1 = .ok (.getfield 11, 3) := by decide +kernel
theorem dX1_steps_4 : decode cX1_steps 4 = .ok (.astore_n 1, 1) := by decide +kernel
theorem dX1_steps_5 : decode cX1_steps 5 = .ok (.aload_n 0, 1) := by decide +kernel
theorem dX1_steps_6 : decode cX1_steps 6 = .ok (.getfield 15, 3) := by decide +kernel
theorem dX1_steps_9 : decode cX1_steps 9 = .ok (.astore_n 2, 1) := by decide +kernel
theorem dX1_steps_10 : decode cX1_steps 10 = .ok (.aload_n 0, 1) := by decide +kernel
theorem dX1_steps_11 : decode cX1_steps 11 = .ok (.aload_n 0, 1) := by decide +kernel
theorem dX1_steps_12 : decode cX1_steps 12 = .ok (.getfield 18, 3) := by decide +kernel
theorem dX1_steps_15 : decode cX1_steps 15 = .ok (.putfield 11, 3) := by decide +kernel
theorem dX1_steps_18 : decode cX1_steps 18 = .ok (.aload_n 0, 1) := by decide +kernel
theorem dX1_steps_19 : decode cX1_steps 19 = .ok (.aload_n 0, 1) := by decide +kernel
theorem dX1_steps_20 : decode cX1_steps 20 = .ok (.getfield 21, 3) := by decide +kernel
theorem dX1_steps_23 : decode cX1_steps 23 = .ok (.putfield 15, 3) := by decide +kernel
theorem dX1_steps_26 : decode cX1_steps 26 = .ok (.aload_n 0, 1) := by decide +kernel
theorem dX1_steps_27 : decode cX1_steps 27 = .ok (.aload_n 1, 1) := by decide +kernel
theorem dX1_steps_28 : decode cX1_steps 28 = .ok (.putfield 18, 3) := by decide +kernel
theorem dX1_steps_31 : decode cX1_steps 31 = .ok (.aload_n 0, 1) := by decide +kernel
theorem dX1_steps_32 : decode cX1_steps 32 = .ok (.aload_n 2, 1) := by decide +kernel
theorem dX1_steps_33 : decode cX1_steps 33 = .ok (.putfield 21, 3) := by decide +kernel
theorem dX1_steps_36 : decode cX1_steps 36 = .ok (.aload_n 0, 1) := by decide +kernel
theorem dX1_steps_37 : decode cX1_steps 37 = .ok (.invokevirtual 24, 3) := by decide +kernel
theorem dX1_steps_40 : decode cX1_steps 40 = .ok (.return_, 1) := by decide +kernel
theorem dX1_empties_0 : decode cX1_empties 0 = .ok (.iconst 0, 1) := by decide +kernel
theorem dX1_empties_1 : decode cX1_empties 1 = .ok (.istore_n 1, 1) := by decide +kernel
theorem dX1_empties_2 : decode cX1_empties 2 = .ok (.iload_n 1, 1) := by decide +kernel
theorem dX1_empties_3 : decode cX1_empties 3 = .ok (.bipush 64, 2) := by decide +kernel
theorem dX1_empties_5 : decode cX1_empties 5 = .ok (.if_icmp .ge 25, 3) := by decide +kernel
theorem dX1_empties_8 : decode cX1_empties 8 = .ok (.aload_n 0, 1) := by decide +kernel
theorem dX1_empties_9 : decode cX1_empties 9 = .ok (.getfield 18, 3) := by decide +kernel
theorem dX1_empties_12 : decode cX1_empties 12 = .ok (.iload_n 1, 1) := by decide +kernel
theorem dX1_empties_13 : decode cX1_empties 13 = .ok (.iconst 0, 1) := by decide +kernel
theorem dX1_empties_14 : decode cX1_empties 14 = .ok (.iastore, 1) := by decide +kernel
theorem dX1_empties_15 : decode cX1_empties 15 = .ok (.aload_n 0, 1) := by decide +kernel
theorem dX1_empties_16 : decode cX1_empties 16 = .ok (.getfield 21, 3) := by decide +kernel
theorem dX1_empties_19 : decode cX1_empties 19 = .ok (.iload_n 1, 1) := by decide +kernel
theorem dX1_empties_20 : decode cX1_empties 20 = .ok (.sipush 1000, 3) := by decide +kernel
theorem dX1_empties_23 : decode cX1_empties 23 = .ok (.iastore, 1) := by decide +kernel
theorem dX1_empties_24 : decode cX1_empties 24 = .ok (.iinc 1 1, 3) := by decide +kernel
theorem dX1_empties_27 : decode cX1_empties 27 = .ok (.goto (-25), 3) := by decide +kernel
theorem dX1_empties_30 : decode cX1_empties 30 = .ok (.return_, 1) := by decide +kernel
theorem dX2_cellsOf_0 : decode cX2_cellsOf 0 = .ok (.iload_n 0, 1) := by decide +kernel
theorem dX2_cellsOf_1 : decode cX2_cellsOf 1 = .ok (.ifCond .lt 15, 3) := by decide +kernel
theorem dX2_cellsOf_4 : decode cX2_cellsOf 4 = .ok (.iload_n 0, 1) := by decide +kernel
theorem dX2_cellsOf_5 : decode cX2_cellsOf 5 = .ok (.iconst 4, 1) := by decide +kernel
theorem dX2_cellsOf_6 : decode cX2_cellsOf 6 = .ok (.if_icmp .ge 10, 3) := by decide +kernel
theorem dX2_cellsOf_9 : decode cX2_cellsOf 9 = .ok (.iload_n 1, 1) := by decide +kernel
theorem dX2_cellsOf_10 : decode cX2_cellsOf 10 = .ok (.invokestatic 9, 3) := by decide +kernel
theorem dX2_cellsOf_13 : decode cX2_cellsOf 13 = .ok (.ifCond .ne 5, 3) := by decide +kernel
theorem dX2_cellsOf_16 : decode cX2_cellsOf 16 = .ok (.iconst 0, 1) := by decide +kernel
theorem dX2_cellsOf_17 : decode cX2_cellsOf 17 = .ok (.ireturn, 1) := by decide +kernel
theorem dX2_cellsOf_18 : decode cX2_cellsOf 18 = .ok (.iload_n 0, 1) := by decide +kernel
theorem dX2_cellsOf_19 : decode cX2_cellsOf 19 = .ok (.iconst 2, 1) := by decide +kernel
theorem dX2_cellsOf_20 : decode cX2_cellsOf 20 = .ok (.irem, 1) := by decide +kernel
theorem dX2_cellsOf_21 : decode cX2_cellsOf 21 = .ok (.iconst 1, 1) := by decide +kernel
theorem dX2_cellsOf_22 : decode cX2_cellsOf 22 = .ok (.if_icmp .ne 7, 3) := by decide +kernel
theorem dX2_cellsOf_25 : decode cX2_cellsOf 25 = .ok (.iconst 1, 1) := by decide +kernel
theorem dX2_cellsOf_26 : decode cX2_cellsOf 26 = .ok (.goto 4, 3) := by decide +kernel
theorem dX2_cellsOf_29 : decode cX2_cellsOf 29 = .ok (.iconst 0, 1) := by decide +kernel
theorem dX2_cellsOf_30 : decode cX2_cellsOf 30 = .ok (.istore_n 2, 1) := by decide +kernel
theorem dX2_cellsOf_31 : decode cX2_cellsOf 31 = .ok (.iload_n 0, 1) := by decide +kernel
theorem dX2_cellsOf_32 : decode cX2_cellsOf 32 = .ok (.iconst 2, 1) := by decide +kernel
theorem dX2_cellsOf_33 : decode cX2_cellsOf 33 = .ok (.if_icmp .lt 7, 3) := by decide +kernel
theorem dX2_cellsOf_36 : decode cX2_cellsOf 36 = .ok (.iconst 1, 1) := by decide +kernel
theorem dX2_cellsOf_37 : decode cX2_cellsOf 37 = .ok (.goto 4, 3) := by decide +kernel
theorem dX2_cellsOf_40 : decode cX2_cellsOf 40 = .ok (.iconst 0, 1) := by decide +kernel
theorem dX2_cellsOf_41 : decode cX2_cellsOf 41 = .ok (.istore_n 3, 1) := by decide +kernel
theorem dX2_cellsOf_42 : decode cX2_cellsOf 42 = .ok (.iload_n 2, 1) := by decide +kernel
theorem dX2_cellsOf_43 : decode cX2_cellsOf 43 = .ok (.ifCond .eq 12, 3) := by decide +kernel
theorem dX2_cellsOf_46 : decode cX2_cellsOf 46 = .ok (.iload_n 1, 1) := by decide +kernel
theorem dX2_cellsOf_47 : decode cX2_cellsOf 47 = .ok (.iconst 5, 1) := by decide +kernel
theorem dX2_cellsOf_48 : decode cX2_cellsOf 48 = .ok (.irem, 1) := by decide +kernel
theorem dX2_cellsOf_49 : decode cX2_cellsOf 49 = .ok (.iconst 4, 1) := by decide +kernel
theorem dX2_cellsOf_50 : decode cX2_cellsOf 50 = .ok (.if_icmp .ne 5, 3) := by decide +kernel
theorem dX2_cellsOf_53 : decode cX2_cellsOf 53 = .ok (.iconst 0, 1) := by decide +kernel
theorem dX2_cellsOf_54 : decode cX2_cellsOf 54 = .ok (.ireturn, 1) := by decide +kernel
theorem dX2_cellsOf_55 : decode cX2_cellsOf 55 = .ok (.iload_n 3, 1) := by decide +kernel
theorem dX2_cellsOf_56 : decode cX2_cellsOf 56 = .ok (.ifCond .eq 12, 3) := by decide +kernel
theorem dX2_cellsOf_59 : decode cX2_cellsOf 59 = .ok (.iload_n 1, 1) := by decide +kernel
theorem dX2_cellsOf_60 : decode cX2_cellsOf 60 = .ok (.iconst 5, 1) := by decide +kernel
theorem dX2_cellsOf_61 : decode cX2_cellsOf 61 = .ok (.idiv, 1) := by decide +kernel
theorem dX2_cellsOf_62 : decode cX2_cellsOf 62 = .ok (.iconst 4, 1) := by decide +kernel
theorem dX2_cellsOf_63 : decode cX2_cellsOf 63 = .ok (.if_icmp .ne 5, 3) := by decide +kernel
theorem dX2_cellsOf_66 : decode cX2_cellsOf 66 = .ok (.iconst 0, 1) := by decide +kernel
theorem dX2_cellsOf_67 : decode cX2_cellsOf 67 = .ok (.ireturn, 1) := by decide +kernel
theorem dX2_cellsOf_68 : decode cX2_cellsOf 68 = .ok (.iconst 1, 1) := by decide +kernel
theorem dX2_cellsOf_69 : decode cX2_cellsOf 69 = .ok (.istore 4, 2) := by decide +kernel
theorem dX2_cellsOf_71 : decode cX2_cellsOf 71 = .ok (.iload_n 2, 1) := by decide +kernel
theorem dX2_cellsOf_72 : decode cX2_cellsOf 72 = .ok (.ifCond .eq 12, 3) := by decide +kernel
theorem dX2_cellsOf_75 : decode cX2_cellsOf 75 = .ok (.iload 4, 2) := by decide +kernel
theorem dX2_cellsOf_77 : decode cX2_cellsOf 77 = .ok (.iload 4, 2) := by decide +kernel
theorem dX2_cellsOf_79 : decode cX2_cellsOf 79 = .ok (.iconst 1, 1) := by decide +kernel
theorem dX2_cellsOf_80 : decode cX2_cellsOf 80 = .ok (.ishl, 1) := by decide +kernel
theorem dX2_cellsOf_81 : decode cX2_cellsOf 81 = .ok (.ior, 1) := by decide +kernel
theorem dX2_cellsOf_82 : decode cX2_cellsOf 82 = .ok (.istore 4, 2) := by decide +kernel
theorem dX2_cellsOf_84 : decode cX2_cellsOf 84 = .ok (.iload_n 3, 1) := by decide +kernel
theorem dX2_cellsOf_85 : decode cX2_cellsOf 85 = .ok (.ifCond .eq 12, 3) := by decide +kernel
theorem dX2_cellsOf_88 : decode cX2_cellsOf 88 = .ok (.iload 4, 2) := by decide +kernel
theorem dX2_cellsOf_90 : decode cX2_cellsOf 90 = .ok (.iload 4, 2) := by decide +kernel
theorem dX2_cellsOf_92 : decode cX2_cellsOf 92 = .ok (.iconst 5, 1) := by decide +kernel
theorem dX2_cellsOf_93 : decode cX2_cellsOf 93 = .ok (.ishl, 1) := by decide +kernel
theorem dX2_cellsOf_94 : decode cX2_cellsOf 94 = .ok (.ior, 1) := by decide +kernel
theorem dX2_cellsOf_95 : decode cX2_cellsOf 95 = .ok (.istore 4, 2) := by decide +kernel
theorem dX2_cellsOf_97 : decode cX2_cellsOf 97 = .ok (.iload 4, 2) := by decide +kernel
theorem dX2_cellsOf_99 : decode cX2_cellsOf 99 = .ok (.iload_n 1, 1) := by decide +kernel
theorem dX2_cellsOf_100 : decode cX2_cellsOf 100 = .ok (.ishl, 1) := by decide +kernel
theorem dX2_cellsOf_101 : decode cX2_cellsOf 101 = .ok (.ireturn, 1) := by decide +kernel
theorem dX2_behind_0 : decode cX2_behind 0 = .ok (.iload_n 0, 1) := by decide +kernel
theorem dX2_behind_1 : decode cX2_behind 1 = .ok (.ifCond .ge 5, 3) := by decide +kernel
theorem dX2_behind_4 : decode cX2_behind 4 = .ok (.iload_n 1, 1) := by decide +kernel
theorem dX2_behind_5 : decode cX2_behind 5 = .ok (.ireturn, 1) := by decide +kernel
theorem dX2_behind_6 : decode cX2_behind 6 = .ok (.iload_n 0, 1) := by decide +kernel
theorem dX2_behind_7 : decode cX2_behind 7 = .ok (.bipush 25, 2) := by decide +kernel
theorem dX2_behind_9 : decode cX2_behind 9 = .ok (.idiv, 1) := by decide +kernel
theorem dX2_behind_10 : decode cX2_behind 10 = .ok (.iload_n 0, 1) := by decide +kernel
theorem dX2_behind_11 : decode cX2_behind 11 = .ok (.bipush 25, 2) := by decide +kernel
theorem dX2_behind_13 : decode cX2_behind 13 = .ok (.irem, 1) := by decide +kernel
theorem dX2_behind_14 : decode cX2_behind 14 = .ok (.invokestatic 13, 3) := by decide +kernel
theorem dX2_behind_17 : decode cX2_behind 17 = .ok (.istore_n 2, 1) := by decide +kernel
theorem dX2_behind_18 : decode cX2_behind 18 = .ok (.iload_n 1, 1) := by decide +kernel
theorem dX2_behind_19 : decode cX2_behind 19 = .ok (.iload_n 2, 1) := by decide +kernel
theorem dX2_behind_20 : decode cX2_behind 20 = .ok (.iand, 1) := by decide +kernel
theorem dX2_behind_21 : decode cX2_behind 21 = .ok (.iload_n 2, 1) := by decide +kernel
theorem dX2_behind_22 : decode cX2_behind 22 = .ok (.if_icmp .ne 11, 3) := by decide +kernel
theorem dX2_behind_25 : decode cX2_behind 25 = .ok (.iload_n 1, 1) := by decide +kernel
theorem dX2_behind_26 : decode cX2_behind 26 = .ok (.iload_n 2, 1) := by decide +kernel
theorem dX2_behind_27 : decode cX2_behind 27 = .ok (.iconst (-1), 1) := by decide +kernel
theorem dX2_behind_28 : decode cX2_behind 28 = .ok (.ixor, 1) := by decide +kernel
theorem dX2_behind_29 : decode cX2_behind 29 = .ok (.iand, 1) := by decide +kernel
theorem dX2_behind_30 : decode cX2_behind 30 = .ok (.goto 4, 3) := by decide +kernel
theorem dX2_behind_33 : decode cX2_behind 33 = .ok (.iload_n 1, 1) := by decide +kernel
theorem dX2_behind_34 : decode cX2_behind 34 = .ok (.ireturn, 1) := by decide +kernel
theorem dX2_besides_0 : decode cX2_besides 0 = .ok (.iload_n 0, 1) := by decide +kernel
theorem dX2_besides_1 : decode cX2_besides 1 = .ok (.ldc 19, 2) := by decide +kernel
theorem dX2_besides_3 : decode cX2_besides 3 = .ok (.iand, 1) := by decide +kernel
theorem dX2_besides_4 : decode cX2_besides 4 = .ok (.iconst 1, 1) := by decide +kernel
theorem dX2_besides_5 : decode cX2_besides 5 = .ok (.ishr, 1) := by decide +kernel
theorem dX2_besides_6 : decode cX2_besides 6 = .ok (.iload_n 0, 1) := by decide +kernel
theorem dX2_besides_7 : decode cX2_besides 7 = .ok (.ldc 20, 2) := by decide +kernel
theorem dX2_besides_9 : decode cX2_besides 9 = .ok (.iand, 1) := by decide +kernel
theorem dX2_besides_10 : decode cX2_besides 10 = .ok (.iconst 1, 1) := by decide +kernel
theorem dX2_besides_11 : decode cX2_besides 11 = .ok (.ishl, 1) := by decide +kernel
theorem dX2_besides_12 : decode cX2_besides 12 = .ok (.ior, 1) := by decide +kernel
theorem dX2_besides_13 : decode cX2_besides 13 = .ok (.istore_n 1, 1) := by decide +kernel
theorem dX2_besides_14 : decode cX2_besides 14 = .ok (.iload_n 1, 1) := by decide +kernel
theorem dX2_besides_15 : decode cX2_besides 15 = .ok (.iload_n 0, 1) := by decide +kernel
theorem dX2_besides_16 : decode cX2_besides 16 = .ok (.iconst 5, 1) := by decide +kernel
theorem dX2_besides_17 : decode cX2_besides 17 = .ok (.ishr, 1) := by decide +kernel
theorem dX2_besides_18 : decode cX2_besides 18 = .ok (.ior, 1) := by decide +kernel
theorem dX2_besides_19 : decode cX2_besides 19 = .ok (.iload_n 0, 1) := by decide +kernel
theorem dX2_besides_20 : decode cX2_besides 20 = .ok (.iconst 5, 1) := by decide +kernel
theorem dX2_besides_21 : decode cX2_besides 21 = .ok (.ishl, 1) := by decide +kernel
theorem dX2_besides_22 : decode cX2_besides 22 = .ok (.ldc 21, 2) := by decide +kernel
theorem dX2_besides_24 : decode cX2_besides 24 = .ok (.iand, 1) := by decide +kernel
theorem dX2_besides_25 : decode cX2_besides 25 = .ok (.ior, 1) := by decide +kernel
theorem dX2_besides_26 : decode cX2_besides 26 = .ok (.ireturn, 1) := by decide +kernel
theorem dX2_heapOf_0 : decode cX2_heapOf 0 = .ok (.iload_n 0, 1) := by decide +kernel
theorem dX2_heapOf_1 : decode cX2_heapOf 1 = .ok (.iload_n 1, 1) := by decide +kernel
theorem dX2_heapOf_2 : decode cX2_heapOf 2 = .ok (.iand, 1) := by decide +kernel
theorem dX2_heapOf_3 : decode cX2_heapOf 3 = .ok (.istore_n 2, 1) := by decide +kernel
theorem dX2_heapOf_4 : decode cX2_heapOf 4 = .ok (.iconst 0, 1) := by decide +kernel
theorem dX2_heapOf_5 : decode cX2_heapOf 5 = .ok (.istore_n 3, 1) := by decide +kernel
theorem dX2_heapOf_6 : decode cX2_heapOf 6 = .ok (.iload_n 3, 1) := by decide +kernel
theorem dX2_heapOf_7 : decode cX2_heapOf 7 = .ok (.bipush 25, 2) := by decide +kernel
theorem dX2_heapOf_9 : decode cX2_heapOf 9 = .ok (.if_icmp .ge 30, 3) := by decide +kernel
theorem dX2_heapOf_12 : decode cX2_heapOf 12 = .ok (.iload_n 2, 1) := by decide +kernel
theorem dX2_heapOf_13 : decode cX2_heapOf 13 = .ok (.iload_n 2, 1) := by decide +kernel
theorem dX2_heapOf_14 : decode cX2_heapOf 14 = .ok (.invokestatic 22, 3) := by decide +kernel
theorem dX2_heapOf_17 : decode cX2_heapOf 17 = .ok (.iload_n 1, 1) := by decide +kernel
theorem dX2_heapOf_18 : decode cX2_heapOf 18 = .ok (.iand, 1) := by decide +kernel
theorem dX2_heapOf_19 : decode cX2_heapOf 19 = .ok (.ior, 1) := by decide +kernel
theorem dX2_heapOf_20 : decode cX2_heapOf 20 = .ok (.istore 4, 2) := by decide +kernel
theorem dX2_heapOf_22 : decode cX2_heapOf 22 = .ok (.iload 4, 2) := by decide +kernel
theorem dX2_heapOf_24 : decode cX2_heapOf 24 = .ok (.iload_n 2, 1) := by decide +kernel
theorem dX2_heapOf_25 : decode cX2_heapOf 25 = .ok (.if_icmp .ne 5, 3) := by decide +kernel
theorem dX2_heapOf_28 : decode cX2_heapOf 28 = .ok (.iload_n 2, 1) := by decide +kernel
theorem dX2_heapOf_29 : decode cX2_heapOf 29 = .ok (.ireturn, 1) := by decide +kernel
theorem dX2_heapOf_30 : decode cX2_heapOf 30 = .ok (.iload 4, 2) := by decide +kernel
theorem dX2_heapOf_32 : decode cX2_heapOf 32 = .ok (.istore_n 2, 1) := by decide +kernel
theorem dX2_heapOf_33 : decode cX2_heapOf 33 = .ok (.iinc 3 1, 3) := by decide +kernel
theorem dX2_heapOf_36 : decode cX2_heapOf 36 = .ok (.goto (-30), 3) := by decide +kernel
theorem dX2_heapOf_39 : decode cX2_heapOf 39 = .ok (.iload_n 2, 1) := by decide +kernel
theorem dX2_heapOf_40 : decode cX2_heapOf 40 = .ok (.ireturn, 1) := by decide +kernel
theorem dX2_heapsOf_0 : decode cX2_heapsOf 0 = .ok (.iconst 0, 1) := by decide +kernel
theorem dX2_heapsOf_1 : decode cX2_heapsOf 1 = .ok (.istore_n 1, 1) := by decide +kernel
theorem dX2_heapsOf_2 : decode cX2_heapsOf 2 = .ok (.iload_n 0, 1) := by decide +kernel
theorem dX2_heapsOf_3 : decode cX2_heapsOf 3 = .ok (.istore_n 2, 1) := by decide +kernel
theorem dX2_heapsOf_4 : decode cX2_heapsOf 4 = .ok (.iconst 0, 1) := by decide +kernel
theorem dX2_heapsOf_5 : decode cX2_heapsOf 5 = .ok (.istore_n 3, 1) := by decide +kernel
theorem dX2_heapsOf_6 : decode cX2_heapsOf 6 = .ok (.iload_n 3, 1) := by decide +kernel
theorem dX2_heapsOf_7 : decode cX2_heapsOf 7 = .ok (.bipush 25, 2) := by decide +kernel
theorem dX2_heapsOf_9 : decode cX2_heapsOf 9 = .ok (.if_icmp .ge 29, 3) := by decide +kernel
theorem dX2_heapsOf_12 : decode cX2_heapsOf 12 = .ok (.iload_n 2, 1) := by decide +kernel
theorem dX2_heapsOf_13 : decode cX2_heapsOf 13 = .ok (.ifCond .eq 25, 3) := by decide +kernel
theorem dX2_heapsOf_16 : decode cX2_heapsOf 16 = .ok (.iload_n 2, 1) := by decide +kernel
theorem dX2_heapsOf_17 : decode cX2_heapsOf 17 = .ok (.iload_n 2, 1) := by decide +kernel
theorem dX2_heapsOf_18 : decode cX2_heapsOf 18 = .ok (.iload_n 2, 1) := by decide +kernel
theorem dX2_heapsOf_19 : decode cX2_heapsOf 19 = .ok (.ineg, 1) := by decide +kernel
theorem dX2_heapsOf_20 : decode cX2_heapsOf 20 = .ok (.iand, 1) := by decide +kernel
theorem dX2_heapsOf_21 : decode cX2_heapsOf 21 = .ok (.iload_n 2, 1) := by decide +kernel
theorem dX2_heapsOf_22 : decode cX2_heapsOf 22 = .ok (.invokestatic 26, 3) := by decide +kernel
theorem dX2_heapsOf_25 : decode cX2_heapsOf 25 = .ok (.iconst (-1), 1) := by decide +kernel
theorem dX2_heapsOf_26 : decode cX2_heapsOf 26 = .ok (.ixor, 1) := by decide +kernel
theorem dX2_heapsOf_27 : decode cX2_heapsOf 27 = .ok (.iand, 1) := by decide +kernel
theorem dX2_heapsOf_28 : decode cX2_heapsOf 28 = .ok (.istore_n 2, 1) := by decide +kernel
theorem dX2_heapsOf_29 : decode cX2_heapsOf 29 = .ok (.iinc 1 1, 3) := by decide +kernel
theorem dX2_heapsOf_32 : decode cX2_heapsOf 32 = .ok (.iinc 3 1, 3) := by decide +kernel
theorem dX2_heapsOf_35 : decode cX2_heapsOf 35 = .ok (.goto (-29), 3) := by decide +kernel
theorem dX2_heapsOf_38 : decode cX2_heapsOf 38 = .ok (.iload_n 1, 1) := by decide +kernel
theorem dX2_heapsOf_39 : decode cX2_heapsOf 39 = .ok (.ireturn, 1) := by decide +kernel
theorem dX2_holesOf_0 : decode cX2_holesOf 0 = .ok (.iconst 0, 1) := by decide +kernel
theorem dX2_holesOf_1 : decode cX2_holesOf 1 = .ok (.istore_n 1, 1) := by decide +kernel
theorem dX2_holesOf_2 : decode cX2_holesOf 2 = .ok (.ldc 21, 2) := by decide +kernel
theorem dX2_holesOf_4 : decode cX2_holesOf 4 = .ok (.iload_n 0, 1) := by decide +kernel
theorem dX2_holesOf_5 : decode cX2_holesOf 5 = .ok (.iconst (-1), 1) := by decide +kernel
theorem dX2_holesOf_6 : decode cX2_holesOf 6 = .ok (.ixor, 1) := by decide +kernel
theorem dX2_holesOf_7 : decode cX2_holesOf 7 = .ok (.iand, 1) := by decide +kernel
theorem dX2_holesOf_8 : decode cX2_holesOf 8 = .ok (.istore_n 2, 1) := by decide +kernel
theorem dX2_holesOf_9 : decode cX2_holesOf 9 = .ok (.iconst 0, 1) := by decide +kernel
theorem dX2_holesOf_10 : decode cX2_holesOf 10 = .ok (.istore_n 3, 1) := by decide +kernel
theorem dX2_holesOf_11 : decode cX2_holesOf 11 = .ok (.iload_n 3, 1) := by decide +kernel
theorem dX2_holesOf_12 : decode cX2_holesOf 12 = .ok (.bipush 25, 2) := by decide +kernel
theorem dX2_holesOf_14 : decode cX2_holesOf 14 = .ok (.if_icmp .ge 41, 3) := by decide +kernel
theorem dX2_holesOf_17 : decode cX2_holesOf 17 = .ok (.iload_n 2, 1) := by decide +kernel
theorem dX2_holesOf_18 : decode cX2_holesOf 18 = .ok (.ifCond .eq 37, 3) := by decide +kernel
theorem dX2_holesOf_21 : decode cX2_holesOf 21 = .ok (.iload_n 2, 1) := by decide +kernel
theorem dX2_holesOf_22 : decode cX2_holesOf 22 = .ok (.iload_n 2, 1) := by decide +kernel
theorem dX2_holesOf_23 : decode cX2_holesOf 23 = .ok (.ineg, 1) := by decide +kernel
theorem dX2_holesOf_24 : decode cX2_holesOf 24 = .ok (.iand, 1) := by decide +kernel
theorem dX2_holesOf_25 : decode cX2_holesOf 25 = .ok (.iload_n 2, 1) := by decide +kernel
theorem dX2_holesOf_26 : decode cX2_holesOf 26 = .ok (.invokestatic 26, 3) := by decide +kernel
theorem dX2_holesOf_29 : decode cX2_holesOf 29 = .ok (.istore 4, 2) := by decide +kernel
theorem dX2_holesOf_31 : decode cX2_holesOf 31 = .ok (.iload 4, 2) := by decide +kernel
theorem dX2_holesOf_33 : decode cX2_holesOf 33 = .ok (.ldc 29, 2) := by decide +kernel
theorem dX2_holesOf_35 : decode cX2_holesOf 35 = .ok (.iand, 1) := by decide +kernel
theorem dX2_holesOf_36 : decode cX2_holesOf 36 = .ok (.ifCond .ne 6, 3) := by decide +kernel
theorem dX2_holesOf_39 : decode cX2_holesOf 39 = .ok (.iinc 1 1, 3) := by decide +kernel
theorem dX2_holesOf_42 : decode cX2_holesOf 42 = .ok (.iload_n 2, 1) := by decide +kernel
theorem dX2_holesOf_43 : decode cX2_holesOf 43 = .ok (.iload 4, 2) := by decide +kernel
theorem dX2_holesOf_45 : decode cX2_holesOf 45 = .ok (.iconst (-1), 1) := by decide +kernel
theorem dX2_holesOf_46 : decode cX2_holesOf 46 = .ok (.ixor, 1) := by decide +kernel
theorem dX2_holesOf_47 : decode cX2_holesOf 47 = .ok (.iand, 1) := by decide +kernel
theorem dX2_holesOf_48 : decode cX2_holesOf 48 = .ok (.istore_n 2, 1) := by decide +kernel
theorem dX2_holesOf_49 : decode cX2_holesOf 49 = .ok (.iinc 3 1, 3) := by decide +kernel
theorem dX2_holesOf_52 : decode cX2_holesOf 52 = .ok (.goto (-41), 3) := by decide +kernel
theorem dX2_holesOf_55 : decode cX2_holesOf 55 = .ok (.iload_n 1, 1) := by decide +kernel
theorem dX2_holesOf_56 : decode cX2_holesOf 56 = .ok (.ireturn, 1) := by decide +kernel
theorem dX2_openSides_0 : decode cX2_openSides 0 = .ok (.iload_n 0, 1) := by decide +kernel
theorem dX2_openSides_1 : decode cX2_openSides 1 = .ok (.ldc 20, 2) := by decide +kernel
theorem dX2_openSides_3 : decode cX2_openSides 3 = .ok (.iand, 1) := by decide +kernel
theorem dX2_openSides_4 : decode cX2_openSides 4 = .ok (.iconst 1, 1) := by decide +kernel
theorem dX2_openSides_5 : decode cX2_openSides 5 = .ok (.ishl, 1) := by decide +kernel
theorem dX2_openSides_6 : decode cX2_openSides 6 = .ok (.iload_n 0, 1) := by decide +kernel
theorem dX2_openSides_7 : decode cX2_openSides 7 = .ok (.iand, 1) := by decide +kernel
theorem dX2_openSides_8 : decode cX2_openSides 8 = .ok (.istore_n 1, 1) := by decide +kernel
theorem dX2_openSides_9 : decode cX2_openSides 9 = .ok (.iload_n 0, 1) := by decide +kernel
theorem dX2_openSides_10 : decode cX2_openSides 10 = .ok (.iconst 5, 1) := by decide +kernel
theorem dX2_openSides_11 : decode cX2_openSides 11 = .ok (.ishl, 1) := by decide +kernel
theorem dX2_openSides_12 : decode cX2_openSides 12 = .ok (.iload_n 0, 1) := by decide +kernel
theorem dX2_openSides_13 : decode cX2_openSides 13 = .ok (.iand, 1) := by decide +kernel
theorem dX2_openSides_14 : decode cX2_openSides 14 = .ok (.istore_n 2, 1) := by decide +kernel
theorem dX2_openSides_15 : decode cX2_openSides 15 = .ok (.iconst 4, 1) := by decide +kernel
theorem dX2_openSides_16 : decode cX2_openSides 16 = .ok (.iload_n 0, 1) := by decide +kernel
theorem dX2_openSides_17 : decode cX2_openSides 17 = .ok (.invokestatic 30, 3) := by decide +kernel
theorem dX2_openSides_20 : decode cX2_openSides 20 = .ok (.imul, 1) := by decide +kernel
theorem dX2_openSides_21 : decode cX2_openSides 21 = .ok (.iconst 2, 1) := by decide +kernel
theorem dX2_openSides_22 : decode cX2_openSides 22 = .ok (.iload_n 1, 1) := by decide +kernel
theorem dX2_openSides_23 : decode cX2_openSides 23 = .ok (.invokestatic 30, 3) := by decide +kernel
theorem dX2_openSides_26 : decode cX2_openSides 26 = .ok (.iload_n 2, 1) := by decide +kernel
theorem dX2_openSides_27 : decode cX2_openSides 27 = .ok (.invokestatic 30, 3) := by decide +kernel
theorem dX2_openSides_30 : decode cX2_openSides 30 = .ok (.iadd, 1) := by decide +kernel
theorem dX2_openSides_31 : decode cX2_openSides 31 = .ok (.imul, 1) := by decide +kernel
theorem dX2_openSides_32 : decode cX2_openSides 32 = .ok (.isub, 1) := by decide +kernel
theorem dX2_openSides_33 : decode cX2_openSides 33 = .ok (.ireturn, 1) := by decide +kernel
theorem dX2_turned_0 : decode cX2_turned 0 = .ok (.iconst 0, 1) := by decide +kernel
theorem dX2_turned_1 : decode cX2_turned 1 = .ok (.istore_n 1, 1) := by decide +kernel
theorem dX2_turned_2 : decode cX2_turned 2 = .ok (.iconst 0, 1) := by decide +kernel
theorem dX2_turned_3 : decode cX2_turned 3 = .ok (.istore_n 2, 1) := by decide +kernel
theorem dX2_turned_4 : decode cX2_turned 4 = .ok (.iload_n 2, 1) := by decide +kernel
theorem dX2_turned_5 : decode cX2_turned 5 = .ok (.bipush 25, 2) := by decide +kernel
theorem dX2_turned_7 : decode cX2_turned 7 = .ok (.if_icmp .ge 33, 3) := by decide +kernel
theorem dX2_turned_10 : decode cX2_turned 10 = .ok (.iload_n 2, 1) := by decide +kernel
theorem dX2_turned_11 : decode cX2_turned 11 = .ok (.iconst 5, 1) := by decide +kernel
theorem dX2_turned_12 : decode cX2_turned 12 = .ok (.irem, 1) := by decide +kernel
theorem dX2_turned_13 : decode cX2_turned 13 = .ok (.iconst 5, 1) := by decide +kernel
theorem dX2_turned_14 : decode cX2_turned 14 = .ok (.imul, 1) := by decide +kernel
theorem dX2_turned_15 : decode cX2_turned 15 = .ok (.iconst 5, 1) := by decide +kernel
theorem dX2_turned_16 : decode cX2_turned 16 = .ok (.iadd, 1) := by decide +kernel
theorem dX2_turned_17 : decode cX2_turned 17 = .ok (.iconst 1, 1) := by decide +kernel
theorem dX2_turned_18 : decode cX2_turned 18 = .ok (.isub, 1) := by decide +kernel
theorem dX2_turned_19 : decode cX2_turned 19 = .ok (.iload_n 2, 1) := by decide +kernel
theorem dX2_turned_20 : decode cX2_turned 20 = .ok (.iconst 5, 1) := by decide +kernel
theorem dX2_turned_21 : decode cX2_turned 21 = .ok (.idiv, 1) := by decide +kernel
theorem dX2_turned_22 : decode cX2_turned 22 = .ok (.isub, 1) := by decide +kernel
theorem dX2_turned_23 : decode cX2_turned 23 = .ok (.istore_n 3, 1) := by decide +kernel
theorem dX2_turned_24 : decode cX2_turned 24 = .ok (.iload_n 1, 1) := by decide +kernel
theorem dX2_turned_25 : decode cX2_turned 25 = .ok (.iload_n 0, 1) := by decide +kernel
theorem dX2_turned_26 : decode cX2_turned 26 = .ok (.iload_n 2, 1) := by decide +kernel
theorem dX2_turned_27 : decode cX2_turned 27 = .ok (.ishr, 1) := by decide +kernel
theorem dX2_turned_28 : decode cX2_turned 28 = .ok (.iconst 1, 1) := by decide +kernel
theorem dX2_turned_29 : decode cX2_turned 29 = .ok (.iand, 1) := by decide +kernel
theorem dX2_turned_30 : decode cX2_turned 30 = .ok (.iload_n 3, 1) := by decide +kernel
theorem dX2_turned_31 : decode cX2_turned 31 = .ok (.ishl, 1) := by decide +kernel
theorem dX2_turned_32 : decode cX2_turned 32 = .ok (.ior, 1) := by decide +kernel
theorem dX2_turned_33 : decode cX2_turned 33 = .ok (.istore_n 1, 1) := by decide +kernel
theorem dX2_turned_34 : decode cX2_turned 34 = .ok (.iinc 2 1, 3) := by decide +kernel
theorem dX2_turned_37 : decode cX2_turned 37 = .ok (.goto (-33), 3) := by decide +kernel
theorem dX2_turned_40 : decode cX2_turned 40 = .ok (.iload_n 1, 1) := by decide +kernel
theorem dX2_turned_41 : decode cX2_turned 41 = .ok (.ireturn, 1) := by decide +kernel
theorem dX2_leastCell_0 : decode cX2_leastCell 0 = .ok (.iload_n 0, 1) := by decide +kernel
theorem dX2_leastCell_1 : decode cX2_leastCell 1 = .ok (.iload_n 0, 1) := by decide +kernel
theorem dX2_leastCell_2 : decode cX2_leastCell 2 = .ok (.ineg, 1) := by decide +kernel
theorem dX2_leastCell_3 : decode cX2_leastCell 3 = .ok (.iand, 1) := by decide +kernel
theorem dX2_leastCell_4 : decode cX2_leastCell 4 = .ok (.iconst 1, 1) := by decide +kernel
theorem dX2_leastCell_5 : decode cX2_leastCell 5 = .ok (.isub, 1) := by decide +kernel
theorem dX2_leastCell_6 : decode cX2_leastCell 6 = .ok (.invokestatic 30, 3) := by decide +kernel
theorem dX2_leastCell_9 : decode cX2_leastCell 9 = .ok (.ireturn, 1) := by decide +kernel
theorem dX2_middleOf_0 : decode cX2_middleOf 0 = .ok (.bipush (-9), 2) := by decide +kernel
theorem dX2_middleOf_2 : decode cX2_middleOf 2 = .ok (.istore_n 1, 1) := by decide +kernel
theorem dX2_middleOf_3 : decode cX2_middleOf 3 = .ok (.iconst 0, 1) := by decide +kernel
theorem dX2_middleOf_4 : decode cX2_middleOf 4 = .ok (.istore_n 2, 1) := by decide +kernel
theorem dX2_middleOf_5 : decode cX2_middleOf 5 = .ok (.iconst 0, 1) := by decide +kernel
theorem dX2_middleOf_6 : decode cX2_middleOf 6 = .ok (.istore_n 3, 1) := by decide +kernel
theorem dX2_middleOf_7 : decode cX2_middleOf 7 = .ok (.iload_n 3, 1) := by decide +kernel
theorem dX2_middleOf_8 : decode cX2_middleOf 8 = .ok (.bipush 25, 2) := by decide +kernel
theorem dX2_middleOf_10 : decode cX2_middleOf 10 = .ok (.if_icmp .ge 44, 3) := by decide +kernel
theorem dX2_middleOf_13 : decode cX2_middleOf 13 = .ok (.iload_n 0, 1) := by decide +kernel
theorem dX2_middleOf_14 : decode cX2_middleOf 14 = .ok (.iconst 1, 1) := by decide +kernel
theorem dX2_middleOf_15 : decode cX2_middleOf 15 = .ok (.iload_n 3, 1) := by decide +kernel
theorem dX2_middleOf_16 : decode cX2_middleOf 16 = .ok (.ishl, 1) := by decide +kernel
theorem dX2_middleOf_17 : decode cX2_middleOf 17 = .ok (.iand, 1) := by decide +kernel
theorem dX2_middleOf_18 : decode cX2_middleOf 18 = .ok (.ifCond .ne 6, 3) := by decide +kernel
theorem dX2_middleOf_21 : decode cX2_middleOf 21 = .ok (.goto 27, 3) := by decide +kernel
theorem dX2_middleOf_24 : decode cX2_middleOf 24 = .ok (.iload_n 3, 1) := by decide +kernel
theorem dX2_middleOf_25 : decode cX2_middleOf 25 = .ok (.iload_n 0, 1) := by decide +kernel
theorem dX2_middleOf_26 : decode cX2_middleOf 26 = .ok (.invokestatic 35, 3) := by decide +kernel
theorem dX2_middleOf_29 : decode cX2_middleOf 29 = .ok (.istore 4, 2) := by decide +kernel
theorem dX2_middleOf_31 : decode cX2_middleOf 31 = .ok (.iload_n 1, 1) := by decide +kernel
theorem dX2_middleOf_32 : decode cX2_middleOf 32 = .ok (.bipush (-9), 2) := by decide +kernel
theorem dX2_middleOf_34 : decode cX2_middleOf 34 = .ok (.if_icmp .eq 9, 3) := by decide +kernel
theorem dX2_middleOf_37 : decode cX2_middleOf 37 = .ok (.iload 4, 2) := by decide +kernel
theorem dX2_middleOf_39 : decode cX2_middleOf 39 = .ok (.iload_n 2, 1) := by decide +kernel
theorem dX2_middleOf_40 : decode cX2_middleOf 40 = .ok (.if_icmp .ge 8, 3) := by decide +kernel
theorem dX2_middleOf_43 : decode cX2_middleOf 43 = .ok (.iload_n 3, 1) := by decide +kernel
theorem dX2_middleOf_44 : decode cX2_middleOf 44 = .ok (.istore_n 1, 1) := by decide +kernel
theorem dX2_middleOf_45 : decode cX2_middleOf 45 = .ok (.iload 4, 2) := by decide +kernel
theorem dX2_middleOf_47 : decode cX2_middleOf 47 = .ok (.istore_n 2, 1) := by decide +kernel
theorem dX2_middleOf_48 : decode cX2_middleOf 48 = .ok (.iinc 3 1, 3) := by decide +kernel
theorem dX2_middleOf_51 : decode cX2_middleOf 51 = .ok (.goto (-44), 3) := by decide +kernel
theorem dX2_middleOf_54 : decode cX2_middleOf 54 = .ok (.iload_n 1, 1) := by decide +kernel
theorem dX2_middleOf_55 : decode cX2_middleOf 55 = .ok (.ireturn, 1) := by decide +kernel
theorem dX2_stepsToAll_0 : decode cX2_stepsToAll 0 = .ok (.iconst 0, 1) := by decide +kernel
theorem dX2_stepsToAll_1 : decode cX2_stepsToAll 1 = .ok (.istore_n 2, 1) := by decide +kernel
theorem dX2_stepsToAll_2 : decode cX2_stepsToAll 2 = .ok (.iconst 0, 1) := by decide +kernel
theorem dX2_stepsToAll_3 : decode cX2_stepsToAll 3 = .ok (.istore_n 3, 1) := by decide +kernel
theorem dX2_stepsToAll_4 : decode cX2_stepsToAll 4 = .ok (.iload_n 3, 1) := by decide +kernel
theorem dX2_stepsToAll_5 : decode cX2_stepsToAll 5 = .ok (.bipush 25, 2) := by decide +kernel
theorem dX2_stepsToAll_7 : decode cX2_stepsToAll 7 = .ok (.if_icmp .ge 44, 3) := by decide +kernel
theorem dX2_stepsToAll_10 : decode cX2_stepsToAll 10 = .ok (.iload_n 1, 1) := by decide +kernel
theorem dX2_stepsToAll_11 : decode cX2_stepsToAll 11 = .ok (.iconst 1, 1) := by decide +kernel
theorem dX2_stepsToAll_12 : decode cX2_stepsToAll 12 = .ok (.iload_n 3, 1) := by decide +kernel
theorem dX2_stepsToAll_13 : decode cX2_stepsToAll 13 = .ok (.ishl, 1) := by decide +kernel
theorem dX2_stepsToAll_14 : decode cX2_stepsToAll 14 = .ok (.iand, 1) := by decide +kernel
theorem dX2_stepsToAll_15 : decode cX2_stepsToAll 15 = .ok (.ifCond .ne 6, 3) := by decide +kernel
theorem dX2_stepsToAll_18 : decode cX2_stepsToAll 18 = .ok (.goto 27, 3) := by decide +kernel
theorem dX2_stepsToAll_21 : decode cX2_stepsToAll 21 = .ok (.iload_n 2, 1) := by decide +kernel
theorem dX2_stepsToAll_22 : decode cX2_stepsToAll 22 = .ok (.iload_n 0, 1) := by decide +kernel
theorem dX2_stepsToAll_23 : decode cX2_stepsToAll 23 = .ok (.iconst 5, 1) := by decide +kernel
theorem dX2_stepsToAll_24 : decode cX2_stepsToAll 24 = .ok (.idiv, 1) := by decide +kernel
theorem dX2_stepsToAll_25 : decode cX2_stepsToAll 25 = .ok (.iload_n 3, 1) := by decide +kernel
theorem dX2_stepsToAll_26 : decode cX2_stepsToAll 26 = .ok (.iconst 5, 1) := by decide +kernel
theorem dX2_stepsToAll_27 : decode cX2_stepsToAll 27 = .ok (.idiv, 1) := by decide +kernel
theorem dX2_stepsToAll_28 : decode cX2_stepsToAll 28 = .ok (.isub, 1) := by decide +kernel
theorem dX2_stepsToAll_29 : decode cX2_stepsToAll 29 = .ok (.invokestatic 38, 3) := by decide +kernel
theorem dX2_stepsToAll_32 : decode cX2_stepsToAll 32 = .ok (.iload_n 0, 1) := by decide +kernel
theorem dX2_stepsToAll_33 : decode cX2_stepsToAll 33 = .ok (.iconst 5, 1) := by decide +kernel
theorem dX2_stepsToAll_34 : decode cX2_stepsToAll 34 = .ok (.irem, 1) := by decide +kernel
theorem dX2_stepsToAll_35 : decode cX2_stepsToAll 35 = .ok (.iload_n 3, 1) := by decide +kernel
theorem dX2_stepsToAll_36 : decode cX2_stepsToAll 36 = .ok (.iconst 5, 1) := by decide +kernel
theorem dX2_stepsToAll_37 : decode cX2_stepsToAll 37 = .ok (.irem, 1) := by decide +kernel
theorem dX2_stepsToAll_38 : decode cX2_stepsToAll 38 = .ok (.isub, 1) := by decide +kernel
theorem dX2_stepsToAll_39 : decode cX2_stepsToAll 39 = .ok (.invokestatic 38, 3) := by decide +kernel
theorem dX2_stepsToAll_42 : decode cX2_stepsToAll 42 = .ok (.iadd, 1) := by decide +kernel
theorem dX2_stepsToAll_43 : decode cX2_stepsToAll 43 = .ok (.iadd, 1) := by decide +kernel
theorem dX2_stepsToAll_44 : decode cX2_stepsToAll 44 = .ok (.istore_n 2, 1) := by decide +kernel
theorem dX2_stepsToAll_45 : decode cX2_stepsToAll 45 = .ok (.iinc 3 1, 3) := by decide +kernel
theorem dX2_stepsToAll_48 : decode cX2_stepsToAll 48 = .ok (.goto (-44), 3) := by decide +kernel
theorem dX2_stepsToAll_51 : decode cX2_stepsToAll 51 = .ok (.iload_n 2, 1) := by decide +kernel
theorem dX2_stepsToAll_52 : decode cX2_stepsToAll 52 = .ok (.ireturn, 1) := by decide +kernel
theorem dX3_init_0 : decode cX3_init 0 = .ok (.aload_n 0, 1) := by decide +kernel
theorem dX3_init_1 : decode cX3_init 1 = .ok (.invokespecial 3, 3) := by decide +kernel
theorem dX3_init_4 : decode cX3_init 4 = .ok (.return_, 1) := by decide +kernel
theorem dX3_reads_0 : decode cX3_reads 0 = .ok (.aload_n 0, 1) := by decide +kernel
theorem dX3_reads_1 : decode cX3_reads 1 = .ok (.bipush 25, 2) := by decide +kernel
theorem dX3_reads_3 : decode cX3_reads 3 = .ok (.iload_n 1, 1) := by decide +kernel
theorem dX3_reads_4 : decode cX3_reads 4 = .ok (.invokestatic 9, 3) := by decide +kernel
theorem dX3_reads_7 : decode cX3_reads 7 = .ok (.isub, 1) := by decide +kernel
theorem dX3_reads_8 : decode cX3_reads 8 = .ok (.putfield 15, 3) := by decide +kernel
theorem dX3_reads_11 : decode cX3_reads 11 = .ok (.aload_n 0, 1) := by decide +kernel
theorem dX3_reads_12 : decode cX3_reads 12 = .ok (.iconst 0, 1) := by decide +kernel
theorem dX3_reads_13 : decode cX3_reads 13 = .ok (.putfield 21, 3) := by decide +kernel
theorem dX3_reads_16 : decode cX3_reads 16 = .ok (.aload_n 0, 1) := by decide +kernel
theorem dX3_reads_17 : decode cX3_reads 17 = .ok (.iconst 0, 1) := by decide +kernel
theorem dX3_reads_18 : decode cX3_reads 18 = .ok (.putfield 24, 3) := by decide +kernel
theorem dX3_reads_21 : decode cX3_reads 21 = .ok (.aload_n 0, 1) := by decide +kernel
theorem dX3_reads_22 : decode cX3_reads 22 = .ok (.iconst 0, 1) := by decide +kernel
theorem dX3_reads_23 : decode cX3_reads 23 = .ok (.putfield 27, 3) := by decide +kernel
theorem dX3_reads_26 : decode cX3_reads 26 = .ok (.iconst 0, 1) := by decide +kernel
theorem dX3_reads_27 : decode cX3_reads 27 = .ok (.istore_n 2, 1) := by decide +kernel
theorem dX3_reads_28 : decode cX3_reads 28 = .ok (.iload_n 1, 1) := by decide +kernel
theorem dX3_reads_29 : decode cX3_reads 29 = .ok (.istore_n 3, 1) := by decide +kernel
theorem dX3_reads_30 : decode cX3_reads 30 = .ok (.iconst 0, 1) := by decide +kernel
theorem dX3_reads_31 : decode cX3_reads 31 = .ok (.istore 4, 2) := by decide +kernel
theorem dX3_reads_33 : decode cX3_reads 33 = .ok (.iload 4, 2) := by decide +kernel
theorem dX3_reads_35 : decode cX3_reads 35 = .ok (.bipush 25, 2) := by decide +kernel
theorem dX3_reads_37 : decode cX3_reads 37 = .ok (.if_icmp .ge 99, 3) := by decide +kernel
theorem dX3_reads_40 : decode cX3_reads 40 = .ok (.iload_n 3, 1) := by decide +kernel
theorem dX3_reads_41 : decode cX3_reads 41 = .ok (.ifCond .eq 95, 3) := by decide +kernel
theorem dX3_reads_44 : decode cX3_reads 44 = .ok (.iload_n 3, 1) := by decide +kernel
theorem dX3_reads_45 : decode cX3_reads 45 = .ok (.iload_n 3, 1) := by decide +kernel
theorem dX3_reads_46 : decode cX3_reads 46 = .ok (.ineg, 1) := by decide +kernel
theorem dX3_reads_47 : decode cX3_reads 47 = .ok (.iand, 1) := by decide +kernel
theorem dX3_reads_48 : decode cX3_reads 48 = .ok (.iload_n 3, 1) := by decide +kernel
theorem dX3_reads_49 : decode cX3_reads 49 = .ok (.invokestatic 30, 3) := by decide +kernel
theorem dX3_reads_52 : decode cX3_reads 52 = .ok (.istore 5, 2) := by decide +kernel
theorem dX3_reads_54 : decode cX3_reads 54 = .ok (.iload 5, 2) := by decide +kernel
theorem dX3_reads_56 : decode cX3_reads 56 = .ok (.invokestatic 9, 3) := by decide +kernel
theorem dX3_reads_59 : decode cX3_reads 59 = .ok (.istore 6, 2) := by decide +kernel
theorem dX3_reads_61 : decode cX3_reads 61 = .ok (.aload_n 0, 1) := by decide +kernel
theorem dX3_reads_62 : decode cX3_reads 62 = .ok (.dup, 1) := by decide +kernel
theorem dX3_reads_63 : decode cX3_reads 63 = .ok (.getfield 21, 3) := by decide +kernel
theorem dX3_reads_66 : decode cX3_reads 66 = .ok (.iconst 1, 1) := by decide +kernel
theorem dX3_reads_67 : decode cX3_reads 67 = .ok (.iadd, 1) := by decide +kernel
theorem dX3_reads_68 : decode cX3_reads 68 = .ok (.putfield 21, 3) := by decide +kernel
theorem dX3_reads_71 : decode cX3_reads 71 = .ok (.aload_n 0, 1) := by decide +kernel
theorem dX3_reads_72 : decode cX3_reads 72 = .ok (.getfield 21, 3) := by decide +kernel
theorem dX3_reads_75 : decode cX3_reads 75 = .ok (.iconst 1, 1) := by decide +kernel
theorem dX3_reads_76 : decode cX3_reads 76 = .ok (.if_icmp .eq 12, 3) := by decide +kernel
theorem dX3_reads_79 : decode cX3_reads 79 = .ok (.iload 6, 2) := by decide +kernel
theorem dX3_reads_81 : decode cX3_reads 81 = .ok (.aload_n 0, 1) := by decide +kernel
theorem dX3_reads_82 : decode cX3_reads 82 = .ok (.getfield 24, 3) := by decide +kernel
theorem dX3_reads_85 : decode cX3_reads 85 = .ok (.if_icmp .ge 9, 3) := by decide +kernel
theorem dX3_reads_88 : decode cX3_reads 88 = .ok (.aload_n 0, 1) := by decide +kernel
theorem dX3_reads_89 : decode cX3_reads 89 = .ok (.iload 6, 2) := by decide +kernel
theorem dX3_reads_91 : decode cX3_reads 91 = .ok (.putfield 24, 3) := by decide +kernel
theorem dX3_reads_94 : decode cX3_reads 94 = .ok (.iload 6, 2) := by decide +kernel
theorem dX3_reads_96 : decode cX3_reads 96 = .ok (.iload_n 2, 1) := by decide +kernel
theorem dX3_reads_97 : decode cX3_reads 97 = .ok (.if_icmp .lt 19, 3) := by decide +kernel
theorem dX3_reads_100 : decode cX3_reads 100 = .ok (.aload_n 0, 1) := by decide +kernel
theorem dX3_reads_101 : decode cX3_reads 101 = .ok (.iload 6, 2) := by decide +kernel
theorem dX3_reads_103 : decode cX3_reads 103 = .ok (.iload_n 2, 1) := by decide +kernel
theorem dX3_reads_104 : decode cX3_reads 104 = .ok (.if_icmp .le 8, 3) := by decide +kernel
theorem dX3_reads_107 : decode cX3_reads 107 = .ok (.iload 5, 2) := by decide +kernel
theorem dX3_reads_109 : decode cX3_reads 109 = .ok (.goto 4, 3) := by decide +kernel
theorem dX3_reads_112 : decode cX3_reads 112 = .ok (.iconst 0, 1) := by decide +kernel
theorem dX3_reads_113 : decode cX3_reads 113 = .ok (.putfield 27, 3) := by decide +kernel
theorem dX3_reads_116 : decode cX3_reads 116 = .ok (.iload_n 2, 1) := by decide +kernel
theorem dX3_reads_117 : decode cX3_reads 117 = .ok (.iload 6, 2) := by decide +kernel
theorem dX3_reads_119 : decode cX3_reads 119 = .ok (.invokestatic 36, 3) := by decide +kernel
theorem dX3_reads_122 : decode cX3_reads 122 = .ok (.istore_n 2, 1) := by decide +kernel
theorem dX3_reads_123 : decode cX3_reads 123 = .ok (.iload_n 3, 1) := by decide +kernel
theorem dX3_reads_124 : decode cX3_reads 124 = .ok (.iload 5, 2) := by decide +kernel
theorem dX3_reads_126 : decode cX3_reads 126 = .ok (.iconst (-1), 1) := by decide +kernel
theorem dX3_reads_127 : decode cX3_reads 127 = .ok (.ixor, 1) := by decide +kernel
theorem dX3_reads_128 : decode cX3_reads 128 = .ok (.iand, 1) := by decide +kernel
theorem dX3_reads_129 : decode cX3_reads 129 = .ok (.istore_n 3, 1) := by decide +kernel
theorem dX3_reads_130 : decode cX3_reads 130 = .ok (.iinc 4 1, 3) := by decide +kernel
theorem dX3_reads_133 : decode cX3_reads 133 = .ok (.goto (-100), 3) := by decide +kernel
theorem dX3_reads_136 : decode cX3_reads 136 = .ok (.return_, 1) := by decide +kernel
theorem dX3_isInChancery_0 : decode cX3_isInChancery 0 = .ok (.aload_n 0, 1) := by decide +kernel
theorem dX3_isInChancery_1 : decode cX3_isInChancery 1 = .ok (.getfield 27, 3) := by decide +kernel
theorem dX3_isInChancery_4 : decode cX3_isInChancery 4 = .ok (.ifCond .ne 7, 3) := by decide +kernel
theorem dX3_isInChancery_7 : decode cX3_isInChancery 7 = .ok (.iconst 1, 1) := by decide +kernel
theorem dX3_isInChancery_8 : decode cX3_isInChancery 8 = .ok (.goto 4, 3) := by decide +kernel
theorem dX3_isInChancery_11 : decode cX3_isInChancery 11 = .ok (.iconst 0, 1) := by decide +kernel
theorem dX3_isInChancery_12 : decode cX3_isInChancery 12 = .ok (.ireturn, 1) := by decide +kernel
theorem dX3_shareBy_0 : decode cX3_shareBy 0 = .ok (.aload_n 0, 1) := by decide +kernel
theorem dX3_shareBy_1 : decode cX3_shareBy 1 = .ok (.invokevirtual 41, 3) := by decide +kernel
theorem dX3_shareBy_4 : decode cX3_shareBy 4 = .ok (.ifCond .eq 14, 3) := by decide +kernel
theorem dX3_shareBy_7 : decode cX3_shareBy 7 = .ok (.iload_n 1, 1) := by decide +kernel
theorem dX3_shareBy_8 : decode cX3_shareBy 8 = .ok (.iconst 3, 1) := by decide +kernel
theorem dX3_shareBy_9 : decode cX3_shareBy 9 = .ok (.if_icmp .ne 7, 3) := by decide +kernel
theorem dX3_shareBy_12 : decode cX3_shareBy 12 = .ok (.iload_n 2, 1) := by decide +kernel
theorem dX3_shareBy_13 : decode cX3_shareBy 13 = .ok (.goto 4, 3) := by decide +kernel
theorem dX3_shareBy_16 : decode cX3_shareBy 16 = .ok (.iconst 0, 1) := by decide +kernel
theorem dX3_shareBy_17 : decode cX3_shareBy 17 = .ok (.ireturn, 1) := by decide +kernel
theorem dX3_shareBy_18 : decode cX3_shareBy 18 = .ok (.iload_n 1, 1) := by decide +kernel
theorem dX3_shareBy_19 : decode cX3_shareBy 19 = .ok (.tableswitch 87 0 5 #[37, 43, 49, 55, 63, 74], 37) := by decide +kernel
theorem dX3_shareBy_56 : decode cX3_shareBy 56 = .ok (.aload_n 0, 1) := by decide +kernel
theorem dX3_shareBy_57 : decode cX3_shareBy 57 = .ok (.iload_n 2, 1) := by decide +kernel
theorem dX3_shareBy_58 : decode cX3_shareBy 58 = .ok (.invokevirtual 45, 3) := by decide +kernel
theorem dX3_shareBy_61 : decode cX3_shareBy 61 = .ok (.ireturn, 1) := by decide +kernel
theorem dX3_shareBy_62 : decode cX3_shareBy 62 = .ok (.aload_n 0, 1) := by decide +kernel
theorem dX3_shareBy_63 : decode cX3_shareBy 63 = .ok (.iload_n 2, 1) := by decide +kernel
theorem dX3_shareBy_64 : decode cX3_shareBy 64 = .ok (.invokevirtual 48, 3) := by decide +kernel
theorem dX3_shareBy_67 : decode cX3_shareBy 67 = .ok (.ireturn, 1) := by decide +kernel
theorem dX3_shareBy_68 : decode cX3_shareBy 68 = .ok (.aload_n 0, 1) := by decide +kernel
theorem dX3_shareBy_69 : decode cX3_shareBy 69 = .ok (.iload_n 2, 1) := by decide +kernel
theorem dX3_shareBy_70 : decode cX3_shareBy 70 = .ok (.invokevirtual 51, 3) := by decide +kernel
theorem dX3_shareBy_73 : decode cX3_shareBy 73 = .ok (.ireturn, 1) := by decide +kernel
theorem dX3_shareBy_74 : decode cX3_shareBy 74 = .ok (.aload_n 0, 1) := by decide +kernel
theorem dX3_shareBy_75 : decode cX3_shareBy 75 = .ok (.iload_n 2, 1) := by decide +kernel
theorem dX3_shareBy_76 : decode cX3_shareBy 76 = .ok (.invokevirtual 48, 3) := by decide +kernel
theorem dX3_shareBy_79 : decode cX3_shareBy 79 = .ok (.iconst 3, 1) := by decide +kernel
theorem dX3_shareBy_80 : decode cX3_shareBy 80 = .ok (.idiv, 1) := by decide +kernel
theorem dX3_shareBy_81 : decode cX3_shareBy 81 = .ok (.ireturn, 1) := by decide +kernel
theorem dX3_shareBy_82 : decode cX3_shareBy 82 = .ok (.iconst 0, 1) := by decide +kernel
theorem dX3_shareBy_83 : decode cX3_shareBy 83 = .ok (.aload_n 0, 1) := by decide +kernel
theorem dX3_shareBy_84 : decode cX3_shareBy 84 = .ok (.getfield 15, 3) := by decide +kernel
theorem dX3_shareBy_87 : decode cX3_shareBy 87 = .ok (.iload_n 2, 1) := by decide +kernel
theorem dX3_shareBy_88 : decode cX3_shareBy 88 = .ok (.isub, 1) := by decide +kernel
theorem dX3_shareBy_89 : decode cX3_shareBy 89 = .ok (.invokestatic 36, 3) := by decide +kernel
theorem dX3_shareBy_92 : decode cX3_shareBy 92 = .ok (.ireturn, 1) := by decide +kernel
theorem dX3_shareBy_93 : decode cX3_shareBy 93 = .ok (.aload_n 0, 1) := by decide +kernel
theorem dX3_shareBy_94 : decode cX3_shareBy 94 = .ok (.iload_n 2, 1) := by decide +kernel
theorem dX3_shareBy_95 : decode cX3_shareBy 95 = .ok (.invokevirtual 51, 3) := by decide +kernel
theorem dX3_shareBy_98 : decode cX3_shareBy 98 = .ok (.aload_n 0, 1) := by decide +kernel
theorem dX3_shareBy_99 : decode cX3_shareBy 99 = .ok (.getfield 21, 3) := by decide +kernel
theorem dX3_shareBy_102 : decode cX3_shareBy 102 = .ok (.iadd, 1) := by decide +kernel
theorem dX3_shareBy_103 : decode cX3_shareBy 103 = .ok (.iconst 1, 1) := by decide +kernel
theorem dX3_shareBy_104 : decode cX3_shareBy 104 = .ok (.isub, 1) := by decide +kernel
theorem dX3_shareBy_105 : decode cX3_shareBy 105 = .ok (.ireturn, 1) := by decide +kernel
theorem dX3_shareBy_106 : decode cX3_shareBy 106 = .ok (.iconst 0, 1) := by decide +kernel
theorem dX3_shareBy_107 : decode cX3_shareBy 107 = .ok (.ireturn, 1) := by decide +kernel
theorem dX3_nephews_0 : decode cX3_nephews 0 = .ok (.aload_n 0, 1) := by decide +kernel
theorem dX3_nephews_1 : decode cX3_nephews 1 = .ok (.getfield 27, 3) := by decide +kernel
theorem dX3_nephews_4 : decode cX3_nephews 4 = .ok (.ldc 54, 2) := by decide +kernel
theorem dX3_nephews_6 : decode cX3_nephews 6 = .ok (.iload_n 1, 1) := by decide +kernel
theorem dX3_nephews_7 : decode cX3_nephews 7 = .ok (.iconst 5, 1) := by decide +kernel
theorem dX3_nephews_8 : decode cX3_nephews 8 = .ok (.irem, 1) := by decide +kernel
theorem dX3_nephews_9 : decode cX3_nephews 9 = .ok (.ishl, 1) := by decide +kernel
theorem dX3_nephews_10 : decode cX3_nephews 10 = .ok (.iand, 1) := by decide +kernel
theorem dX3_nephews_11 : decode cX3_nephews 11 = .ok (.invokestatic 9, 3) := by decide +kernel
theorem dX3_nephews_14 : decode cX3_nephews 14 = .ok (.ireturn, 1) := by decide +kernel
theorem dX3_elders_0 : decode cX3_elders 0 = .ok (.aload_n 0, 1) := by decide +kernel
theorem dX3_elders_1 : decode cX3_elders 1 = .ok (.iload_n 1, 1) := by decide +kernel
theorem dX3_elders_2 : decode cX3_elders 2 = .ok (.invokevirtual 45, 3) := by decide +kernel
theorem dX3_elders_5 : decode cX3_elders 5 = .ok (.aload_n 0, 1) := by decide +kernel
theorem dX3_elders_6 : decode cX3_elders 6 = .ok (.getfield 27, 3) := by decide +kernel
theorem dX3_elders_9 : decode cX3_elders 9 = .ok (.iconst 4, 1) := by decide +kernel
theorem dX3_elders_10 : decode cX3_elders 10 = .ok (.iand, 1) := by decide +kernel
theorem dX3_elders_11 : decode cX3_elders 11 = .ok (.ifCond .eq 7, 3) := by decide +kernel
theorem dX3_elders_14 : decode cX3_elders 14 = .ok (.iconst 5, 1) := by decide +kernel
theorem dX3_elders_15 : decode cX3_elders 15 = .ok (.goto 4, 3) := by decide +kernel
theorem dX3_elders_18 : decode cX3_elders 18 = .ok (.iconst 0, 1) := by decide +kernel
theorem dX3_elders_19 : decode cX3_elders 19 = .ok (.iadd, 1) := by decide +kernel
theorem dX3_elders_20 : decode cX3_elders 20 = .ok (.ireturn, 1) := by decide +kernel
theorem dX3_widows_0 : decode cX3_widows 0 = .ok (.aload_n 0, 1) := by decide +kernel
theorem dX3_widows_1 : decode cX3_widows 1 = .ok (.iload_n 1, 1) := by decide +kernel
theorem dX3_widows_2 : decode cX3_widows 2 = .ok (.invokevirtual 45, 3) := by decide +kernel
theorem dX3_widows_5 : decode cX3_widows 5 = .ok (.iconst 2, 1) := by decide +kernel
theorem dX3_widows_6 : decode cX3_widows 6 = .ok (.idiv, 1) := by decide +kernel
theorem dX3_widows_7 : decode cX3_widows 7 = .ok (.iconst 2, 1) := by decide +kernel
theorem dX3_widows_8 : decode cX3_widows 8 = .ok (.aload_n 0, 1) := by decide +kernel
theorem dX3_widows_9 : decode cX3_widows 9 = .ok (.getfield 27, 3) := by decide +kernel
theorem dX3_widows_12 : decode cX3_widows 12 = .ok (.sipush 14336, 3) := by decide +kernel
theorem dX3_widows_15 : decode cX3_widows 15 = .ok (.iand, 1) := by decide +kernel
theorem dX3_widows_16 : decode cX3_widows 16 = .ok (.invokestatic 9, 3) := by decide +kernel
theorem dX3_widows_19 : decode cX3_widows 19 = .ok (.imul, 1) := by decide +kernel
theorem dX3_widows_20 : decode cX3_widows 20 = .ok (.iadd, 1) := by decide +kernel
theorem dX3_widows_21 : decode cX3_widows 21 = .ok (.ireturn, 1) := by decide +kernel
theorem dX4_init_0 : decode cX4_init 0 = .ok (.aload_n 0, 1) := by decide +kernel
theorem dX4_init_1 : decode cX4_init 1 = .ok (.invokespecial 3, 3) := by decide +kernel
theorem dX4_init_4 : decode cX4_init 4 = .ok (.aload_n 0, 1) := by decide +kernel
theorem dX4_init_5 : decode cX4_init 5 = .ok (.bipush 96, 2) := by decide +kernel
theorem dX4_init_7 : decode cX4_init 7 = .ok (.newarray .int, 2) := by decide +kernel
theorem dX4_init_9 : decode cX4_init 9 = .ok (.putfield 9, 3) := by decide +kernel
theorem dX4_init_12 : decode cX4_init 12 = .ok (.aload_n 0, 1) := by decide +kernel
theorem dX4_init_13 : decode cX4_init 13 = .ok (.iconst 0, 1) := by decide +kernel
theorem dX4_init_14 : decode cX4_init 14 = .ok (.putfield 15, 3) := by decide +kernel
theorem dX4_init_17 : decode cX4_init 17 = .ok (.return_, 1) := by decide +kernel
theorem dX4_takes_0 : decode cX4_takes 0 = .ok (.aload_n 0, 1) := by decide +kernel
theorem dX4_takes_1 : decode cX4_takes 1 = .ok (.getfield 15, 3) := by decide +kernel
theorem dX4_takes_4 : decode cX4_takes 4 = .ok (.bipush 96, 2) := by decide +kernel
theorem dX4_takes_6 : decode cX4_takes 6 = .ok (.if_icmp .ge 23, 3) := by decide +kernel
theorem dX4_takes_9 : decode cX4_takes 9 = .ok (.aload_n 0, 1) := by decide +kernel
theorem dX4_takes_10 : decode cX4_takes 10 = .ok (.getfield 9, 3) := by decide +kernel
theorem dX4_takes_13 : decode cX4_takes 13 = .ok (.aload_n 0, 1) := by decide +kernel
theorem dX4_takes_14 : decode cX4_takes 14 = .ok (.getfield 15, 3) := by decide +kernel
theorem dX4_takes_17 : decode cX4_takes 17 = .ok (.iload_n 1, 1) := by decide +kernel
theorem dX4_takes_18 : decode cX4_takes 18 = .ok (.iastore, 1) := by decide +kernel
theorem dX4_takes_19 : decode cX4_takes 19 = .ok (.aload_n 0, 1) := by decide +kernel
theorem dX4_takes_20 : decode cX4_takes 20 = .ok (.dup, 1) := by decide +kernel
theorem dX4_takes_21 : decode cX4_takes 21 = .ok (.getfield 15, 3) := by decide +kernel
theorem dX4_takes_24 : decode cX4_takes 24 = .ok (.iconst 1, 1) := by decide +kernel
theorem dX4_takes_25 : decode cX4_takes 25 = .ok (.iadd, 1) := by decide +kernel
theorem dX4_takes_26 : decode cX4_takes 26 = .ok (.putfield 15, 3) := by decide +kernel
theorem dX4_takes_29 : decode cX4_takes 29 = .ok (.aload_n 0, 1) := by decide +kernel
theorem dX4_takes_30 : decode cX4_takes 30 = .ok (.getfield 15, 3) := by decide +kernel
theorem dX4_takes_33 : decode cX4_takes 33 = .ok (.ireturn, 1) := by decide +kernel
theorem dX4_misfit_0 : decode cX4_misfit 0 = .ok (.iconst 0, 1) := by decide +kernel
theorem dX4_misfit_1 : decode cX4_misfit 1 = .ok (.istore_n 1, 1) := by decide +kernel
theorem dX4_misfit_2 : decode cX4_misfit 2 = .ok (.iconst 0, 1) := by decide +kernel
theorem dX4_misfit_3 : decode cX4_misfit 3 = .ok (.istore_n 2, 1) := by decide +kernel
theorem dX4_misfit_4 : decode cX4_misfit 4 = .ok (.iload_n 2, 1) := by decide +kernel
theorem dX4_misfit_5 : decode cX4_misfit 5 = .ok (.aload_n 0, 1) := by decide +kernel
theorem dX4_misfit_6 : decode cX4_misfit 6 = .ok (.getfield 15, 3) := by decide +kernel
theorem dX4_misfit_9 : decode cX4_misfit 9 = .ok (.if_icmp .ge 49, 3) := by decide +kernel
theorem dX4_misfit_12 : decode cX4_misfit 12 = .ok (.aload_n 0, 1) := by decide +kernel
theorem dX4_misfit_13 : decode cX4_misfit 13 = .ok (.iload_n 1, 1) := by decide +kernel
theorem dX4_misfit_14 : decode cX4_misfit 14 = .ok (.invokevirtual 19, 3) := by decide +kernel
theorem dX4_misfit_17 : decode cX4_misfit 17 = .ok (.astore_n 3, 1) := by decide +kernel
theorem dX4_misfit_18 : decode cX4_misfit 18 = .ok (.aload_n 3, 1) := by decide +kernel
theorem dX4_misfit_19 : decode cX4_misfit 19 = .ok (.iload_n 2, 1) := by decide +kernel
theorem dX4_misfit_20 : decode cX4_misfit 20 = .ok (.iload_n 1, 1) := by decide +kernel
theorem dX4_misfit_21 : decode cX4_misfit 21 = .ok (.isub, 1) := by decide +kernel
theorem dX4_misfit_22 : decode cX4_misfit 22 = .ok (.aload_n 0, 1) := by decide +kernel
theorem dX4_misfit_23 : decode cX4_misfit 23 = .ok (.getfield 9, 3) := by decide +kernel
theorem dX4_misfit_26 : decode cX4_misfit 26 = .ok (.iload_n 2, 1) := by decide +kernel
theorem dX4_misfit_27 : decode cX4_misfit 27 = .ok (.iaload, 1) := by decide +kernel
theorem dX4_misfit_28 : decode cX4_misfit 28 = .ok (.invokestatic 23, 3) := by decide +kernel
theorem dX4_misfit_31 : decode cX4_misfit 31 = .ok (.ifCond .ne 5, 3) := by decide +kernel
theorem dX4_misfit_34 : decode cX4_misfit 34 = .ok (.iload_n 2, 1) := by decide +kernel
theorem dX4_misfit_35 : decode cX4_misfit 35 = .ok (.ireturn, 1) := by decide +kernel
theorem dX4_misfit_36 : decode cX4_misfit 36 = .ok (.iload_n 2, 1) := by decide +kernel
theorem dX4_misfit_37 : decode cX4_misfit 37 = .ok (.iload_n 1, 1) := by decide +kernel
theorem dX4_misfit_38 : decode cX4_misfit 38 = .ok (.isub, 1) := by decide +kernel
theorem dX4_misfit_39 : decode cX4_misfit 39 = .ok (.aload_n 3, 1) := by decide +kernel
theorem dX4_misfit_40 : decode cX4_misfit 40 = .ok (.invokevirtual 27, 3) := by decide +kernel
theorem dX4_misfit_43 : decode cX4_misfit 43 = .ok (.iconst 1, 1) := by decide +kernel
theorem dX4_misfit_44 : decode cX4_misfit 44 = .ok (.isub, 1) := by decide +kernel
theorem dX4_misfit_45 : decode cX4_misfit 45 = .ok (.if_icmp .ne 7, 3) := by decide +kernel
theorem dX4_misfit_48 : decode cX4_misfit 48 = .ok (.iload_n 2, 1) := by decide +kernel
theorem dX4_misfit_49 : decode cX4_misfit 49 = .ok (.iconst 1, 1) := by decide +kernel
theorem dX4_misfit_50 : decode cX4_misfit 50 = .ok (.iadd, 1) := by decide +kernel
theorem dX4_misfit_51 : decode cX4_misfit 51 = .ok (.istore_n 1, 1) := by decide +kernel
theorem dX4_misfit_52 : decode cX4_misfit 52 = .ok (.iinc 2 1, 3) := by decide +kernel
theorem dX4_misfit_55 : decode cX4_misfit 55 = .ok (.goto (-51), 3) := by decide +kernel
theorem dX4_misfit_58 : decode cX4_misfit 58 = .ok (.aload_n 0, 1) := by decide +kernel
theorem dX4_misfit_59 : decode cX4_misfit 59 = .ok (.getfield 15, 3) := by decide +kernel
theorem dX4_misfit_62 : decode cX4_misfit 62 = .ok (.ifCond .le 15, 3) := by decide +kernel
theorem dX4_misfit_65 : decode cX4_misfit 65 = .ok (.iload_n 1, 1) := by decide +kernel
theorem dX4_misfit_66 : decode cX4_misfit 66 = .ok (.aload_n 0, 1) := by decide +kernel
theorem dX4_misfit_67 : decode cX4_misfit 67 = .ok (.getfield 15, 3) := by decide +kernel
theorem dX4_misfit_70 : decode cX4_misfit 70 = .ok (.if_icmp .ne 7, 3) := by decide +kernel
theorem dX4_misfit_73 : decode cX4_misfit 73 = .ok (.iconst (-1), 1) := by decide +kernel
theorem dX4_misfit_74 : decode cX4_misfit 74 = .ok (.goto 7, 3) := by decide +kernel
theorem dX4_misfit_77 : decode cX4_misfit 77 = .ok (.aload_n 0, 1) := by decide +kernel
theorem dX4_misfit_78 : decode cX4_misfit 78 = .ok (.getfield 15, 3) := by decide +kernel
theorem dX4_misfit_81 : decode cX4_misfit 81 = .ok (.ireturn, 1) := by decide +kernel
theorem dX4_formAt_0 : decode cX4_formAt 0 = .ok (.aload_n 0, 1) := by decide +kernel
theorem dX4_formAt_1 : decode cX4_formAt 1 = .ok (.iload_n 1, 1) := by decide +kernel
theorem dX4_formAt_2 : decode cX4_formAt 2 = .ok (.invokevirtual 32, 3) := by decide +kernel
theorem dX4_formAt_5 : decode cX4_formAt 5 = .ok (.lookupswitch 66 #[(98, 54), (104, 51), (108, 57), (110, 63), (114, 60)], 51) := by decide +kernel
theorem dX4_formAt_56 : decode cX4_formAt 56 = .ok (.ldc 36, 2) := by decide +kernel
theorem dX4_formAt_58 : decode cX4_formAt 58 = .ok (.areturn, 1) := by decide +kernel
theorem dX4_formAt_59 : decode cX4_formAt 59 = .ok (.ldc 38, 2) := by decide +kernel
theorem dX4_formAt_61 : decode cX4_formAt 61 = .ok (.areturn, 1) := by decide +kernel
theorem dX4_formAt_62 : decode cX4_formAt 62 = .ok (.ldc 40, 2) := by decide +kernel
theorem dX4_formAt_64 : decode cX4_formAt 64 = .ok (.areturn, 1) := by decide +kernel
theorem dX4_formAt_65 : decode cX4_formAt 65 = .ok (.ldc 42, 2) := by decide +kernel
theorem dX4_formAt_67 : decode cX4_formAt 67 = .ok (.areturn, 1) := by decide +kernel
theorem dX4_formAt_68 : decode cX4_formAt 68 = .ok (.ldc 44, 2) := by decide +kernel
theorem dX4_formAt_70 : decode cX4_formAt 70 = .ok (.areturn, 1) := by decide +kernel
theorem dX4_formAt_71 : decode cX4_formAt 71 = .ok (.ldc 46, 2) := by decide +kernel
theorem dX4_formAt_73 : decode cX4_formAt 73 = .ok (.areturn, 1) := by decide +kernel
theorem dX4_doesStatement_0 : decode cX4_doesStatement 0 = .ok (.aload_n 0, 1) := by decide +kernel
theorem dX4_doesStatement_1 : decode cX4_doesStatement 1 = .ok (.iload_n 1, 1) := by decide +kernel
theorem dX4_doesStatement_2 : decode cX4_doesStatement 2 = .ok (.invokevirtual 32, 3) := by decide +kernel
theorem dX4_doesStatement_5 : decode cX4_doesStatement 5 = .ok (.lookupswitch 118 #[(98, 70), (104, 51), (108, 89), (110, 113), (114, 101)], 51) := by decide +kernel
theorem dX4_doesStatement_56 : decode cX4_doesStatement 56 = .ok (.aload_n 2, 1) := by decide +kernel
theorem dX4_doesStatement_57 : decode cX4_doesStatement 57 = .ok (.aload_n 0, 1) := by decide +kernel
theorem dX4_doesStatement_58 : decode cX4_doesStatement 58 = .ok (.iload_n 1, 1) := by decide +kernel
theorem dX4_doesStatement_59 : decode cX4_doesStatement 59 = .ok (.iconst 1, 1) := by decide +kernel
theorem dX4_doesStatement_60 : decode cX4_doesStatement 60 = .ok (.iadd, 1) := by decide +kernel
theorem dX4_doesStatement_61 : decode cX4_doesStatement 61 = .ok (.invokevirtual 48, 3) := by decide +kernel
theorem dX4_doesStatement_64 : decode cX4_doesStatement 64 = .ok (.aload_n 0, 1) := by decide +kernel
theorem dX4_doesStatement_65 : decode cX4_doesStatement 65 = .ok (.iload_n 1, 1) := by decide +kernel
theorem dX4_doesStatement_66 : decode cX4_doesStatement 66 = .ok (.iconst 2, 1) := by decide +kernel
theorem dX4_doesStatement_67 : decode cX4_doesStatement 67 = .ok (.iadd, 1) := by decide +kernel
theorem dX4_doesStatement_68 : decode cX4_doesStatement 68 = .ok (.invokevirtual 51, 3) := by decide +kernel
theorem dX4_doesStatement_71 : decode cX4_doesStatement 71 = .ok (.invokevirtual 54, 3) := by decide +kernel
theorem dX4_doesStatement_74 : decode cX4_doesStatement 74 = .ok (.ireturn, 1) := by decide +kernel
theorem dX4_doesStatement_75 : decode cX4_doesStatement 75 = .ok (.aload_n 2, 1) := by decide +kernel
theorem dX4_doesStatement_76 : decode cX4_doesStatement 76 = .ok (.aload_n 0, 1) := by decide +kernel
theorem dX4_doesStatement_77 : decode cX4_doesStatement 77 = .ok (.iload_n 1, 1) := by decide +kernel
theorem dX4_doesStatement_78 : decode cX4_doesStatement 78 = .ok (.iconst 1, 1) := by decide +kernel
theorem dX4_doesStatement_79 : decode cX4_doesStatement 79 = .ok (.iadd, 1) := by decide +kernel
theorem dX4_doesStatement_80 : decode cX4_doesStatement 80 = .ok (.invokevirtual 51, 3) := by decide +kernel
theorem dX4_doesStatement_83 : decode cX4_doesStatement 83 = .ok (.aload_n 0, 1) := by decide +kernel
theorem dX4_doesStatement_84 : decode cX4_doesStatement 84 = .ok (.iload_n 1, 1) := by decide +kernel
theorem dX4_doesStatement_85 : decode cX4_doesStatement 85 = .ok (.iconst 2, 1) := by decide +kernel
theorem dX4_doesStatement_86 : decode cX4_doesStatement 86 = .ok (.iadd, 1) := by decide +kernel
theorem dX4_doesStatement_87 : decode cX4_doesStatement 87 = .ok (.invokevirtual 60, 3) := by decide +kernel
theorem dX4_doesStatement_90 : decode cX4_doesStatement 90 = .ok (.invokevirtual 63, 3) := by decide +kernel
theorem dX4_doesStatement_93 : decode cX4_doesStatement 93 = .ok (.ireturn, 1) := by decide +kernel
theorem dX4_doesStatement_94 : decode cX4_doesStatement 94 = .ok (.aload_n 2, 1) := by decide +kernel
theorem dX4_doesStatement_95 : decode cX4_doesStatement 95 = .ok (.aload_n 0, 1) := by decide +kernel
theorem dX4_doesStatement_96 : decode cX4_doesStatement 96 = .ok (.iload_n 1, 1) := by decide +kernel
theorem dX4_doesStatement_97 : decode cX4_doesStatement 97 = .ok (.iconst 1, 1) := by decide +kernel
theorem dX4_doesStatement_98 : decode cX4_doesStatement 98 = .ok (.iadd, 1) := by decide +kernel
theorem dX4_doesStatement_99 : decode cX4_doesStatement 99 = .ok (.invokevirtual 60, 3) := by decide +kernel
theorem dX4_doesStatement_102 : decode cX4_doesStatement 102 = .ok (.invokevirtual 66, 3) := by decide +kernel
theorem dX4_doesStatement_105 : decode cX4_doesStatement 105 = .ok (.ireturn, 1) := by decide +kernel
theorem dX4_doesStatement_106 : decode cX4_doesStatement 106 = .ok (.aload_n 2, 1) := by decide +kernel
theorem dX4_doesStatement_107 : decode cX4_doesStatement 107 = .ok (.aload_n 0, 1) := by decide +kernel
theorem dX4_doesStatement_108 : decode cX4_doesStatement 108 = .ok (.iload_n 1, 1) := by decide +kernel
theorem dX4_doesStatement_109 : decode cX4_doesStatement 109 = .ok (.iconst 1, 1) := by decide +kernel
theorem dX4_doesStatement_110 : decode cX4_doesStatement 110 = .ok (.iadd, 1) := by decide +kernel
theorem dX4_doesStatement_111 : decode cX4_doesStatement 111 = .ok (.invokevirtual 51, 3) := by decide +kernel
theorem dX4_doesStatement_114 : decode cX4_doesStatement 114 = .ok (.invokevirtual 70, 3) := by decide +kernel
theorem dX4_doesStatement_117 : decode cX4_doesStatement 117 = .ok (.ireturn, 1) := by decide +kernel
theorem dX4_doesStatement_118 : decode cX4_doesStatement 118 = .ok (.aload_n 2, 1) := by decide +kernel
theorem dX4_doesStatement_119 : decode cX4_doesStatement 119 = .ok (.invokevirtual 73, 3) := by decide +kernel
theorem dX4_doesStatement_122 : decode cX4_doesStatement 122 = .ok (.ireturn, 1) := by decide +kernel
theorem dX4_doesStatement_123 : decode cX4_doesStatement 123 = .ok (.iconst 0, 1) := by decide +kernel
theorem dX4_doesStatement_124 : decode cX4_doesStatement 124 = .ok (.ireturn, 1) := by decide +kernel
theorem dX4_suits_0 : decode cX4_suits 0 = .ok (.iload_n 1, 1) := by decide +kernel
theorem dX4_suits_1 : decode cX4_suits 1 = .ok (.ifCond .lt 11, 3) := by decide +kernel
theorem dX4_suits_4 : decode cX4_suits 4 = .ok (.iload_n 1, 1) := by decide +kernel
theorem dX4_suits_5 : decode cX4_suits 5 = .ok (.aload_n 0, 1) := by decide +kernel
theorem dX4_suits_6 : decode cX4_suits 6 = .ok (.invokevirtual 27, 3) := by decide +kernel
theorem dX4_suits_9 : decode cX4_suits 9 = .ok (.if_icmp .lt 5, 3) := by decide +kernel
theorem dX4_suits_12 : decode cX4_suits 12 = .ok (.iconst 0, 1) := by decide +kernel
theorem dX4_suits_13 : decode cX4_suits 13 = .ok (.ireturn, 1) := by decide +kernel
theorem dX4_suits_14 : decode cX4_suits 14 = .ok (.aload_n 0, 1) := by decide +kernel
theorem dX4_suits_15 : decode cX4_suits 15 = .ok (.iload_n 1, 1) := by decide +kernel
theorem dX4_suits_16 : decode cX4_suits 16 = .ok (.invokevirtual 77, 3) := by decide +kernel
theorem dX4_suits_19 : decode cX4_suits 19 = .ok (.istore_n 3, 1) := by decide +kernel
theorem dX4_suits_20 : decode cX4_suits 20 = .ok (.iload_n 3, 1) := by decide +kernel
theorem dX4_suits_21 : decode cX4_suits 21 = .ok (.bipush 75, 2) := by decide +kernel
theorem dX4_suits_23 : decode cX4_suits 23 = .ok (.if_icmp .ne 19, 3) := by decide +kernel
theorem dX4_suits_26 : decode cX4_suits 26 = .ok (.ldc 81, 2) := by decide +kernel
theorem dX4_suits_28 : decode cX4_suits 28 = .ok (.iload_n 2, 1) := by decide +kernel
theorem dX4_suits_29 : decode cX4_suits 29 = .ok (.i2c, 1) := by decide +kernel
theorem dX4_suits_30 : decode cX4_suits 30 = .ok (.invokevirtual 83, 3) := by decide +kernel
theorem dX4_suits_33 : decode cX4_suits 33 = .ok (.ifCond .lt 7, 3) := by decide +kernel
theorem dX4_suits_36 : decode cX4_suits 36 = .ok (.iconst 1, 1) := by decide +kernel
theorem dX4_suits_37 : decode cX4_suits 37 = .ok (.goto 4, 3) := by decide +kernel
theorem dX4_suits_40 : decode cX4_suits 40 = .ok (.iconst 0, 1) := by decide +kernel
theorem dX4_suits_41 : decode cX4_suits 41 = .ok (.ireturn, 1) := by decide +kernel
theorem dX4_suits_42 : decode cX4_suits 42 = .ok (.iload_n 3, 1) := by decide +kernel
theorem dX4_suits_43 : decode cX4_suits 43 = .ok (.bipush 57, 2) := by decide +kernel
theorem dX4_suits_45 : decode cX4_suits 45 = .ok (.if_icmp .ne 21, 3) := by decide +kernel
theorem dX4_suits_48 : decode cX4_suits 48 = .ok (.iload_n 2, 1) := by decide +kernel
theorem dX4_suits_49 : decode cX4_suits 49 = .ok (.bipush 48, 2) := by decide +kernel
theorem dX4_suits_51 : decode cX4_suits 51 = .ok (.if_icmp .lt 13, 3) := by decide +kernel
theorem dX4_suits_54 : decode cX4_suits 54 = .ok (.iload_n 2, 1) := by decide +kernel
theorem dX4_suits_55 : decode cX4_suits 55 = .ok (.bipush 57, 2) := by decide +kernel
theorem dX4_suits_57 : decode cX4_suits 57 = .ok (.if_icmp .gt 7, 3) := by decide +kernel
theorem dX4_suits_60 : decode cX4_suits 60 = .ok (.iconst 1, 1) := by decide +kernel
theorem dX4_suits_61 : decode cX4_suits 61 = .ok (.goto 4, 3) := by decide +kernel
theorem dX4_suits_64 : decode cX4_suits 64 = .ok (.iconst 0, 1) := by decide +kernel
theorem dX4_suits_65 : decode cX4_suits 65 = .ok (.ireturn, 1) := by decide +kernel
theorem dX4_suits_66 : decode cX4_suits 66 = .ok (.iload_n 2, 1) := by decide +kernel
theorem dX4_suits_67 : decode cX4_suits 67 = .ok (.iload_n 3, 1) := by decide +kernel
theorem dX4_suits_68 : decode cX4_suits 68 = .ok (.if_icmp .ne 7, 3) := by decide +kernel
theorem dX4_suits_71 : decode cX4_suits 71 = .ok (.iconst 1, 1) := by decide +kernel
theorem dX4_suits_72 : decode cX4_suits 72 = .ok (.goto 4, 3) := by decide +kernel
theorem dX4_suits_75 : decode cX4_suits 75 = .ok (.iconst 0, 1) := by decide +kernel
theorem dX4_suits_76 : decode cX4_suits 76 = .ok (.ireturn, 1) := by decide +kernel
theorem dX4_letterAt_0 : decode cX4_letterAt 0 = .ok (.iload_n 1, 1) := by decide +kernel
theorem dX4_letterAt_1 : decode cX4_letterAt 1 = .ok (.ifCond .lt 20, 3) := by decide +kernel
theorem dX4_letterAt_4 : decode cX4_letterAt 4 = .ok (.iload_n 1, 1) := by decide +kernel
theorem dX4_letterAt_5 : decode cX4_letterAt 5 = .ok (.aload_n 0, 1) := by decide +kernel
theorem dX4_letterAt_6 : decode cX4_letterAt 6 = .ok (.getfield 15, 3) := by decide +kernel
theorem dX4_letterAt_9 : decode cX4_letterAt 9 = .ok (.if_icmp .ge 12, 3) := by decide +kernel
theorem dX4_letterAt_12 : decode cX4_letterAt 12 = .ok (.aload_n 0, 1) := by decide +kernel
theorem dX4_letterAt_13 : decode cX4_letterAt 13 = .ok (.getfield 9, 3) := by decide +kernel
theorem dX4_letterAt_16 : decode cX4_letterAt 16 = .ok (.iload_n 1, 1) := by decide +kernel
theorem dX4_letterAt_17 : decode cX4_letterAt 17 = .ok (.iaload, 1) := by decide +kernel
theorem dX4_letterAt_18 : decode cX4_letterAt 18 = .ok (.goto 4, 3) := by decide +kernel
theorem dX4_letterAt_21 : decode cX4_letterAt 21 = .ok (.iconst (-1), 1) := by decide +kernel
theorem dX4_letterAt_22 : decode cX4_letterAt 22 = .ok (.ireturn, 1) := by decide +kernel
theorem dX4_kindAt_0 : decode cX4_kindAt 0 = .ok (.ldc 81, 2) := by decide +kernel
theorem dX4_kindAt_2 : decode cX4_kindAt 2 = .ok (.aload_n 0, 1) := by decide +kernel
theorem dX4_kindAt_3 : decode cX4_kindAt 3 = .ok (.iload_n 1, 1) := by decide +kernel
theorem dX4_kindAt_4 : decode cX4_kindAt 4 = .ok (.invokevirtual 32, 3) := by decide +kernel
theorem dX4_kindAt_7 : decode cX4_kindAt 7 = .ok (.i2c, 1) := by decide +kernel
theorem dX4_kindAt_8 : decode cX4_kindAt 8 = .ok (.invokevirtual 83, 3) := by decide +kernel
theorem dX4_kindAt_11 : decode cX4_kindAt 11 = .ok (.ireturn, 1) := by decide +kernel
theorem dX4_digitAt_0 : decode cX4_digitAt 0 = .ok (.aload_n 0, 1) := by decide +kernel
theorem dX4_digitAt_1 : decode cX4_digitAt 1 = .ok (.iload_n 1, 1) := by decide +kernel
theorem dX4_digitAt_2 : decode cX4_digitAt 2 = .ok (.invokevirtual 32, 3) := by decide +kernel
theorem dX4_digitAt_5 : decode cX4_digitAt 5 = .ok (.bipush 48, 2) := by decide +kernel
theorem dX4_digitAt_7 : decode cX4_digitAt 7 = .ok (.isub, 1) := by decide +kernel
theorem dX4_digitAt_8 : decode cX4_digitAt 8 = .ok (.ireturn, 1) := by decide +kernel
theorem dX4_numberAt_0 : decode cX4_numberAt 0 = .ok (.bipush 10, 2) := by decide +kernel
theorem dX4_numberAt_2 : decode cX4_numberAt 2 = .ok (.aload_n 0, 1) := by decide +kernel
theorem dX4_numberAt_3 : decode cX4_numberAt 3 = .ok (.iload_n 1, 1) := by decide +kernel
theorem dX4_numberAt_4 : decode cX4_numberAt 4 = .ok (.invokevirtual 51, 3) := by decide +kernel
theorem dX4_numberAt_7 : decode cX4_numberAt 7 = .ok (.imul, 1) := by decide +kernel
theorem dX4_numberAt_8 : decode cX4_numberAt 8 = .ok (.aload_n 0, 1) := by decide +kernel
theorem dX4_numberAt_9 : decode cX4_numberAt 9 = .ok (.iload_n 1, 1) := by decide +kernel
theorem dX4_numberAt_10 : decode cX4_numberAt 10 = .ok (.iconst 1, 1) := by decide +kernel
theorem dX4_numberAt_11 : decode cX4_numberAt 11 = .ok (.iadd, 1) := by decide +kernel
theorem dX4_numberAt_12 : decode cX4_numberAt 12 = .ok (.invokevirtual 51, 3) := by decide +kernel
theorem dX4_numberAt_15 : decode cX4_numberAt 15 = .ok (.iadd, 1) := by decide +kernel
theorem dX4_numberAt_16 : decode cX4_numberAt 16 = .ok (.ireturn, 1) := by decide +kernel
theorem dX5_init_0 : decode cX5_init 0 = .ok (.aload_n 0, 1) := by decide +kernel
theorem dX5_init_1 : decode cX5_init 1 = .ok (.invokespecial 1, 3) := by decide +kernel
theorem dX5_init_4 : decode cX5_init 4 = .ok (.aload_n 0, 1) := by decide +kernel
theorem dX5_init_5 : decode cX5_init 5 = .ok (.new 7, 3) := by decide +kernel
theorem dX5_init_8 : decode cX5_init 8 = .ok (.dup, 1) := by decide +kernel
theorem dX5_init_9 : decode cX5_init 9 = .ok (.invokespecial 9, 3) := by decide +kernel
theorem dX5_init_12 : decode cX5_init 12 = .ok (.putfield 10, 3) := by decide +kernel
theorem dX5_init_15 : decode cX5_init 15 = .ok (.aload_n 0, 1) := by decide +kernel
theorem dX5_init_16 : decode cX5_init 16 = .ok (.new 7, 3) := by decide +kernel
theorem dX5_init_19 : decode cX5_init 19 = .ok (.dup, 1) := by decide +kernel
theorem dX5_init_20 : decode cX5_init 20 = .ok (.invokespecial 9, 3) := by decide +kernel
theorem dX5_init_23 : decode cX5_init 23 = .ok (.putfield 16, 3) := by decide +kernel
theorem dX5_init_26 : decode cX5_init 26 = .ok (.aload_n 0, 1) := by decide +kernel
theorem dX5_init_27 : decode cX5_init 27 = .ok (.new 7, 3) := by decide +kernel
theorem dX5_init_30 : decode cX5_init 30 = .ok (.dup, 1) := by decide +kernel
theorem dX5_init_31 : decode cX5_init 31 = .ok (.invokespecial 9, 3) := by decide +kernel
theorem dX5_init_34 : decode cX5_init 34 = .ok (.putfield 19, 3) := by decide +kernel
theorem dX5_init_37 : decode cX5_init 37 = .ok (.aload_n 0, 1) := by decide +kernel
theorem dX5_init_38 : decode cX5_init 38 = .ok (.new 22, 3) := by decide +kernel
theorem dX5_init_41 : decode cX5_init 41 = .ok (.dup, 1) := by decide +kernel
theorem dX5_init_42 : decode cX5_init 42 = .ok (.invokespecial 24, 3) := by decide +kernel
theorem dX5_init_45 : decode cX5_init 45 = .ok (.putfield 25, 3) := by decide +kernel
theorem dX5_init_48 : decode cX5_init 48 = .ok (.aload_n 0, 1) := by decide +kernel
theorem dX5_init_49 : decode cX5_init 49 = .ok (.new 29, 3) := by decide +kernel
theorem dX5_init_52 : decode cX5_init 52 = .ok (.dup, 1) := by decide +kernel
theorem dX5_init_53 : decode cX5_init 53 = .ok (.invokespecial 31, 3) := by decide +kernel
theorem dX5_init_56 : decode cX5_init 56 = .ok (.putfield 32, 3) := by decide +kernel
theorem dX5_init_59 : decode cX5_init 59 = .ok (.aload_n 0, 1) := by decide +kernel
theorem dX5_init_60 : decode cX5_init 60 = .ok (.new 36, 3) := by decide +kernel
theorem dX5_init_63 : decode cX5_init 63 = .ok (.dup, 1) := by decide +kernel
theorem dX5_init_64 : decode cX5_init 64 = .ok (.invokespecial 38, 3) := by decide +kernel
theorem dX5_init_67 : decode cX5_init 67 = .ok (.putfield 39, 3) := by decide +kernel
theorem dX5_init_70 : decode cX5_init 70 = .ok (.aload_n 0, 1) := by decide +kernel
theorem dX5_init_71 : decode cX5_init 71 = .ok (.bipush 16, 2) := by decide +kernel
theorem dX5_init_73 : decode cX5_init 73 = .ok (.newarray .int, 2) := by decide +kernel
theorem dX5_init_75 : decode cX5_init 75 = .ok (.putfield 43, 3) := by decide +kernel
theorem dX5_init_78 : decode cX5_init 78 = .ok (.aload_n 0, 1) := by decide +kernel
theorem dX5_init_79 : decode cX5_init 79 = .ok (.bipush 7, 2) := by decide +kernel
theorem dX5_init_81 : decode cX5_init 81 = .ok (.newarray .int, 2) := by decide +kernel
theorem dX5_init_83 : decode cX5_init 83 = .ok (.putfield 47, 3) := by decide +kernel
theorem dX5_init_86 : decode cX5_init 86 = .ok (.aload_n 0, 1) := by decide +kernel
theorem dX5_init_87 : decode cX5_init 87 = .ok (.iconst 4, 1) := by decide +kernel
theorem dX5_init_88 : decode cX5_init 88 = .ok (.newarray .int, 2) := by decide +kernel
theorem dX5_init_90 : decode cX5_init 90 = .ok (.putfield 50, 3) := by decide +kernel
theorem dX5_init_93 : decode cX5_init 93 = .ok (.return_, 1) := by decide +kernel
theorem dX5_letter_0 : decode cX5_letter 0 = .ok (.iload_n 1, 1) := by decide +kernel
theorem dX5_letter_1 : decode cX5_letter 1 = .ok (.ifCond .ge 10, 3) := by decide +kernel
theorem dX5_letter_4 : decode cX5_letter 4 = .ok (.aload_n 0, 1) := by decide +kernel
theorem dX5_letter_5 : decode cX5_letter 5 = .ok (.bipush (-4), 2) := by decide +kernel
theorem dX5_letter_7 : decode cX5_letter 7 = .ok (.invokevirtual 53, 3) := by decide +kernel
theorem dX5_letter_10 : decode cX5_letter 10 = .ok (.ireturn, 1) := by decide +kernel
theorem dX5_letter_11 : decode cX5_letter 11 = .ok (.iload_n 1, 1) := by decide +kernel
theorem dX5_letter_12 : decode cX5_letter 12 = .ok (.sipush 255, 3) := by decide +kernel
theorem dX5_letter_15 : decode cX5_letter 15 = .ok (.if_icmp .gt 15, 3) := by decide +kernel
theorem dX5_letter_18 : decode cX5_letter 18 = .ok (.aload_n 0, 1) := by decide +kernel
theorem dX5_letter_19 : decode cX5_letter 19 = .ok (.getfield 39, 3) := by decide +kernel
theorem dX5_letter_22 : decode cX5_letter 22 = .ok (.getfield 57, 3) := by decide +kernel
theorem dX5_letter_25 : decode cX5_letter 25 = .ok (.bipush 96, 2) := by decide +kernel
theorem dX5_letter_27 : decode cX5_letter 27 = .ok (.if_icmp .lt 10, 3) := by decide +kernel
theorem dX5_letter_30 : decode cX5_letter 30 = .ok (.aload_n 0, 1) := by decide +kernel
theorem dX5_letter_31 : decode cX5_letter 31 = .ok (.bipush (-6), 2) := by decide +kernel
theorem dX5_letter_33 : decode cX5_letter 33 = .ok (.invokevirtual 53, 3) := by decide +kernel
theorem dX5_letter_36 : decode cX5_letter 36 = .ok (.ireturn, 1) := by decide +kernel
theorem dX5_letter_37 : decode cX5_letter 37 = .ok (.aload_n 0, 1) := by decide +kernel
theorem dX5_letter_38 : decode cX5_letter 38 = .ok (.getfield 39, 3) := by decide +kernel
theorem dX5_letter_41 : decode cX5_letter 41 = .ok (.iload_n 1, 1) := by decide +kernel
theorem dX5_letter_42 : decode cX5_letter 42 = .ok (.invokevirtual 61, 3) := by decide +kernel
theorem dX5_letter_45 : decode cX5_letter 45 = .ok (.ireturn, 1) := by decide +kernel
theorem dX5_core_0 : decode cX5_core 0 = .ok (.aload_n 0, 1) := by decide +kernel
theorem dX5_core_1 : decode cX5_core 1 = .ok (.invokevirtual 64, 3) := by decide +kernel
theorem dX5_core_4 : decode cX5_core 4 = .ok (.istore_n 1, 1) := by decide +kernel
theorem dX5_core_5 : decode cX5_core 5 = .ok (.iload_n 1, 1) := by decide +kernel
theorem dX5_core_6 : decode cX5_core 6 = .ok (.ifCond .lt 14, 3) := by decide +kernel
theorem dX5_core_9 : decode cX5_core 9 = .ok (.aload_n 0, 1) := by decide +kernel
theorem dX5_core_10 : decode cX5_core 10 = .ok (.getfield 10, 3) := by decide +kernel
theorem dX5_core_13 : decode cX5_core 13 = .ok (.aload_n 0, 1) := by decide +kernel
theorem dX5_core_14 : decode cX5_core 14 = .ok (.getfield 19, 3) := by decide +kernel
theorem dX5_core_17 : decode cX5_core 17 = .ok (.invokevirtual 68, 3) := by decide +kernel
theorem dX5_core_20 : decode cX5_core 20 = .ok (.aload_n 0, 1) := by decide +kernel
theorem dX5_core_21 : decode cX5_core 21 = .ok (.getfield 39, 3) := by decide +kernel
theorem dX5_core_24 : decode cX5_core 24 = .ok (.iconst 0, 1) := by decide +kernel
theorem dX5_core_25 : decode cX5_core 25 = .ok (.putfield 57, 3) := by decide +kernel
theorem dX5_core_28 : decode cX5_core 28 = .ok (.iload_n 1, 1) := by decide +kernel
theorem dX5_core_29 : decode cX5_core 29 = .ok (.ireturn, 1) := by decide +kernel
theorem dX5_cell_0 : decode cX5_cell 0 = .ok (.iload_n 1, 1) := by decide +kernel
theorem dX5_cell_1 : decode cX5_cell 1 = .ok (.invokestatic 72, 3) := by decide +kernel
theorem dX5_cell_4 : decode cX5_cell 4 = .ok (.ifCond .ne 9, 3) := by decide +kernel
theorem dX5_cell_7 : decode cX5_cell 7 = .ok (.aload_n 0, 1) := by decide +kernel
theorem dX5_cell_8 : decode cX5_cell 8 = .ok (.iconst (-1), 1) := by decide +kernel
theorem dX5_cell_9 : decode cX5_cell 9 = .ok (.invokevirtual 53, 3) := by decide +kernel
theorem dX5_cell_12 : decode cX5_cell 12 = .ok (.ireturn, 1) := by decide +kernel
theorem dX5_cell_13 : decode cX5_cell 13 = .ok (.iload_n 2, 1) := by decide +kernel
theorem dX5_cell_14 : decode cX5_cell 14 = .ok (.ifCond .lt 8, 3) := by decide +kernel
theorem dX5_cell_17 : decode cX5_cell 17 = .ok (.iload_n 2, 1) := by decide +kernel
theorem dX5_cell_18 : decode cX5_cell 18 = .ok (.iconst 2, 1) := by decide +kernel
theorem dX5_cell_19 : decode cX5_cell 19 = .ok (.if_icmp .le 10, 3) := by decide +kernel
theorem dX5_cell_22 : decode cX5_cell 22 = .ok (.aload_n 0, 1) := by decide +kernel
theorem dX5_cell_23 : decode cX5_cell 23 = .ok (.bipush (-2), 2) := by decide +kernel
theorem dX5_cell_25 : decode cX5_cell 25 = .ok (.invokevirtual 53, 3) := by decide +kernel
theorem dX5_cell_28 : decode cX5_cell 28 = .ok (.ireturn, 1) := by decide +kernel
theorem dX5_cell_29 : decode cX5_cell 29 = .ok (.iconst 1, 1) := by decide +kernel
theorem dX5_cell_30 : decode cX5_cell 30 = .ok (.iload_n 1, 1) := by decide +kernel
theorem dX5_cell_31 : decode cX5_cell 31 = .ok (.ishl, 1) := by decide +kernel
theorem dX5_cell_32 : decode cX5_cell 32 = .ok (.istore_n 3, 1) := by decide +kernel
theorem dX5_cell_33 : decode cX5_cell 33 = .ok (.iload_n 2, 1) := by decide +kernel
theorem dX5_cell_34 : decode cX5_cell 34 = .ok (.ifCond .ne 21, 3) := by decide +kernel
theorem dX5_cell_37 : decode cX5_cell 37 = .ok (.aload_n 0, 1) := by decide +kernel
theorem dX5_cell_38 : decode cX5_cell 38 = .ok (.getfield 10, 3) := by decide +kernel
theorem dX5_cell_41 : decode cX5_cell 41 = .ok (.getfield 76, 3) := by decide +kernel
theorem dX5_cell_44 : decode cX5_cell 44 = .ok (.iload_n 3, 1) := by decide +kernel
theorem dX5_cell_45 : decode cX5_cell 45 = .ok (.iand, 1) := by decide +kernel
theorem dX5_cell_46 : decode cX5_cell 46 = .ok (.ifCond .eq 7, 3) := by decide +kernel
theorem dX5_cell_49 : decode cX5_cell 49 = .ok (.iconst 1, 1) := by decide +kernel
theorem dX5_cell_50 : decode cX5_cell 50 = .ok (.goto 4, 3) := by decide +kernel
theorem dX5_cell_53 : decode cX5_cell 53 = .ok (.iconst 0, 1) := by decide +kernel
theorem dX5_cell_54 : decode cX5_cell 54 = .ok (.ireturn, 1) := by decide +kernel
theorem dX5_cell_55 : decode cX5_cell 55 = .ok (.iload_n 2, 1) := by decide +kernel
theorem dX5_cell_56 : decode cX5_cell 56 = .ok (.iconst 1, 1) := by decide +kernel
theorem dX5_cell_57 : decode cX5_cell 57 = .ok (.if_icmp .ne 19, 3) := by decide +kernel
theorem dX5_cell_60 : decode cX5_cell 60 = .ok (.iload_n 3, 1) := by decide +kernel
theorem dX5_cell_61 : decode cX5_cell 61 = .ok (.invokestatic 79, 3) := by decide +kernel
theorem dX5_cell_64 : decode cX5_cell 64 = .ok (.aload_n 0, 1) := by decide +kernel
theorem dX5_cell_65 : decode cX5_cell 65 = .ok (.getfield 10, 3) := by decide +kernel
theorem dX5_cell_68 : decode cX5_cell 68 = .ok (.getfield 76, 3) := by decide +kernel
theorem dX5_cell_71 : decode cX5_cell 71 = .ok (.iand, 1) := by decide +kernel
theorem dX5_cell_72 : decode cX5_cell 72 = .ok (.invokestatic 84, 3) := by decide +kernel
theorem dX5_cell_75 : decode cX5_cell 75 = .ok (.ireturn, 1) := by decide +kernel
theorem dX5_cell_76 : decode cX5_cell 76 = .ok (.iload_n 3, 1) := by decide +kernel
theorem dX5_cell_77 : decode cX5_cell 77 = .ok (.aload_n 0, 1) := by decide +kernel
theorem dX5_cell_78 : decode cX5_cell 78 = .ok (.getfield 10, 3) := by decide +kernel
theorem dX5_cell_81 : decode cX5_cell 81 = .ok (.getfield 76, 3) := by decide +kernel
theorem dX5_cell_84 : decode cX5_cell 84 = .ok (.invokestatic 89, 3) := by decide +kernel
theorem dX5_cell_87 : decode cX5_cell 87 = .ok (.invokestatic 84, 3) := by decide +kernel
theorem dX5_cell_90 : decode cX5_cell 90 = .ok (.ireturn, 1) := by decide +kernel
theorem dX5_heir_0 : decode cX5_heir 0 = .ok (.aload_n 0, 1) := by decide +kernel
theorem dX5_heir_1 : decode cX5_heir 1 = .ok (.iload_n 1, 1) := by decide +kernel
theorem dX5_heir_2 : decode cX5_heir 2 = .ok (.invokevirtual 93, 3) := by decide +kernel
theorem dX5_heir_5 : decode cX5_heir 5 = .ok (.ifCond .ne 9, 3) := by decide +kernel
theorem dX5_heir_8 : decode cX5_heir 8 = .ok (.aload_n 0, 1) := by decide +kernel
theorem dX5_heir_9 : decode cX5_heir 9 = .ok (.iconst (-1), 1) := by decide +kernel
theorem dX5_heir_10 : decode cX5_heir 10 = .ok (.invokevirtual 53, 3) := by decide +kernel
theorem dX5_heir_13 : decode cX5_heir 13 = .ok (.ireturn, 1) := by decide +kernel
theorem dX5_heir_14 : decode cX5_heir 14 = .ok (.iload_n 2, 1) := by decide +kernel
theorem dX5_heir_15 : decode cX5_heir 15 = .ok (.ifCond .lt 8, 3) := by decide +kernel
theorem dX5_heir_18 : decode cX5_heir 18 = .ok (.iload_n 2, 1) := by decide +kernel
theorem dX5_heir_19 : decode cX5_heir 19 = .ok (.iconst 2, 1) := by decide +kernel
theorem dX5_heir_20 : decode cX5_heir 20 = .ok (.if_icmp .le 10, 3) := by decide +kernel
theorem dX5_heir_23 : decode cX5_heir 23 = .ok (.aload_n 0, 1) := by decide +kernel
theorem dX5_heir_24 : decode cX5_heir 24 = .ok (.bipush (-2), 2) := by decide +kernel
theorem dX5_heir_26 : decode cX5_heir 26 = .ok (.invokevirtual 53, 3) := by decide +kernel
theorem dX5_heir_29 : decode cX5_heir 29 = .ok (.ireturn, 1) := by decide +kernel
theorem dX5_heir_30 : decode cX5_heir 30 = .ok (.iload_n 2, 1) := by decide +kernel
theorem dX5_heir_31 : decode cX5_heir 31 = .ok (.ifCond .ne 13, 3) := by decide +kernel
theorem dX5_heir_34 : decode cX5_heir 34 = .ok (.aload_n 0, 1) := by decide +kernel
theorem dX5_heir_35 : decode cX5_heir 35 = .ok (.getfield 10, 3) := by decide +kernel
theorem dX5_heir_38 : decode cX5_heir 38 = .ok (.getfield 96, 3) := by decide +kernel
theorem dX5_heir_41 : decode cX5_heir 41 = .ok (.iload_n 1, 1) := by decide +kernel
theorem dX5_heir_42 : decode cX5_heir 42 = .ok (.iaload, 1) := by decide +kernel
theorem dX5_heir_43 : decode cX5_heir 43 = .ok (.ireturn, 1) := by decide +kernel
theorem dX5_heir_44 : decode cX5_heir 44 = .ok (.iload_n 2, 1) := by decide +kernel
theorem dX5_heir_45 : decode cX5_heir 45 = .ok (.iconst 1, 1) := by decide +kernel
theorem dX5_heir_46 : decode cX5_heir 46 = .ok (.if_icmp .ne 13, 3) := by decide +kernel
theorem dX5_heir_49 : decode cX5_heir 49 = .ok (.aload_n 0, 1) := by decide +kernel
theorem dX5_heir_50 : decode cX5_heir 50 = .ok (.getfield 10, 3) := by decide +kernel
theorem dX5_heir_53 : decode cX5_heir 53 = .ok (.getfield 99, 3) := by decide +kernel
theorem dX5_heir_56 : decode cX5_heir 56 = .ok (.iload_n 1, 1) := by decide +kernel
theorem dX5_heir_57 : decode cX5_heir 57 = .ok (.iaload, 1) := by decide +kernel
theorem dX5_heir_58 : decode cX5_heir 58 = .ok (.ireturn, 1) := by decide +kernel
theorem dX5_heir_59 : decode cX5_heir 59 = .ok (.aload_n 0, 1) := by decide +kernel
theorem dX5_heir_60 : decode cX5_heir 60 = .ok (.iload_n 1, 1) := by decide +kernel
theorem dX5_heir_61 : decode cX5_heir 61 = .ok (.aload_n 0, 1) := by decide +kernel
theorem dX5_heir_62 : decode cX5_heir 62 = .ok (.getfield 10, 3) := by decide +kernel
theorem dX5_heir_65 : decode cX5_heir 65 = .ok (.getfield 76, 3) := by decide +kernel
theorem dX5_heir_68 : decode cX5_heir 68 = .ok (.invokevirtual 102, 3) := by decide +kernel
theorem dX5_heir_71 : decode cX5_heir 71 = .ok (.ireturn, 1) := by decide +kernel
theorem dX5_bites_0 : decode cX5_bites 0 = .ok (.iload_n 1, 1) := by decide +kernel
theorem dX5_bites_1 : decode cX5_bites 1 = .ok (.ifCond .lt 8, 3) := by decide +kernel
theorem dX5_bites_4 : decode cX5_bites 4 = .ok (.iload_n 1, 1) := by decide +kernel
theorem dX5_bites_5 : decode cX5_bites 5 = .ok (.iconst 4, 1) := by decide +kernel
theorem dX5_bites_6 : decode cX5_bites 6 = .ok (.if_icmp .lt 10, 3) := by decide +kernel
theorem dX5_bites_9 : decode cX5_bites 9 = .ok (.aload_n 0, 1) := by decide +kernel
theorem dX5_bites_10 : decode cX5_bites 10 = .ok (.bipush (-2), 2) := by decide +kernel
theorem dX5_bites_12 : decode cX5_bites 12 = .ok (.invokevirtual 53, 3) := by decide +kernel
theorem dX5_bites_15 : decode cX5_bites 15 = .ok (.ireturn, 1) := by decide +kernel
theorem dX5_bites_16 : decode cX5_bites 16 = .ok (.iload_n 2, 1) := by decide +kernel
theorem dX5_bites_17 : decode cX5_bites 17 = .ok (.invokestatic 72, 3) := by decide +kernel
theorem dX5_bites_20 : decode cX5_bites 20 = .ok (.ifCond .ne 9, 3) := by decide +kernel
theorem dX5_bites_23 : decode cX5_bites 23 = .ok (.aload_n 0, 1) := by decide +kernel
theorem dX5_bites_24 : decode cX5_bites 24 = .ok (.iconst (-1), 1) := by decide +kernel
theorem dX5_bites_25 : decode cX5_bites 25 = .ok (.invokevirtual 53, 3) := by decide +kernel
theorem dX5_bites_28 : decode cX5_bites 28 = .ok (.ireturn, 1) := by decide +kernel
theorem dX5_bites_29 : decode cX5_bites 29 = .ok (.aload_n 0, 1) := by decide +kernel
theorem dX5_bites_30 : decode cX5_bites 30 = .ok (.getfield 10, 3) := by decide +kernel
theorem dX5_bites_33 : decode cX5_bites 33 = .ok (.iload_n 1, 1) := by decide +kernel
theorem dX5_bites_34 : decode cX5_bites 34 = .ok (.iload_n 2, 1) := by decide +kernel
theorem dX5_bites_35 : decode cX5_bites 35 = .ok (.invokevirtual 105, 3) := by decide +kernel
theorem dX5_bites_38 : decode cX5_bites 38 = .ok (.ifCond .ne 10, 3) := by decide +kernel
theorem dX5_bites_41 : decode cX5_bites 41 = .ok (.aload_n 0, 1) := by decide +kernel
theorem dX5_bites_42 : decode cX5_bites 42 = .ok (.bipush (-3), 2) := by decide +kernel
theorem dX5_bites_44 : decode cX5_bites 44 = .ok (.invokevirtual 53, 3) := by decide +kernel
theorem dX5_bites_47 : decode cX5_bites 47 = .ok (.ireturn, 1) := by decide +kernel
theorem dX5_bites_48 : decode cX5_bites 48 = .ok (.aload_n 0, 1) := by decide +kernel
theorem dX5_bites_49 : decode cX5_bites 49 = .ok (.getfield 10, 3) := by decide +kernel
theorem dX5_bites_52 : decode cX5_bites 52 = .ok (.getfield 76, 3) := by decide +kernel
theorem dX5_bites_55 : decode cX5_bites 55 = .ok (.invokestatic 84, 3) := by decide +kernel
theorem dX5_bites_58 : decode cX5_bites 58 = .ok (.ireturn, 1) := by decide +kernel
theorem dX5_heals_0 : decode cX5_heals 0 = .ok (.iload_n 1, 1) := by decide +kernel
theorem dX5_heals_1 : decode cX5_heals 1 = .ok (.invokestatic 72, 3) := by decide +kernel
theorem dX5_heals_4 : decode cX5_heals 4 = .ok (.ifCond .ne 9, 3) := by decide +kernel
theorem dX5_heals_7 : decode cX5_heals 7 = .ok (.aload_n 0, 1) := by decide +kernel
theorem dX5_heals_8 : decode cX5_heals 8 = .ok (.iconst (-1), 1) := by decide +kernel
theorem dX5_heals_9 : decode cX5_heals 9 = .ok (.invokevirtual 53, 3) := by decide +kernel
theorem dX5_heals_12 : decode cX5_heals 12 = .ok (.ireturn, 1) := by decide +kernel
theorem dX5_heals_13 : decode cX5_heals 13 = .ok (.aload_n 0, 1) := by decide +kernel
theorem dX5_heals_14 : decode cX5_heals 14 = .ok (.iload_n 1, 1) := by decide +kernel
theorem dX5_heals_15 : decode cX5_heals 15 = .ok (.invokevirtual 109, 3) := by decide +kernel
theorem dX5_heals_18 : decode cX5_heals 18 = .ok (.ifCond .eq 10, 3) := by decide +kernel
theorem dX5_heals_21 : decode cX5_heals 21 = .ok (.aload_n 0, 1) := by decide +kernel
theorem dX5_heals_22 : decode cX5_heals 22 = .ok (.bipush (-3), 2) := by decide +kernel
theorem dX5_heals_24 : decode cX5_heals 24 = .ok (.invokevirtual 53, 3) := by decide +kernel
theorem dX5_heals_27 : decode cX5_heals 27 = .ok (.ireturn, 1) := by decide +kernel
theorem dX5_heals_28 : decode cX5_heals 28 = .ok (.aload_n 0, 1) := by decide +kernel
theorem dX5_heals_29 : decode cX5_heals 29 = .ok (.getfield 10, 3) := by decide +kernel
theorem dX5_heals_32 : decode cX5_heals 32 = .ok (.iload_n 1, 1) := by decide +kernel
theorem dX5_heals_33 : decode cX5_heals 33 = .ok (.invokevirtual 112, 3) := by decide +kernel
theorem dX5_heals_36 : decode cX5_heals 36 = .ok (.pop, 1) := by decide +kernel
theorem dX5_heals_37 : decode cX5_heals 37 = .ok (.aload_n 0, 1) := by decide +kernel
theorem dX5_heals_38 : decode cX5_heals 38 = .ok (.getfield 10, 3) := by decide +kernel
theorem dX5_heals_41 : decode cX5_heals 41 = .ok (.getfield 76, 3) := by decide +kernel
theorem dX5_heals_44 : decode cX5_heals 44 = .ok (.invokestatic 84, 3) := by decide +kernel
theorem dX5_heals_47 : decode cX5_heals 47 = .ok (.ireturn, 1) := by decide +kernel
theorem dX5_rolls_0 : decode cX5_rolls 0 = .ok (.iload_n 1, 1) := by decide +kernel
theorem dX5_rolls_1 : decode cX5_rolls 1 = .ok (.iconst 1, 1) := by decide +kernel
theorem dX5_rolls_2 : decode cX5_rolls 2 = .ok (.if_icmp .ge 10, 3) := by decide +kernel
theorem dX5_rolls_5 : decode cX5_rolls 5 = .ok (.aload_n 0, 1) := by decide +kernel
theorem dX5_rolls_6 : decode cX5_rolls 6 = .ok (.bipush (-4), 2) := by decide +kernel
theorem dX5_rolls_8 : decode cX5_rolls 8 = .ok (.invokevirtual 53, 3) := by decide +kernel
theorem dX5_rolls_11 : decode cX5_rolls 11 = .ok (.ireturn, 1) := by decide +kernel
theorem dX5_rolls_12 : decode cX5_rolls 12 = .ok (.iload_n 1, 1) := by decide +kernel
theorem dX5_rolls_13 : decode cX5_rolls 13 = .ok (.iconst 3, 1) := by decide +kernel
theorem dX5_rolls_14 : decode cX5_rolls 14 = .ok (.if_icmp .le 10, 3) := by decide +kernel
theorem dX5_rolls_17 : decode cX5_rolls 17 = .ok (.aload_n 0, 1) := by decide +kernel
theorem dX5_rolls_18 : decode cX5_rolls 18 = .ok (.bipush (-6), 2) := by decide +kernel
theorem dX5_rolls_20 : decode cX5_rolls 20 = .ok (.invokevirtual 53, 3) := by decide +kernel
theorem dX5_rolls_23 : decode cX5_rolls 23 = .ok (.ireturn, 1) := by decide +kernel
theorem dX5_rolls_24 : decode cX5_rolls 24 = .ok (.aload_n 0, 1) := by decide +kernel
theorem dX5_rolls_25 : decode cX5_rolls 25 = .ok (.getfield 10, 3) := by decide +kernel
theorem dX5_rolls_28 : decode cX5_rolls 28 = .ok (.iload_n 1, 1) := by decide +kernel
theorem dX5_rolls_29 : decode cX5_rolls 29 = .ok (.invokevirtual 115, 3) := by decide +kernel
theorem dX5_rolls_32 : decode cX5_rolls 32 = .ok (.pop, 1) := by decide +kernel
theorem dX5_rolls_33 : decode cX5_rolls 33 = .ok (.aload_n 0, 1) := by decide +kernel
theorem dX5_rolls_34 : decode cX5_rolls 34 = .ok (.getfield 10, 3) := by decide +kernel
theorem dX5_rolls_37 : decode cX5_rolls 37 = .ok (.getfield 76, 3) := by decide +kernel
theorem dX5_rolls_40 : decode cX5_rolls 40 = .ok (.invokestatic 84, 3) := by decide +kernel
theorem dX5_rolls_43 : decode cX5_rolls 43 = .ok (.ireturn, 1) := by decide +kernel
theorem dX5_turn_0 : decode cX5_turn 0 = .ok (.aload_n 0, 1) := by decide +kernel
theorem dX5_turn_1 : decode cX5_turn 1 = .ok (.iload_n 1, 1) := by decide +kernel
theorem dX5_turn_2 : decode cX5_turn 2 = .ok (.invokevirtual 93, 3) := by decide +kernel
theorem dX5_turn_5 : decode cX5_turn 5 = .ok (.ifCond .ne 9, 3) := by decide +kernel
theorem dX5_turn_8 : decode cX5_turn 8 = .ok (.aload_n 0, 1) := by decide +kernel
theorem dX5_turn_9 : decode cX5_turn 9 = .ok (.iconst (-1), 1) := by decide +kernel
theorem dX5_turn_10 : decode cX5_turn 10 = .ok (.invokevirtual 53, 3) := by decide +kernel
theorem dX5_turn_13 : decode cX5_turn 13 = .ok (.ireturn, 1) := by decide +kernel
theorem dX5_turn_14 : decode cX5_turn 14 = .ok (.iload_n 2, 1) := by decide +kernel
theorem dX5_turn_15 : decode cX5_turn 15 = .ok (.ifCond .lt 9, 3) := by decide +kernel
theorem dX5_turn_18 : decode cX5_turn 18 = .ok (.iload_n 2, 1) := by decide +kernel
theorem dX5_turn_19 : decode cX5_turn 19 = .ok (.bipush 6, 2) := by decide +kernel
theorem dX5_turn_21 : decode cX5_turn 21 = .ok (.if_icmp .lt 10, 3) := by decide +kernel
theorem dX5_turn_24 : decode cX5_turn 24 = .ok (.aload_n 0, 1) := by decide +kernel
theorem dX5_turn_25 : decode cX5_turn 25 = .ok (.bipush (-2), 2) := by decide +kernel
theorem dX5_turn_27 : decode cX5_turn 27 = .ok (.invokevirtual 53, 3) := by decide +kernel
theorem dX5_turn_30 : decode cX5_turn 30 = .ok (.ireturn, 1) := by decide +kernel
theorem dX5_turn_31 : decode cX5_turn 31 = .ok (.iload_n 3, 1) := by decide +kernel
theorem dX5_turn_32 : decode cX5_turn 32 = .ok (.ifCond .ge 10, 3) := by decide +kernel
theorem dX5_turn_35 : decode cX5_turn 35 = .ok (.aload_n 0, 1) := by decide +kernel
theorem dX5_turn_36 : decode cX5_turn 36 = .ok (.bipush (-4), 2) := by decide +kernel
theorem dX5_turn_38 : decode cX5_turn 38 = .ok (.invokevirtual 53, 3) := by decide +kernel
theorem dX5_turn_41 : decode cX5_turn 41 = .ok (.ireturn, 1) := by decide +kernel
theorem dX5_turn_42 : decode cX5_turn 42 = .ok (.iload_n 3, 1) := by decide +kernel
theorem dX5_turn_43 : decode cX5_turn 43 = .ok (.bipush 10, 2) := by decide +kernel
theorem dX5_turn_45 : decode cX5_turn 45 = .ok (.if_icmp .lt 10, 3) := by decide +kernel
theorem dX5_turn_48 : decode cX5_turn 48 = .ok (.aload_n 0, 1) := by decide +kernel
theorem dX5_turn_49 : decode cX5_turn 49 = .ok (.bipush (-6), 2) := by decide +kernel
theorem dX5_turn_51 : decode cX5_turn 51 = .ok (.invokevirtual 53, 3) := by decide +kernel
theorem dX5_turn_54 : decode cX5_turn 54 = .ok (.ireturn, 1) := by decide +kernel
theorem dX5_turn_55 : decode cX5_turn 55 = .ok (.bipush 10, 2) := by decide +kernel
theorem dX5_turn_57 : decode cX5_turn 57 = .ok (.aload_n 0, 1) := by decide +kernel
theorem dX5_turn_58 : decode cX5_turn 58 = .ok (.getfield 10, 3) := by decide +kernel
theorem dX5_turn_61 : decode cX5_turn 61 = .ok (.getfield 96, 3) := by decide +kernel
theorem dX5_turn_64 : decode cX5_turn 64 = .ok (.iload_n 1, 1) := by decide +kernel
theorem dX5_turn_65 : decode cX5_turn 65 = .ok (.iaload, 1) := by decide +kernel
theorem dX5_turn_66 : decode cX5_turn 66 = .ok (.imul, 1) := by decide +kernel
theorem dX5_turn_67 : decode cX5_turn 67 = .ok (.aload_n 0, 1) := by decide +kernel
theorem dX5_turn_68 : decode cX5_turn 68 = .ok (.getfield 10, 3) := by decide +kernel
theorem dX5_turn_71 : decode cX5_turn 71 = .ok (.getfield 99, 3) := by decide +kernel
theorem dX5_turn_74 : decode cX5_turn 74 = .ok (.iload_n 1, 1) := by decide +kernel
theorem dX5_turn_75 : decode cX5_turn 75 = .ok (.iaload, 1) := by decide +kernel
theorem dX5_turn_76 : decode cX5_turn 76 = .ok (.iadd, 1) := by decide +kernel
theorem dX5_turn_77 : decode cX5_turn 77 = .ok (.istore 4, 2) := by decide +kernel
theorem dX5_turn_79 : decode cX5_turn 79 = .ok (.aload_n 0, 1) := by decide +kernel
theorem dX5_turn_80 : decode cX5_turn 80 = .ok (.getfield 10, 3) := by decide +kernel
theorem dX5_turn_83 : decode cX5_turn 83 = .ok (.getfield 96, 3) := by decide +kernel
theorem dX5_turn_86 : decode cX5_turn 86 = .ok (.iload_n 1, 1) := by decide +kernel
theorem dX5_turn_87 : decode cX5_turn 87 = .ok (.iload_n 2, 1) := by decide +kernel
theorem dX5_turn_88 : decode cX5_turn 88 = .ok (.iastore, 1) := by decide +kernel
theorem dX5_turn_89 : decode cX5_turn 89 = .ok (.aload_n 0, 1) := by decide +kernel
theorem dX5_turn_90 : decode cX5_turn 90 = .ok (.getfield 10, 3) := by decide +kernel
theorem dX5_turn_93 : decode cX5_turn 93 = .ok (.getfield 99, 3) := by decide +kernel
theorem dX5_turn_96 : decode cX5_turn 96 = .ok (.iload_n 1, 1) := by decide +kernel
theorem dX5_turn_97 : decode cX5_turn 97 = .ok (.iload_n 3, 1) := by decide +kernel
theorem dX5_turn_98 : decode cX5_turn 98 = .ok (.iastore, 1) := by decide +kernel
theorem dX5_turn_99 : decode cX5_turn 99 = .ok (.iload 4, 2) := by decide +kernel
theorem dX5_turn_101 : decode cX5_turn 101 = .ok (.ireturn, 1) := by decide +kernel
theorem dX5_anew_0 : decode cX5_anew 0 = .ok (.aload_n 0, 1) := by decide +kernel
theorem dX5_anew_1 : decode cX5_anew 1 = .ok (.getfield 10, 3) := by decide +kernel
theorem dX5_anew_4 : decode cX5_anew 4 = .ok (.getfield 118, 3) := by decide +kernel
theorem dX5_anew_7 : decode cX5_anew 7 = .ok (.istore_n 1, 1) := by decide +kernel
theorem dX5_anew_8 : decode cX5_anew 8 = .ok (.aload_n 0, 1) := by decide +kernel
theorem dX5_anew_9 : decode cX5_anew 9 = .ok (.getfield 10, 3) := by decide +kernel
theorem dX5_anew_12 : decode cX5_anew 12 = .ok (.invokevirtual 121, 3) := by decide +kernel
theorem dX5_anew_15 : decode cX5_anew 15 = .ok (.pop, 1) := by decide +kernel
theorem dX5_anew_16 : decode cX5_anew 16 = .ok (.iload_n 1, 1) := by decide +kernel
theorem dX5_anew_17 : decode cX5_anew 17 = .ok (.ireturn, 1) := by decide +kernel
theorem dX5_shares_0 : decode cX5_shares 0 = .ok (.iload_n 1, 1) := by decide +kernel
theorem dX5_shares_1 : decode cX5_shares 1 = .ok (.invokestatic 125, 3) := by decide +kernel
theorem dX5_shares_4 : decode cX5_shares 4 = .ok (.ifCond .ne 10, 3) := by decide +kernel
theorem dX5_shares_7 : decode cX5_shares 7 = .ok (.aload_n 0, 1) := by decide +kernel
theorem dX5_shares_8 : decode cX5_shares 8 = .ok (.bipush (-2), 2) := by decide +kernel
theorem dX5_shares_10 : decode cX5_shares 10 = .ok (.invokevirtual 53, 3) := by decide +kernel
theorem dX5_shares_13 : decode cX5_shares 13 = .ok (.ireturn, 1) := by decide +kernel
theorem dX5_shares_14 : decode cX5_shares 14 = .ok (.iload_n 1, 1) := by decide +kernel
theorem dX5_shares_15 : decode cX5_shares 15 = .ok (.ifCond .ne 17, 3) := by decide +kernel
theorem dX5_shares_18 : decode cX5_shares 18 = .ok (.aload_n 0, 1) := by decide +kernel
theorem dX5_shares_19 : decode cX5_shares 19 = .ok (.aload_n 0, 1) := by decide +kernel
theorem dX5_shares_20 : decode cX5_shares 20 = .ok (.getfield 10, 3) := by decide +kernel
theorem dX5_shares_23 : decode cX5_shares 23 = .ok (.getfield 76, 3) := by decide +kernel
theorem dX5_shares_26 : decode cX5_shares 26 = .ok (.invokevirtual 128, 3) := by decide +kernel
theorem dX5_shares_29 : decode cX5_shares 29 = .ok (.goto 7, 3) := by decide +kernel
theorem dX5_shares_32 : decode cX5_shares 32 = .ok (.aload_n 0, 1) := by decide +kernel
theorem dX5_shares_33 : decode cX5_shares 33 = .ok (.invokevirtual 131, 3) := by decide +kernel
theorem dX5_shares_36 : decode cX5_shares 36 = .ok (.ireturn, 1) := by decide +kernel
theorem dX5_pieces_0 : decode cX5_pieces 0 = .ok (.iload_n 1, 1) := by decide +kernel
theorem dX5_pieces_1 : decode cX5_pieces 1 = .ok (.ifCond .lt 8, 3) := by decide +kernel
theorem dX5_pieces_4 : decode cX5_pieces 4 = .ok (.iload_n 1, 1) := by decide +kernel
theorem dX5_pieces_5 : decode cX5_pieces 5 = .ok (.iconst 3, 1) := by decide +kernel
theorem dX5_pieces_6 : decode cX5_pieces 6 = .ok (.if_icmp .le 10, 3) := by decide +kernel
theorem dX5_pieces_9 : decode cX5_pieces 9 = .ok (.aload_n 0, 1) := by decide +kernel
theorem dX5_pieces_10 : decode cX5_pieces 10 = .ok (.bipush (-2), 2) := by decide +kernel
theorem dX5_pieces_12 : decode cX5_pieces 12 = .ok (.invokevirtual 53, 3) := by decide +kernel
theorem dX5_pieces_15 : decode cX5_pieces 15 = .ok (.ireturn, 1) := by decide +kernel
theorem dX5_pieces_16 : decode cX5_pieces 16 = .ok (.aload_n 0, 1) := by decide +kernel
theorem dX5_pieces_17 : decode cX5_pieces 17 = .ok (.getfield 25, 3) := by decide +kernel
theorem dX5_pieces_20 : decode cX5_pieces 20 = .ok (.aload_n 0, 1) := by decide +kernel
theorem dX5_pieces_21 : decode cX5_pieces 21 = .ok (.getfield 10, 3) := by decide +kernel
theorem dX5_pieces_24 : decode cX5_pieces 24 = .ok (.getfield 76, 3) := by decide +kernel
theorem dX5_pieces_27 : decode cX5_pieces 27 = .ok (.invokevirtual 134, 3) := by decide +kernel
theorem dX5_pieces_30 : decode cX5_pieces 30 = .ok (.iload_n 1, 1) := by decide +kernel
theorem dX5_pieces_31 : decode cX5_pieces 31 = .ok (.ifCond .ne 11, 3) := by decide +kernel
theorem dX5_pieces_34 : decode cX5_pieces 34 = .ok (.aload_n 0, 1) := by decide +kernel
theorem dX5_pieces_35 : decode cX5_pieces 35 = .ok (.getfield 25, 3) := by decide +kernel
theorem dX5_pieces_38 : decode cX5_pieces 38 = .ok (.getfield 138, 3) := by decide +kernel
theorem dX5_pieces_41 : decode cX5_pieces 41 = .ok (.ireturn, 1) := by decide +kernel
theorem dX5_pieces_42 : decode cX5_pieces 42 = .ok (.iload_n 1, 1) := by decide +kernel
theorem dX5_pieces_43 : decode cX5_pieces 43 = .ok (.iconst 1, 1) := by decide +kernel
theorem dX5_pieces_44 : decode cX5_pieces 44 = .ok (.if_icmp .ne 11, 3) := by decide +kernel
theorem dX5_pieces_47 : decode cX5_pieces 47 = .ok (.aload_n 0, 1) := by decide +kernel
theorem dX5_pieces_48 : decode cX5_pieces 48 = .ok (.getfield 25, 3) := by decide +kernel
theorem dX5_pieces_51 : decode cX5_pieces 51 = .ok (.getfield 141, 3) := by decide +kernel
theorem dX5_pieces_54 : decode cX5_pieces 54 = .ok (.ireturn, 1) := by decide +kernel
theorem dX5_pieces_55 : decode cX5_pieces 55 = .ok (.aload_n 0, 1) := by decide +kernel
theorem dX5_pieces_56 : decode cX5_pieces 56 = .ok (.getfield 25, 3) := by decide +kernel
theorem dX5_pieces_59 : decode cX5_pieces 59 = .ok (.invokevirtual 144, 3) := by decide +kernel
theorem dX5_pieces_62 : decode cX5_pieces 62 = .ok (.ifCond .eq 6, 3) := by decide +kernel
theorem dX5_pieces_65 : decode cX5_pieces 65 = .ok (.bipush (-9), 2) := by decide +kernel
theorem dX5_pieces_67 : decode cX5_pieces 67 = .ok (.ireturn, 1) := by decide +kernel
theorem dX5_pieces_68 : decode cX5_pieces 68 = .ok (.iload_n 1, 1) := by decide +kernel
theorem dX5_pieces_69 : decode cX5_pieces 69 = .ok (.iconst 2, 1) := by decide +kernel
theorem dX5_pieces_70 : decode cX5_pieces 70 = .ok (.if_icmp .ne 16, 3) := by decide +kernel
theorem dX5_pieces_73 : decode cX5_pieces 73 = .ok (.aload_n 0, 1) := by decide +kernel
theorem dX5_pieces_74 : decode cX5_pieces 74 = .ok (.getfield 25, 3) := by decide +kernel
theorem dX5_pieces_77 : decode cX5_pieces 77 = .ok (.getfield 147, 3) := by decide +kernel
theorem dX5_pieces_80 : decode cX5_pieces 80 = .ok (.invokestatic 150, 3) := by decide +kernel
theorem dX5_pieces_83 : decode cX5_pieces 83 = .ok (.goto 13, 3) := by decide +kernel
theorem dX5_pieces_86 : decode cX5_pieces 86 = .ok (.aload_n 0, 1) := by decide +kernel
theorem dX5_pieces_87 : decode cX5_pieces 87 = .ok (.getfield 25, 3) := by decide +kernel
theorem dX5_pieces_90 : decode cX5_pieces 90 = .ok (.getfield 147, 3) := by decide +kernel
theorem dX5_pieces_93 : decode cX5_pieces 93 = .ok (.invokestatic 84, 3) := by decide +kernel
theorem dX5_pieces_96 : decode cX5_pieces 96 = .ok (.ireturn, 1) := by decide +kernel
theorem dX5_edge_0 : decode cX5_edge 0 = .ok (.iload_n 1, 1) := by decide +kernel
theorem dX5_edge_1 : decode cX5_edge 1 = .ok (.invokestatic 125, 3) := by decide +kernel
theorem dX5_edge_4 : decode cX5_edge 4 = .ok (.ifCond .ne 10, 3) := by decide +kernel
theorem dX5_edge_7 : decode cX5_edge 7 = .ok (.aload_n 0, 1) := by decide +kernel
theorem dX5_edge_8 : decode cX5_edge 8 = .ok (.bipush (-2), 2) := by decide +kernel
theorem dX5_edge_10 : decode cX5_edge 10 = .ok (.invokevirtual 53, 3) := by decide +kernel
theorem dX5_edge_13 : decode cX5_edge 13 = .ok (.ireturn, 1) := by decide +kernel
theorem dX5_edge_14 : decode cX5_edge 14 = .ok (.iload_n 1, 1) := by decide +kernel
theorem dX5_edge_15 : decode cX5_edge 15 = .ok (.ifCond .ne 16, 3) := by decide +kernel
theorem dX5_edge_18 : decode cX5_edge 18 = .ok (.aload_n 0, 1) := by decide +kernel
theorem dX5_edge_19 : decode cX5_edge 19 = .ok (.getfield 10, 3) := by decide +kernel
theorem dX5_edge_22 : decode cX5_edge 22 = .ok (.getfield 76, 3) := by decide +kernel
theorem dX5_edge_25 : decode cX5_edge 25 = .ok (.invokestatic 153, 3) := by decide +kernel
theorem dX5_edge_28 : decode cX5_edge 28 = .ok (.goto 13, 3) := by decide +kernel
theorem dX5_edge_31 : decode cX5_edge 31 = .ok (.aload_n 0, 1) := by decide +kernel
theorem dX5_edge_32 : decode cX5_edge 32 = .ok (.getfield 10, 3) := by decide +kernel
theorem dX5_edge_35 : decode cX5_edge 35 = .ok (.getfield 76, 3) := by decide +kernel
theorem dX5_edge_38 : decode cX5_edge 38 = .ok (.invokestatic 156, 3) := by decide +kernel
theorem dX5_edge_41 : decode cX5_edge 41 = .ok (.ireturn, 1) := by decide +kernel
theorem dX5_can_0 : decode cX5_can 0 = .ok (.iload_n 1, 1) := by decide +kernel
theorem dX5_can_1 : decode cX5_can 1 = .ok (.iconst (-1), 1) := by decide +kernel
theorem dX5_can_2 : decode cX5_can 2 = .ok (.if_icmp .lt 8, 3) := by decide +kernel
theorem dX5_can_5 : decode cX5_can 5 = .ok (.iload_n 1, 1) := by decide +kernel
theorem dX5_can_6 : decode cX5_can 6 = .ok (.iconst 4, 1) := by decide +kernel
theorem dX5_can_7 : decode cX5_can 7 = .ok (.if_icmp .lt 10, 3) := by decide +kernel
theorem dX5_can_10 : decode cX5_can 10 = .ok (.aload_n 0, 1) := by decide +kernel
theorem dX5_can_11 : decode cX5_can 11 = .ok (.bipush (-2), 2) := by decide +kernel
theorem dX5_can_13 : decode cX5_can 13 = .ok (.invokevirtual 53, 3) := by decide +kernel
theorem dX5_can_16 : decode cX5_can 16 = .ok (.ireturn, 1) := by decide +kernel
theorem dX5_can_17 : decode cX5_can 17 = .ok (.iload_n 1, 1) := by decide +kernel
theorem dX5_can_18 : decode cX5_can 18 = .ok (.ifCond .ge 7, 3) := by decide +kernel
theorem dX5_can_21 : decode cX5_can 21 = .ok (.iconst 0, 1) := by decide +kernel
theorem dX5_can_22 : decode cX5_can 22 = .ok (.goto 7, 3) := by decide +kernel
theorem dX5_can_25 : decode cX5_can 25 = .ok (.iload_n 1, 1) := by decide +kernel
theorem dX5_can_26 : decode cX5_can 26 = .ok (.bipush 25, 2) := by decide +kernel
theorem dX5_can_28 : decode cX5_can 28 = .ok (.imul, 1) := by decide +kernel
theorem dX5_can_29 : decode cX5_can 29 = .ok (.istore_n 2, 1) := by decide +kernel
theorem dX5_can_30 : decode cX5_can 30 = .ok (.iload_n 1, 1) := by decide +kernel
theorem dX5_can_31 : decode cX5_can 31 = .ok (.ifCond .ge 8, 3) := by decide +kernel
theorem dX5_can_34 : decode cX5_can 34 = .ok (.bipush 100, 2) := by decide +kernel
theorem dX5_can_36 : decode cX5_can 36 = .ok (.goto 7, 3) := by decide +kernel
theorem dX5_can_39 : decode cX5_can 39 = .ok (.iload_n 2, 1) := by decide +kernel
theorem dX5_can_40 : decode cX5_can 40 = .ok (.bipush 25, 2) := by decide +kernel
theorem dX5_can_42 : decode cX5_can 42 = .ok (.iadd, 1) := by decide +kernel
theorem dX5_can_43 : decode cX5_can 43 = .ok (.istore_n 3, 1) := by decide +kernel
theorem dX5_can_44 : decode cX5_can 44 = .ok (.iconst 0, 1) := by decide +kernel
theorem dX5_can_45 : decode cX5_can 45 = .ok (.istore 4, 2) := by decide +kernel
theorem dX5_can_47 : decode cX5_can 47 = .ok (.iload_n 2, 1) := by decide +kernel
theorem dX5_can_48 : decode cX5_can 48 = .ok (.istore 5, 2) := by decide +kernel
theorem dX5_can_50 : decode cX5_can 50 = .ok (.iload 5, 2) := by decide +kernel
theorem dX5_can_52 : decode cX5_can 52 = .ok (.iload_n 3, 1) := by decide +kernel
theorem dX5_can_53 : decode cX5_can 53 = .ok (.if_icmp .ge 34, 3) := by decide +kernel
theorem dX5_can_56 : decode cX5_can 56 = .ok (.iload 5, 2) := by decide +kernel
theorem dX5_can_58 : decode cX5_can 58 = .ok (.aload_n 0, 1) := by decide +kernel
theorem dX5_can_59 : decode cX5_can 59 = .ok (.getfield 10, 3) := by decide +kernel
theorem dX5_can_62 : decode cX5_can 62 = .ok (.getfield 76, 3) := by decide +kernel
theorem dX5_can_65 : decode cX5_can 65 = .ok (.invokestatic 159, 3) := by decide +kernel
theorem dX5_can_68 : decode cX5_can 68 = .ok (.aload_n 0, 1) := by decide +kernel
theorem dX5_can_69 : decode cX5_can 69 = .ok (.getfield 10, 3) := by decide +kernel
theorem dX5_can_72 : decode cX5_can 72 = .ok (.getfield 76, 3) := by decide +kernel
theorem dX5_can_75 : decode cX5_can 75 = .ok (.if_icmp .eq 6, 3) := by decide +kernel
theorem dX5_can_78 : decode cX5_can 78 = .ok (.iinc 4 1, 3) := by decide +kernel
theorem dX5_can_81 : decode cX5_can 81 = .ok (.iinc 5 1, 3) := by decide +kernel
theorem dX5_can_84 : decode cX5_can 84 = .ok (.goto (-34), 3) := by decide +kernel
theorem dX5_can_87 : decode cX5_can 87 = .ok (.iload 4, 2) := by decide +kernel
theorem dX5_can_89 : decode cX5_can 89 = .ok (.ireturn, 1) := by decide +kernel
theorem dX5_ways_0 : decode cX5_ways 0 = .ok (.iload_n 1, 1) := by decide +kernel
theorem dX5_ways_1 : decode cX5_ways 1 = .ok (.invokestatic 125, 3) := by decide +kernel
theorem dX5_ways_4 : decode cX5_ways 4 = .ok (.ifCond .ne 10, 3) := by decide +kernel
theorem dX5_ways_7 : decode cX5_ways 7 = .ok (.aload_n 0, 1) := by decide +kernel
theorem dX5_ways_8 : decode cX5_ways 8 = .ok (.bipush (-2), 2) := by decide +kernel
theorem dX5_ways_10 : decode cX5_ways 10 = .ok (.invokevirtual 53, 3) := by decide +kernel
theorem dX5_ways_13 : decode cX5_ways 13 = .ok (.ireturn, 1) := by decide +kernel
theorem dX5_ways_14 : decode cX5_ways 14 = .ok (.aload_n 0, 1) := by decide +kernel
theorem dX5_ways_15 : decode cX5_ways 15 = .ok (.getfield 32, 3) := by decide +kernel
theorem dX5_ways_18 : decode cX5_ways 18 = .ok (.aload_n 0, 1) := by decide +kernel
theorem dX5_ways_19 : decode cX5_ways 19 = .ok (.getfield 10, 3) := by decide +kernel
theorem dX5_ways_22 : decode cX5_ways 22 = .ok (.getfield 76, 3) := by decide +kernel
theorem dX5_ways_25 : decode cX5_ways 25 = .ok (.invokevirtual 162, 3) := by decide +kernel
theorem dX5_ways_28 : decode cX5_ways 28 = .ok (.iload_n 1, 1) := by decide +kernel
theorem dX5_ways_29 : decode cX5_ways 29 = .ok (.ifCond .ne 13, 3) := by decide +kernel
theorem dX5_ways_32 : decode cX5_ways 32 = .ok (.aload_n 0, 1) := by decide +kernel
theorem dX5_ways_33 : decode cX5_ways 33 = .ok (.getfield 32, 3) := by decide +kernel
theorem dX5_ways_36 : decode cX5_ways 36 = .ok (.invokevirtual 165, 3) := by decide +kernel
theorem dX5_ways_39 : decode cX5_ways 39 = .ok (.goto 10, 3) := by decide +kernel
theorem dX5_ways_42 : decode cX5_ways 42 = .ok (.aload_n 0, 1) := by decide +kernel
theorem dX5_ways_43 : decode cX5_ways 43 = .ok (.getfield 32, 3) := by decide +kernel
theorem dX5_ways_46 : decode cX5_ways 46 = .ok (.invokevirtual 168, 3) := by decide +kernel
theorem dX5_ways_49 : decode cX5_ways 49 = .ok (.ireturn, 1) := by decide +kernel
theorem dX5_alike_0 : decode cX5_alike 0 = .ok (.iload_n 1, 1) := by decide +kernel
theorem dX5_alike_1 : decode cX5_alike 1 = .ok (.invokestatic 125, 3) := by decide +kernel
theorem dX5_alike_4 : decode cX5_alike 4 = .ok (.ifCond .ne 10, 3) := by decide +kernel
theorem dX5_alike_7 : decode cX5_alike 7 = .ok (.aload_n 0, 1) := by decide +kernel
theorem dX5_alike_8 : decode cX5_alike 8 = .ok (.bipush (-2), 2) := by decide +kernel
theorem dX5_alike_10 : decode cX5_alike 10 = .ok (.invokevirtual 53, 3) := by decide +kernel
theorem dX5_alike_13 : decode cX5_alike 13 = .ok (.ireturn, 1) := by decide +kernel
theorem dX5_alike_14 : decode cX5_alike 14 = .ok (.aload_n 0, 1) := by decide +kernel
theorem dX5_alike_15 : decode cX5_alike 15 = .ok (.getfield 10, 3) := by decide +kernel
theorem dX5_alike_18 : decode cX5_alike 18 = .ok (.getfield 76, 3) := by decide +kernel
theorem dX5_alike_21 : decode cX5_alike 21 = .ok (.invokestatic 171, 3) := by decide +kernel
theorem dX5_alike_24 : decode cX5_alike 24 = .ok (.istore_n 2, 1) := by decide +kernel
theorem dX5_alike_25 : decode cX5_alike 25 = .ok (.iload_n 2, 1) := by decide +kernel
theorem dX5_alike_26 : decode cX5_alike 26 = .ok (.invokestatic 171, 3) := by decide +kernel
theorem dX5_alike_29 : decode cX5_alike 29 = .ok (.istore_n 3, 1) := by decide +kernel
theorem dX5_alike_30 : decode cX5_alike 30 = .ok (.iload_n 3, 1) := by decide +kernel
theorem dX5_alike_31 : decode cX5_alike 31 = .ok (.invokestatic 171, 3) := by decide +kernel
theorem dX5_alike_34 : decode cX5_alike 34 = .ok (.istore 4, 2) := by decide +kernel
theorem dX5_alike_36 : decode cX5_alike 36 = .ok (.iload_n 1, 1) := by decide +kernel
theorem dX5_alike_37 : decode cX5_alike 37 = .ok (.iconst 1, 1) := by decide +kernel
theorem dX5_alike_38 : decode cX5_alike 38 = .ok (.if_icmp .ne 24, 3) := by decide +kernel
theorem dX5_alike_41 : decode cX5_alike 41 = .ok (.aload_n 0, 1) := by decide +kernel
theorem dX5_alike_42 : decode cX5_alike 42 = .ok (.getfield 10, 3) := by decide +kernel
theorem dX5_alike_45 : decode cX5_alike 45 = .ok (.getfield 76, 3) := by decide +kernel
theorem dX5_alike_48 : decode cX5_alike 48 = .ok (.iload_n 2, 1) := by decide +kernel
theorem dX5_alike_49 : decode cX5_alike 49 = .ok (.invokestatic 174, 3) := by decide +kernel
theorem dX5_alike_52 : decode cX5_alike 52 = .ok (.iload_n 3, 1) := by decide +kernel
theorem dX5_alike_53 : decode cX5_alike 53 = .ok (.iload 4, 2) := by decide +kernel
theorem dX5_alike_55 : decode cX5_alike 55 = .ok (.invokestatic 174, 3) := by decide +kernel
theorem dX5_alike_58 : decode cX5_alike 58 = .ok (.invokestatic 174, 3) := by decide +kernel
theorem dX5_alike_61 : decode cX5_alike 61 = .ok (.ireturn, 1) := by decide +kernel
theorem dX5_alike_62 : decode cX5_alike 62 = .ok (.iload_n 2, 1) := by decide +kernel
theorem dX5_alike_63 : decode cX5_alike 63 = .ok (.aload_n 0, 1) := by decide +kernel
theorem dX5_alike_64 : decode cX5_alike 64 = .ok (.getfield 10, 3) := by decide +kernel
theorem dX5_alike_67 : decode cX5_alike 67 = .ok (.getfield 76, 3) := by decide +kernel
theorem dX5_alike_70 : decode cX5_alike 70 = .ok (.if_icmp .ne 5, 3) := by decide +kernel
theorem dX5_alike_73 : decode cX5_alike 73 = .ok (.iconst 1, 1) := by decide +kernel
theorem dX5_alike_74 : decode cX5_alike 74 = .ok (.ireturn, 1) := by decide +kernel
theorem dX5_alike_75 : decode cX5_alike 75 = .ok (.iload_n 3, 1) := by decide +kernel
theorem dX5_alike_76 : decode cX5_alike 76 = .ok (.aload_n 0, 1) := by decide +kernel
theorem dX5_alike_77 : decode cX5_alike 77 = .ok (.getfield 10, 3) := by decide +kernel
theorem dX5_alike_80 : decode cX5_alike 80 = .ok (.getfield 76, 3) := by decide +kernel
theorem dX5_alike_83 : decode cX5_alike 83 = .ok (.if_icmp .ne 7, 3) := by decide +kernel
theorem dX5_alike_86 : decode cX5_alike 86 = .ok (.iconst 2, 1) := by decide +kernel
theorem dX5_alike_87 : decode cX5_alike 87 = .ok (.goto 4, 3) := by decide +kernel
theorem dX5_alike_90 : decode cX5_alike 90 = .ok (.iconst 4, 1) := by decide +kernel
theorem dX5_alike_91 : decode cX5_alike 91 = .ok (.ireturn, 1) := by decide +kernel
theorem dX5_settles_0 : decode cX5_settles 0 = .ok (.iload_n 1, 1) := by decide +kernel
theorem dX5_settles_1 : decode cX5_settles 1 = .ok (.invokestatic 125, 3) := by decide +kernel
theorem dX5_settles_4 : decode cX5_settles 4 = .ok (.ifCond .ne 10, 3) := by decide +kernel
theorem dX5_settles_7 : decode cX5_settles 7 = .ok (.aload_n 0, 1) := by decide +kernel
theorem dX5_settles_8 : decode cX5_settles 8 = .ok (.bipush (-2), 2) := by decide +kernel
theorem dX5_settles_10 : decode cX5_settles 10 = .ok (.invokevirtual 53, 3) := by decide +kernel
theorem dX5_settles_13 : decode cX5_settles 13 = .ok (.ireturn, 1) := by decide +kernel
theorem dX5_settles_14 : decode cX5_settles 14 = .ok (.aload_n 0, 1) := by decide +kernel
theorem dX5_settles_15 : decode cX5_settles 15 = .ok (.aload_n 0, 1) := by decide +kernel
theorem dX5_settles_16 : decode cX5_settles 16 = .ok (.getfield 10, 3) := by decide +kernel
theorem dX5_settles_19 : decode cX5_settles 19 = .ok (.getfield 76, 3) := by decide +kernel
theorem dX5_settles_22 : decode cX5_settles 22 = .ok (.invokevirtual 179, 3) := by decide +kernel
theorem dX5_settles_25 : decode cX5_settles 25 = .ok (.ifCond .eq 14, 3) := by decide +kernel
theorem dX5_settles_28 : decode cX5_settles 28 = .ok (.iload_n 1, 1) := by decide +kernel
theorem dX5_settles_29 : decode cX5_settles 29 = .ok (.ifCond .ne 7, 3) := by decide +kernel
theorem dX5_settles_32 : decode cX5_settles 32 = .ok (.iconst 0, 1) := by decide +kernel
theorem dX5_settles_33 : decode cX5_settles 33 = .ok (.goto 5, 3) := by decide +kernel
theorem dX5_settles_36 : decode cX5_settles 36 = .ok (.bipush (-9), 2) := by decide +kernel
theorem dX5_settles_38 : decode cX5_settles 38 = .ok (.ireturn, 1) := by decide +kernel
theorem dX5_settles_39 : decode cX5_settles 39 = .ok (.aload_n 0, 1) := by decide +kernel
theorem dX5_settles_40 : decode cX5_settles 40 = .ok (.aload_n 0, 1) := by decide +kernel
theorem dX5_settles_41 : decode cX5_settles 41 = .ok (.getfield 10, 3) := by decide +kernel
theorem dX5_settles_44 : decode cX5_settles 44 = .ok (.getfield 76, 3) := by decide +kernel
theorem dX5_settles_47 : decode cX5_settles 47 = .ok (.iconst 0, 1) := by decide +kernel
theorem dX5_settles_48 : decode cX5_settles 48 = .ok (.invokevirtual 182, 3) := by decide +kernel
theorem dX5_settles_51 : decode cX5_settles 51 = .ok (.istore_n 2, 1) := by decide +kernel
theorem dX5_settles_52 : decode cX5_settles 52 = .ok (.iload_n 2, 1) := by decide +kernel
theorem dX5_settles_53 : decode cX5_settles 53 = .ok (.bipush (-9), 2) := by decide +kernel
theorem dX5_settles_55 : decode cX5_settles 55 = .ok (.if_icmp .eq 13, 3) := by decide +kernel
theorem dX5_settles_58 : decode cX5_settles 58 = .ok (.iload_n 1, 1) := by decide +kernel
theorem dX5_settles_59 : decode cX5_settles 59 = .ok (.ifCond .ne 7, 3) := by decide +kernel
theorem dX5_settles_62 : decode cX5_settles 62 = .ok (.iconst 1, 1) := by decide +kernel
theorem dX5_settles_63 : decode cX5_settles 63 = .ok (.goto 4, 3) := by decide +kernel
theorem dX5_settles_66 : decode cX5_settles 66 = .ok (.iload_n 2, 1) := by decide +kernel
theorem dX5_settles_67 : decode cX5_settles 67 = .ok (.ireturn, 1) := by decide +kernel
theorem dX5_settles_68 : decode cX5_settles 68 = .ok (.aload_n 0, 1) := by decide +kernel
theorem dX5_settles_69 : decode cX5_settles 69 = .ok (.invokevirtual 185, 3) := by decide +kernel
theorem dX5_settles_72 : decode cX5_settles 72 = .ok (.istore_n 3, 1) := by decide +kernel
theorem dX5_settles_73 : decode cX5_settles 73 = .ok (.iload_n 3, 1) := by decide +kernel
theorem dX5_settles_74 : decode cX5_settles 74 = .ok (.bipush (-9), 2) := by decide +kernel
theorem dX5_settles_76 : decode cX5_settles 76 = .ok (.if_icmp .eq 13, 3) := by decide +kernel
theorem dX5_settles_79 : decode cX5_settles 79 = .ok (.iload_n 1, 1) := by decide +kernel
theorem dX5_settles_80 : decode cX5_settles 80 = .ok (.ifCond .ne 7, 3) := by decide +kernel
theorem dX5_settles_83 : decode cX5_settles 83 = .ok (.iconst 2, 1) := by decide +kernel
theorem dX5_settles_84 : decode cX5_settles 84 = .ok (.goto 4, 3) := by decide +kernel
theorem dX5_settles_87 : decode cX5_settles 87 = .ok (.iload_n 3, 1) := by decide +kernel
theorem dX5_settles_88 : decode cX5_settles 88 = .ok (.ireturn, 1) := by decide +kernel
theorem dX5_settles_89 : decode cX5_settles 89 = .ok (.bipush (-9), 2) := by decide +kernel
theorem dX5_settles_91 : decode cX5_settles 91 = .ok (.ireturn, 1) := by decide +kernel
theorem dX5_pips_0 : decode cX5_pips 0 = .ok (.iload_n 1, 1) := by decide +kernel
theorem dX5_pips_1 : decode cX5_pips 1 = .ok (.invokestatic 125, 3) := by decide +kernel
theorem dX5_pips_4 : decode cX5_pips 4 = .ok (.ifCond .ne 10, 3) := by decide +kernel
theorem dX5_pips_7 : decode cX5_pips 7 = .ok (.aload_n 0, 1) := by decide +kernel
theorem dX5_pips_8 : decode cX5_pips 8 = .ok (.bipush (-2), 2) := by decide +kernel
theorem dX5_pips_10 : decode cX5_pips 10 = .ok (.invokevirtual 53, 3) := by decide +kernel
theorem dX5_pips_13 : decode cX5_pips 13 = .ok (.ireturn, 1) := by decide +kernel
theorem dX5_pips_14 : decode cX5_pips 14 = .ok (.aload_n 0, 1) := by decide +kernel
theorem dX5_pips_15 : decode cX5_pips 15 = .ok (.getfield 10, 3) := by decide +kernel
theorem dX5_pips_18 : decode cX5_pips 18 = .ok (.getfield 76, 3) := by decide +kernel
theorem dX5_pips_21 : decode cX5_pips 21 = .ok (.iload_n 1, 1) := by decide +kernel
theorem dX5_pips_22 : decode cX5_pips 22 = .ok (.ifCond .ne 9, 3) := by decide +kernel
theorem dX5_pips_25 : decode cX5_pips 25 = .ok (.sipush 14336, 3) := by decide +kernel
theorem dX5_pips_28 : decode cX5_pips 28 = .ok (.goto 4, 3) := by decide +kernel
theorem dX5_pips_31 : decode cX5_pips 31 = .ok (.iconst 4, 1) := by decide +kernel
theorem dX5_pips_32 : decode cX5_pips 32 = .ok (.iand, 1) := by decide +kernel
theorem dX5_pips_33 : decode cX5_pips 33 = .ok (.invokestatic 84, 3) := by decide +kernel
theorem dX5_pips_36 : decode cX5_pips 36 = .ok (.ireturn, 1) := by decide +kernel
theorem dX5_join_0 : decode cX5_join 0 = .ok (.iload_n 1, 1) := by decide +kernel
theorem dX5_join_1 : decode cX5_join 1 = .ok (.invokestatic 72, 3) := by decide +kernel
theorem dX5_join_4 : decode cX5_join 4 = .ok (.ifCond .ne 9, 3) := by decide +kernel
theorem dX5_join_7 : decode cX5_join 7 = .ok (.aload_n 0, 1) := by decide +kernel
theorem dX5_join_8 : decode cX5_join 8 = .ok (.iconst (-1), 1) := by decide +kernel
theorem dX5_join_9 : decode cX5_join 9 = .ok (.invokevirtual 53, 3) := by decide +kernel
theorem dX5_join_12 : decode cX5_join 12 = .ok (.ireturn, 1) := by decide +kernel
theorem dX5_join_13 : decode cX5_join 13 = .ok (.aload_n 0, 1) := by decide +kernel
theorem dX5_join_14 : decode cX5_join 14 = .ok (.iload_n 1, 1) := by decide +kernel
theorem dX5_join_15 : decode cX5_join 15 = .ok (.invokevirtual 109, 3) := by decide +kernel
theorem dX5_join_18 : decode cX5_join 18 = .ok (.ifCond .eq 10, 3) := by decide +kernel
theorem dX5_join_21 : decode cX5_join 21 = .ok (.aload_n 0, 1) := by decide +kernel
theorem dX5_join_22 : decode cX5_join 22 = .ok (.bipush (-3), 2) := by decide +kernel
theorem dX5_join_24 : decode cX5_join 24 = .ok (.invokevirtual 53, 3) := by decide +kernel
theorem dX5_join_27 : decode cX5_join 27 = .ok (.ireturn, 1) := by decide +kernel
theorem dX5_join_28 : decode cX5_join 28 = .ok (.aload_n 0, 1) := by decide +kernel
theorem dX5_join_29 : decode cX5_join 29 = .ok (.getfield 10, 3) := by decide +kernel
theorem dX5_join_32 : decode cX5_join 32 = .ok (.getfield 76, 3) := by decide +kernel
theorem dX5_join_35 : decode cX5_join 35 = .ok (.iconst 1, 1) := by decide +kernel
theorem dX5_join_36 : decode cX5_join 36 = .ok (.iload_n 1, 1) := by decide +kernel
theorem dX5_join_37 : decode cX5_join 37 = .ok (.ishl, 1) := by decide +kernel
theorem dX5_join_38 : decode cX5_join 38 = .ok (.ior, 1) := by decide +kernel
theorem dX5_join_39 : decode cX5_join 39 = .ok (.invokestatic 188, 3) := by decide +kernel
theorem dX5_join_42 : decode cX5_join 42 = .ok (.ireturn, 1) := by decide +kernel
theorem dX5_bridge_0 : decode cX5_bridge 0 = .ok (.iload_n 1, 1) := by decide +kernel
theorem dX5_bridge_1 : decode cX5_bridge 1 = .ok (.ifCond .lt 8, 3) := by decide +kernel
theorem dX5_bridge_4 : decode cX5_bridge 4 = .ok (.iload_n 1, 1) := by decide +kernel
theorem dX5_bridge_5 : decode cX5_bridge 5 = .ok (.iconst 2, 1) := by decide +kernel
theorem dX5_bridge_6 : decode cX5_bridge 6 = .ok (.if_icmp .le 10, 3) := by decide +kernel
theorem dX5_bridge_9 : decode cX5_bridge 9 = .ok (.aload_n 0, 1) := by decide +kernel
theorem dX5_bridge_10 : decode cX5_bridge 10 = .ok (.bipush (-2), 2) := by decide +kernel
theorem dX5_bridge_12 : decode cX5_bridge 12 = .ok (.invokevirtual 53, 3) := by decide +kernel
theorem dX5_bridge_15 : decode cX5_bridge 15 = .ok (.ireturn, 1) := by decide +kernel
theorem dX5_bridge_16 : decode cX5_bridge 16 = .ok (.iload_n 1, 1) := by decide +kernel
theorem dX5_bridge_17 : decode cX5_bridge 17 = .ok (.iconst 2, 1) := by decide +kernel
theorem dX5_bridge_18 : decode cX5_bridge 18 = .ok (.if_icmp .ne 14, 3) := by decide +kernel
theorem dX5_bridge_21 : decode cX5_bridge 21 = .ok (.aload_n 0, 1) := by decide +kernel
theorem dX5_bridge_22 : decode cX5_bridge 22 = .ok (.getfield 10, 3) := by decide +kernel
theorem dX5_bridge_25 : decode cX5_bridge 25 = .ok (.getfield 76, 3) := by decide +kernel
theorem dX5_bridge_28 : decode cX5_bridge 28 = .ok (.invokestatic 191, 3) := by decide +kernel
theorem dX5_bridge_31 : decode cX5_bridge 31 = .ok (.ireturn, 1) := by decide +kernel
theorem dX5_bridge_32 : decode cX5_bridge 32 = .ok (.aload_n 0, 1) := by decide +kernel
theorem dX5_bridge_33 : decode cX5_bridge 33 = .ok (.getfield 10, 3) := by decide +kernel
theorem dX5_bridge_36 : decode cX5_bridge 36 = .ok (.getfield 76, 3) := by decide +kernel
theorem dX5_bridge_39 : decode cX5_bridge 39 = .ok (.invokestatic 194, 3) := by decide +kernel
theorem dX5_bridge_42 : decode cX5_bridge 42 = .ok (.istore_n 2, 1) := by decide +kernel
theorem dX5_bridge_43 : decode cX5_bridge 43 = .ok (.iload_n 1, 1) := by decide +kernel
theorem dX5_bridge_44 : decode cX5_bridge 44 = .ok (.ifCond .ne 8, 3) := by decide +kernel
theorem dX5_bridge_47 : decode cX5_bridge 47 = .ok (.iload_n 2, 1) := by decide +kernel
theorem dX5_bridge_48 : decode cX5_bridge 48 = .ok (.invokestatic 84, 3) := by decide +kernel
theorem dX5_bridge_51 : decode cX5_bridge 51 = .ok (.ireturn, 1) := by decide +kernel
theorem dX5_bridge_52 : decode cX5_bridge 52 = .ok (.iload_n 2, 1) := by decide +kernel
theorem dX5_bridge_53 : decode cX5_bridge 53 = .ok (.ifCond .ne 8, 3) := by decide +kernel
theorem dX5_bridge_56 : decode cX5_bridge 56 = .ok (.bipush (-9), 2) := by decide +kernel
theorem dX5_bridge_58 : decode cX5_bridge 58 = .ok (.goto 7, 3) := by decide +kernel
theorem dX5_bridge_61 : decode cX5_bridge 61 = .ok (.iload_n 2, 1) := by decide +kernel
theorem dX5_bridge_62 : decode cX5_bridge 62 = .ok (.invokestatic 150, 3) := by decide +kernel
theorem dX5_bridge_65 : decode cX5_bridge 65 = .ok (.ireturn, 1) := by decide +kernel
theorem dX5_best_0 : decode cX5_best 0 = .ok (.aload_n 0, 1) := by decide +kernel
theorem dX5_best_1 : decode cX5_best 1 = .ok (.iload_n 1, 1) := by decide +kernel
theorem dX5_best_2 : decode cX5_best 2 = .ok (.invokevirtual 93, 3) := by decide +kernel
theorem dX5_best_5 : decode cX5_best 5 = .ok (.ifCond .ne 9, 3) := by decide +kernel
theorem dX5_best_8 : decode cX5_best 8 = .ok (.aload_n 0, 1) := by decide +kernel
theorem dX5_best_9 : decode cX5_best 9 = .ok (.iconst (-1), 1) := by decide +kernel
theorem dX5_best_10 : decode cX5_best 10 = .ok (.invokevirtual 53, 3) := by decide +kernel
theorem dX5_best_13 : decode cX5_best 13 = .ok (.ireturn, 1) := by decide +kernel
theorem dX5_best_14 : decode cX5_best 14 = .ok (.iload_n 2, 1) := by decide +kernel
theorem dX5_best_15 : decode cX5_best 15 = .ok (.invokestatic 125, 3) := by decide +kernel
theorem dX5_best_18 : decode cX5_best 18 = .ok (.ifCond .ne 10, 3) := by decide +kernel
theorem dX5_best_21 : decode cX5_best 21 = .ok (.aload_n 0, 1) := by decide +kernel
theorem dX5_best_22 : decode cX5_best 22 = .ok (.bipush (-2), 2) := by decide +kernel
theorem dX5_best_24 : decode cX5_best 24 = .ok (.invokevirtual 53, 3) := by decide +kernel
theorem dX5_best_27 : decode cX5_best 27 = .ok (.ireturn, 1) := by decide +kernel
theorem dX5_best_28 : decode cX5_best 28 = .ok (.aload_n 0, 1) := by decide +kernel
theorem dX5_best_29 : decode cX5_best 29 = .ok (.iload_n 1, 1) := by decide +kernel
theorem dX5_best_30 : decode cX5_best 30 = .ok (.aload_n 0, 1) := by decide +kernel
theorem dX5_best_31 : decode cX5_best 31 = .ok (.iload_n 1, 1) := by decide +kernel
theorem dX5_best_32 : decode cX5_best 32 = .ok (.aload_n 0, 1) := by decide +kernel
theorem dX5_best_33 : decode cX5_best 33 = .ok (.getfield 10, 3) := by decide +kernel
theorem dX5_best_36 : decode cX5_best 36 = .ok (.getfield 76, 3) := by decide +kernel
theorem dX5_best_39 : decode cX5_best 39 = .ok (.iconst 1, 1) := by decide +kernel
theorem dX5_best_40 : decode cX5_best 40 = .ok (.invokevirtual 197, 3) := by decide +kernel
theorem dX5_best_43 : decode cX5_best 43 = .ok (.iload_n 2, 1) := by decide +kernel
theorem dX5_best_44 : decode cX5_best 44 = .ok (.invokevirtual 201, 3) := by decide +kernel
theorem dX5_best_47 : decode cX5_best 47 = .ok (.ireturn, 1) := by decide +kernel
theorem dX5_worst_0 : decode cX5_worst 0 = .ok (.aload_n 0, 1) := by decide +kernel
theorem dX5_worst_1 : decode cX5_worst 1 = .ok (.iload_n 1, 1) := by decide +kernel
theorem dX5_worst_2 : decode cX5_worst 2 = .ok (.invokevirtual 93, 3) := by decide +kernel
theorem dX5_worst_5 : decode cX5_worst 5 = .ok (.ifCond .ne 9, 3) := by decide +kernel
theorem dX5_worst_8 : decode cX5_worst 8 = .ok (.aload_n 0, 1) := by decide +kernel
theorem dX5_worst_9 : decode cX5_worst 9 = .ok (.iconst (-1), 1) := by decide +kernel
theorem dX5_worst_10 : decode cX5_worst 10 = .ok (.invokevirtual 53, 3) := by decide +kernel
theorem dX5_worst_13 : decode cX5_worst 13 = .ok (.ireturn, 1) := by decide +kernel
theorem dX5_worst_14 : decode cX5_worst 14 = .ok (.iload_n 2, 1) := by decide +kernel
theorem dX5_worst_15 : decode cX5_worst 15 = .ok (.invokestatic 125, 3) := by decide +kernel
theorem dX5_worst_18 : decode cX5_worst 18 = .ok (.ifCond .ne 10, 3) := by decide +kernel
theorem dX5_worst_21 : decode cX5_worst 21 = .ok (.aload_n 0, 1) := by decide +kernel
theorem dX5_worst_22 : decode cX5_worst 22 = .ok (.bipush (-2), 2) := by decide +kernel
theorem dX5_worst_24 : decode cX5_worst 24 = .ok (.invokevirtual 53, 3) := by decide +kernel
theorem dX5_worst_27 : decode cX5_worst 27 = .ok (.ireturn, 1) := by decide +kernel
theorem dX5_worst_28 : decode cX5_worst 28 = .ok (.aload_n 0, 1) := by decide +kernel
theorem dX5_worst_29 : decode cX5_worst 29 = .ok (.iload_n 1, 1) := by decide +kernel
theorem dX5_worst_30 : decode cX5_worst 30 = .ok (.aload_n 0, 1) := by decide +kernel
theorem dX5_worst_31 : decode cX5_worst 31 = .ok (.iload_n 1, 1) := by decide +kernel
theorem dX5_worst_32 : decode cX5_worst 32 = .ok (.aload_n 0, 1) := by decide +kernel
theorem dX5_worst_33 : decode cX5_worst 33 = .ok (.getfield 10, 3) := by decide +kernel
theorem dX5_worst_36 : decode cX5_worst 36 = .ok (.getfield 76, 3) := by decide +kernel
theorem dX5_worst_39 : decode cX5_worst 39 = .ok (.iconst (-1), 1) := by decide +kernel
theorem dX5_worst_40 : decode cX5_worst 40 = .ok (.invokevirtual 197, 3) := by decide +kernel
theorem dX5_worst_43 : decode cX5_worst 43 = .ok (.iload_n 2, 1) := by decide +kernel
theorem dX5_worst_44 : decode cX5_worst 44 = .ok (.invokevirtual 201, 3) := by decide +kernel
theorem dX5_worst_47 : decode cX5_worst 47 = .ok (.ireturn, 1) := by decide +kernel
theorem dX5_fewest_0 : decode cX5_fewest 0 = .ok (.aload_n 0, 1) := by decide +kernel
theorem dX5_fewest_1 : decode cX5_fewest 1 = .ok (.iload_n 1, 1) := by decide +kernel
theorem dX5_fewest_2 : decode cX5_fewest 2 = .ok (.invokevirtual 93, 3) := by decide +kernel
theorem dX5_fewest_5 : decode cX5_fewest 5 = .ok (.ifCond .ne 9, 3) := by decide +kernel
theorem dX5_fewest_8 : decode cX5_fewest 8 = .ok (.aload_n 0, 1) := by decide +kernel
theorem dX5_fewest_9 : decode cX5_fewest 9 = .ok (.iconst (-1), 1) := by decide +kernel
theorem dX5_fewest_10 : decode cX5_fewest 10 = .ok (.invokevirtual 53, 3) := by decide +kernel
theorem dX5_fewest_13 : decode cX5_fewest 13 = .ok (.ireturn, 1) := by decide +kernel
theorem dX5_fewest_14 : decode cX5_fewest 14 = .ok (.iload_n 2, 1) := by decide +kernel
theorem dX5_fewest_15 : decode cX5_fewest 15 = .ok (.ifCond .ge 10, 3) := by decide +kernel
theorem dX5_fewest_18 : decode cX5_fewest 18 = .ok (.aload_n 0, 1) := by decide +kernel
theorem dX5_fewest_19 : decode cX5_fewest 19 = .ok (.bipush (-4), 2) := by decide +kernel
theorem dX5_fewest_21 : decode cX5_fewest 21 = .ok (.invokevirtual 53, 3) := by decide +kernel
theorem dX5_fewest_24 : decode cX5_fewest 24 = .ok (.ireturn, 1) := by decide +kernel
theorem dX5_fewest_25 : decode cX5_fewest 25 = .ok (.iload_n 2, 1) := by decide +kernel
theorem dX5_fewest_26 : decode cX5_fewest 26 = .ok (.bipush 40, 2) := by decide +kernel
theorem dX5_fewest_28 : decode cX5_fewest 28 = .ok (.if_icmp .le 10, 3) := by decide +kernel
theorem dX5_fewest_31 : decode cX5_fewest 31 = .ok (.aload_n 0, 1) := by decide +kernel
theorem dX5_fewest_32 : decode cX5_fewest 32 = .ok (.bipush (-6), 2) := by decide +kernel
theorem dX5_fewest_34 : decode cX5_fewest 34 = .ok (.invokevirtual 53, 3) := by decide +kernel
theorem dX5_fewest_37 : decode cX5_fewest 37 = .ok (.ireturn, 1) := by decide +kernel
theorem dX5_fewest_38 : decode cX5_fewest 38 = .ok (.iload_n 3, 1) := by decide +kernel
theorem dX5_fewest_39 : decode cX5_fewest 39 = .ok (.invokestatic 125, 3) := by decide +kernel
theorem dX5_fewest_42 : decode cX5_fewest 42 = .ok (.ifCond .ne 10, 3) := by decide +kernel
theorem dX5_fewest_45 : decode cX5_fewest 45 = .ok (.aload_n 0, 1) := by decide +kernel
theorem dX5_fewest_46 : decode cX5_fewest 46 = .ok (.bipush (-2), 2) := by decide +kernel
theorem dX5_fewest_48 : decode cX5_fewest 48 = .ok (.invokevirtual 53, 3) := by decide +kernel
theorem dX5_fewest_51 : decode cX5_fewest 51 = .ok (.ireturn, 1) := by decide +kernel
theorem dX5_fewest_52 : decode cX5_fewest 52 = .ok (.aload_n 0, 1) := by decide +kernel
theorem dX5_fewest_53 : decode cX5_fewest 53 = .ok (.iload_n 1, 1) := by decide +kernel
theorem dX5_fewest_54 : decode cX5_fewest 54 = .ok (.aload_n 0, 1) := by decide +kernel
theorem dX5_fewest_55 : decode cX5_fewest 55 = .ok (.getfield 10, 3) := by decide +kernel
theorem dX5_fewest_58 : decode cX5_fewest 58 = .ok (.getfield 76, 3) := by decide +kernel
theorem dX5_fewest_61 : decode cX5_fewest 61 = .ok (.invokevirtual 102, 3) := by decide +kernel
theorem dX5_fewest_64 : decode cX5_fewest 64 = .ok (.iload_n 2, 1) := by decide +kernel
theorem dX5_fewest_65 : decode cX5_fewest 65 = .ok (.if_icmp .lt 14, 3) := by decide +kernel
theorem dX5_fewest_68 : decode cX5_fewest 68 = .ok (.iload_n 3, 1) := by decide +kernel
theorem dX5_fewest_69 : decode cX5_fewest 69 = .ok (.ifCond .ne 7, 3) := by decide +kernel
theorem dX5_fewest_72 : decode cX5_fewest 72 = .ok (.iconst 0, 1) := by decide +kernel
theorem dX5_fewest_73 : decode cX5_fewest 73 = .ok (.goto 5, 3) := by decide +kernel
theorem dX5_fewest_76 : decode cX5_fewest 76 = .ok (.bipush (-9), 2) := by decide +kernel
theorem dX5_fewest_78 : decode cX5_fewest 78 = .ok (.ireturn, 1) := by decide +kernel
theorem dX5_fewest_79 : decode cX5_fewest 79 = .ok (.aload_n 0, 1) := by decide +kernel
theorem dX5_fewest_80 : decode cX5_fewest 80 = .ok (.iload_n 1, 1) := by decide +kernel
theorem dX5_fewest_81 : decode cX5_fewest 81 = .ok (.iload_n 2, 1) := by decide +kernel
theorem dX5_fewest_82 : decode cX5_fewest 82 = .ok (.aload_n 0, 1) := by decide +kernel
theorem dX5_fewest_83 : decode cX5_fewest 83 = .ok (.getfield 10, 3) := by decide +kernel
theorem dX5_fewest_86 : decode cX5_fewest 86 = .ok (.getfield 76, 3) := by decide +kernel
theorem dX5_fewest_89 : decode cX5_fewest 89 = .ok (.iconst 0, 1) := by decide +kernel
theorem dX5_fewest_90 : decode cX5_fewest 90 = .ok (.invokevirtual 204, 3) := by decide +kernel
theorem dX5_fewest_93 : decode cX5_fewest 93 = .ok (.istore 4, 2) := by decide +kernel
theorem dX5_fewest_95 : decode cX5_fewest 95 = .ok (.iload 4, 2) := by decide +kernel
theorem dX5_fewest_97 : decode cX5_fewest 97 = .ok (.iconst (-1), 1) := by decide +kernel
theorem dX5_fewest_98 : decode cX5_fewest 98 = .ok (.if_icmp .eq 17, 3) := by decide +kernel
theorem dX5_fewest_101 : decode cX5_fewest 101 = .ok (.iload_n 3, 1) := by decide +kernel
theorem dX5_fewest_102 : decode cX5_fewest 102 = .ok (.ifCond .ne 7, 3) := by decide +kernel
theorem dX5_fewest_105 : decode cX5_fewest 105 = .ok (.iconst 1, 1) := by decide +kernel
theorem dX5_fewest_106 : decode cX5_fewest 106 = .ok (.goto 8, 3) := by decide +kernel
theorem dX5_fewest_109 : decode cX5_fewest 109 = .ok (.iload 4, 2) := by decide +kernel
theorem dX5_fewest_111 : decode cX5_fewest 111 = .ok (.invokestatic 208, 3) := by decide +kernel
theorem dX5_fewest_114 : decode cX5_fewest 114 = .ok (.ireturn, 1) := by decide +kernel
theorem dX5_fewest_115 : decode cX5_fewest 115 = .ok (.aload_n 0, 1) := by decide +kernel
theorem dX5_fewest_116 : decode cX5_fewest 116 = .ok (.iload_n 1, 1) := by decide +kernel
theorem dX5_fewest_117 : decode cX5_fewest 117 = .ok (.iload_n 2, 1) := by decide +kernel
theorem dX5_fewest_118 : decode cX5_fewest 118 = .ok (.invokevirtual 211, 3) := by decide +kernel
theorem dX5_fewest_121 : decode cX5_fewest 121 = .ok (.istore 5, 2) := by decide +kernel
theorem dX5_fewest_123 : decode cX5_fewest 123 = .ok (.iload 5, 2) := by decide +kernel
theorem dX5_fewest_125 : decode cX5_fewest 125 = .ok (.iconst (-1), 1) := by decide +kernel
theorem dX5_fewest_126 : decode cX5_fewest 126 = .ok (.if_icmp .eq 17, 3) := by decide +kernel
theorem dX5_fewest_129 : decode cX5_fewest 129 = .ok (.iload_n 3, 1) := by decide +kernel
theorem dX5_fewest_130 : decode cX5_fewest 130 = .ok (.ifCond .ne 7, 3) := by decide +kernel
theorem dX5_fewest_133 : decode cX5_fewest 133 = .ok (.iconst 2, 1) := by decide +kernel
theorem dX5_fewest_134 : decode cX5_fewest 134 = .ok (.goto 8, 3) := by decide +kernel
theorem dX5_fewest_137 : decode cX5_fewest 137 = .ok (.iload 5, 2) := by decide +kernel
theorem dX5_fewest_139 : decode cX5_fewest 139 = .ok (.invokestatic 208, 3) := by decide +kernel
theorem dX5_fewest_142 : decode cX5_fewest 142 = .ok (.ireturn, 1) := by decide +kernel
theorem dX5_fewest_143 : decode cX5_fewest 143 = .ok (.bipush (-9), 2) := by decide +kernel
theorem dX5_fewest_145 : decode cX5_fewest 145 = .ok (.ireturn, 1) := by decide +kernel
theorem dX5_safe_0 : decode cX5_safe 0 = .ok (.iconst 0, 1) := by decide +kernel
theorem dX5_safe_1 : decode cX5_safe 1 = .ok (.istore_n 1, 1) := by decide +kernel
theorem dX5_safe_2 : decode cX5_safe 2 = .ok (.iconst 0, 1) := by decide +kernel
theorem dX5_safe_3 : decode cX5_safe 3 = .ok (.istore_n 2, 1) := by decide +kernel
theorem dX5_safe_4 : decode cX5_safe 4 = .ok (.iload_n 2, 1) := by decide +kernel
theorem dX5_safe_5 : decode cX5_safe 5 = .ok (.bipush 100, 2) := by decide +kernel
theorem dX5_safe_7 : decode cX5_safe 7 = .ok (.if_icmp .ge 43, 3) := by decide +kernel
theorem dX5_safe_10 : decode cX5_safe 10 = .ok (.iload_n 2, 1) := by decide +kernel
theorem dX5_safe_11 : decode cX5_safe 11 = .ok (.aload_n 0, 1) := by decide +kernel
theorem dX5_safe_12 : decode cX5_safe 12 = .ok (.getfield 10, 3) := by decide +kernel
theorem dX5_safe_15 : decode cX5_safe 15 = .ok (.getfield 76, 3) := by decide +kernel
theorem dX5_safe_18 : decode cX5_safe 18 = .ok (.invokestatic 159, 3) := by decide +kernel
theorem dX5_safe_21 : decode cX5_safe 21 = .ok (.istore_n 3, 1) := by decide +kernel
theorem dX5_safe_22 : decode cX5_safe 22 = .ok (.iload_n 3, 1) := by decide +kernel
theorem dX5_safe_23 : decode cX5_safe 23 = .ok (.aload_n 0, 1) := by decide +kernel
theorem dX5_safe_24 : decode cX5_safe 24 = .ok (.getfield 10, 3) := by decide +kernel
theorem dX5_safe_27 : decode cX5_safe 27 = .ok (.getfield 76, 3) := by decide +kernel
theorem dX5_safe_30 : decode cX5_safe 30 = .ok (.if_icmp .eq 14, 3) := by decide +kernel
theorem dX5_safe_33 : decode cX5_safe 33 = .ok (.aload_n 0, 1) := by decide +kernel
theorem dX5_safe_34 : decode cX5_safe 34 = .ok (.iload_n 3, 1) := by decide +kernel
theorem dX5_safe_35 : decode cX5_safe 35 = .ok (.invokevirtual 214, 3) := by decide +kernel
theorem dX5_safe_38 : decode cX5_safe 38 = .ok (.ifCond .eq 6, 3) := by decide +kernel
theorem dX5_safe_41 : decode cX5_safe 41 = .ok (.iinc 1 1, 3) := by decide +kernel
theorem dX5_safe_44 : decode cX5_safe 44 = .ok (.iinc 2 1, 3) := by decide +kernel
theorem dX5_safe_47 : decode cX5_safe 47 = .ok (.goto (-43), 3) := by decide +kernel
theorem dX5_safe_50 : decode cX5_safe 50 = .ok (.iload_n 1, 1) := by decide +kernel
theorem dX5_safe_51 : decode cX5_safe 51 = .ok (.ireturn, 1) := by decide +kernel
theorem dX5_grudge_0 : decode cX5_grudge 0 = .ok (.aload_n 0, 1) := by decide +kernel
theorem dX5_grudge_1 : decode cX5_grudge 1 = .ok (.iload_n 1, 1) := by decide +kernel
theorem dX5_grudge_2 : decode cX5_grudge 2 = .ok (.invokevirtual 93, 3) := by decide +kernel
theorem dX5_grudge_5 : decode cX5_grudge 5 = .ok (.ifCond .ne 9, 3) := by decide +kernel
theorem dX5_grudge_8 : decode cX5_grudge 8 = .ok (.aload_n 0, 1) := by decide +kernel
theorem dX5_grudge_9 : decode cX5_grudge 9 = .ok (.iconst (-1), 1) := by decide +kernel
theorem dX5_grudge_10 : decode cX5_grudge 10 = .ok (.invokevirtual 53, 3) := by decide +kernel
theorem dX5_grudge_13 : decode cX5_grudge 13 = .ok (.ireturn, 1) := by decide +kernel
theorem dX5_grudge_14 : decode cX5_grudge 14 = .ok (.bipush (-9), 2) := by decide +kernel
theorem dX5_grudge_16 : decode cX5_grudge 16 = .ok (.istore_n 2, 1) := by decide +kernel
theorem dX5_grudge_17 : decode cX5_grudge 17 = .ok (.iconst 0, 1) := by decide +kernel
theorem dX5_grudge_18 : decode cX5_grudge 18 = .ok (.istore_n 3, 1) := by decide +kernel
theorem dX5_grudge_19 : decode cX5_grudge 19 = .ok (.iconst 0, 1) := by decide +kernel
theorem dX5_grudge_20 : decode cX5_grudge 20 = .ok (.istore 4, 2) := by decide +kernel
theorem dX5_grudge_22 : decode cX5_grudge 22 = .ok (.iload 4, 2) := by decide +kernel
theorem dX5_grudge_24 : decode cX5_grudge 24 = .ok (.aload_n 0, 1) := by decide +kernel
theorem dX5_grudge_25 : decode cX5_grudge 25 = .ok (.getfield 10, 3) := by decide +kernel
theorem dX5_grudge_28 : decode cX5_grudge 28 = .ok (.getfield 217, 3) := by decide +kernel
theorem dX5_grudge_31 : decode cX5_grudge 31 = .ok (.if_icmp .ge 80, 3) := by decide +kernel
theorem dX5_grudge_34 : decode cX5_grudge 34 = .ok (.iload 4, 2) := by decide +kernel
theorem dX5_grudge_36 : decode cX5_grudge 36 = .ok (.iload_n 1, 1) := by decide +kernel
theorem dX5_grudge_37 : decode cX5_grudge 37 = .ok (.if_icmp .ne 6, 3) := by decide +kernel
theorem dX5_grudge_40 : decode cX5_grudge 40 = .ok (.goto 65, 3) := by decide +kernel
theorem dX5_grudge_43 : decode cX5_grudge 43 = .ok (.aload_n 0, 1) := by decide +kernel
theorem dX5_grudge_44 : decode cX5_grudge 44 = .ok (.iload 4, 2) := by decide +kernel
theorem dX5_grudge_46 : decode cX5_grudge 46 = .ok (.aload_n 0, 1) := by decide +kernel
theorem dX5_grudge_47 : decode cX5_grudge 47 = .ok (.getfield 10, 3) := by decide +kernel
theorem dX5_grudge_50 : decode cX5_grudge 50 = .ok (.getfield 76, 3) := by decide +kernel
theorem dX5_grudge_53 : decode cX5_grudge 53 = .ok (.iconst 1, 1) := by decide +kernel
theorem dX5_grudge_54 : decode cX5_grudge 54 = .ok (.invokevirtual 197, 3) := by decide +kernel
theorem dX5_grudge_57 : decode cX5_grudge 57 = .ok (.istore 5, 2) := by decide +kernel
theorem dX5_grudge_59 : decode cX5_grudge 59 = .ok (.iload 5, 2) := by decide +kernel
theorem dX5_grudge_61 : decode cX5_grudge 61 = .ok (.iconst (-1), 1) := by decide +kernel
theorem dX5_grudge_62 : decode cX5_grudge 62 = .ok (.if_icmp .ne 6, 3) := by decide +kernel
theorem dX5_grudge_65 : decode cX5_grudge 65 = .ok (.goto 40, 3) := by decide +kernel
theorem dX5_grudge_68 : decode cX5_grudge 68 = .ok (.aload_n 0, 1) := by decide +kernel
theorem dX5_grudge_69 : decode cX5_grudge 69 = .ok (.iload_n 1, 1) := by decide +kernel
theorem dX5_grudge_70 : decode cX5_grudge 70 = .ok (.iload 5, 2) := by decide +kernel
theorem dX5_grudge_72 : decode cX5_grudge 72 = .ok (.aload_n 0, 1) := by decide +kernel
theorem dX5_grudge_73 : decode cX5_grudge 73 = .ok (.getfield 10, 3) := by decide +kernel
theorem dX5_grudge_76 : decode cX5_grudge 76 = .ok (.getfield 76, 3) := by decide +kernel
theorem dX5_grudge_79 : decode cX5_grudge 79 = .ok (.invokestatic 159, 3) := by decide +kernel
theorem dX5_grudge_82 : decode cX5_grudge 82 = .ok (.invokevirtual 102, 3) := by decide +kernel
theorem dX5_grudge_85 : decode cX5_grudge 85 = .ok (.istore 6, 2) := by decide +kernel
theorem dX5_grudge_87 : decode cX5_grudge 87 = .ok (.iload_n 2, 1) := by decide +kernel
theorem dX5_grudge_88 : decode cX5_grudge 88 = .ok (.bipush (-9), 2) := by decide +kernel
theorem dX5_grudge_90 : decode cX5_grudge 90 = .ok (.if_icmp .eq 9, 3) := by decide +kernel
theorem dX5_grudge_93 : decode cX5_grudge 93 = .ok (.iload 6, 2) := by decide +kernel
theorem dX5_grudge_95 : decode cX5_grudge 95 = .ok (.iload_n 3, 1) := by decide +kernel
theorem dX5_grudge_96 : decode cX5_grudge 96 = .ok (.if_icmp .ge 9, 3) := by decide +kernel
theorem dX5_grudge_99 : decode cX5_grudge 99 = .ok (.iload 4, 2) := by decide +kernel
theorem dX5_grudge_101 : decode cX5_grudge 101 = .ok (.istore_n 2, 1) := by decide +kernel
theorem dX5_grudge_102 : decode cX5_grudge 102 = .ok (.iload 6, 2) := by decide +kernel
theorem dX5_grudge_104 : decode cX5_grudge 104 = .ok (.istore_n 3, 1) := by decide +kernel
theorem dX5_grudge_105 : decode cX5_grudge 105 = .ok (.iinc 4 1, 3) := by decide +kernel
theorem dX5_grudge_108 : decode cX5_grudge 108 = .ok (.goto (-86), 3) := by decide +kernel
theorem dX5_grudge_111 : decode cX5_grudge 111 = .ok (.iload_n 2, 1) := by decide +kernel
theorem dX5_grudge_112 : decode cX5_grudge 112 = .ok (.ireturn, 1) := by decide +kernel
theorem dX5_gain_0 : decode cX5_gain 0 = .ok (.aload_n 0, 1) := by decide +kernel
theorem dX5_gain_1 : decode cX5_gain 1 = .ok (.iload_n 1, 1) := by decide +kernel
theorem dX5_gain_2 : decode cX5_gain 2 = .ok (.iload_n 2, 1) := by decide +kernel
theorem dX5_gain_3 : decode cX5_gain 3 = .ok (.invokevirtual 220, 3) := by decide +kernel
theorem dX5_gain_6 : decode cX5_gain 6 = .ok (.ifCond .ne 12, 3) := by decide +kernel
theorem dX5_gain_9 : decode cX5_gain 9 = .ok (.ldc 223, 2) := by decide +kernel
theorem dX5_gain_11 : decode cX5_gain 11 = .ok (.aload_n 0, 1) := by decide +kernel
theorem dX5_gain_12 : decode cX5_gain 12 = .ok (.iconst (-1), 1) := by decide +kernel
theorem dX5_gain_13 : decode cX5_gain 13 = .ok (.invokevirtual 53, 3) := by decide +kernel
theorem dX5_gain_16 : decode cX5_gain 16 = .ok (.isub, 1) := by decide +kernel
theorem dX5_gain_17 : decode cX5_gain 17 = .ok (.ireturn, 1) := by decide +kernel
theorem dX5_gain_18 : decode cX5_gain 18 = .ok (.aload_n 0, 1) := by decide +kernel
theorem dX5_gain_19 : decode cX5_gain 19 = .ok (.iload_n 1, 1) := by decide +kernel
theorem dX5_gain_20 : decode cX5_gain 20 = .ok (.aload_n 0, 1) := by decide +kernel
theorem dX5_gain_21 : decode cX5_gain 21 = .ok (.getfield 10, 3) := by decide +kernel
theorem dX5_gain_24 : decode cX5_gain 24 = .ok (.getfield 76, 3) := by decide +kernel
theorem dX5_gain_27 : decode cX5_gain 27 = .ok (.iconst 1, 1) := by decide +kernel
theorem dX5_gain_28 : decode cX5_gain 28 = .ok (.invokevirtual 197, 3) := by decide +kernel
theorem dX5_gain_31 : decode cX5_gain 31 = .ok (.istore_n 3, 1) := by decide +kernel
theorem dX5_gain_32 : decode cX5_gain 32 = .ok (.aload_n 0, 1) := by decide +kernel
theorem dX5_gain_33 : decode cX5_gain 33 = .ok (.iload_n 2, 1) := by decide +kernel
theorem dX5_gain_34 : decode cX5_gain 34 = .ok (.iload_n 3, 1) := by decide +kernel
theorem dX5_gain_35 : decode cX5_gain 35 = .ok (.aload_n 0, 1) := by decide +kernel
theorem dX5_gain_36 : decode cX5_gain 36 = .ok (.getfield 10, 3) := by decide +kernel
theorem dX5_gain_39 : decode cX5_gain 39 = .ok (.getfield 76, 3) := by decide +kernel
theorem dX5_gain_42 : decode cX5_gain 42 = .ok (.invokestatic 159, 3) := by decide +kernel
theorem dX5_gain_45 : decode cX5_gain 45 = .ok (.invokevirtual 102, 3) := by decide +kernel
theorem dX5_gain_48 : decode cX5_gain 48 = .ok (.aload_n 0, 1) := by decide +kernel
theorem dX5_gain_49 : decode cX5_gain 49 = .ok (.iload_n 2, 1) := by decide +kernel
theorem dX5_gain_50 : decode cX5_gain 50 = .ok (.aload_n 0, 1) := by decide +kernel
theorem dX5_gain_51 : decode cX5_gain 51 = .ok (.getfield 10, 3) := by decide +kernel
theorem dX5_gain_54 : decode cX5_gain 54 = .ok (.getfield 76, 3) := by decide +kernel
theorem dX5_gain_57 : decode cX5_gain 57 = .ok (.invokevirtual 102, 3) := by decide +kernel
theorem dX5_gain_60 : decode cX5_gain 60 = .ok (.isub, 1) := by decide +kernel
theorem dX5_gain_61 : decode cX5_gain 61 = .ok (.ireturn, 1) := by decide +kernel
theorem dX5_two_0 : decode cX5_two 0 = .ok (.aload_n 0, 1) := by decide +kernel
theorem dX5_two_1 : decode cX5_two 1 = .ok (.iload_n 1, 1) := by decide +kernel
theorem dX5_two_2 : decode cX5_two 2 = .ok (.iload_n 2, 1) := by decide +kernel
theorem dX5_two_3 : decode cX5_two 3 = .ok (.invokevirtual 220, 3) := by decide +kernel
theorem dX5_two_6 : decode cX5_two 6 = .ok (.ifCond .ne 9, 3) := by decide +kernel
theorem dX5_two_9 : decode cX5_two 9 = .ok (.aload_n 0, 1) := by decide +kernel
theorem dX5_two_10 : decode cX5_two 10 = .ok (.iconst (-1), 1) := by decide +kernel
theorem dX5_two_11 : decode cX5_two 11 = .ok (.invokevirtual 53, 3) := by decide +kernel
theorem dX5_two_14 : decode cX5_two 14 = .ok (.ireturn, 1) := by decide +kernel
theorem dX5_two_15 : decode cX5_two 15 = .ok (.iconst 0, 1) := by decide +kernel
theorem dX5_two_16 : decode cX5_two 16 = .ok (.istore_n 3, 1) := by decide +kernel
theorem dX5_two_17 : decode cX5_two 17 = .ok (.iload_n 3, 1) := by decide +kernel
theorem dX5_two_18 : decode cX5_two 18 = .ok (.iconst 4, 1) := by decide +kernel
theorem dX5_two_19 : decode cX5_two 19 = .ok (.if_icmp .ge 38, 3) := by decide +kernel
theorem dX5_two_22 : decode cX5_two 22 = .ok (.aload_n 0, 1) := by decide +kernel
theorem dX5_two_23 : decode cX5_two 23 = .ok (.getfield 50, 3) := by decide +kernel
theorem dX5_two_26 : decode cX5_two 26 = .ok (.iload_n 3, 1) := by decide +kernel
theorem dX5_two_27 : decode cX5_two 27 = .ok (.aload_n 0, 1) := by decide +kernel
theorem dX5_two_28 : decode cX5_two 28 = .ok (.iload_n 2, 1) := by decide +kernel
theorem dX5_two_29 : decode cX5_two 29 = .ok (.iload_n 3, 1) := by decide +kernel
theorem dX5_two_30 : decode cX5_two 30 = .ok (.iconst 2, 1) := by decide +kernel
theorem dX5_two_31 : decode cX5_two 31 = .ok (.irem, 1) := by decide +kernel
theorem dX5_two_32 : decode cX5_two 32 = .ok (.aload_n 0, 1) := by decide +kernel
theorem dX5_two_33 : decode cX5_two 33 = .ok (.iload_n 1, 1) := by decide +kernel
theorem dX5_two_34 : decode cX5_two 34 = .ok (.iload_n 3, 1) := by decide +kernel
theorem dX5_two_35 : decode cX5_two 35 = .ok (.iconst 2, 1) := by decide +kernel
theorem dX5_two_36 : decode cX5_two 36 = .ok (.idiv, 1) := by decide +kernel
theorem dX5_two_37 : decode cX5_two 37 = .ok (.aload_n 0, 1) := by decide +kernel
theorem dX5_two_38 : decode cX5_two 38 = .ok (.getfield 10, 3) := by decide +kernel
theorem dX5_two_41 : decode cX5_two 41 = .ok (.getfield 76, 3) := by decide +kernel
theorem dX5_two_44 : decode cX5_two 44 = .ok (.invokevirtual 224, 3) := by decide +kernel
theorem dX5_two_47 : decode cX5_two 47 = .ok (.invokevirtual 224, 3) := by decide +kernel
theorem dX5_two_50 : decode cX5_two 50 = .ok (.iastore, 1) := by decide +kernel
theorem dX5_two_51 : decode cX5_two 51 = .ok (.iinc 3 1, 3) := by decide +kernel
theorem dX5_two_54 : decode cX5_two 54 = .ok (.goto (-37), 3) := by decide +kernel
theorem dX5_two_57 : decode cX5_two 57 = .ok (.iconst 0, 1) := by decide +kernel
theorem dX5_two_58 : decode cX5_two 58 = .ok (.istore_n 3, 1) := by decide +kernel
theorem dX5_two_59 : decode cX5_two 59 = .ok (.iload_n 3, 1) := by decide +kernel
theorem dX5_two_60 : decode cX5_two 60 = .ok (.iconst 4, 1) := by decide +kernel
theorem dX5_two_61 : decode cX5_two 61 = .ok (.if_icmp .ge 86, 3) := by decide +kernel
theorem dX5_two_64 : decode cX5_two 64 = .ok (.aload_n 0, 1) := by decide +kernel
theorem dX5_two_65 : decode cX5_two 65 = .ok (.iload_n 1, 1) := by decide +kernel
theorem dX5_two_66 : decode cX5_two 66 = .ok (.aload_n 0, 1) := by decide +kernel
theorem dX5_two_67 : decode cX5_two 67 = .ok (.getfield 50, 3) := by decide +kernel
theorem dX5_two_70 : decode cX5_two 70 = .ok (.iload_n 3, 1) := by decide +kernel
theorem dX5_two_71 : decode cX5_two 71 = .ok (.iaload, 1) := by decide +kernel
theorem dX5_two_72 : decode cX5_two 72 = .ok (.invokevirtual 102, 3) := by decide +kernel
theorem dX5_two_75 : decode cX5_two 75 = .ok (.aload_n 0, 1) := by decide +kernel
theorem dX5_two_76 : decode cX5_two 76 = .ok (.iload_n 1, 1) := by decide +kernel
theorem dX5_two_77 : decode cX5_two 77 = .ok (.aload_n 0, 1) := by decide +kernel
theorem dX5_two_78 : decode cX5_two 78 = .ok (.getfield 50, 3) := by decide +kernel
theorem dX5_two_81 : decode cX5_two 81 = .ok (.iload_n 3, 1) := by decide +kernel
theorem dX5_two_82 : decode cX5_two 82 = .ok (.iconst 2, 1) := by decide +kernel
theorem dX5_two_83 : decode cX5_two 83 = .ok (.ixor, 1) := by decide +kernel
theorem dX5_two_84 : decode cX5_two 84 = .ok (.iaload, 1) := by decide +kernel
theorem dX5_two_85 : decode cX5_two 85 = .ok (.invokevirtual 102, 3) := by decide +kernel
theorem dX5_two_88 : decode cX5_two 88 = .ok (.if_icmp .lt 7, 3) := by decide +kernel
theorem dX5_two_91 : decode cX5_two 91 = .ok (.iconst 1, 1) := by decide +kernel
theorem dX5_two_92 : decode cX5_two 92 = .ok (.goto 4, 3) := by decide +kernel
theorem dX5_two_95 : decode cX5_two 95 = .ok (.iconst 0, 1) := by decide +kernel
theorem dX5_two_96 : decode cX5_two 96 = .ok (.istore 4, 2) := by decide +kernel
theorem dX5_two_98 : decode cX5_two 98 = .ok (.iload 4, 2) := by decide +kernel
theorem dX5_two_100 : decode cX5_two 100 = .ok (.ifCond .eq 41, 3) := by decide +kernel
theorem dX5_two_103 : decode cX5_two 103 = .ok (.aload_n 0, 1) := by decide +kernel
theorem dX5_two_104 : decode cX5_two 104 = .ok (.iload_n 2, 1) := by decide +kernel
theorem dX5_two_105 : decode cX5_two 105 = .ok (.aload_n 0, 1) := by decide +kernel
theorem dX5_two_106 : decode cX5_two 106 = .ok (.getfield 50, 3) := by decide +kernel
theorem dX5_two_109 : decode cX5_two 109 = .ok (.iload_n 3, 1) := by decide +kernel
theorem dX5_two_110 : decode cX5_two 110 = .ok (.iaload, 1) := by decide +kernel
theorem dX5_two_111 : decode cX5_two 111 = .ok (.invokevirtual 102, 3) := by decide +kernel
theorem dX5_two_114 : decode cX5_two 114 = .ok (.aload_n 0, 1) := by decide +kernel
theorem dX5_two_115 : decode cX5_two 115 = .ok (.iload_n 2, 1) := by decide +kernel
theorem dX5_two_116 : decode cX5_two 116 = .ok (.aload_n 0, 1) := by decide +kernel
theorem dX5_two_117 : decode cX5_two 117 = .ok (.getfield 50, 3) := by decide +kernel
theorem dX5_two_120 : decode cX5_two 120 = .ok (.iload_n 3, 1) := by decide +kernel
theorem dX5_two_121 : decode cX5_two 121 = .ok (.iconst 1, 1) := by decide +kernel
theorem dX5_two_122 : decode cX5_two 122 = .ok (.ixor, 1) := by decide +kernel
theorem dX5_two_123 : decode cX5_two 123 = .ok (.iaload, 1) := by decide +kernel
theorem dX5_two_124 : decode cX5_two 124 = .ok (.invokevirtual 102, 3) := by decide +kernel
theorem dX5_two_127 : decode cX5_two 127 = .ok (.if_icmp .lt 14, 3) := by decide +kernel
theorem dX5_two_130 : decode cX5_two 130 = .ok (.bipush 10, 2) := by decide +kernel
theorem dX5_two_132 : decode cX5_two 132 = .ok (.iload_n 3, 1) := by decide +kernel
theorem dX5_two_133 : decode cX5_two 133 = .ok (.iconst 2, 1) := by decide +kernel
theorem dX5_two_134 : decode cX5_two 134 = .ok (.idiv, 1) := by decide +kernel
theorem dX5_two_135 : decode cX5_two 135 = .ok (.imul, 1) := by decide +kernel
theorem dX5_two_136 : decode cX5_two 136 = .ok (.iload_n 3, 1) := by decide +kernel
theorem dX5_two_137 : decode cX5_two 137 = .ok (.iconst 2, 1) := by decide +kernel
theorem dX5_two_138 : decode cX5_two 138 = .ok (.irem, 1) := by decide +kernel
theorem dX5_two_139 : decode cX5_two 139 = .ok (.iadd, 1) := by decide +kernel
theorem dX5_two_140 : decode cX5_two 140 = .ok (.ireturn, 1) := by decide +kernel
theorem dX5_two_141 : decode cX5_two 141 = .ok (.iinc 3 1, 3) := by decide +kernel
theorem dX5_two_144 : decode cX5_two 144 = .ok (.goto (-85), 3) := by decide +kernel
theorem dX5_two_147 : decode cX5_two 147 = .ok (.bipush (-9), 2) := by decide +kernel
theorem dX5_two_149 : decode cX5_two 149 = .ok (.ireturn, 1) := by decide +kernel
theorem dX5_chance_0 : decode cX5_chance 0 = .ok (.aload_n 0, 1) := by decide +kernel
theorem dX5_chance_1 : decode cX5_chance 1 = .ok (.iload_n 1, 1) := by decide +kernel
theorem dX5_chance_2 : decode cX5_chance 2 = .ok (.invokevirtual 93, 3) := by decide +kernel
theorem dX5_chance_5 : decode cX5_chance 5 = .ok (.ifCond .ne 14, 3) := by decide +kernel
theorem dX5_chance_8 : decode cX5_chance 8 = .ok (.ldc2_w 227, 3) := by decide +kernel
theorem dX5_chance_11 : decode cX5_chance 11 = .ok (.aload_n 0, 1) := by decide +kernel
theorem dX5_chance_12 : decode cX5_chance 12 = .ok (.iconst (-1), 1) := by decide +kernel
theorem dX5_chance_13 : decode cX5_chance 13 = .ok (.invokevirtual 53, 3) := by decide +kernel
theorem dX5_chance_16 : decode cX5_chance 16 = .ok (.i2l, 1) := by decide +kernel
theorem dX5_chance_17 : decode cX5_chance 17 = .ok (.lsub, 1) := by decide +kernel
theorem dX5_chance_18 : decode cX5_chance 18 = .ok (.lreturn, 1) := by decide +kernel
theorem dX5_chance_19 : decode cX5_chance 19 = .ok (.iload_n 2, 1) := by decide +kernel
theorem dX5_chance_20 : decode cX5_chance 20 = .ok (.ifCond .lt 7, 3) := by decide +kernel
theorem dX5_chance_23 : decode cX5_chance 23 = .ok (.iload_n 3, 1) := by decide +kernel
theorem dX5_chance_24 : decode cX5_chance 24 = .ok (.ifCond .ge 15, 3) := by decide +kernel
theorem dX5_chance_27 : decode cX5_chance 27 = .ok (.ldc2_w 227, 3) := by decide +kernel
theorem dX5_chance_30 : decode cX5_chance 30 = .ok (.aload_n 0, 1) := by decide +kernel
theorem dX5_chance_31 : decode cX5_chance 31 = .ok (.bipush (-4), 2) := by decide +kernel
theorem dX5_chance_33 : decode cX5_chance 33 = .ok (.invokevirtual 53, 3) := by decide +kernel
theorem dX5_chance_36 : decode cX5_chance 36 = .ok (.i2l, 1) := by decide +kernel
theorem dX5_chance_37 : decode cX5_chance 37 = .ok (.lsub, 1) := by decide +kernel
theorem dX5_chance_38 : decode cX5_chance 38 = .ok (.lreturn, 1) := by decide +kernel
theorem dX5_chance_39 : decode cX5_chance 39 = .ok (.iload_n 2, 1) := by decide +kernel
theorem dX5_chance_40 : decode cX5_chance 40 = .ok (.iconst 2, 1) := by decide +kernel
theorem dX5_chance_41 : decode cX5_chance 41 = .ok (.if_icmp .gt 9, 3) := by decide +kernel
theorem dX5_chance_44 : decode cX5_chance 44 = .ok (.iload_n 3, 1) := by decide +kernel
theorem dX5_chance_45 : decode cX5_chance 45 = .ok (.bipush 40, 2) := by decide +kernel
theorem dX5_chance_47 : decode cX5_chance 47 = .ok (.if_icmp .le 15, 3) := by decide +kernel
theorem dX5_chance_50 : decode cX5_chance 50 = .ok (.ldc2_w 227, 3) := by decide +kernel
theorem dX5_chance_53 : decode cX5_chance 53 = .ok (.aload_n 0, 1) := by decide +kernel
theorem dX5_chance_54 : decode cX5_chance 54 = .ok (.bipush (-6), 2) := by decide +kernel
theorem dX5_chance_56 : decode cX5_chance 56 = .ok (.invokevirtual 53, 3) := by decide +kernel
theorem dX5_chance_59 : decode cX5_chance 59 = .ok (.i2l, 1) := by decide +kernel
theorem dX5_chance_60 : decode cX5_chance 60 = .ok (.lsub, 1) := by decide +kernel
theorem dX5_chance_61 : decode cX5_chance 61 = .ok (.lreturn, 1) := by decide +kernel
theorem dX5_chance_62 : decode cX5_chance 62 = .ok (.iload 4, 2) := by decide +kernel
theorem dX5_chance_64 : decode cX5_chance 64 = .ok (.invokestatic 125, 3) := by decide +kernel
theorem dX5_chance_67 : decode cX5_chance 67 = .ok (.ifCond .ne 15, 3) := by decide +kernel
theorem dX5_chance_70 : decode cX5_chance 70 = .ok (.ldc2_w 227, 3) := by decide +kernel
theorem dX5_chance_73 : decode cX5_chance 73 = .ok (.aload_n 0, 1) := by decide +kernel
theorem dX5_chance_74 : decode cX5_chance 74 = .ok (.bipush (-2), 2) := by decide +kernel
theorem dX5_chance_76 : decode cX5_chance 76 = .ok (.invokevirtual 53, 3) := by decide +kernel
theorem dX5_chance_79 : decode cX5_chance 79 = .ok (.i2l, 1) := by decide +kernel
theorem dX5_chance_80 : decode cX5_chance 80 = .ok (.lsub, 1) := by decide +kernel
theorem dX5_chance_81 : decode cX5_chance 81 = .ok (.lreturn, 1) := by decide +kernel
theorem dX5_chance_82 : decode cX5_chance 82 = .ok (.aload_n 0, 1) := by decide +kernel
theorem dX5_chance_83 : decode cX5_chance 83 = .ok (.getfield 10, 3) := by decide +kernel
theorem dX5_chance_86 : decode cX5_chance 86 = .ok (.getfield 76, 3) := by decide +kernel
theorem dX5_chance_89 : decode cX5_chance 89 = .ok (.invokestatic 84, 3) := by decide +kernel
theorem dX5_chance_92 : decode cX5_chance 92 = .ok (.istore 5, 2) := by decide +kernel
theorem dX5_chance_94 : decode cX5_chance 94 = .ok (.iload_n 2, 1) := by decide +kernel
theorem dX5_chance_95 : decode cX5_chance 95 = .ok (.iload 5, 2) := by decide +kernel
theorem dX5_chance_97 : decode cX5_chance 97 = .ok (.invokestatic 174, 3) := by decide +kernel
theorem dX5_chance_100 : decode cX5_chance 100 = .ok (.istore 6, 2) := by decide +kernel
theorem dX5_chance_102 : decode cX5_chance 102 = .ok (.iload 6, 2) := by decide +kernel
theorem dX5_chance_104 : decode cX5_chance 104 = .ok (.ifCond .ne 31, 3) := by decide +kernel
theorem dX5_chance_107 : decode cX5_chance 107 = .ok (.aload_n 0, 1) := by decide +kernel
theorem dX5_chance_108 : decode cX5_chance 108 = .ok (.iload_n 1, 1) := by decide +kernel
theorem dX5_chance_109 : decode cX5_chance 109 = .ok (.aload_n 0, 1) := by decide +kernel
theorem dX5_chance_110 : decode cX5_chance 110 = .ok (.getfield 10, 3) := by decide +kernel
theorem dX5_chance_113 : decode cX5_chance 113 = .ok (.getfield 76, 3) := by decide +kernel
theorem dX5_chance_116 : decode cX5_chance 116 = .ok (.invokevirtual 102, 3) := by decide +kernel
theorem dX5_chance_119 : decode cX5_chance 119 = .ok (.iload_n 3, 1) := by decide +kernel
theorem dX5_chance_120 : decode cX5_chance 120 = .ok (.if_icmp .lt 7, 3) := by decide +kernel
theorem dX5_chance_123 : decode cX5_chance 123 = .ok (.iconst 1, 1) := by decide +kernel
theorem dX5_chance_124 : decode cX5_chance 124 = .ok (.goto 4, 3) := by decide +kernel
theorem dX5_chance_127 : decode cX5_chance 127 = .ok (.iconst 0, 1) := by decide +kernel
theorem dX5_chance_128 : decode cX5_chance 128 = .ok (.iconst 1, 1) := by decide +kernel
theorem dX5_chance_129 : decode cX5_chance 129 = .ok (.iload 4, 2) := by decide +kernel
theorem dX5_chance_131 : decode cX5_chance 131 = .ok (.invokestatic 229, 3) := by decide +kernel
theorem dX5_chance_134 : decode cX5_chance 134 = .ok (.lreturn, 1) := by decide +kernel
theorem dX5_chance_135 : decode cX5_chance 135 = .ok (.iload 6, 2) := by decide +kernel
theorem dX5_chance_137 : decode cX5_chance 137 = .ok (.iconst 1, 1) := by decide +kernel
theorem dX5_chance_138 : decode cX5_chance 138 = .ok (.if_icmp .ne 25, 3) := by decide +kernel
theorem dX5_chance_141 : decode cX5_chance 141 = .ok (.aload_n 0, 1) := by decide +kernel
theorem dX5_chance_142 : decode cX5_chance 142 = .ok (.iload_n 1, 1) := by decide +kernel
theorem dX5_chance_143 : decode cX5_chance 143 = .ok (.iload_n 3, 1) := by decide +kernel
theorem dX5_chance_144 : decode cX5_chance 144 = .ok (.aload_n 0, 1) := by decide +kernel
theorem dX5_chance_145 : decode cX5_chance 145 = .ok (.getfield 10, 3) := by decide +kernel
theorem dX5_chance_148 : decode cX5_chance 148 = .ok (.getfield 76, 3) := by decide +kernel
theorem dX5_chance_151 : decode cX5_chance 151 = .ok (.iconst 0, 1) := by decide +kernel
theorem dX5_chance_152 : decode cX5_chance 152 = .ok (.invokevirtual 233, 3) := by decide +kernel
theorem dX5_chance_155 : decode cX5_chance 155 = .ok (.iload 5, 2) := by decide +kernel
theorem dX5_chance_157 : decode cX5_chance 157 = .ok (.iload 4, 2) := by decide +kernel
theorem dX5_chance_159 : decode cX5_chance 159 = .ok (.invokestatic 229, 3) := by decide +kernel
theorem dX5_chance_162 : decode cX5_chance 162 = .ok (.lreturn, 1) := by decide +kernel
theorem dX5_chance_163 : decode cX5_chance 163 = .ok (.aload_n 0, 1) := by decide +kernel
theorem dX5_chance_164 : decode cX5_chance 164 = .ok (.iload_n 1, 1) := by decide +kernel
theorem dX5_chance_165 : decode cX5_chance 165 = .ok (.iload_n 3, 1) := by decide +kernel
theorem dX5_chance_166 : decode cX5_chance 166 = .ok (.invokevirtual 236, 3) := by decide +kernel
theorem dX5_chance_169 : decode cX5_chance 169 = .ok (.iload 5, 2) := by decide +kernel
theorem dX5_chance_171 : decode cX5_chance 171 = .ok (.iload 5, 2) := by decide +kernel
theorem dX5_chance_173 : decode cX5_chance 173 = .ok (.iconst 1, 1) := by decide +kernel
theorem dX5_chance_174 : decode cX5_chance 174 = .ok (.isub, 1) := by decide +kernel
theorem dX5_chance_175 : decode cX5_chance 175 = .ok (.imul, 1) := by decide +kernel
theorem dX5_chance_176 : decode cX5_chance 176 = .ok (.iconst 2, 1) := by decide +kernel
theorem dX5_chance_177 : decode cX5_chance 177 = .ok (.idiv, 1) := by decide +kernel
theorem dX5_chance_178 : decode cX5_chance 178 = .ok (.iload 4, 2) := by decide +kernel
theorem dX5_chance_180 : decode cX5_chance 180 = .ok (.invokestatic 229, 3) := by decide +kernel
theorem dX5_chance_183 : decode cX5_chance 183 = .ok (.lreturn, 1) := by decide +kernel
theorem dX5_mean_0 : decode cX5_mean 0 = .ok (.iload_n 1, 1) := by decide +kernel
theorem dX5_mean_1 : decode cX5_mean 1 = .ok (.invokestatic 125, 3) := by decide +kernel
theorem dX5_mean_4 : decode cX5_mean 4 = .ok (.ifCond .ne 15, 3) := by decide +kernel
theorem dX5_mean_7 : decode cX5_mean 7 = .ok (.ldc2_w 227, 3) := by decide +kernel
theorem dX5_mean_10 : decode cX5_mean 10 = .ok (.aload_n 0, 1) := by decide +kernel
theorem dX5_mean_11 : decode cX5_mean 11 = .ok (.bipush (-2), 2) := by decide +kernel
theorem dX5_mean_13 : decode cX5_mean 13 = .ok (.invokevirtual 53, 3) := by decide +kernel
theorem dX5_mean_16 : decode cX5_mean 16 = .ok (.i2l, 1) := by decide +kernel
theorem dX5_mean_17 : decode cX5_mean 17 = .ok (.lsub, 1) := by decide +kernel
theorem dX5_mean_18 : decode cX5_mean 18 = .ok (.lreturn, 1) := by decide +kernel
theorem dX5_mean_19 : decode cX5_mean 19 = .ok (.aload_n 0, 1) := by decide +kernel
theorem dX5_mean_20 : decode cX5_mean 20 = .ok (.aload_n 0, 1) := by decide +kernel
theorem dX5_mean_21 : decode cX5_mean 21 = .ok (.getfield 10, 3) := by decide +kernel
theorem dX5_mean_24 : decode cX5_mean 24 = .ok (.getfield 76, 3) := by decide +kernel
theorem dX5_mean_27 : decode cX5_mean 27 = .ok (.invokevirtual 128, 3) := by decide +kernel
theorem dX5_mean_30 : decode cX5_mean 30 = .ok (.iconst 1, 1) := by decide +kernel
theorem dX5_mean_31 : decode cX5_mean 31 = .ok (.aload_n 0, 1) := by decide +kernel
theorem dX5_mean_32 : decode cX5_mean 32 = .ok (.getfield 10, 3) := by decide +kernel
theorem dX5_mean_35 : decode cX5_mean 35 = .ok (.getfield 217, 3) := by decide +kernel
theorem dX5_mean_38 : decode cX5_mean 38 = .ok (.invokestatic 239, 3) := by decide +kernel
theorem dX5_mean_41 : decode cX5_mean 41 = .ok (.iload_n 1, 1) := by decide +kernel
theorem dX5_mean_42 : decode cX5_mean 42 = .ok (.invokestatic 229, 3) := by decide +kernel
theorem dX5_mean_45 : decode cX5_mean 45 = .ok (.lreturn, 1) := by decide +kernel
theorem dX5_whatIs_0 : decode cX5_whatIs 0 = .ok (.aload_n 0, 1) := by decide +kernel
theorem dX5_whatIs_1 : decode cX5_whatIs 1 = .ok (.iload_n 1, 1) := by decide +kernel
theorem dX5_whatIs_2 : decode cX5_whatIs 2 = .ok (.invokevirtual 93, 3) := by decide +kernel
theorem dX5_whatIs_5 : decode cX5_whatIs 5 = .ok (.ifCond .ne 9, 3) := by decide +kernel
theorem dX5_whatIs_8 : decode cX5_whatIs 8 = .ok (.aload_n 0, 1) := by decide +kernel
theorem dX5_whatIs_9 : decode cX5_whatIs 9 = .ok (.iconst (-1), 1) := by decide +kernel
theorem dX5_whatIs_10 : decode cX5_whatIs 10 = .ok (.invokevirtual 53, 3) := by decide +kernel
theorem dX5_whatIs_13 : decode cX5_whatIs 13 = .ok (.ireturn, 1) := by decide +kernel
theorem dX5_whatIs_14 : decode cX5_whatIs 14 = .ok (.iload_n 2, 1) := by decide +kernel
theorem dX5_whatIs_15 : decode cX5_whatIs 15 = .ok (.invokestatic 125, 3) := by decide +kernel
theorem dX5_whatIs_18 : decode cX5_whatIs 18 = .ok (.ifCond .ne 10, 3) := by decide +kernel
theorem dX5_whatIs_21 : decode cX5_whatIs 21 = .ok (.aload_n 0, 1) := by decide +kernel
theorem dX5_whatIs_22 : decode cX5_whatIs 22 = .ok (.bipush (-2), 2) := by decide +kernel
theorem dX5_whatIs_24 : decode cX5_whatIs 24 = .ok (.invokevirtual 53, 3) := by decide +kernel
theorem dX5_whatIs_27 : decode cX5_whatIs 27 = .ok (.ireturn, 1) := by decide +kernel
theorem dX5_whatIs_28 : decode cX5_whatIs 28 = .ok (.iconst 0, 1) := by decide +kernel
theorem dX5_whatIs_29 : decode cX5_whatIs 29 = .ok (.istore_n 3, 1) := by decide +kernel
theorem dX5_whatIs_30 : decode cX5_whatIs 30 = .ok (.iload_n 2, 1) := by decide +kernel
theorem dX5_whatIs_31 : decode cX5_whatIs 31 = .ok (.ifCond .ne 8, 3) := by decide +kernel
theorem dX5_whatIs_34 : decode cX5_whatIs 34 = .ok (.bipush 6, 2) := by decide +kernel
theorem dX5_whatIs_36 : decode cX5_whatIs 36 = .ok (.goto 5, 3) := by decide +kernel
theorem dX5_whatIs_39 : decode cX5_whatIs 39 = .ok (.bipush 10, 2) := by decide +kernel
theorem dX5_whatIs_41 : decode cX5_whatIs 41 = .ok (.istore 4, 2) := by decide +kernel
theorem dX5_whatIs_43 : decode cX5_whatIs 43 = .ok (.iconst 0, 1) := by decide +kernel
theorem dX5_whatIs_44 : decode cX5_whatIs 44 = .ok (.istore 5, 2) := by decide +kernel
theorem dX5_whatIs_46 : decode cX5_whatIs 46 = .ok (.iload 5, 2) := by decide +kernel
theorem dX5_whatIs_48 : decode cX5_whatIs 48 = .ok (.iload 4, 2) := by decide +kernel
theorem dX5_whatIs_50 : decode cX5_whatIs 50 = .ok (.if_icmp .ge 67, 3) := by decide +kernel
theorem dX5_whatIs_53 : decode cX5_whatIs 53 = .ok (.iload_n 2, 1) := by decide +kernel
theorem dX5_whatIs_54 : decode cX5_whatIs 54 = .ok (.ifCond .ne 8, 3) := by decide +kernel
theorem dX5_whatIs_57 : decode cX5_whatIs 57 = .ok (.iload 5, 2) := by decide +kernel
theorem dX5_whatIs_59 : decode cX5_whatIs 59 = .ok (.goto 12, 3) := by decide +kernel
theorem dX5_whatIs_62 : decode cX5_whatIs 62 = .ok (.aload_n 0, 1) := by decide +kernel
theorem dX5_whatIs_63 : decode cX5_whatIs 63 = .ok (.getfield 10, 3) := by decide +kernel
theorem dX5_whatIs_66 : decode cX5_whatIs 66 = .ok (.getfield 96, 3) := by decide +kernel
theorem dX5_whatIs_69 : decode cX5_whatIs 69 = .ok (.iload_n 1, 1) := by decide +kernel
theorem dX5_whatIs_70 : decode cX5_whatIs 70 = .ok (.iaload, 1) := by decide +kernel
theorem dX5_whatIs_71 : decode cX5_whatIs 71 = .ok (.istore 6, 2) := by decide +kernel
theorem dX5_whatIs_73 : decode cX5_whatIs 73 = .ok (.iload_n 2, 1) := by decide +kernel
theorem dX5_whatIs_74 : decode cX5_whatIs 74 = .ok (.ifCond .ne 15, 3) := by decide +kernel
theorem dX5_whatIs_77 : decode cX5_whatIs 77 = .ok (.aload_n 0, 1) := by decide +kernel
theorem dX5_whatIs_78 : decode cX5_whatIs 78 = .ok (.getfield 10, 3) := by decide +kernel
theorem dX5_whatIs_81 : decode cX5_whatIs 81 = .ok (.getfield 99, 3) := by decide +kernel
theorem dX5_whatIs_84 : decode cX5_whatIs 84 = .ok (.iload_n 1, 1) := by decide +kernel
theorem dX5_whatIs_85 : decode cX5_whatIs 85 = .ok (.iaload, 1) := by decide +kernel
theorem dX5_whatIs_86 : decode cX5_whatIs 86 = .ok (.goto 5, 3) := by decide +kernel
theorem dX5_whatIs_89 : decode cX5_whatIs 89 = .ok (.iload 5, 2) := by decide +kernel
theorem dX5_whatIs_91 : decode cX5_whatIs 91 = .ok (.istore 7, 2) := by decide +kernel
theorem dX5_whatIs_93 : decode cX5_whatIs 93 = .ok (.aload_n 0, 1) := by decide +kernel
theorem dX5_whatIs_94 : decode cX5_whatIs 94 = .ok (.iload 6, 2) := by decide +kernel
theorem dX5_whatIs_96 : decode cX5_whatIs 96 = .ok (.iload 7, 2) := by decide +kernel
theorem dX5_whatIs_98 : decode cX5_whatIs 98 = .ok (.invokevirtual 242, 3) := by decide +kernel
theorem dX5_whatIs_101 : decode cX5_whatIs 101 = .ok (.ifCond .eq 10, 3) := by decide +kernel
theorem dX5_whatIs_104 : decode cX5_whatIs 104 = .ok (.iload_n 3, 1) := by decide +kernel
theorem dX5_whatIs_105 : decode cX5_whatIs 105 = .ok (.iconst 1, 1) := by decide +kernel
theorem dX5_whatIs_106 : decode cX5_whatIs 106 = .ok (.iload 5, 2) := by decide +kernel
theorem dX5_whatIs_108 : decode cX5_whatIs 108 = .ok (.ishl, 1) := by decide +kernel
theorem dX5_whatIs_109 : decode cX5_whatIs 109 = .ok (.ior, 1) := by decide +kernel
theorem dX5_whatIs_110 : decode cX5_whatIs 110 = .ok (.istore_n 3, 1) := by decide +kernel
theorem dX5_whatIs_111 : decode cX5_whatIs 111 = .ok (.iinc 5 1, 3) := by decide +kernel
theorem dX5_whatIs_114 : decode cX5_whatIs 114 = .ok (.goto (-68), 3) := by decide +kernel
theorem dX5_whatIs_117 : decode cX5_whatIs 117 = .ok (.iload_n 3, 1) := by decide +kernel
theorem dX5_whatIs_118 : decode cX5_whatIs 118 = .ok (.ireturn, 1) := by decide +kernel
theorem dX5_row_0 : decode cX5_row 0 = .ok (.iload_n 1, 1) := by decide +kernel
theorem dX5_row_1 : decode cX5_row 1 = .ok (.ifCond .ge 10, 3) := by decide +kernel
theorem dX5_row_4 : decode cX5_row 4 = .ok (.aload_n 0, 1) := by decide +kernel
theorem dX5_row_5 : decode cX5_row 5 = .ok (.bipush (-4), 2) := by decide +kernel
theorem dX5_row_7 : decode cX5_row 7 = .ok (.invokevirtual 53, 3) := by decide +kernel
theorem dX5_row_10 : decode cX5_row 10 = .ok (.ireturn, 1) := by decide +kernel
theorem dX5_row_11 : decode cX5_row 11 = .ok (.iload_n 1, 1) := by decide +kernel
theorem dX5_row_12 : decode cX5_row 12 = .ok (.bipush 99, 2) := by decide +kernel
theorem dX5_row_14 : decode cX5_row 14 = .ok (.if_icmp .gt 12, 3) := by decide +kernel
theorem dX5_row_17 : decode cX5_row 17 = .ok (.aload_n 0, 1) := by decide +kernel
theorem dX5_row_18 : decode cX5_row 18 = .ok (.getfield 245, 3) := by decide +kernel
theorem dX5_row_21 : decode cX5_row 21 = .ok (.bipush 16, 2) := by decide +kernel
theorem dX5_row_23 : decode cX5_row 23 = .ok (.if_icmp .lt 10, 3) := by decide +kernel
theorem dX5_row_26 : decode cX5_row 26 = .ok (.aload_n 0, 1) := by decide +kernel
theorem dX5_row_27 : decode cX5_row 27 = .ok (.bipush (-6), 2) := by decide +kernel
theorem dX5_row_29 : decode cX5_row 29 = .ok (.invokevirtual 53, 3) := by decide +kernel
theorem dX5_row_32 : decode cX5_row 32 = .ok (.ireturn, 1) := by decide +kernel
theorem dX5_row_33 : decode cX5_row 33 = .ok (.aload_n 0, 1) := by decide +kernel
theorem dX5_row_34 : decode cX5_row 34 = .ok (.getfield 43, 3) := by decide +kernel
theorem dX5_row_37 : decode cX5_row 37 = .ok (.aload_n 0, 1) := by decide +kernel
theorem dX5_row_38 : decode cX5_row 38 = .ok (.getfield 245, 3) := by decide +kernel
theorem dX5_row_41 : decode cX5_row 41 = .ok (.iload_n 1, 1) := by decide +kernel
theorem dX5_row_42 : decode cX5_row 42 = .ok (.iastore, 1) := by decide +kernel
theorem dX5_row_43 : decode cX5_row 43 = .ok (.aload_n 0, 1) := by decide +kernel
theorem dX5_row_44 : decode cX5_row 44 = .ok (.dup, 1) := by decide +kernel
theorem dX5_row_45 : decode cX5_row 45 = .ok (.getfield 245, 3) := by decide +kernel
theorem dX5_row_48 : decode cX5_row 48 = .ok (.iconst 1, 1) := by decide +kernel
theorem dX5_row_49 : decode cX5_row 49 = .ok (.iadd, 1) := by decide +kernel
theorem dX5_row_50 : decode cX5_row 50 = .ok (.putfield 245, 3) := by decide +kernel
theorem dX5_row_53 : decode cX5_row 53 = .ok (.aload_n 0, 1) := by decide +kernel
theorem dX5_row_54 : decode cX5_row 54 = .ok (.getfield 245, 3) := by decide +kernel
theorem dX5_row_57 : decode cX5_row 57 = .ok (.ireturn, 1) := by decide +kernel
theorem dX5_judge_0 : decode cX5_judge 0 = .ok (.aload_n 0, 1) := by decide +kernel
theorem dX5_judge_1 : decode cX5_judge 1 = .ok (.invokevirtual 248, 3) := by decide +kernel
theorem dX5_judge_4 : decode cX5_judge 4 = .ok (.istore_n 1, 1) := by decide +kernel
theorem dX5_judge_5 : decode cX5_judge 5 = .ok (.aload_n 0, 1) := by decide +kernel
theorem dX5_judge_6 : decode cX5_judge 6 = .ok (.iconst 0, 1) := by decide +kernel
theorem dX5_judge_7 : decode cX5_judge 7 = .ok (.putfield 245, 3) := by decide +kernel
theorem dX5_judge_10 : decode cX5_judge 10 = .ok (.iload_n 1, 1) := by decide +kernel
theorem dX5_judge_11 : decode cX5_judge 11 = .ok (.ireturn, 1) := by decide +kernel
theorem dX5_clear_0 : decode cX5_clear 0 = .ok (.aload_n 0, 1) := by decide +kernel
theorem dX5_clear_1 : decode cX5_clear 1 = .ok (.getfield 245, 3) := by decide +kernel
theorem dX5_clear_4 : decode cX5_clear 4 = .ok (.istore_n 1, 1) := by decide +kernel
theorem dX5_clear_5 : decode cX5_clear 5 = .ok (.aload_n 0, 1) := by decide +kernel
theorem dX5_clear_6 : decode cX5_clear 6 = .ok (.iconst 0, 1) := by decide +kernel
theorem dX5_clear_7 : decode cX5_clear 7 = .ok (.putfield 245, 3) := by decide +kernel
theorem dX5_clear_10 : decode cX5_clear 10 = .ok (.iload_n 1, 1) := by decide +kernel
theorem dX5_clear_11 : decode cX5_clear 11 = .ok (.ireturn, 1) := by decide +kernel
theorem dX5_lots_0 : decode cX5_lots 0 = .ok (.iload_n 1, 1) := by decide +kernel
theorem dX5_lots_1 : decode cX5_lots 1 = .ok (.iconst 1, 1) := by decide +kernel
theorem dX5_lots_2 : decode cX5_lots 2 = .ok (.if_icmp .ge 10, 3) := by decide +kernel
theorem dX5_lots_5 : decode cX5_lots 5 = .ok (.aload_n 0, 1) := by decide +kernel
theorem dX5_lots_6 : decode cX5_lots 6 = .ok (.bipush (-4), 2) := by decide +kernel
theorem dX5_lots_8 : decode cX5_lots 8 = .ok (.invokevirtual 53, 3) := by decide +kernel
theorem dX5_lots_11 : decode cX5_lots 11 = .ok (.ireturn, 1) := by decide +kernel
theorem dX5_lots_12 : decode cX5_lots 12 = .ok (.iload_n 1, 1) := by decide +kernel
theorem dX5_lots_13 : decode cX5_lots 13 = .ok (.bipush 20, 2) := by decide +kernel
theorem dX5_lots_15 : decode cX5_lots 15 = .ok (.if_icmp .le 10, 3) := by decide +kernel
theorem dX5_lots_18 : decode cX5_lots 18 = .ok (.aload_n 0, 1) := by decide +kernel
theorem dX5_lots_19 : decode cX5_lots 19 = .ok (.bipush (-6), 2) := by decide +kernel
theorem dX5_lots_21 : decode cX5_lots 21 = .ok (.invokevirtual 53, 3) := by decide +kernel
theorem dX5_lots_24 : decode cX5_lots 24 = .ok (.ireturn, 1) := by decide +kernel
theorem dX5_lots_25 : decode cX5_lots 25 = .ok (.iload_n 3, 1) := by decide +kernel
theorem dX5_lots_26 : decode cX5_lots 26 = .ok (.invokestatic 125, 3) := by decide +kernel
theorem dX5_lots_29 : decode cX5_lots 29 = .ok (.ifCond .ne 10, 3) := by decide +kernel
theorem dX5_lots_32 : decode cX5_lots 32 = .ok (.aload_n 0, 1) := by decide +kernel
theorem dX5_lots_33 : decode cX5_lots 33 = .ok (.bipush (-2), 2) := by decide +kernel
theorem dX5_lots_35 : decode cX5_lots 35 = .ok (.invokevirtual 53, 3) := by decide +kernel
theorem dX5_lots_38 : decode cX5_lots 38 = .ok (.ireturn, 1) := by decide +kernel
theorem dX5_lots_39 : decode cX5_lots 39 = .ok (.iload_n 2, 1) := by decide +kernel
theorem dX5_lots_40 : decode cX5_lots 40 = .ok (.istore 4, 2) := by decide +kernel
theorem dX5_lots_42 : decode cX5_lots 42 = .ok (.iconst 0, 1) := by decide +kernel
theorem dX5_lots_43 : decode cX5_lots 43 = .ok (.istore 5, 2) := by decide +kernel
theorem dX5_lots_45 : decode cX5_lots 45 = .ok (.iconst 0, 1) := by decide +kernel
theorem dX5_lots_46 : decode cX5_lots 46 = .ok (.istore 6, 2) := by decide +kernel
theorem dX5_lots_48 : decode cX5_lots 48 = .ok (.iconst 0, 1) := by decide +kernel
theorem dX5_lots_49 : decode cX5_lots 49 = .ok (.istore 7, 2) := by decide +kernel
theorem dX5_lots_51 : decode cX5_lots 51 = .ok (.iload 7, 2) := by decide +kernel
theorem dX5_lots_53 : decode cX5_lots 53 = .ok (.iload_n 1, 1) := by decide +kernel
theorem dX5_lots_54 : decode cX5_lots 54 = .ok (.if_icmp .ge 102, 3) := by decide +kernel
theorem dX5_lots_57 : decode cX5_lots 57 = .ok (.aload_n 0, 1) := by decide +kernel
theorem dX5_lots_58 : decode cX5_lots 58 = .ok (.getfield 10, 3) := by decide +kernel
theorem dX5_lots_61 : decode cX5_lots 61 = .ok (.getfield 76, 3) := by decide +kernel
theorem dX5_lots_64 : decode cX5_lots 64 = .ok (.istore 8, 2) := by decide +kernel
theorem dX5_lots_66 : decode cX5_lots 66 = .ok (.iconst 0, 1) := by decide +kernel
theorem dX5_lots_67 : decode cX5_lots 67 = .ok (.istore 9, 2) := by decide +kernel
theorem dX5_lots_69 : decode cX5_lots 69 = .ok (.iload 9, 2) := by decide +kernel
theorem dX5_lots_71 : decode cX5_lots 71 = .ok (.bipush 6, 2) := by decide +kernel
theorem dX5_lots_73 : decode cX5_lots 73 = .ok (.if_icmp .ge 53, 3) := by decide +kernel
theorem dX5_lots_76 : decode cX5_lots 76 = .ok (.iload 4, 2) := by decide +kernel
theorem dX5_lots_78 : decode cX5_lots 78 = .ok (.invokestatic 251, 3) := by decide +kernel
theorem dX5_lots_81 : decode cX5_lots 81 = .ok (.istore 10, 2) := by decide +kernel
theorem dX5_lots_83 : decode cX5_lots 83 = .ok (.iload 10, 2) := by decide +kernel
theorem dX5_lots_85 : decode cX5_lots 85 = .ok (.invokestatic 251, 3) := by decide +kernel
theorem dX5_lots_88 : decode cX5_lots 88 = .ok (.istore 4, 2) := by decide +kernel
theorem dX5_lots_90 : decode cX5_lots 90 = .ok (.iload 10, 2) := by decide +kernel
theorem dX5_lots_92 : decode cX5_lots 92 = .ok (.invokestatic 254, 3) := by decide +kernel
theorem dX5_lots_95 : decode cX5_lots 95 = .ok (.iconst 4, 1) := by decide +kernel
theorem dX5_lots_96 : decode cX5_lots 96 = .ok (.irem, 1) := by decide +kernel
theorem dX5_lots_97 : decode cX5_lots 97 = .ok (.bipush 25, 2) := by decide +kernel
theorem dX5_lots_99 : decode cX5_lots 99 = .ok (.imul, 1) := by decide +kernel
theorem dX5_lots_100 : decode cX5_lots 100 = .ok (.iload 4, 2) := by decide +kernel
theorem dX5_lots_102 : decode cX5_lots 102 = .ok (.invokestatic 254, 3) := by decide +kernel
theorem dX5_lots_105 : decode cX5_lots 105 = .ok (.bipush 25, 2) := by decide +kernel
theorem dX5_lots_107 : decode cX5_lots 107 = .ok (.irem, 1) := by decide +kernel
theorem dX5_lots_108 : decode cX5_lots 108 = .ok (.iadd, 1) := by decide +kernel
theorem dX5_lots_109 : decode cX5_lots 109 = .ok (.istore 11, 2) := by decide +kernel
theorem dX5_lots_111 : decode cX5_lots 111 = .ok (.iload 11, 2) := by decide +kernel
theorem dX5_lots_113 : decode cX5_lots 113 = .ok (.iload 8, 2) := by decide +kernel
theorem dX5_lots_115 : decode cX5_lots 115 = .ok (.invokestatic 159, 3) := by decide +kernel
theorem dX5_lots_118 : decode cX5_lots 118 = .ok (.istore 8, 2) := by decide +kernel
theorem dX5_lots_120 : decode cX5_lots 120 = .ok (.iinc 9 1, 3) := by decide +kernel
theorem dX5_lots_123 : decode cX5_lots 123 = .ok (.goto (-54), 3) := by decide +kernel
theorem dX5_lots_126 : decode cX5_lots 126 = .ok (.iload 5, 2) := by decide +kernel
theorem dX5_lots_128 : decode cX5_lots 128 = .ok (.aload_n 0, 1) := by decide +kernel
theorem dX5_lots_129 : decode cX5_lots 129 = .ok (.iload 8, 2) := by decide +kernel
theorem dX5_lots_131 : decode cX5_lots 131 = .ok (.invokevirtual 128, 3) := by decide +kernel
theorem dX5_lots_134 : decode cX5_lots 134 = .ok (.iadd, 1) := by decide +kernel
theorem dX5_lots_135 : decode cX5_lots 135 = .ok (.istore 5, 2) := by decide +kernel
theorem dX5_lots_137 : decode cX5_lots 137 = .ok (.aload_n 0, 1) := by decide +kernel
theorem dX5_lots_138 : decode cX5_lots 138 = .ok (.getfield 25, 3) := by decide +kernel
theorem dX5_lots_141 : decode cX5_lots 141 = .ok (.invokevirtual 144, 3) := by decide +kernel
theorem dX5_lots_144 : decode cX5_lots 144 = .ok (.ifCond .eq 6, 3) := by decide +kernel
theorem dX5_lots_147 : decode cX5_lots 147 = .ok (.iinc 6 1, 3) := by decide +kernel
theorem dX5_lots_150 : decode cX5_lots 150 = .ok (.iinc 7 1, 3) := by decide +kernel
theorem dX5_lots_153 : decode cX5_lots 153 = .ok (.goto (-102), 3) := by decide +kernel
theorem dX5_lots_156 : decode cX5_lots 156 = .ok (.iload_n 3, 1) := by decide +kernel
theorem dX5_lots_157 : decode cX5_lots 157 = .ok (.ifCond .ne 8, 3) := by decide +kernel
theorem dX5_lots_160 : decode cX5_lots 160 = .ok (.iload 5, 2) := by decide +kernel
theorem dX5_lots_162 : decode cX5_lots 162 = .ok (.goto 5, 3) := by decide +kernel
theorem dX5_lots_165 : decode cX5_lots 165 = .ok (.iload 6, 2) := by decide +kernel
theorem dX5_lots_167 : decode cX5_lots 167 = .ok (.ireturn, 1) := by decide +kernel
theorem dX5_image_0 : decode cX5_image 0 = .ok (.aload_n 0, 1) := by decide +kernel
theorem dX5_image_1 : decode cX5_image 1 = .ok (.getfield 16, 3) := by decide +kernel
theorem dX5_image_4 : decode cX5_image 4 = .ok (.aload_n 0, 1) := by decide +kernel
theorem dX5_image_5 : decode cX5_image 5 = .ok (.getfield 10, 3) := by decide +kernel
theorem dX5_image_8 : decode cX5_image 8 = .ok (.invokevirtual 68, 3) := by decide +kernel
theorem dX5_image_11 : decode cX5_image 11 = .ok (.aload_n 0, 1) := by decide +kernel
theorem dX5_image_12 : decode cX5_image 12 = .ok (.iconst 1, 1) := by decide +kernel
theorem dX5_image_13 : decode cX5_image 13 = .ok (.putfield 257, 3) := by decide +kernel
theorem dX5_image_16 : decode cX5_image 16 = .ok (.aload_n 0, 1) := by decide +kernel
theorem dX5_image_17 : decode cX5_image 17 = .ok (.getfield 10, 3) := by decide +kernel
theorem dX5_image_20 : decode cX5_image 20 = .ok (.getfield 118, 3) := by decide +kernel
theorem dX5_image_23 : decode cX5_image 23 = .ok (.ireturn, 1) := by decide +kernel
theorem dX5_on_0 : decode cX5_on 0 = .ok (.aload_n 0, 1) := by decide +kernel
theorem dX5_on_1 : decode cX5_on 1 = .ok (.getfield 257, 3) := by decide +kernel
theorem dX5_on_4 : decode cX5_on 4 = .ok (.ifCond .ne 10, 3) := by decide +kernel
theorem dX5_on_7 : decode cX5_on 7 = .ok (.aload_n 0, 1) := by decide +kernel
theorem dX5_on_8 : decode cX5_on 8 = .ok (.bipush (-3), 2) := by decide +kernel
theorem dX5_on_10 : decode cX5_on 10 = .ok (.invokevirtual 53, 3) := by decide +kernel
theorem dX5_on_13 : decode cX5_on 13 = .ok (.ireturn, 1) := by decide +kernel
theorem dX5_on_14 : decode cX5_on 14 = .ok (.aload_n 0, 1) := by decide +kernel
theorem dX5_on_15 : decode cX5_on 15 = .ok (.getfield 10, 3) := by decide +kernel
theorem dX5_on_18 : decode cX5_on 18 = .ok (.aload_n 0, 1) := by decide +kernel
theorem dX5_on_19 : decode cX5_on 19 = .ok (.getfield 16, 3) := by decide +kernel
theorem dX5_on_22 : decode cX5_on 22 = .ok (.invokevirtual 68, 3) := by decide +kernel
theorem dX5_on_25 : decode cX5_on 25 = .ok (.aload_n 0, 1) := by decide +kernel
theorem dX5_on_26 : decode cX5_on 26 = .ok (.getfield 10, 3) := by decide +kernel
theorem dX5_on_29 : decode cX5_on 29 = .ok (.getfield 118, 3) := by decide +kernel
theorem dX5_on_32 : decode cX5_on 32 = .ok (.ireturn, 1) := by decide +kernel
theorem dX5_count_0 : decode cX5_count 0 = .ok (.iload_n 1, 1) := by decide +kernel
theorem dX5_count_1 : decode cX5_count 1 = .ok (.tableswitch 127 0 7 #[47, 55, 63, 71, 82, 94, 114, 119], 47) := by decide +kernel
theorem dX5_count_48 : decode cX5_count 48 = .ok (.aload_n 0, 1) := by decide +kernel
theorem dX5_count_49 : decode cX5_count 49 = .ok (.getfield 10, 3) := by decide +kernel
theorem dX5_count_52 : decode cX5_count 52 = .ok (.getfield 217, 3) := by decide +kernel
theorem dX5_count_55 : decode cX5_count 55 = .ok (.ireturn, 1) := by decide +kernel
theorem dX5_count_56 : decode cX5_count 56 = .ok (.aload_n 0, 1) := by decide +kernel
theorem dX5_count_57 : decode cX5_count 57 = .ok (.getfield 10, 3) := by decide +kernel
theorem dX5_count_60 : decode cX5_count 60 = .ok (.getfield 118, 3) := by decide +kernel
theorem dX5_count_63 : decode cX5_count 63 = .ok (.ireturn, 1) := by decide +kernel
theorem dX5_count_64 : decode cX5_count 64 = .ok (.aload_n 0, 1) := by decide +kernel
theorem dX5_count_65 : decode cX5_count 65 = .ok (.getfield 10, 3) := by decide +kernel
theorem dX5_count_68 : decode cX5_count 68 = .ok (.getfield 76, 3) := by decide +kernel
theorem dX5_count_71 : decode cX5_count 71 = .ok (.ireturn, 1) := by decide +kernel
theorem dX5_count_72 : decode cX5_count 72 = .ok (.aload_n 0, 1) := by decide +kernel
theorem dX5_count_73 : decode cX5_count 73 = .ok (.getfield 10, 3) := by decide +kernel
theorem dX5_count_76 : decode cX5_count 76 = .ok (.getfield 76, 3) := by decide +kernel
theorem dX5_count_79 : decode cX5_count 79 = .ok (.invokestatic 84, 3) := by decide +kernel
theorem dX5_count_82 : decode cX5_count 82 = .ok (.ireturn, 1) := by decide +kernel
theorem dX5_count_83 : decode cX5_count 83 = .ok (.aload_n 0, 1) := by decide +kernel
theorem dX5_count_84 : decode cX5_count 84 = .ok (.aload_n 0, 1) := by decide +kernel
theorem dX5_count_85 : decode cX5_count 85 = .ok (.getfield 10, 3) := by decide +kernel
theorem dX5_count_88 : decode cX5_count 88 = .ok (.getfield 76, 3) := by decide +kernel
theorem dX5_count_91 : decode cX5_count 91 = .ok (.invokevirtual 128, 3) := by decide +kernel
theorem dX5_count_94 : decode cX5_count 94 = .ok (.ireturn, 1) := by decide +kernel
theorem dX5_count_95 : decode cX5_count 95 = .ok (.aload_n 0, 1) := by decide +kernel
theorem dX5_count_96 : decode cX5_count 96 = .ok (.aload_n 0, 1) := by decide +kernel
theorem dX5_count_97 : decode cX5_count 97 = .ok (.getfield 10, 3) := by decide +kernel
theorem dX5_count_100 : decode cX5_count 100 = .ok (.getfield 76, 3) := by decide +kernel
theorem dX5_count_103 : decode cX5_count 103 = .ok (.invokevirtual 179, 3) := by decide +kernel
theorem dX5_count_106 : decode cX5_count 106 = .ok (.ifCond .eq 7, 3) := by decide +kernel
theorem dX5_count_109 : decode cX5_count 109 = .ok (.iconst 0, 1) := by decide +kernel
end
section
theorem dX5_count_110 : decode cX5_count 110 = .ok (.goto 4, 3) := by decide +kernel
theorem dX5_count_113 : decode cX5_count 113 = .ok (.iconst 1, 1) := by decide +kernel
theorem dX5_count_114 : decode cX5_count 114 = .ok (.ireturn, 1) := by decide +kernel
theorem dX5_count_115 : decode cX5_count 115 = .ok (.aload_n 0, 1) := by decide +kernel
theorem dX5_count_116 : decode cX5_count 116 = .ok (.getfield 245, 3) := by decide +kernel
theorem dX5_count_119 : decode cX5_count 119 = .ok (.ireturn, 1) := by decide +kernel
theorem dX5_count_120 : decode cX5_count 120 = .ok (.aload_n 0, 1) := by decide +kernel
theorem dX5_count_121 : decode cX5_count 121 = .ok (.getfield 39, 3) := by decide +kernel
theorem dX5_count_124 : decode cX5_count 124 = .ok (.getfield 57, 3) := by decide +kernel
theorem dX5_count_127 : decode cX5_count 127 = .ok (.ireturn, 1) := by decide +kernel
theorem dX5_count_128 : decode cX5_count 128 = .ok (.iload_n 1, 1) := by decide +kernel
theorem dX5_count_129 : decode cX5_count 129 = .ok (.bipush 11, 2) := by decide +kernel
theorem dX5_count_131 : decode cX5_count 131 = .ok (.if_icmp .lt 21, 3) := by decide +kernel
theorem dX5_count_134 : decode cX5_count 134 = .ok (.iload_n 1, 1) := by decide +kernel
theorem dX5_count_135 : decode cX5_count 135 = .ok (.bipush 16, 2) := by decide +kernel
theorem dX5_count_137 : decode cX5_count 137 = .ok (.if_icmp .gt 15, 3) := by decide +kernel
theorem dX5_count_140 : decode cX5_count 140 = .ok (.aload_n 0, 1) := by decide +kernel
theorem dX5_count_141 : decode cX5_count 141 = .ok (.getfield 47, 3) := by decide +kernel
theorem dX5_count_144 : decode cX5_count 144 = .ok (.iload_n 1, 1) := by decide +kernel
theorem dX5_count_145 : decode cX5_count 145 = .ok (.bipush 10, 2) := by decide +kernel
theorem dX5_count_147 : decode cX5_count 147 = .ok (.isub, 1) := by decide +kernel
theorem dX5_count_148 : decode cX5_count 148 = .ok (.iaload, 1) := by decide +kernel
theorem dX5_count_149 : decode cX5_count 149 = .ok (.goto 5, 3) := by decide +kernel
theorem dX5_count_152 : decode cX5_count 152 = .ok (.bipush (-9), 2) := by decide +kernel
theorem dX5_count_154 : decode cX5_count 154 = .ok (.ireturn, 1) := by decide +kernel
theorem dX5_refused_0 : decode cX5_refused 0 = .ok (.aload_n 0, 1) := by decide +kernel
theorem dX5_refused_1 : decode cX5_refused 1 = .ok (.getfield 47, 3) := by decide +kernel
theorem dX5_refused_4 : decode cX5_refused 4 = .ok (.iload_n 1, 1) := by decide +kernel
theorem dX5_refused_5 : decode cX5_refused 5 = .ok (.ineg, 1) := by decide +kernel
theorem dX5_refused_6 : decode cX5_refused 6 = .ok (.dup2, 1) := by decide +kernel
theorem dX5_refused_7 : decode cX5_refused 7 = .ok (.iaload, 1) := by decide +kernel
theorem dX5_refused_8 : decode cX5_refused 8 = .ok (.iconst 1, 1) := by decide +kernel
theorem dX5_refused_9 : decode cX5_refused 9 = .ok (.iadd, 1) := by decide +kernel
theorem dX5_refused_10 : decode cX5_refused 10 = .ok (.iastore, 1) := by decide +kernel
theorem dX5_refused_11 : decode cX5_refused 11 = .ok (.iload_n 1, 1) := by decide +kernel
theorem dX5_refused_12 : decode cX5_refused 12 = .ok (.ireturn, 1) := by decide +kernel
theorem dX5_isCell_0 : decode cX5_isCell 0 = .ok (.iload_n 0, 1) := by decide +kernel
theorem dX5_isCell_1 : decode cX5_isCell 1 = .ok (.ifCond .lt 13, 3) := by decide +kernel
theorem dX5_isCell_4 : decode cX5_isCell 4 = .ok (.iload_n 0, 1) := by decide +kernel
theorem dX5_isCell_5 : decode cX5_isCell 5 = .ok (.bipush 25, 2) := by decide +kernel
theorem dX5_isCell_7 : decode cX5_isCell 7 = .ok (.if_icmp .ge 7, 3) := by decide +kernel
theorem dX5_isCell_10 : decode cX5_isCell 10 = .ok (.iconst 1, 1) := by decide +kernel
theorem dX5_isCell_11 : decode cX5_isCell 11 = .ok (.goto 4, 3) := by decide +kernel
theorem dX5_isCell_14 : decode cX5_isCell 14 = .ok (.iconst 0, 1) := by decide +kernel
theorem dX5_isCell_15 : decode cX5_isCell 15 = .ok (.ireturn, 1) := by decide +kernel
theorem dX5_isTwofold_0 : decode cX5_isTwofold 0 = .ok (.iload_n 0, 1) := by decide +kernel
theorem dX5_isTwofold_1 : decode cX5_isTwofold 1 = .ok (.ifCond .eq 8, 3) := by decide +kernel
theorem dX5_isTwofold_4 : decode cX5_isTwofold 4 = .ok (.iload_n 0, 1) := by decide +kernel
theorem dX5_isTwofold_5 : decode cX5_isTwofold 5 = .ok (.iconst 1, 1) := by decide +kernel
theorem dX5_isTwofold_6 : decode cX5_isTwofold 6 = .ok (.if_icmp .ne 7, 3) := by decide +kernel
theorem dX5_isTwofold_9 : decode cX5_isTwofold 9 = .ok (.iconst 1, 1) := by decide +kernel
theorem dX5_isTwofold_10 : decode cX5_isTwofold 10 = .ok (.goto 4, 3) := by decide +kernel
theorem dX5_isTwofold_13 : decode cX5_isTwofold 13 = .ok (.iconst 0, 1) := by decide +kernel
theorem dX5_isTwofold_14 : decode cX5_isTwofold 14 = .ok (.ireturn, 1) := by decide +kernel
theorem dX5_isHeir_0 : decode cX5_isHeir 0 = .ok (.iload_n 1, 1) := by decide +kernel
theorem dX5_isHeir_1 : decode cX5_isHeir 1 = .ok (.ifCond .lt 18, 3) := by decide +kernel
theorem dX5_isHeir_4 : decode cX5_isHeir 4 = .ok (.iload_n 1, 1) := by decide +kernel
theorem dX5_isHeir_5 : decode cX5_isHeir 5 = .ok (.aload_n 0, 1) := by decide +kernel
theorem dX5_isHeir_6 : decode cX5_isHeir 6 = .ok (.getfield 10, 3) := by decide +kernel
theorem dX5_isHeir_9 : decode cX5_isHeir 9 = .ok (.getfield 217, 3) := by decide +kernel
theorem dX5_isHeir_12 : decode cX5_isHeir 12 = .ok (.if_icmp .ge 7, 3) := by decide +kernel
theorem dX5_isHeir_15 : decode cX5_isHeir 15 = .ok (.iconst 1, 1) := by decide +kernel
theorem dX5_isHeir_16 : decode cX5_isHeir 16 = .ok (.goto 4, 3) := by decide +kernel
theorem dX5_isHeir_19 : decode cX5_isHeir 19 = .ok (.iconst 0, 1) := by decide +kernel
theorem dX5_isHeir_20 : decode cX5_isHeir 20 = .ok (.ireturn, 1) := by decide +kernel
theorem dX5_areTwo_0 : decode cX5_areTwo 0 = .ok (.aload_n 0, 1) := by decide +kernel
theorem dX5_areTwo_1 : decode cX5_areTwo 1 = .ok (.iload_n 1, 1) := by decide +kernel
theorem dX5_areTwo_2 : decode cX5_areTwo 2 = .ok (.invokevirtual 93, 3) := by decide +kernel
theorem dX5_areTwo_5 : decode cX5_areTwo 5 = .ok (.ifCond .eq 20, 3) := by decide +kernel
theorem dX5_areTwo_8 : decode cX5_areTwo 8 = .ok (.aload_n 0, 1) := by decide +kernel
theorem dX5_areTwo_9 : decode cX5_areTwo 9 = .ok (.iload_n 2, 1) := by decide +kernel
theorem dX5_areTwo_10 : decode cX5_areTwo 10 = .ok (.invokevirtual 93, 3) := by decide +kernel
theorem dX5_areTwo_13 : decode cX5_areTwo 13 = .ok (.ifCond .eq 12, 3) := by decide +kernel
theorem dX5_areTwo_16 : decode cX5_areTwo 16 = .ok (.iload_n 1, 1) := by decide +kernel
theorem dX5_areTwo_17 : decode cX5_areTwo 17 = .ok (.iload_n 2, 1) := by decide +kernel
theorem dX5_areTwo_18 : decode cX5_areTwo 18 = .ok (.if_icmp .eq 7, 3) := by decide +kernel
theorem dX5_areTwo_21 : decode cX5_areTwo 21 = .ok (.iconst 1, 1) := by decide +kernel
theorem dX5_areTwo_22 : decode cX5_areTwo 22 = .ok (.goto 4, 3) := by decide +kernel
theorem dX5_areTwo_25 : decode cX5_areTwo 25 = .ok (.iconst 0, 1) := by decide +kernel
theorem dX5_areTwo_26 : decode cX5_areTwo 26 = .ok (.ireturn, 1) := by decide +kernel
theorem dX5_isLeft_0 : decode cX5_isLeft 0 = .ok (.aload_n 0, 1) := by decide +kernel
theorem dX5_isLeft_1 : decode cX5_isLeft 1 = .ok (.getfield 10, 3) := by decide +kernel
theorem dX5_isLeft_4 : decode cX5_isLeft 4 = .ok (.getfield 76, 3) := by decide +kernel
theorem dX5_isLeft_7 : decode cX5_isLeft 7 = .ok (.iconst 1, 1) := by decide +kernel
theorem dX5_isLeft_8 : decode cX5_isLeft 8 = .ok (.iload_n 1, 1) := by decide +kernel
theorem dX5_isLeft_9 : decode cX5_isLeft 9 = .ok (.ishl, 1) := by decide +kernel
theorem dX5_isLeft_10 : decode cX5_isLeft 10 = .ok (.iand, 1) := by decide +kernel
theorem dX5_isLeft_11 : decode cX5_isLeft 11 = .ok (.ifCond .eq 7, 3) := by decide +kernel
theorem dX5_isLeft_14 : decode cX5_isLeft 14 = .ok (.iconst 1, 1) := by decide +kernel
theorem dX5_isLeft_15 : decode cX5_isLeft 15 = .ok (.goto 4, 3) := by decide +kernel
theorem dX5_isLeft_18 : decode cX5_isLeft 18 = .ok (.iconst 0, 1) := by decide +kernel
theorem dX5_isLeft_19 : decode cX5_isLeft 19 = .ok (.ireturn, 1) := by decide +kernel
theorem dX5_shareOf_0 : decode cX5_shareOf 0 = .ok (.aload_n 0, 1) := by decide +kernel
theorem dX5_shareOf_1 : decode cX5_shareOf 1 = .ok (.getfield 25, 3) := by decide +kernel
theorem dX5_shareOf_4 : decode cX5_shareOf 4 = .ok (.iload_n 2, 1) := by decide +kernel
theorem dX5_shareOf_5 : decode cX5_shareOf 5 = .ok (.invokevirtual 134, 3) := by decide +kernel
theorem dX5_shareOf_8 : decode cX5_shareOf 8 = .ok (.aload_n 0, 1) := by decide +kernel
theorem dX5_shareOf_9 : decode cX5_shareOf 9 = .ok (.iload_n 1, 1) := by decide +kernel
theorem dX5_shareOf_10 : decode cX5_shareOf 10 = .ok (.invokevirtual 261, 3) := by decide +kernel
theorem dX5_shareOf_13 : decode cX5_shareOf 13 = .ok (.ireturn, 1) := by decide +kernel
theorem dX5_readShare_0 : decode cX5_readShare 0 = .ok (.aload_n 0, 1) := by decide +kernel
theorem dX5_readShare_1 : decode cX5_readShare 1 = .ok (.getfield 25, 3) := by decide +kernel
theorem dX5_readShare_4 : decode cX5_readShare 4 = .ok (.aload_n 0, 1) := by decide +kernel
theorem dX5_readShare_5 : decode cX5_readShare 5 = .ok (.getfield 10, 3) := by decide +kernel
theorem dX5_readShare_8 : decode cX5_readShare 8 = .ok (.getfield 96, 3) := by decide +kernel
theorem dX5_readShare_11 : decode cX5_readShare 11 = .ok (.iload_n 1, 1) := by decide +kernel
theorem dX5_readShare_12 : decode cX5_readShare 12 = .ok (.iaload, 1) := by decide +kernel
theorem dX5_readShare_13 : decode cX5_readShare 13 = .ok (.aload_n 0, 1) := by decide +kernel
theorem dX5_readShare_14 : decode cX5_readShare 14 = .ok (.getfield 10, 3) := by decide +kernel
theorem dX5_readShare_17 : decode cX5_readShare 17 = .ok (.getfield 99, 3) := by decide +kernel
theorem dX5_readShare_20 : decode cX5_readShare 20 = .ok (.iload_n 1, 1) := by decide +kernel
theorem dX5_readShare_21 : decode cX5_readShare 21 = .ok (.iaload, 1) := by decide +kernel
theorem dX5_readShare_22 : decode cX5_readShare 22 = .ok (.invokevirtual 264, 3) := by decide +kernel
theorem dX5_readShare_25 : decode cX5_readShare 25 = .ok (.ireturn, 1) := by decide +kernel
theorem dX5_sharesTogether_0 : decode cX5_sharesTogether 0 = .ok (.aload_n 0, 1) := by decide +kernel
theorem dX5_sharesTogether_1 : decode cX5_sharesTogether 1 = .ok (.getfield 25, 3) := by decide +kernel
theorem dX5_sharesTogether_4 : decode cX5_sharesTogether 4 = .ok (.iload_n 1, 1) := by decide +kernel
theorem dX5_sharesTogether_5 : decode cX5_sharesTogether 5 = .ok (.invokevirtual 134, 3) := by decide +kernel
theorem dX5_sharesTogether_8 : decode cX5_sharesTogether 8 = .ok (.iconst 0, 1) := by decide +kernel
theorem dX5_sharesTogether_9 : decode cX5_sharesTogether 9 = .ok (.istore_n 2, 1) := by decide +kernel
theorem dX5_sharesTogether_10 : decode cX5_sharesTogether 10 = .ok (.iconst 0, 1) := by decide +kernel
theorem dX5_sharesTogether_11 : decode cX5_sharesTogether 11 = .ok (.istore_n 3, 1) := by decide +kernel
theorem dX5_sharesTogether_12 : decode cX5_sharesTogether 12 = .ok (.iload_n 3, 1) := by decide +kernel
theorem dX5_sharesTogether_13 : decode cX5_sharesTogether 13 = .ok (.aload_n 0, 1) := by decide +kernel
theorem dX5_sharesTogether_14 : decode cX5_sharesTogether 14 = .ok (.getfield 10, 3) := by decide +kernel
theorem dX5_sharesTogether_17 : decode cX5_sharesTogether 17 = .ok (.getfield 217, 3) := by decide +kernel
theorem dX5_sharesTogether_20 : decode cX5_sharesTogether 20 = .ok (.if_icmp .ge 17, 3) := by decide +kernel
theorem dX5_sharesTogether_23 : decode cX5_sharesTogether 23 = .ok (.iload_n 2, 1) := by decide +kernel
theorem dX5_sharesTogether_24 : decode cX5_sharesTogether 24 = .ok (.aload_n 0, 1) := by decide +kernel
theorem dX5_sharesTogether_25 : decode cX5_sharesTogether 25 = .ok (.iload_n 3, 1) := by decide +kernel
theorem dX5_sharesTogether_26 : decode cX5_sharesTogether 26 = .ok (.invokevirtual 261, 3) := by decide +kernel
theorem dX5_sharesTogether_29 : decode cX5_sharesTogether 29 = .ok (.iadd, 1) := by decide +kernel
theorem dX5_sharesTogether_30 : decode cX5_sharesTogether 30 = .ok (.istore_n 2, 1) := by decide +kernel
theorem dX5_sharesTogether_31 : decode cX5_sharesTogether 31 = .ok (.iinc 3 1, 3) := by decide +kernel
theorem dX5_sharesTogether_34 : decode cX5_sharesTogether 34 = .ok (.goto (-22), 3) := by decide +kernel
theorem dX5_sharesTogether_37 : decode cX5_sharesTogether 37 = .ok (.iload_n 2, 1) := by decide +kernel
theorem dX5_sharesTogether_38 : decode cX5_sharesTogether 38 = .ok (.ireturn, 1) := by decide +kernel
theorem dX5_richest_0 : decode cX5_richest 0 = .ok (.aload_n 0, 1) := by decide +kernel
theorem dX5_richest_1 : decode cX5_richest 1 = .ok (.getfield 25, 3) := by decide +kernel
theorem dX5_richest_4 : decode cX5_richest 4 = .ok (.aload_n 0, 1) := by decide +kernel
theorem dX5_richest_5 : decode cX5_richest 5 = .ok (.getfield 10, 3) := by decide +kernel
theorem dX5_richest_8 : decode cX5_richest 8 = .ok (.getfield 76, 3) := by decide +kernel
theorem dX5_richest_11 : decode cX5_richest 11 = .ok (.invokevirtual 134, 3) := by decide +kernel
theorem dX5_richest_14 : decode cX5_richest 14 = .ok (.bipush (-9), 2) := by decide +kernel
theorem dX5_richest_16 : decode cX5_richest 16 = .ok (.istore_n 1, 1) := by decide +kernel
theorem dX5_richest_17 : decode cX5_richest 17 = .ok (.iconst (-1), 1) := by decide +kernel
theorem dX5_richest_18 : decode cX5_richest 18 = .ok (.istore_n 2, 1) := by decide +kernel
theorem dX5_richest_19 : decode cX5_richest 19 = .ok (.iconst 0, 1) := by decide +kernel
theorem dX5_richest_20 : decode cX5_richest 20 = .ok (.istore_n 3, 1) := by decide +kernel
theorem dX5_richest_21 : decode cX5_richest 21 = .ok (.iload_n 3, 1) := by decide +kernel
theorem dX5_richest_22 : decode cX5_richest 22 = .ok (.aload_n 0, 1) := by decide +kernel
theorem dX5_richest_23 : decode cX5_richest 23 = .ok (.getfield 10, 3) := by decide +kernel
theorem dX5_richest_26 : decode cX5_richest 26 = .ok (.getfield 217, 3) := by decide +kernel
theorem dX5_richest_29 : decode cX5_richest 29 = .ok (.if_icmp .ge 27, 3) := by decide +kernel
theorem dX5_richest_32 : decode cX5_richest 32 = .ok (.aload_n 0, 1) := by decide +kernel
theorem dX5_richest_33 : decode cX5_richest 33 = .ok (.iload_n 3, 1) := by decide +kernel
theorem dX5_richest_34 : decode cX5_richest 34 = .ok (.invokevirtual 261, 3) := by decide +kernel
theorem dX5_richest_37 : decode cX5_richest 37 = .ok (.istore 4, 2) := by decide +kernel
theorem dX5_richest_39 : decode cX5_richest 39 = .ok (.iload 4, 2) := by decide +kernel
theorem dX5_richest_41 : decode cX5_richest 41 = .ok (.iload_n 2, 1) := by decide +kernel
theorem dX5_richest_42 : decode cX5_richest 42 = .ok (.if_icmp .le 8, 3) := by decide +kernel
theorem dX5_richest_45 : decode cX5_richest 45 = .ok (.iload 4, 2) := by decide +kernel
theorem dX5_richest_47 : decode cX5_richest 47 = .ok (.istore_n 2, 1) := by decide +kernel
theorem dX5_richest_48 : decode cX5_richest 48 = .ok (.iload_n 3, 1) := by decide +kernel
theorem dX5_richest_49 : decode cX5_richest 49 = .ok (.istore_n 1, 1) := by decide +kernel
theorem dX5_richest_50 : decode cX5_richest 50 = .ok (.iinc 3 1, 3) := by decide +kernel
theorem dX5_richest_53 : decode cX5_richest 53 = .ok (.goto (-32), 3) := by decide +kernel
theorem dX5_richest_56 : decode cX5_richest 56 = .ok (.iload_n 1, 1) := by decide +kernel
theorem dX5_richest_57 : decode cX5_richest 57 = .ok (.ireturn, 1) := by decide +kernel
theorem dX5_changesNobody_0 : decode cX5_changesNobody 0 = .ok (.iconst 0, 1) := by decide +kernel
theorem dX5_changesNobody_1 : decode cX5_changesNobody 1 = .ok (.istore_n 2, 1) := by decide +kernel
theorem dX5_changesNobody_2 : decode cX5_changesNobody 2 = .ok (.iload_n 2, 1) := by decide +kernel
theorem dX5_changesNobody_3 : decode cX5_changesNobody 3 = .ok (.aload_n 0, 1) := by decide +kernel
theorem dX5_changesNobody_4 : decode cX5_changesNobody 4 = .ok (.getfield 10, 3) := by decide +kernel
theorem dX5_changesNobody_7 : decode cX5_changesNobody 7 = .ok (.getfield 217, 3) := by decide +kernel
theorem dX5_changesNobody_10 : decode cX5_changesNobody 10 = .ok (.if_icmp .ge 32, 3) := by decide +kernel
theorem dX5_changesNobody_13 : decode cX5_changesNobody 13 = .ok (.aload_n 0, 1) := by decide +kernel
theorem dX5_changesNobody_14 : decode cX5_changesNobody 14 = .ok (.iload_n 2, 1) := by decide +kernel
theorem dX5_changesNobody_15 : decode cX5_changesNobody 15 = .ok (.iload_n 1, 1) := by decide +kernel
theorem dX5_changesNobody_16 : decode cX5_changesNobody 16 = .ok (.invokevirtual 102, 3) := by decide +kernel
theorem dX5_changesNobody_19 : decode cX5_changesNobody 19 = .ok (.aload_n 0, 1) := by decide +kernel
theorem dX5_changesNobody_20 : decode cX5_changesNobody 20 = .ok (.iload_n 2, 1) := by decide +kernel
theorem dX5_changesNobody_21 : decode cX5_changesNobody 21 = .ok (.aload_n 0, 1) := by decide +kernel
theorem dX5_changesNobody_22 : decode cX5_changesNobody 22 = .ok (.getfield 10, 3) := by decide +kernel
theorem dX5_changesNobody_25 : decode cX5_changesNobody 25 = .ok (.getfield 76, 3) := by decide +kernel
theorem dX5_changesNobody_28 : decode cX5_changesNobody 28 = .ok (.invokevirtual 102, 3) := by decide +kernel
theorem dX5_changesNobody_31 : decode cX5_changesNobody 31 = .ok (.if_icmp .eq 5, 3) := by decide +kernel
theorem dX5_changesNobody_34 : decode cX5_changesNobody 34 = .ok (.iconst 0, 1) := by decide +kernel
theorem dX5_changesNobody_35 : decode cX5_changesNobody 35 = .ok (.ireturn, 1) := by decide +kernel
theorem dX5_changesNobody_36 : decode cX5_changesNobody 36 = .ok (.iinc 2 1, 3) := by decide +kernel
theorem dX5_changesNobody_39 : decode cX5_changesNobody 39 = .ok (.goto (-37), 3) := by decide +kernel
theorem dX5_changesNobody_42 : decode cX5_changesNobody 42 = .ok (.iconst 1, 1) := by decide +kernel
theorem dX5_changesNobody_43 : decode cX5_changesNobody 43 = .ok (.ireturn, 1) := by decide +kernel
theorem dX5_isSettled_0 : decode cX5_isSettled 0 = .ok (.aload_n 0, 1) := by decide +kernel
theorem dX5_isSettled_1 : decode cX5_isSettled 1 = .ok (.getfield 25, 3) := by decide +kernel
theorem dX5_isSettled_4 : decode cX5_isSettled 4 = .ok (.iload_n 1, 1) := by decide +kernel
theorem dX5_isSettled_5 : decode cX5_isSettled 5 = .ok (.invokevirtual 134, 3) := by decide +kernel
theorem dX5_isSettled_8 : decode cX5_isSettled 8 = .ok (.aload_n 0, 1) := by decide +kernel
theorem dX5_isSettled_9 : decode cX5_isSettled 9 = .ok (.getfield 25, 3) := by decide +kernel
theorem dX5_isSettled_12 : decode cX5_isSettled 12 = .ok (.invokevirtual 144, 3) := by decide +kernel
theorem dX5_isSettled_15 : decode cX5_isSettled 15 = .ok (.ifCond .ne 7, 3) := by decide +kernel
theorem dX5_isSettled_18 : decode cX5_isSettled 18 = .ok (.iconst 1, 1) := by decide +kernel
theorem dX5_isSettled_19 : decode cX5_isSettled 19 = .ok (.goto 4, 3) := by decide +kernel
theorem dX5_isSettled_22 : decode cX5_isSettled 22 = .ok (.iconst 0, 1) := by decide +kernel
theorem dX5_isSettled_23 : decode cX5_isSettled 23 = .ok (.ireturn, 1) := by decide +kernel
theorem dX5_bitesName_0 : decode cX5_bitesName 0 = .ok (.bipush 100, 2) := by decide +kernel
theorem dX5_bitesName_2 : decode cX5_bitesName 2 = .ok (.iload_n 0, 1) := by decide +kernel
theorem dX5_bitesName_3 : decode cX5_bitesName 3 = .ok (.bipush 25, 2) := by decide +kernel
theorem dX5_bitesName_5 : decode cX5_bitesName 5 = .ok (.idiv, 1) := by decide +kernel
theorem dX5_bitesName_6 : decode cX5_bitesName 6 = .ok (.imul, 1) := by decide +kernel
theorem dX5_bitesName_7 : decode cX5_bitesName 7 = .ok (.iload_n 0, 1) := by decide +kernel
theorem dX5_bitesName_8 : decode cX5_bitesName 8 = .ok (.bipush 25, 2) := by decide +kernel
theorem dX5_bitesName_10 : decode cX5_bitesName 10 = .ok (.irem, 1) := by decide +kernel
theorem dX5_bitesName_11 : decode cX5_bitesName 11 = .ok (.iadd, 1) := by decide +kernel
theorem dX5_bitesName_12 : decode cX5_bitesName 12 = .ok (.ireturn, 1) := by decide +kernel
theorem dX5_toldBite_0 : decode cX5_toldBite 0 = .ok (.iload_n 2, 1) := by decide +kernel
theorem dX5_toldBite_1 : decode cX5_toldBite 1 = .ok (.iconst (-1), 1) := by decide +kernel
theorem dX5_toldBite_2 : decode cX5_toldBite 2 = .ok (.if_icmp .ne 6, 3) := by decide +kernel
theorem dX5_toldBite_5 : decode cX5_toldBite 5 = .ok (.bipush (-9), 2) := by decide +kernel
theorem dX5_toldBite_7 : decode cX5_toldBite 7 = .ok (.ireturn, 1) := by decide +kernel
theorem dX5_toldBite_8 : decode cX5_toldBite 8 = .ok (.iload_n 3, 1) := by decide +kernel
theorem dX5_toldBite_9 : decode cX5_toldBite 9 = .ok (.ifCond .ne 10, 3) := by decide +kernel
theorem dX5_toldBite_12 : decode cX5_toldBite 12 = .ok (.iload_n 2, 1) := by decide +kernel
theorem dX5_toldBite_13 : decode cX5_toldBite 13 = .ok (.invokestatic 208, 3) := by decide +kernel
theorem dX5_toldBite_16 : decode cX5_toldBite 16 = .ok (.goto 19, 3) := by decide +kernel
theorem dX5_toldBite_19 : decode cX5_toldBite 19 = .ok (.aload_n 0, 1) := by decide +kernel
theorem dX5_toldBite_20 : decode cX5_toldBite 20 = .ok (.iload_n 1, 1) := by decide +kernel
theorem dX5_toldBite_21 : decode cX5_toldBite 21 = .ok (.iload_n 2, 1) := by decide +kernel
theorem dX5_toldBite_22 : decode cX5_toldBite 22 = .ok (.aload_n 0, 1) := by decide +kernel
theorem dX5_toldBite_23 : decode cX5_toldBite 23 = .ok (.getfield 10, 3) := by decide +kernel
theorem dX5_toldBite_26 : decode cX5_toldBite 26 = .ok (.getfield 76, 3) := by decide +kernel
theorem dX5_toldBite_29 : decode cX5_toldBite 29 = .ok (.invokestatic 159, 3) := by decide +kernel
theorem dX5_toldBite_32 : decode cX5_toldBite 32 = .ok (.invokevirtual 102, 3) := by decide +kernel
theorem dX5_toldBite_35 : decode cX5_toldBite 35 = .ok (.ireturn, 1) := by decide +kernel
theorem dX5_furthestBite_0 : decode cX5_furthestBite 0 = .ok (.iconst (-1), 1) := by decide +kernel
theorem dX5_furthestBite_1 : decode cX5_furthestBite 1 = .ok (.istore 4, 2) := by decide +kernel
theorem dX5_furthestBite_3 : decode cX5_furthestBite 3 = .ok (.iload_n 3, 1) := by decide +kernel
theorem dX5_furthestBite_4 : decode cX5_furthestBite 4 = .ok (.aload_n 0, 1) := by decide +kernel
theorem dX5_furthestBite_5 : decode cX5_furthestBite 5 = .ok (.iload_n 1, 1) := by decide +kernel
theorem dX5_furthestBite_6 : decode cX5_furthestBite 6 = .ok (.iload_n 2, 1) := by decide +kernel
theorem dX5_furthestBite_7 : decode cX5_furthestBite 7 = .ok (.invokevirtual 102, 3) := by decide +kernel
theorem dX5_furthestBite_10 : decode cX5_furthestBite 10 = .ok (.imul, 1) := by decide +kernel
theorem dX5_furthestBite_11 : decode cX5_furthestBite 11 = .ok (.istore 5, 2) := by decide +kernel
theorem dX5_furthestBite_13 : decode cX5_furthestBite 13 = .ok (.iconst 0, 1) := by decide +kernel
theorem dX5_furthestBite_14 : decode cX5_furthestBite 14 = .ok (.istore 6, 2) := by decide +kernel
theorem dX5_furthestBite_16 : decode cX5_furthestBite 16 = .ok (.iload 6, 2) := by decide +kernel
theorem dX5_furthestBite_18 : decode cX5_furthestBite 18 = .ok (.bipush 100, 2) := by decide +kernel
theorem dX5_furthestBite_20 : decode cX5_furthestBite 20 = .ok (.if_icmp .ge 52, 3) := by decide +kernel
theorem dX5_furthestBite_23 : decode cX5_furthestBite 23 = .ok (.iload 6, 2) := by decide +kernel
theorem dX5_furthestBite_25 : decode cX5_furthestBite 25 = .ok (.iload_n 2, 1) := by decide +kernel
theorem dX5_furthestBite_26 : decode cX5_furthestBite 26 = .ok (.invokestatic 159, 3) := by decide +kernel
theorem dX5_furthestBite_29 : decode cX5_furthestBite 29 = .ok (.istore 7, 2) := by decide +kernel
theorem dX5_furthestBite_31 : decode cX5_furthestBite 31 = .ok (.iload 7, 2) := by decide +kernel
theorem dX5_furthestBite_33 : decode cX5_furthestBite 33 = .ok (.iload_n 2, 1) := by decide +kernel
theorem dX5_furthestBite_34 : decode cX5_furthestBite 34 = .ok (.if_icmp .ne 6, 3) := by decide +kernel
theorem dX5_furthestBite_37 : decode cX5_furthestBite 37 = .ok (.goto 29, 3) := by decide +kernel
theorem dX5_furthestBite_40 : decode cX5_furthestBite 40 = .ok (.iload_n 3, 1) := by decide +kernel
theorem dX5_furthestBite_41 : decode cX5_furthestBite 41 = .ok (.aload_n 0, 1) := by decide +kernel
theorem dX5_furthestBite_42 : decode cX5_furthestBite 42 = .ok (.iload_n 1, 1) := by decide +kernel
theorem dX5_furthestBite_43 : decode cX5_furthestBite 43 = .ok (.iload 7, 2) := by decide +kernel
theorem dX5_furthestBite_45 : decode cX5_furthestBite 45 = .ok (.invokevirtual 102, 3) := by decide +kernel
theorem dX5_furthestBite_48 : decode cX5_furthestBite 48 = .ok (.imul, 1) := by decide +kernel
theorem dX5_furthestBite_49 : decode cX5_furthestBite 49 = .ok (.istore 8, 2) := by decide +kernel
theorem dX5_furthestBite_51 : decode cX5_furthestBite 51 = .ok (.iload 8, 2) := by decide +kernel
theorem dX5_furthestBite_53 : decode cX5_furthestBite 53 = .ok (.iload 5, 2) := by decide +kernel
theorem dX5_furthestBite_55 : decode cX5_furthestBite 55 = .ok (.if_icmp .le 11, 3) := by decide +kernel
theorem dX5_furthestBite_58 : decode cX5_furthestBite 58 = .ok (.iload 8, 2) := by decide +kernel
theorem dX5_furthestBite_60 : decode cX5_furthestBite 60 = .ok (.istore 5, 2) := by decide +kernel
theorem dX5_furthestBite_62 : decode cX5_furthestBite 62 = .ok (.iload 6, 2) := by decide +kernel
theorem dX5_furthestBite_64 : decode cX5_furthestBite 64 = .ok (.istore 4, 2) := by decide +kernel
theorem dX5_furthestBite_66 : decode cX5_furthestBite 66 = .ok (.iinc 6 1, 3) := by decide +kernel
theorem dX5_furthestBite_69 : decode cX5_furthestBite 69 = .ok (.goto (-53), 3) := by decide +kernel
theorem dX5_furthestBite_72 : decode cX5_furthestBite 72 = .ok (.iload 4, 2) := by decide +kernel
theorem dX5_furthestBite_74 : decode cX5_furthestBite 74 = .ok (.ireturn, 1) := by decide +kernel
theorem dX5_firstBiteTo_0 : decode cX5_firstBiteTo 0 = .ok (.iload 4, 2) := by decide +kernel
theorem dX5_firstBiteTo_2 : decode cX5_firstBiteTo 2 = .ok (.istore 5, 2) := by decide +kernel
theorem dX5_firstBiteTo_4 : decode cX5_firstBiteTo 4 = .ok (.iload 5, 2) := by decide +kernel
theorem dX5_firstBiteTo_6 : decode cX5_firstBiteTo 6 = .ok (.bipush 100, 2) := by decide +kernel
theorem dX5_firstBiteTo_8 : decode cX5_firstBiteTo 8 = .ok (.if_icmp .ge 37, 3) := by decide +kernel
theorem dX5_firstBiteTo_11 : decode cX5_firstBiteTo 11 = .ok (.iload 5, 2) := by decide +kernel
theorem dX5_firstBiteTo_13 : decode cX5_firstBiteTo 13 = .ok (.iload_n 3, 1) := by decide +kernel
theorem dX5_firstBiteTo_14 : decode cX5_firstBiteTo 14 = .ok (.invokestatic 159, 3) := by decide +kernel
theorem dX5_firstBiteTo_17 : decode cX5_firstBiteTo 17 = .ok (.istore 6, 2) := by decide +kernel
theorem dX5_firstBiteTo_19 : decode cX5_firstBiteTo 19 = .ok (.iload 6, 2) := by decide +kernel
theorem dX5_firstBiteTo_21 : decode cX5_firstBiteTo 21 = .ok (.iload_n 3, 1) := by decide +kernel
theorem dX5_firstBiteTo_22 : decode cX5_firstBiteTo 22 = .ok (.if_icmp .eq 17, 3) := by decide +kernel
theorem dX5_firstBiteTo_25 : decode cX5_firstBiteTo 25 = .ok (.aload_n 0, 1) := by decide +kernel
theorem dX5_firstBiteTo_26 : decode cX5_firstBiteTo 26 = .ok (.iload_n 1, 1) := by decide +kernel
theorem dX5_firstBiteTo_27 : decode cX5_firstBiteTo 27 = .ok (.iload 6, 2) := by decide +kernel
theorem dX5_firstBiteTo_29 : decode cX5_firstBiteTo 29 = .ok (.invokevirtual 102, 3) := by decide +kernel
theorem dX5_firstBiteTo_32 : decode cX5_firstBiteTo 32 = .ok (.iload_n 2, 1) := by decide +kernel
theorem dX5_firstBiteTo_33 : decode cX5_firstBiteTo 33 = .ok (.if_icmp .lt 6, 3) := by decide +kernel
theorem dX5_firstBiteTo_36 : decode cX5_firstBiteTo 36 = .ok (.iload 5, 2) := by decide +kernel
theorem dX5_firstBiteTo_38 : decode cX5_firstBiteTo 38 = .ok (.ireturn, 1) := by decide +kernel
theorem dX5_firstBiteTo_39 : decode cX5_firstBiteTo 39 = .ok (.iinc 5 1, 3) := by decide +kernel
theorem dX5_firstBiteTo_42 : decode cX5_firstBiteTo 42 = .ok (.goto (-38), 3) := by decide +kernel
theorem dX5_firstBiteTo_45 : decode cX5_firstBiteTo 45 = .ok (.iconst (-1), 1) := by decide +kernel
theorem dX5_firstBiteTo_46 : decode cX5_firstBiteTo 46 = .ok (.ireturn, 1) := by decide +kernel
theorem dX5_firstOfTwoBitesTo_0 : decode cX5_firstOfTwoBitesTo 0 = .ok (.iconst 0, 1) := by decide +kernel
theorem dX5_firstOfTwoBitesTo_1 : decode cX5_firstOfTwoBitesTo 1 = .ok (.istore_n 3, 1) := by decide +kernel
theorem dX5_firstOfTwoBitesTo_2 : decode cX5_firstOfTwoBitesTo 2 = .ok (.iload_n 3, 1) := by decide +kernel
theorem dX5_firstOfTwoBitesTo_3 : decode cX5_firstOfTwoBitesTo 3 = .ok (.bipush 100, 2) := by decide +kernel
theorem dX5_firstOfTwoBitesTo_5 : decode cX5_firstOfTwoBitesTo 5 = .ok (.if_icmp .ge 54, 3) := by decide +kernel
theorem dX5_firstOfTwoBitesTo_8 : decode cX5_firstOfTwoBitesTo 8 = .ok (.iload_n 3, 1) := by decide +kernel
theorem dX5_firstOfTwoBitesTo_9 : decode cX5_firstOfTwoBitesTo 9 = .ok (.aload_n 0, 1) := by decide +kernel
theorem dX5_firstOfTwoBitesTo_10 : decode cX5_firstOfTwoBitesTo 10 = .ok (.getfield 10, 3) := by decide +kernel
theorem dX5_firstOfTwoBitesTo_13 : decode cX5_firstOfTwoBitesTo 13 = .ok (.getfield 76, 3) := by decide +kernel
theorem dX5_firstOfTwoBitesTo_16 : decode cX5_firstOfTwoBitesTo 16 = .ok (.invokestatic 159, 3) := by decide +kernel
theorem dX5_firstOfTwoBitesTo_19 : decode cX5_firstOfTwoBitesTo 19 = .ok (.istore 4, 2) := by decide +kernel
theorem dX5_firstOfTwoBitesTo_21 : decode cX5_firstOfTwoBitesTo 21 = .ok (.iload 4, 2) := by decide +kernel
theorem dX5_firstOfTwoBitesTo_23 : decode cX5_firstOfTwoBitesTo 23 = .ok (.aload_n 0, 1) := by decide +kernel
theorem dX5_firstOfTwoBitesTo_24 : decode cX5_firstOfTwoBitesTo 24 = .ok (.getfield 10, 3) := by decide +kernel
theorem dX5_firstOfTwoBitesTo_27 : decode cX5_firstOfTwoBitesTo 27 = .ok (.getfield 76, 3) := by decide +kernel
theorem dX5_firstOfTwoBitesTo_30 : decode cX5_firstOfTwoBitesTo 30 = .ok (.if_icmp .ne 6, 3) := by decide +kernel
theorem dX5_firstOfTwoBitesTo_33 : decode cX5_firstOfTwoBitesTo 33 = .ok (.goto 20, 3) := by decide +kernel
theorem dX5_firstOfTwoBitesTo_36 : decode cX5_firstOfTwoBitesTo 36 = .ok (.aload_n 0, 1) := by decide +kernel
theorem dX5_firstOfTwoBitesTo_37 : decode cX5_firstOfTwoBitesTo 37 = .ok (.iload_n 1, 1) := by decide +kernel
theorem dX5_firstOfTwoBitesTo_38 : decode cX5_firstOfTwoBitesTo 38 = .ok (.iload_n 2, 1) := by decide +kernel
theorem dX5_firstOfTwoBitesTo_39 : decode cX5_firstOfTwoBitesTo 39 = .ok (.iload 4, 2) := by decide +kernel
theorem dX5_firstOfTwoBitesTo_41 : decode cX5_firstOfTwoBitesTo 41 = .ok (.iload_n 3, 1) := by decide +kernel
theorem dX5_firstOfTwoBitesTo_42 : decode cX5_firstOfTwoBitesTo 42 = .ok (.iconst 1, 1) := by decide +kernel
theorem dX5_firstOfTwoBitesTo_43 : decode cX5_firstOfTwoBitesTo 43 = .ok (.iadd, 1) := by decide +kernel
theorem dX5_firstOfTwoBitesTo_44 : decode cX5_firstOfTwoBitesTo 44 = .ok (.invokevirtual 204, 3) := by decide +kernel
theorem dX5_firstOfTwoBitesTo_47 : decode cX5_firstOfTwoBitesTo 47 = .ok (.iconst (-1), 1) := by decide +kernel
theorem dX5_firstOfTwoBitesTo_48 : decode cX5_firstOfTwoBitesTo 48 = .ok (.if_icmp .eq 5, 3) := by decide +kernel
theorem dX5_firstOfTwoBitesTo_51 : decode cX5_firstOfTwoBitesTo 51 = .ok (.iload_n 3, 1) := by decide +kernel
theorem dX5_firstOfTwoBitesTo_52 : decode cX5_firstOfTwoBitesTo 52 = .ok (.ireturn, 1) := by decide +kernel
theorem dX5_firstOfTwoBitesTo_53 : decode cX5_firstOfTwoBitesTo 53 = .ok (.iinc 3 1, 3) := by decide +kernel
theorem dX5_firstOfTwoBitesTo_56 : decode cX5_firstOfTwoBitesTo 56 = .ok (.goto (-54), 3) := by decide +kernel
theorem dX5_firstOfTwoBitesTo_59 : decode cX5_firstOfTwoBitesTo 59 = .ok (.iconst (-1), 1) := by decide +kernel
theorem dX5_firstOfTwoBitesTo_60 : decode cX5_firstOfTwoBitesTo 60 = .ok (.ireturn, 1) := by decide +kernel
theorem dX5_chosen_0 : decode cX5_chosen 0 = .ok (.iload_n 2, 1) := by decide +kernel
theorem dX5_chosen_1 : decode cX5_chosen 1 = .ok (.ifCond .ne 15, 3) := by decide +kernel
theorem dX5_chosen_4 : decode cX5_chosen 4 = .ok (.aload_n 0, 1) := by decide +kernel
theorem dX5_chosen_5 : decode cX5_chosen 5 = .ok (.iload_n 1, 1) := by decide +kernel
theorem dX5_chosen_6 : decode cX5_chosen 6 = .ok (.iload_n 3, 1) := by decide +kernel
theorem dX5_chosen_7 : decode cX5_chosen 7 = .ok (.iconst 1, 1) := by decide +kernel
theorem dX5_chosen_8 : decode cX5_chosen 8 = .ok (.invokevirtual 197, 3) := by decide +kernel
theorem dX5_chosen_11 : decode cX5_chosen 11 = .ok (.iload_n 3, 1) := by decide +kernel
theorem dX5_chosen_12 : decode cX5_chosen 12 = .ok (.invokestatic 159, 3) := by decide +kernel
theorem dX5_chosen_15 : decode cX5_chosen 15 = .ok (.ireturn, 1) := by decide +kernel
theorem dX5_chosen_16 : decode cX5_chosen 16 = .ok (.iload_n 3, 1) := by decide +kernel
theorem dX5_chosen_17 : decode cX5_chosen 17 = .ok (.iload_n 3, 1) := by decide +kernel
theorem dX5_chosen_18 : decode cX5_chosen 18 = .ok (.iconst 1, 1) := by decide +kernel
theorem dX5_chosen_19 : decode cX5_chosen 19 = .ok (.isub, 1) := by decide +kernel
theorem dX5_chosen_20 : decode cX5_chosen 20 = .ok (.iand, 1) := by decide +kernel
theorem dX5_chosen_21 : decode cX5_chosen 21 = .ok (.ireturn, 1) := by decide +kernel
theorem dX5_firstOfTwoThatSettle_0 : decode cX5_firstOfTwoThatSettle 0 = .ok (.iconst 0, 1) := by decide +kernel
theorem dX5_firstOfTwoThatSettle_1 : decode cX5_firstOfTwoThatSettle 1 = .ok (.istore_n 1, 1) := by decide +kernel
theorem dX5_firstOfTwoThatSettle_2 : decode cX5_firstOfTwoThatSettle 2 = .ok (.iload_n 1, 1) := by decide +kernel
theorem dX5_firstOfTwoThatSettle_3 : decode cX5_firstOfTwoThatSettle 3 = .ok (.bipush 25, 2) := by decide +kernel
theorem dX5_firstOfTwoThatSettle_5 : decode cX5_firstOfTwoThatSettle 5 = .ok (.if_icmp .ge 47, 3) := by decide +kernel
theorem dX5_firstOfTwoThatSettle_8 : decode cX5_firstOfTwoThatSettle 8 = .ok (.aload_n 0, 1) := by decide +kernel
theorem dX5_firstOfTwoThatSettle_9 : decode cX5_firstOfTwoThatSettle 9 = .ok (.iload_n 1, 1) := by decide +kernel
theorem dX5_firstOfTwoThatSettle_10 : decode cX5_firstOfTwoThatSettle 10 = .ok (.invokevirtual 109, 3) := by decide +kernel
theorem dX5_firstOfTwoThatSettle_13 : decode cX5_firstOfTwoThatSettle 13 = .ok (.ifCond .ne 6, 3) := by decide +kernel
theorem dX5_firstOfTwoThatSettle_16 : decode cX5_firstOfTwoThatSettle 16 = .ok (.goto 30, 3) := by decide +kernel
theorem dX5_firstOfTwoThatSettle_19 : decode cX5_firstOfTwoThatSettle 19 = .ok (.aload_n 0, 1) := by decide +kernel
theorem dX5_firstOfTwoThatSettle_20 : decode cX5_firstOfTwoThatSettle 20 = .ok (.aload_n 0, 1) := by decide +kernel
theorem dX5_firstOfTwoThatSettle_21 : decode cX5_firstOfTwoThatSettle 21 = .ok (.getfield 10, 3) := by decide +kernel
theorem dX5_firstOfTwoThatSettle_24 : decode cX5_firstOfTwoThatSettle 24 = .ok (.getfield 76, 3) := by decide +kernel
theorem dX5_firstOfTwoThatSettle_27 : decode cX5_firstOfTwoThatSettle 27 = .ok (.iconst 1, 1) := by decide +kernel
theorem dX5_firstOfTwoThatSettle_28 : decode cX5_firstOfTwoThatSettle 28 = .ok (.iload_n 1, 1) := by decide +kernel
theorem dX5_firstOfTwoThatSettle_29 : decode cX5_firstOfTwoThatSettle 29 = .ok (.ishl, 1) := by decide +kernel
theorem dX5_firstOfTwoThatSettle_30 : decode cX5_firstOfTwoThatSettle 30 = .ok (.iconst (-1), 1) := by decide +kernel
theorem dX5_firstOfTwoThatSettle_31 : decode cX5_firstOfTwoThatSettle 31 = .ok (.ixor, 1) := by decide +kernel
theorem dX5_firstOfTwoThatSettle_32 : decode cX5_firstOfTwoThatSettle 32 = .ok (.iand, 1) := by decide +kernel
theorem dX5_firstOfTwoThatSettle_33 : decode cX5_firstOfTwoThatSettle 33 = .ok (.iload_n 1, 1) := by decide +kernel
theorem dX5_firstOfTwoThatSettle_34 : decode cX5_firstOfTwoThatSettle 34 = .ok (.iconst 1, 1) := by decide +kernel
theorem dX5_firstOfTwoThatSettle_35 : decode cX5_firstOfTwoThatSettle 35 = .ok (.iadd, 1) := by decide +kernel
theorem dX5_firstOfTwoThatSettle_36 : decode cX5_firstOfTwoThatSettle 36 = .ok (.invokevirtual 182, 3) := by decide +kernel
theorem dX5_firstOfTwoThatSettle_39 : decode cX5_firstOfTwoThatSettle 39 = .ok (.bipush (-9), 2) := by decide +kernel
theorem dX5_firstOfTwoThatSettle_41 : decode cX5_firstOfTwoThatSettle 41 = .ok (.if_icmp .eq 5, 3) := by decide +kernel
theorem dX5_firstOfTwoThatSettle_44 : decode cX5_firstOfTwoThatSettle 44 = .ok (.iload_n 1, 1) := by decide +kernel
theorem dX5_firstOfTwoThatSettle_45 : decode cX5_firstOfTwoThatSettle 45 = .ok (.ireturn, 1) := by decide +kernel
theorem dX5_firstOfTwoThatSettle_46 : decode cX5_firstOfTwoThatSettle 46 = .ok (.iinc 1 1, 3) := by decide +kernel
theorem dX5_firstOfTwoThatSettle_49 : decode cX5_firstOfTwoThatSettle 49 = .ok (.goto (-47), 3) := by decide +kernel
theorem dX5_firstOfTwoThatSettle_52 : decode cX5_firstOfTwoThatSettle 52 = .ok (.bipush (-9), 2) := by decide +kernel
theorem dX5_firstOfTwoThatSettle_54 : decode cX5_firstOfTwoThatSettle 54 = .ok (.ireturn, 1) := by decide +kernel
theorem dX5_firstCellThatSettles_0 : decode cX5_firstCellThatSettles 0 = .ok (.iload_n 2, 1) := by decide +kernel
theorem dX5_firstCellThatSettles_1 : decode cX5_firstCellThatSettles 1 = .ok (.istore_n 3, 1) := by decide +kernel
theorem dX5_firstCellThatSettles_2 : decode cX5_firstCellThatSettles 2 = .ok (.iload_n 3, 1) := by decide +kernel
theorem dX5_firstCellThatSettles_3 : decode cX5_firstCellThatSettles 3 = .ok (.bipush 25, 2) := by decide +kernel
theorem dX5_firstCellThatSettles_5 : decode cX5_firstCellThatSettles 5 = .ok (.if_icmp .ge 36, 3) := by decide +kernel
theorem dX5_firstCellThatSettles_8 : decode cX5_firstCellThatSettles 8 = .ok (.iconst 1, 1) := by decide +kernel
theorem dX5_firstCellThatSettles_9 : decode cX5_firstCellThatSettles 9 = .ok (.iload_n 3, 1) := by decide +kernel
theorem dX5_firstCellThatSettles_10 : decode cX5_firstCellThatSettles 10 = .ok (.ishl, 1) := by decide +kernel
theorem dX5_firstCellThatSettles_11 : decode cX5_firstCellThatSettles 11 = .ok (.istore 4, 2) := by decide +kernel
theorem dX5_firstCellThatSettles_13 : decode cX5_firstCellThatSettles 13 = .ok (.iload_n 1, 1) := by decide +kernel
theorem dX5_firstCellThatSettles_14 : decode cX5_firstCellThatSettles 14 = .ok (.iload 4, 2) := by decide +kernel
theorem dX5_firstCellThatSettles_16 : decode cX5_firstCellThatSettles 16 = .ok (.iand, 1) := by decide +kernel
theorem dX5_firstCellThatSettles_17 : decode cX5_firstCellThatSettles 17 = .ok (.ifCond .eq 18, 3) := by decide +kernel
theorem dX5_firstCellThatSettles_20 : decode cX5_firstCellThatSettles 20 = .ok (.aload_n 0, 1) := by decide +kernel
theorem dX5_firstCellThatSettles_21 : decode cX5_firstCellThatSettles 21 = .ok (.iload_n 1, 1) := by decide +kernel
theorem dX5_firstCellThatSettles_22 : decode cX5_firstCellThatSettles 22 = .ok (.iload 4, 2) := by decide +kernel
theorem dX5_firstCellThatSettles_24 : decode cX5_firstCellThatSettles 24 = .ok (.iconst (-1), 1) := by decide +kernel
theorem dX5_firstCellThatSettles_25 : decode cX5_firstCellThatSettles 25 = .ok (.ixor, 1) := by decide +kernel
theorem dX5_firstCellThatSettles_26 : decode cX5_firstCellThatSettles 26 = .ok (.iand, 1) := by decide +kernel
theorem dX5_firstCellThatSettles_27 : decode cX5_firstCellThatSettles 27 = .ok (.invokevirtual 179, 3) := by decide +kernel
theorem dX5_firstCellThatSettles_30 : decode cX5_firstCellThatSettles 30 = .ok (.ifCond .eq 5, 3) := by decide +kernel
theorem dX5_firstCellThatSettles_33 : decode cX5_firstCellThatSettles 33 = .ok (.iload_n 3, 1) := by decide +kernel
theorem dX5_firstCellThatSettles_34 : decode cX5_firstCellThatSettles 34 = .ok (.ireturn, 1) := by decide +kernel
theorem dX5_firstCellThatSettles_35 : decode cX5_firstCellThatSettles 35 = .ok (.iinc 3 1, 3) := by decide +kernel
theorem dX5_firstCellThatSettles_38 : decode cX5_firstCellThatSettles 38 = .ok (.goto (-36), 3) := by decide +kernel
theorem dX5_firstCellThatSettles_41 : decode cX5_firstCellThatSettles 41 = .ok (.bipush (-9), 2) := by decide +kernel
theorem dX5_firstCellThatSettles_43 : decode cX5_firstCellThatSettles 43 = .ok (.ireturn, 1) := by decide +kernel
theorem dX5_bridgesOf_0 : decode cX5_bridgesOf 0 = .ok (.iload_n 0, 1) := by decide +kernel
theorem dX5_bridgesOf_1 : decode cX5_bridgesOf 1 = .ok (.invokestatic 188, 3) := by decide +kernel
theorem dX5_bridgesOf_4 : decode cX5_bridgesOf 4 = .ok (.istore_n 1, 1) := by decide +kernel
theorem dX5_bridgesOf_5 : decode cX5_bridgesOf 5 = .ok (.iconst 0, 1) := by decide +kernel
theorem dX5_bridgesOf_6 : decode cX5_bridgesOf 6 = .ok (.istore_n 2, 1) := by decide +kernel
theorem dX5_bridgesOf_7 : decode cX5_bridgesOf 7 = .ok (.iconst 0, 1) := by decide +kernel
theorem dX5_bridgesOf_8 : decode cX5_bridgesOf 8 = .ok (.istore_n 3, 1) := by decide +kernel
theorem dX5_bridgesOf_9 : decode cX5_bridgesOf 9 = .ok (.iload_n 3, 1) := by decide +kernel
theorem dX5_bridgesOf_10 : decode cX5_bridgesOf 10 = .ok (.bipush 25, 2) := by decide +kernel
theorem dX5_bridgesOf_12 : decode cX5_bridgesOf 12 = .ok (.if_icmp .ge 39, 3) := by decide +kernel
theorem dX5_bridgesOf_15 : decode cX5_bridgesOf 15 = .ok (.iconst 1, 1) := by decide +kernel
theorem dX5_bridgesOf_16 : decode cX5_bridgesOf 16 = .ok (.iload_n 3, 1) := by decide +kernel
theorem dX5_bridgesOf_17 : decode cX5_bridgesOf 17 = .ok (.ishl, 1) := by decide +kernel
theorem dX5_bridgesOf_18 : decode cX5_bridgesOf 18 = .ok (.istore 4, 2) := by decide +kernel
theorem dX5_bridgesOf_20 : decode cX5_bridgesOf 20 = .ok (.iload_n 0, 1) := by decide +kernel
theorem dX5_bridgesOf_21 : decode cX5_bridgesOf 21 = .ok (.iload 4, 2) := by decide +kernel
theorem dX5_bridgesOf_23 : decode cX5_bridgesOf 23 = .ok (.iand, 1) := by decide +kernel
theorem dX5_bridgesOf_24 : decode cX5_bridgesOf 24 = .ok (.ifCond .eq 21, 3) := by decide +kernel
theorem dX5_bridgesOf_27 : decode cX5_bridgesOf 27 = .ok (.iload_n 0, 1) := by decide +kernel
theorem dX5_bridgesOf_28 : decode cX5_bridgesOf 28 = .ok (.iload 4, 2) := by decide +kernel
theorem dX5_bridgesOf_30 : decode cX5_bridgesOf 30 = .ok (.iconst (-1), 1) := by decide +kernel
theorem dX5_bridgesOf_31 : decode cX5_bridgesOf 31 = .ok (.ixor, 1) := by decide +kernel
theorem dX5_bridgesOf_32 : decode cX5_bridgesOf 32 = .ok (.iand, 1) := by decide +kernel
theorem dX5_bridgesOf_33 : decode cX5_bridgesOf 33 = .ok (.invokestatic 188, 3) := by decide +kernel
theorem dX5_bridgesOf_36 : decode cX5_bridgesOf 36 = .ok (.iload_n 1, 1) := by decide +kernel
theorem dX5_bridgesOf_37 : decode cX5_bridgesOf 37 = .ok (.if_icmp .le 8, 3) := by decide +kernel
theorem dX5_bridgesOf_40 : decode cX5_bridgesOf 40 = .ok (.iload_n 2, 1) := by decide +kernel
theorem dX5_bridgesOf_41 : decode cX5_bridgesOf 41 = .ok (.iload 4, 2) := by decide +kernel
theorem dX5_bridgesOf_43 : decode cX5_bridgesOf 43 = .ok (.ior, 1) := by decide +kernel
theorem dX5_bridgesOf_44 : decode cX5_bridgesOf 44 = .ok (.istore_n 2, 1) := by decide +kernel
theorem dX5_bridgesOf_45 : decode cX5_bridgesOf 45 = .ok (.iinc 3 1, 3) := by decide +kernel
theorem dX5_bridgesOf_48 : decode cX5_bridgesOf 48 = .ok (.goto (-39), 3) := by decide +kernel
theorem dX5_bridgesOf_51 : decode cX5_bridgesOf 51 = .ok (.iload_n 2, 1) := by decide +kernel
theorem dX5_bridgesOf_52 : decode cX5_bridgesOf 52 = .ok (.ireturn, 1) := by decide +kernel
theorem dX5_singlesTo_0 : decode cX5_singlesTo 0 = .ok (.iconst 0, 1) := by decide +kernel
theorem dX5_singlesTo_1 : decode cX5_singlesTo 1 = .ok (.istore 5, 2) := by decide +kernel
theorem dX5_singlesTo_3 : decode cX5_singlesTo 3 = .ok (.iload 4, 2) := by decide +kernel
theorem dX5_singlesTo_5 : decode cX5_singlesTo 5 = .ok (.istore 6, 2) := by decide +kernel
theorem dX5_singlesTo_7 : decode cX5_singlesTo 7 = .ok (.iload 6, 2) := by decide +kernel
theorem dX5_singlesTo_9 : decode cX5_singlesTo 9 = .ok (.bipush 25, 2) := by decide +kernel
theorem dX5_singlesTo_11 : decode cX5_singlesTo 11 = .ok (.if_icmp .ge 40, 3) := by decide +kernel
theorem dX5_singlesTo_14 : decode cX5_singlesTo 14 = .ok (.iconst 1, 1) := by decide +kernel
theorem dX5_singlesTo_15 : decode cX5_singlesTo 15 = .ok (.iload 6, 2) := by decide +kernel
theorem dX5_singlesTo_17 : decode cX5_singlesTo 17 = .ok (.ishl, 1) := by decide +kernel
theorem dX5_singlesTo_18 : decode cX5_singlesTo 18 = .ok (.istore 7, 2) := by decide +kernel
theorem dX5_singlesTo_20 : decode cX5_singlesTo 20 = .ok (.iload_n 3, 1) := by decide +kernel
theorem dX5_singlesTo_21 : decode cX5_singlesTo 21 = .ok (.iload 7, 2) := by decide +kernel
theorem dX5_singlesTo_23 : decode cX5_singlesTo 23 = .ok (.iand, 1) := by decide +kernel
theorem dX5_singlesTo_24 : decode cX5_singlesTo 24 = .ok (.ifCond .eq 21, 3) := by decide +kernel
theorem dX5_singlesTo_27 : decode cX5_singlesTo 27 = .ok (.aload_n 0, 1) := by decide +kernel
theorem dX5_singlesTo_28 : decode cX5_singlesTo 28 = .ok (.iload_n 1, 1) := by decide +kernel
theorem dX5_singlesTo_29 : decode cX5_singlesTo 29 = .ok (.iload_n 3, 1) := by decide +kernel
theorem dX5_singlesTo_30 : decode cX5_singlesTo 30 = .ok (.iload 7, 2) := by decide +kernel
theorem dX5_singlesTo_32 : decode cX5_singlesTo 32 = .ok (.iconst (-1), 1) := by decide +kernel
theorem dX5_singlesTo_33 : decode cX5_singlesTo 33 = .ok (.ixor, 1) := by decide +kernel
theorem dX5_singlesTo_34 : decode cX5_singlesTo 34 = .ok (.iand, 1) := by decide +kernel
theorem dX5_singlesTo_35 : decode cX5_singlesTo 35 = .ok (.invokevirtual 102, 3) := by decide +kernel
theorem dX5_singlesTo_38 : decode cX5_singlesTo 38 = .ok (.iload_n 2, 1) := by decide +kernel
theorem dX5_singlesTo_39 : decode cX5_singlesTo 39 = .ok (.if_icmp .lt 6, 3) := by decide +kernel
theorem dX5_singlesTo_42 : decode cX5_singlesTo 42 = .ok (.iinc 5 1, 3) := by decide +kernel
theorem dX5_singlesTo_45 : decode cX5_singlesTo 45 = .ok (.iinc 6 1, 3) := by decide +kernel
theorem dX5_singlesTo_48 : decode cX5_singlesTo 48 = .ok (.goto (-41), 3) := by decide +kernel
theorem dX5_singlesTo_51 : decode cX5_singlesTo 51 = .ok (.iload 5, 2) := by decide +kernel
theorem dX5_singlesTo_53 : decode cX5_singlesTo 53 = .ok (.ireturn, 1) := by decide +kernel
theorem dX5_pairsTo_0 : decode cX5_pairsTo 0 = .ok (.iconst 0, 1) := by decide +kernel
theorem dX5_pairsTo_1 : decode cX5_pairsTo 1 = .ok (.istore_n 3, 1) := by decide +kernel
theorem dX5_pairsTo_2 : decode cX5_pairsTo 2 = .ok (.iconst 0, 1) := by decide +kernel
theorem dX5_pairsTo_3 : decode cX5_pairsTo 3 = .ok (.istore 4, 2) := by decide +kernel
theorem dX5_pairsTo_5 : decode cX5_pairsTo 5 = .ok (.iload 4, 2) := by decide +kernel
theorem dX5_pairsTo_7 : decode cX5_pairsTo 7 = .ok (.bipush 25, 2) := by decide +kernel
theorem dX5_pairsTo_9 : decode cX5_pairsTo 9 = .ok (.if_icmp .ge 53, 3) := by decide +kernel
theorem dX5_pairsTo_12 : decode cX5_pairsTo 12 = .ok (.iconst 1, 1) := by decide +kernel
theorem dX5_pairsTo_13 : decode cX5_pairsTo 13 = .ok (.iload 4, 2) := by decide +kernel
theorem dX5_pairsTo_15 : decode cX5_pairsTo 15 = .ok (.ishl, 1) := by decide +kernel
theorem dX5_pairsTo_16 : decode cX5_pairsTo 16 = .ok (.istore 5, 2) := by decide +kernel
theorem dX5_pairsTo_18 : decode cX5_pairsTo 18 = .ok (.aload_n 0, 1) := by decide +kernel
theorem dX5_pairsTo_19 : decode cX5_pairsTo 19 = .ok (.getfield 10, 3) := by decide +kernel
theorem dX5_pairsTo_22 : decode cX5_pairsTo 22 = .ok (.getfield 76, 3) := by decide +kernel
theorem dX5_pairsTo_25 : decode cX5_pairsTo 25 = .ok (.iload 5, 2) := by decide +kernel
theorem dX5_pairsTo_27 : decode cX5_pairsTo 27 = .ok (.iand, 1) := by decide +kernel
theorem dX5_pairsTo_28 : decode cX5_pairsTo 28 = .ok (.ifCond .eq 28, 3) := by decide +kernel
theorem dX5_pairsTo_31 : decode cX5_pairsTo 31 = .ok (.iload_n 3, 1) := by decide +kernel
theorem dX5_pairsTo_32 : decode cX5_pairsTo 32 = .ok (.aload_n 0, 1) := by decide +kernel
theorem dX5_pairsTo_33 : decode cX5_pairsTo 33 = .ok (.iload_n 1, 1) := by decide +kernel
theorem dX5_pairsTo_34 : decode cX5_pairsTo 34 = .ok (.iload_n 2, 1) := by decide +kernel
theorem dX5_pairsTo_35 : decode cX5_pairsTo 35 = .ok (.aload_n 0, 1) := by decide +kernel
theorem dX5_pairsTo_36 : decode cX5_pairsTo 36 = .ok (.getfield 10, 3) := by decide +kernel
theorem dX5_pairsTo_39 : decode cX5_pairsTo 39 = .ok (.getfield 76, 3) := by decide +kernel
theorem dX5_pairsTo_42 : decode cX5_pairsTo 42 = .ok (.iload 5, 2) := by decide +kernel
theorem dX5_pairsTo_44 : decode cX5_pairsTo 44 = .ok (.iconst (-1), 1) := by decide +kernel
theorem dX5_pairsTo_45 : decode cX5_pairsTo 45 = .ok (.ixor, 1) := by decide +kernel
theorem dX5_pairsTo_46 : decode cX5_pairsTo 46 = .ok (.iand, 1) := by decide +kernel
theorem dX5_pairsTo_47 : decode cX5_pairsTo 47 = .ok (.iload 4, 2) := by decide +kernel
theorem dX5_pairsTo_49 : decode cX5_pairsTo 49 = .ok (.iconst 1, 1) := by decide +kernel
theorem dX5_pairsTo_50 : decode cX5_pairsTo 50 = .ok (.iadd, 1) := by decide +kernel
theorem dX5_pairsTo_51 : decode cX5_pairsTo 51 = .ok (.invokevirtual 233, 3) := by decide +kernel
theorem dX5_pairsTo_54 : decode cX5_pairsTo 54 = .ok (.iadd, 1) := by decide +kernel
theorem dX5_pairsTo_55 : decode cX5_pairsTo 55 = .ok (.istore_n 3, 1) := by decide +kernel
theorem dX5_pairsTo_56 : decode cX5_pairsTo 56 = .ok (.iinc 4 1, 3) := by decide +kernel
theorem dX5_pairsTo_59 : decode cX5_pairsTo 59 = .ok (.goto (-54), 3) := by decide +kernel
theorem dX5_pairsTo_62 : decode cX5_pairsTo 62 = .ok (.iload_n 3, 1) := by decide +kernel
theorem dX5_pairsTo_63 : decode cX5_pairsTo 63 = .ok (.ireturn, 1) := by decide +kernel
theorem dX5_partOf_0 : decode cX5_partOf 0 = .ok (.iload_n 1, 1) := by decide +kernel
theorem dX5_partOf_1 : decode cX5_partOf 1 = .ok (.istore_n 3, 1) := by decide +kernel
theorem dX5_partOf_2 : decode cX5_partOf 2 = .ok (.iload_n 0, 1) := by decide +kernel
theorem dX5_partOf_3 : decode cX5_partOf 3 = .ok (.istore 4, 2) := by decide +kernel
theorem dX5_partOf_5 : decode cX5_partOf 5 = .ok (.iconst 0, 1) := by decide +kernel
theorem dX5_partOf_6 : decode cX5_partOf 6 = .ok (.istore 5, 2) := by decide +kernel
theorem dX5_partOf_8 : decode cX5_partOf 8 = .ok (.iload 5, 2) := by decide +kernel
theorem dX5_partOf_10 : decode cX5_partOf 10 = .ok (.bipush 64, 2) := by decide +kernel
theorem dX5_partOf_12 : decode cX5_partOf 12 = .ok (.if_icmp .ge 27, 3) := by decide +kernel
theorem dX5_partOf_15 : decode cX5_partOf 15 = .ok (.iload 4, 2) := by decide +kernel
theorem dX5_partOf_17 : decode cX5_partOf 17 = .ok (.ifCond .eq 22, 3) := by decide +kernel
theorem dX5_partOf_20 : decode cX5_partOf 20 = .ok (.iload_n 3, 1) := by decide +kernel
theorem dX5_partOf_21 : decode cX5_partOf 21 = .ok (.iload 4, 2) := by decide +kernel
theorem dX5_partOf_23 : decode cX5_partOf 23 = .ok (.irem, 1) := by decide +kernel
theorem dX5_partOf_24 : decode cX5_partOf 24 = .ok (.istore 6, 2) := by decide +kernel
theorem dX5_partOf_26 : decode cX5_partOf 26 = .ok (.iload 4, 2) := by decide +kernel
theorem dX5_partOf_28 : decode cX5_partOf 28 = .ok (.istore_n 3, 1) := by decide +kernel
theorem dX5_partOf_29 : decode cX5_partOf 29 = .ok (.iload 6, 2) := by decide +kernel
theorem dX5_partOf_31 : decode cX5_partOf 31 = .ok (.istore 4, 2) := by decide +kernel
theorem dX5_partOf_33 : decode cX5_partOf 33 = .ok (.iinc 5 1, 3) := by decide +kernel
theorem dX5_partOf_36 : decode cX5_partOf 36 = .ok (.goto (-28), 3) := by decide +kernel
theorem dX5_partOf_39 : decode cX5_partOf 39 = .ok (.iload_n 3, 1) := by decide +kernel
theorem dX5_partOf_40 : decode cX5_partOf 40 = .ok (.iconst 1, 1) := by decide +kernel
theorem dX5_partOf_41 : decode cX5_partOf 41 = .ok (.if_icmp .ge 6, 3) := by decide +kernel
theorem dX5_partOf_44 : decode cX5_partOf 44 = .ok (.iload_n 2, 1) := by decide +kernel
theorem dX5_partOf_45 : decode cX5_partOf 45 = .ok (.i2l, 1) := by decide +kernel
theorem dX5_partOf_46 : decode cX5_partOf 46 = .ok (.lreturn, 1) := by decide +kernel
theorem dX5_partOf_47 : decode cX5_partOf 47 = .ok (.iload_n 2, 1) := by decide +kernel
theorem dX5_partOf_48 : decode cX5_partOf 48 = .ok (.ifCond .ne 10, 3) := by decide +kernel
theorem dX5_partOf_51 : decode cX5_partOf 51 = .ok (.iload_n 0, 1) := by decide +kernel
theorem dX5_partOf_52 : decode cX5_partOf 52 = .ok (.iload_n 3, 1) := by decide +kernel
theorem dX5_partOf_53 : decode cX5_partOf 53 = .ok (.idiv, 1) := by decide +kernel
theorem dX5_partOf_54 : decode cX5_partOf 54 = .ok (.i2l, 1) := by decide +kernel
theorem dX5_partOf_55 : decode cX5_partOf 55 = .ok (.goto 7, 3) := by decide +kernel
theorem dX5_partOf_58 : decode cX5_partOf 58 = .ok (.iload_n 1, 1) := by decide +kernel
theorem dX5_partOf_59 : decode cX5_partOf 59 = .ok (.iload_n 3, 1) := by decide +kernel
theorem dX5_partOf_60 : decode cX5_partOf 60 = .ok (.idiv, 1) := by decide +kernel
theorem dX5_partOf_61 : decode cX5_partOf 61 = .ok (.i2l, 1) := by decide +kernel
theorem dX5_partOf_62 : decode cX5_partOf 62 = .ok (.lreturn, 1) := by decide +kernel
theorem dX5_fitsTold_0 : decode cX5_fitsTold 0 = .ok (.iconst 0, 1) := by decide +kernel
theorem dX5_fitsTold_1 : decode cX5_fitsTold 1 = .ok (.istore_n 3, 1) := by decide +kernel
theorem dX5_fitsTold_2 : decode cX5_fitsTold 2 = .ok (.iload_n 3, 1) := by decide +kernel
theorem dX5_fitsTold_3 : decode cX5_fitsTold 3 = .ok (.aload_n 0, 1) := by decide +kernel
theorem dX5_fitsTold_4 : decode cX5_fitsTold 4 = .ok (.getfield 245, 3) := by decide +kernel
theorem dX5_fitsTold_7 : decode cX5_fitsTold 7 = .ok (.if_icmp .ge 63, 3) := by decide +kernel
theorem dX5_fitsTold_10 : decode cX5_fitsTold 10 = .ok (.iload_n 3, 1) := by decide +kernel
theorem dX5_fitsTold_11 : decode cX5_fitsTold 11 = .ok (.ifCond .ne 7, 3) := by decide +kernel
theorem dX5_fitsTold_14 : decode cX5_fitsTold 14 = .ok (.iconst 0, 1) := by decide +kernel
theorem dX5_fitsTold_15 : decode cX5_fitsTold 15 = .ok (.goto 8, 3) := by decide +kernel
theorem dX5_fitsTold_18 : decode cX5_fitsTold 18 = .ok (.iconst 1, 1) := by decide +kernel
theorem dX5_fitsTold_19 : decode cX5_fitsTold 19 = .ok (.iload_n 3, 1) := by decide +kernel
theorem dX5_fitsTold_20 : decode cX5_fitsTold 20 = .ok (.iconst 1, 1) := by decide +kernel
theorem dX5_fitsTold_21 : decode cX5_fitsTold 21 = .ok (.isub, 1) := by decide +kernel
theorem dX5_fitsTold_22 : decode cX5_fitsTold 22 = .ok (.ishl, 1) := by decide +kernel
theorem dX5_fitsTold_23 : decode cX5_fitsTold 23 = .ok (.istore 4, 2) := by decide +kernel
theorem dX5_fitsTold_25 : decode cX5_fitsTold 25 = .ok (.aload_n 0, 1) := by decide +kernel
theorem dX5_fitsTold_26 : decode cX5_fitsTold 26 = .ok (.getfield 25, 3) := by decide +kernel
theorem dX5_fitsTold_29 : decode cX5_fitsTold 29 = .ok (.aload_n 0, 1) := by decide +kernel
theorem dX5_fitsTold_30 : decode cX5_fitsTold 30 = .ok (.getfield 10, 3) := by decide +kernel
theorem dX5_fitsTold_33 : decode cX5_fitsTold 33 = .ok (.getfield 76, 3) := by decide +kernel
theorem dX5_fitsTold_36 : decode cX5_fitsTold 36 = .ok (.iload 4, 2) := by decide +kernel
theorem dX5_fitsTold_38 : decode cX5_fitsTold 38 = .ok (.iconst (-1), 1) := by decide +kernel
theorem dX5_fitsTold_39 : decode cX5_fitsTold 39 = .ok (.ixor, 1) := by decide +kernel
theorem dX5_fitsTold_40 : decode cX5_fitsTold 40 = .ok (.iand, 1) := by decide +kernel
theorem dX5_fitsTold_41 : decode cX5_fitsTold 41 = .ok (.invokevirtual 134, 3) := by decide +kernel
theorem dX5_fitsTold_44 : decode cX5_fitsTold 44 = .ok (.aload_n 0, 1) := by decide +kernel
theorem dX5_fitsTold_45 : decode cX5_fitsTold 45 = .ok (.getfield 25, 3) := by decide +kernel
theorem dX5_fitsTold_48 : decode cX5_fitsTold 48 = .ok (.iload_n 1, 1) := by decide +kernel
theorem dX5_fitsTold_49 : decode cX5_fitsTold 49 = .ok (.iload_n 2, 1) := by decide +kernel
theorem dX5_fitsTold_50 : decode cX5_fitsTold 50 = .ok (.invokevirtual 264, 3) := by decide +kernel
theorem dX5_fitsTold_53 : decode cX5_fitsTold 53 = .ok (.aload_n 0, 1) := by decide +kernel
theorem dX5_fitsTold_54 : decode cX5_fitsTold 54 = .ok (.getfield 43, 3) := by decide +kernel
theorem dX5_fitsTold_57 : decode cX5_fitsTold 57 = .ok (.iload_n 3, 1) := by decide +kernel
theorem dX5_fitsTold_58 : decode cX5_fitsTold 58 = .ok (.iaload, 1) := by decide +kernel
theorem dX5_fitsTold_59 : decode cX5_fitsTold 59 = .ok (.if_icmp .eq 5, 3) := by decide +kernel
theorem dX5_fitsTold_62 : decode cX5_fitsTold 62 = .ok (.iconst 0, 1) := by decide +kernel
theorem dX5_fitsTold_63 : decode cX5_fitsTold 63 = .ok (.ireturn, 1) := by decide +kernel
theorem dX5_fitsTold_64 : decode cX5_fitsTold 64 = .ok (.iinc 3 1, 3) := by decide +kernel
theorem dX5_fitsTold_67 : decode cX5_fitsTold 67 = .ok (.goto (-65), 3) := by decide +kernel
theorem dX5_fitsTold_70 : decode cX5_fitsTold 70 = .ok (.iconst 1, 1) := by decide +kernel
theorem dX5_fitsTold_71 : decode cX5_fitsTold 71 = .ok (.ireturn, 1) := by decide +kernel
theorem dX5_firstWronglyTold_0 : decode cX5_firstWronglyTold 0 = .ok (.aload_n 0, 1) := by decide +kernel
theorem dX5_firstWronglyTold_1 : decode cX5_firstWronglyTold 1 = .ok (.getfield 25, 3) := by decide +kernel
theorem dX5_firstWronglyTold_4 : decode cX5_firstWronglyTold 4 = .ok (.aload_n 0, 1) := by decide +kernel
theorem dX5_firstWronglyTold_5 : decode cX5_firstWronglyTold 5 = .ok (.getfield 10, 3) := by decide +kernel
theorem dX5_firstWronglyTold_8 : decode cX5_firstWronglyTold 8 = .ok (.getfield 76, 3) := by decide +kernel
theorem dX5_firstWronglyTold_11 : decode cX5_firstWronglyTold 11 = .ok (.invokevirtual 134, 3) := by decide +kernel
theorem dX5_firstWronglyTold_14 : decode cX5_firstWronglyTold 14 = .ok (.iconst 0, 1) := by decide +kernel
theorem dX5_firstWronglyTold_15 : decode cX5_firstWronglyTold 15 = .ok (.istore_n 1, 1) := by decide +kernel
theorem dX5_firstWronglyTold_16 : decode cX5_firstWronglyTold 16 = .ok (.iload_n 1, 1) := by decide +kernel
theorem dX5_firstWronglyTold_17 : decode cX5_firstWronglyTold 17 = .ok (.aload_n 0, 1) := by decide +kernel
theorem dX5_firstWronglyTold_18 : decode cX5_firstWronglyTold 18 = .ok (.getfield 245, 3) := by decide +kernel
theorem dX5_firstWronglyTold_21 : decode cX5_firstWronglyTold 21 = .ok (.if_icmp .ge 36, 3) := by decide +kernel
theorem dX5_firstWronglyTold_24 : decode cX5_firstWronglyTold 24 = .ok (.iload_n 1, 1) := by decide +kernel
theorem dX5_firstWronglyTold_25 : decode cX5_firstWronglyTold 25 = .ok (.aload_n 0, 1) := by decide +kernel
theorem dX5_firstWronglyTold_26 : decode cX5_firstWronglyTold 26 = .ok (.getfield 10, 3) := by decide +kernel
theorem dX5_firstWronglyTold_29 : decode cX5_firstWronglyTold 29 = .ok (.getfield 217, 3) := by decide +kernel
theorem dX5_firstWronglyTold_32 : decode cX5_firstWronglyTold 32 = .ok (.if_icmp .ge 17, 3) := by decide +kernel
theorem dX5_firstWronglyTold_35 : decode cX5_firstWronglyTold 35 = .ok (.aload_n 0, 1) := by decide +kernel
theorem dX5_firstWronglyTold_36 : decode cX5_firstWronglyTold 36 = .ok (.iload_n 1, 1) := by decide +kernel
theorem dX5_firstWronglyTold_37 : decode cX5_firstWronglyTold 37 = .ok (.invokevirtual 261, 3) := by decide +kernel
theorem dX5_firstWronglyTold_40 : decode cX5_firstWronglyTold 40 = .ok (.aload_n 0, 1) := by decide +kernel
theorem dX5_firstWronglyTold_41 : decode cX5_firstWronglyTold 41 = .ok (.getfield 43, 3) := by decide +kernel
theorem dX5_firstWronglyTold_44 : decode cX5_firstWronglyTold 44 = .ok (.iload_n 1, 1) := by decide +kernel
theorem dX5_firstWronglyTold_45 : decode cX5_firstWronglyTold 45 = .ok (.iaload, 1) := by decide +kernel
theorem dX5_firstWronglyTold_46 : decode cX5_firstWronglyTold 46 = .ok (.if_icmp .eq 5, 3) := by decide +kernel
theorem dX5_firstWronglyTold_49 : decode cX5_firstWronglyTold 49 = .ok (.iload_n 1, 1) := by decide +kernel
theorem dX5_firstWronglyTold_50 : decode cX5_firstWronglyTold 50 = .ok (.ireturn, 1) := by decide +kernel
theorem dX5_firstWronglyTold_51 : decode cX5_firstWronglyTold 51 = .ok (.iinc 1 1, 3) := by decide +kernel
theorem dX5_firstWronglyTold_54 : decode cX5_firstWronglyTold 54 = .ok (.goto (-38), 3) := by decide +kernel
theorem dX5_firstWronglyTold_57 : decode cX5_firstWronglyTold 57 = .ok (.bipush (-9), 2) := by decide +kernel
theorem dX5_firstWronglyTold_59 : decode cX5_firstWronglyTold 59 = .ok (.ireturn, 1) := by decide +kernel
theorem dX5_nextSeed_0 : decode cX5_nextSeed 0 = .ok (.iload_n 0, 1) := by decide +kernel
theorem dX5_nextSeed_1 : decode cX5_nextSeed 1 = .ok (.ldc_w 267, 3) := by decide +kernel
theorem dX5_nextSeed_4 : decode cX5_nextSeed 4 = .ok (.imul, 1) := by decide +kernel
theorem dX5_nextSeed_5 : decode cX5_nextSeed 5 = .ok (.ldc_w 268, 3) := by decide +kernel
theorem dX5_nextSeed_8 : decode cX5_nextSeed 8 = .ok (.iadd, 1) := by decide +kernel
theorem dX5_nextSeed_9 : decode cX5_nextSeed 9 = .ok (.ireturn, 1) := by decide +kernel
theorem dX5_drawnFrom_0 : decode cX5_drawnFrom 0 = .ok (.iload_n 0, 1) := by decide +kernel
theorem dX5_drawnFrom_1 : decode cX5_drawnFrom 1 = .ok (.ldc_w 269, 3) := by decide +kernel
theorem dX5_drawnFrom_4 : decode cX5_drawnFrom 4 = .ok (.iand, 1) := by decide +kernel
theorem dX5_drawnFrom_5 : decode cX5_drawnFrom 5 = .ok (.sipush 256, 3) := by decide +kernel
theorem dX5_drawnFrom_8 : decode cX5_drawnFrom 8 = .ok (.idiv, 1) := by decide +kernel
theorem dX5_drawnFrom_9 : decode cX5_drawnFrom 9 = .ok (.ireturn, 1) := by decide +kernel
theorem dX5_trialOfText_0 : decode cX5_trialOfText 0 = .ok (.aload_n 0, 1) := by decide +kernel
theorem dX5_trialOfText_1 : decode cX5_trialOfText 1 = .ok (.getfield 39, 3) := by decide +kernel
theorem dX5_trialOfText_4 : decode cX5_trialOfText 4 = .ok (.invokevirtual 270, 3) := by decide +kernel
theorem dX5_trialOfText_7 : decode cX5_trialOfText 7 = .ok (.istore_n 1, 1) := by decide +kernel
theorem dX5_trialOfText_8 : decode cX5_trialOfText 8 = .ok (.iload_n 1, 1) := by decide +kernel
theorem dX5_trialOfText_9 : decode cX5_trialOfText 9 = .ok (.iconst (-1), 1) := by decide +kernel
theorem dX5_trialOfText_10 : decode cX5_trialOfText 10 = .ok (.if_icmp .eq 9, 3) := by decide +kernel
theorem dX5_trialOfText_13 : decode cX5_trialOfText 13 = .ok (.sipush (-1000), 3) := by decide +kernel
theorem dX5_trialOfText_16 : decode cX5_trialOfText 16 = .ok (.iload_n 1, 1) := by decide +kernel
theorem dX5_trialOfText_17 : decode cX5_trialOfText 17 = .ok (.isub, 1) := by decide +kernel
theorem dX5_trialOfText_18 : decode cX5_trialOfText 18 = .ok (.ireturn, 1) := by decide +kernel
theorem dX5_trialOfText_19 : decode cX5_trialOfText 19 = .ok (.aload_n 0, 1) := by decide +kernel
theorem dX5_trialOfText_20 : decode cX5_trialOfText 20 = .ok (.getfield 19, 3) := by decide +kernel
theorem dX5_trialOfText_23 : decode cX5_trialOfText 23 = .ok (.aload_n 0, 1) := by decide +kernel
theorem dX5_trialOfText_24 : decode cX5_trialOfText 24 = .ok (.getfield 10, 3) := by decide +kernel
theorem dX5_trialOfText_27 : decode cX5_trialOfText 27 = .ok (.invokevirtual 68, 3) := by decide +kernel
theorem dX5_trialOfText_30 : decode cX5_trialOfText 30 = .ok (.iconst 0, 1) := by decide +kernel
theorem dX5_trialOfText_31 : decode cX5_trialOfText 31 = .ok (.istore_n 2, 1) := by decide +kernel
theorem dX5_trialOfText_32 : decode cX5_trialOfText 32 = .ok (.iconst 0, 1) := by decide +kernel
theorem dX5_trialOfText_33 : decode cX5_trialOfText 33 = .ok (.istore_n 3, 1) := by decide +kernel
theorem dX5_trialOfText_34 : decode cX5_trialOfText 34 = .ok (.iload_n 3, 1) := by decide +kernel
theorem dX5_trialOfText_35 : decode cX5_trialOfText 35 = .ok (.aload_n 0, 1) := by decide +kernel
theorem dX5_trialOfText_36 : decode cX5_trialOfText 36 = .ok (.getfield 39, 3) := by decide +kernel
theorem dX5_trialOfText_39 : decode cX5_trialOfText 39 = .ok (.getfield 57, 3) := by decide +kernel
theorem dX5_trialOfText_42 : decode cX5_trialOfText 42 = .ok (.if_icmp .ge 48, 3) := by decide +kernel
theorem dX5_trialOfText_45 : decode cX5_trialOfText 45 = .ok (.aload_n 0, 1) := by decide +kernel
theorem dX5_trialOfText_46 : decode cX5_trialOfText 46 = .ok (.getfield 39, 3) := by decide +kernel
theorem dX5_trialOfText_49 : decode cX5_trialOfText 49 = .ok (.iload_n 3, 1) := by decide +kernel
theorem dX5_trialOfText_50 : decode cX5_trialOfText 50 = .ok (.aload_n 0, 1) := by decide +kernel
theorem dX5_trialOfText_51 : decode cX5_trialOfText 51 = .ok (.getfield 19, 3) := by decide +kernel
theorem dX5_trialOfText_54 : decode cX5_trialOfText 54 = .ok (.invokevirtual 273, 3) := by decide +kernel
theorem dX5_trialOfText_57 : decode cX5_trialOfText 57 = .ok (.ifCond .ne 9, 3) := by decide +kernel
theorem dX5_trialOfText_60 : decode cX5_trialOfText 60 = .ok (.sipush (-2000), 3) := by decide +kernel
theorem dX5_trialOfText_63 : decode cX5_trialOfText 63 = .ok (.iload_n 3, 1) := by decide +kernel
theorem dX5_trialOfText_64 : decode cX5_trialOfText 64 = .ok (.isub, 1) := by decide +kernel
theorem dX5_trialOfText_65 : decode cX5_trialOfText 65 = .ok (.ireturn, 1) := by decide +kernel
theorem dX5_trialOfText_66 : decode cX5_trialOfText 66 = .ok (.iinc 2 1, 3) := by decide +kernel
theorem dX5_trialOfText_69 : decode cX5_trialOfText 69 = .ok (.iload_n 3, 1) := by decide +kernel
theorem dX5_trialOfText_70 : decode cX5_trialOfText 70 = .ok (.iconst 1, 1) := by decide +kernel
theorem dX5_trialOfText_71 : decode cX5_trialOfText 71 = .ok (.aload_n 0, 1) := by decide +kernel
theorem dX5_trialOfText_72 : decode cX5_trialOfText 72 = .ok (.getfield 39, 3) := by decide +kernel
theorem dX5_trialOfText_75 : decode cX5_trialOfText 75 = .ok (.iload_n 3, 1) := by decide +kernel
theorem dX5_trialOfText_76 : decode cX5_trialOfText 76 = .ok (.invokevirtual 277, 3) := by decide +kernel
theorem dX5_trialOfText_79 : decode cX5_trialOfText 79 = .ok (.invokevirtual 281, 3) := by decide +kernel
theorem dX5_trialOfText_82 : decode cX5_trialOfText 82 = .ok (.invokestatic 239, 3) := by decide +kernel
theorem dX5_trialOfText_85 : decode cX5_trialOfText 85 = .ok (.iadd, 1) := by decide +kernel
theorem dX5_trialOfText_86 : decode cX5_trialOfText 86 = .ok (.istore_n 3, 1) := by decide +kernel
theorem dX5_trialOfText_87 : decode cX5_trialOfText 87 = .ok (.goto (-53), 3) := by decide +kernel
theorem dX5_trialOfText_90 : decode cX5_trialOfText 90 = .ok (.iload_n 2, 1) := by decide +kernel
theorem dX5_trialOfText_91 : decode cX5_trialOfText 91 = .ok (.ireturn, 1) := by decide +kernel
theorem dX6_init_0 : decode cX6_init 0 = .ok (.aload_n 0, 1) := by decide +kernel
theorem dX6_init_1 : decode cX6_init 1 = .ok (.invokespecial 1, 3) := by decide +kernel
theorem dX6_init_4 : decode cX6_init 4 = .ok (.aload_n 0, 1) := by decide +kernel
theorem dX6_init_5 : decode cX6_init 5 = .ok (.ldc 9, 2) := by decide +kernel
theorem dX6_init_7 : decode cX6_init 7 = .ok (.putfield 10, 3) := by decide +kernel
theorem dX6_init_10 : decode cX6_init 10 = .ok (.aload_n 0, 1) := by decide +kernel
theorem dX6_init_11 : decode cX6_init 11 = .ok (.iconst 5, 1) := by decide +kernel
theorem dX6_init_12 : decode cX6_init 12 = .ok (.newarray .int, 2) := by decide +kernel
theorem dX6_init_14 : decode cX6_init 14 = .ok (.putfield 14, 3) := by decide +kernel
theorem dX6_init_17 : decode cX6_init 17 = .ok (.aload_n 0, 1) := by decide +kernel
theorem dX6_init_18 : decode cX6_init 18 = .ok (.iconst 5, 1) := by decide +kernel
theorem dX6_init_19 : decode cX6_init 19 = .ok (.newarray .int, 2) := by decide +kernel
theorem dX6_init_21 : decode cX6_init 21 = .ok (.putfield 18, 3) := by decide +kernel
theorem dX6_init_24 : decode cX6_init 24 = .ok (.aload_n 0, 1) := by decide +kernel
theorem dX6_init_25 : decode cX6_init 25 = .ok (.iconst 5, 1) := by decide +kernel
theorem dX6_init_26 : decode cX6_init 26 = .ok (.newarray .int, 2) := by decide +kernel
theorem dX6_init_28 : decode cX6_init 28 = .ok (.putfield 21, 3) := by decide +kernel
theorem dX6_init_31 : decode cX6_init 31 = .ok (.aload_n 0, 1) := by decide +kernel
theorem dX6_init_32 : decode cX6_init 32 = .ok (.iconst 5, 1) := by decide +kernel
theorem dX6_init_33 : decode cX6_init 33 = .ok (.newarray .int, 2) := by decide +kernel
theorem dX6_init_35 : decode cX6_init 35 = .ok (.putfield 24, 3) := by decide +kernel
theorem dX6_init_38 : decode cX6_init 38 = .ok (.aload_n 0, 1) := by decide +kernel
theorem dX6_init_39 : decode cX6_init 39 = .ok (.iconst 5, 1) := by decide +kernel
theorem dX6_init_40 : decode cX6_init 40 = .ok (.newarray .int, 2) := by decide +kernel
theorem dX6_init_42 : decode cX6_init 42 = .ok (.putfield 27, 3) := by decide +kernel
theorem dX6_init_45 : decode cX6_init 45 = .ok (.aload_n 0, 1) := by decide +kernel
theorem dX6_init_46 : decode cX6_init 46 = .ok (.iconst 5, 1) := by decide +kernel
theorem dX6_init_47 : decode cX6_init 47 = .ok (.newarray .int, 2) := by decide +kernel
theorem dX6_init_49 : decode cX6_init 49 = .ok (.putfield 30, 3) := by decide +kernel
theorem dX6_init_52 : decode cX6_init 52 = .ok (.aload_n 0, 1) := by decide +kernel
theorem dX6_init_53 : decode cX6_init 53 = .ok (.bipush 96, 2) := by decide +kernel
theorem dX6_init_55 : decode cX6_init 55 = .ok (.newarray .int, 2) := by decide +kernel
theorem dX6_init_57 : decode cX6_init 57 = .ok (.putfield 33, 3) := by decide +kernel
theorem dX6_init_60 : decode cX6_init 60 = .ok (.aload_n 0, 1) := by decide +kernel
theorem dX6_init_61 : decode cX6_init 61 = .ok (.bipush 16, 2) := by decide +kernel
theorem dX6_init_63 : decode cX6_init 63 = .ok (.newarray .int, 2) := by decide +kernel
theorem dX6_init_65 : decode cX6_init 65 = .ok (.putfield 36, 3) := by decide +kernel
theorem dX6_init_68 : decode cX6_init 68 = .ok (.aload_n 0, 1) := by decide +kernel
theorem dX6_init_69 : decode cX6_init 69 = .ok (.bipush 7, 2) := by decide +kernel
theorem dX6_init_71 : decode cX6_init 71 = .ok (.newarray .int, 2) := by decide +kernel
theorem dX6_init_73 : decode cX6_init 73 = .ok (.putfield 39, 3) := by decide +kernel
theorem dX6_init_76 : decode cX6_init 76 = .ok (.aload_n 0, 1) := by decide +kernel
theorem dX6_init_77 : decode cX6_init 77 = .ok (.iconst 2, 1) := by decide +kernel
theorem dX6_init_78 : decode cX6_init 78 = .ok (.newarray .int, 2) := by decide +kernel
theorem dX6_init_80 : decode cX6_init 80 = .ok (.putfield 42, 3) := by decide +kernel
theorem dX6_init_83 : decode cX6_init 83 = .ok (.aload_n 0, 1) := by decide +kernel
theorem dX6_init_84 : decode cX6_init 84 = .ok (.sipush 3328, 3) := by decide +kernel
theorem dX6_init_87 : decode cX6_init 87 = .ok (.newarray .int, 2) := by decide +kernel
theorem dX6_init_89 : decode cX6_init 89 = .ok (.putfield 45, 3) := by decide +kernel
theorem dX6_init_92 : decode cX6_init 92 = .ok (.aload_n 0, 1) := by decide +kernel
theorem dX6_init_93 : decode cX6_init 93 = .ok (.sipush 3328, 3) := by decide +kernel
theorem dX6_init_96 : decode cX6_init 96 = .ok (.newarray .int, 2) := by decide +kernel
theorem dX6_init_98 : decode cX6_init 98 = .ok (.putfield 48, 3) := by decide +kernel
theorem dX6_init_101 : decode cX6_init 101 = .ok (.return_, 1) := by decide +kernel
theorem dX6_isIn_0 : decode cX6_isIn 0 = .ok (.iload_n 0, 1) := by decide +kernel
theorem dX6_isIn_1 : decode cX6_isIn 1 = .ok (.iload_n 1, 1) := by decide +kernel
theorem dX6_isIn_2 : decode cX6_isIn 2 = .ok (.if_icmp .lt 12, 3) := by decide +kernel
theorem dX6_isIn_5 : decode cX6_isIn 5 = .ok (.iload_n 0, 1) := by decide +kernel
theorem dX6_isIn_6 : decode cX6_isIn 6 = .ok (.iload_n 2, 1) := by decide +kernel
theorem dX6_isIn_7 : decode cX6_isIn 7 = .ok (.if_icmp .gt 7, 3) := by decide +kernel
theorem dX6_isIn_10 : decode cX6_isIn 10 = .ok (.iconst 1, 1) := by decide +kernel
theorem dX6_isIn_11 : decode cX6_isIn 11 = .ok (.goto 4, 3) := by decide +kernel
theorem dX6_isIn_14 : decode cX6_isIn 14 = .ok (.iconst 0, 1) := by decide +kernel
theorem dX6_isIn_15 : decode cX6_isIn 15 = .ok (.ireturn, 1) := by decide +kernel
theorem dX6_least_0 : decode cX6_least 0 = .ok (.iload_n 0, 1) := by decide +kernel
theorem dX6_least_1 : decode cX6_least 1 = .ok (.iload_n 1, 1) := by decide +kernel
theorem dX6_least_2 : decode cX6_least 2 = .ok (.if_icmp .ge 7, 3) := by decide +kernel
theorem dX6_least_5 : decode cX6_least 5 = .ok (.iload_n 0, 1) := by decide +kernel
theorem dX6_least_6 : decode cX6_least 6 = .ok (.goto 4, 3) := by decide +kernel
theorem dX6_least_9 : decode cX6_least 9 = .ok (.iload_n 1, 1) := by decide +kernel
theorem dX6_least_10 : decode cX6_least 10 = .ok (.ireturn, 1) := by decide +kernel
theorem dX6_no_0 : decode cX6_no 0 = .ok (.aload_n 0, 1) := by decide +kernel
theorem dX6_no_1 : decode cX6_no 1 = .ok (.getfield 39, 3) := by decide +kernel
theorem dX6_no_4 : decode cX6_no 4 = .ok (.iload_n 1, 1) := by decide +kernel
theorem dX6_no_5 : decode cX6_no 5 = .ok (.ineg, 1) := by decide +kernel
theorem dX6_no_6 : decode cX6_no 6 = .ok (.dup2, 1) := by decide +kernel
theorem dX6_no_7 : decode cX6_no 7 = .ok (.iaload, 1) := by decide +kernel
theorem dX6_no_8 : decode cX6_no 8 = .ok (.iconst 1, 1) := by decide +kernel
theorem dX6_no_9 : decode cX6_no 9 = .ok (.iadd, 1) := by decide +kernel
theorem dX6_no_10 : decode cX6_no 10 = .ok (.iastore, 1) := by decide +kernel
theorem dX6_no_11 : decode cX6_no 11 = .ok (.iload_n 1, 1) := by decide +kernel
theorem dX6_no_12 : decode cX6_no 12 = .ok (.ireturn, 1) := by decide +kernel
theorem dX6_noFar_0 : decode cX6_noFar 0 = .ok (.ldc 51, 2) := by decide +kernel
theorem dX6_noFar_2 : decode cX6_noFar 2 = .ok (.aload_n 0, 1) := by decide +kernel
theorem dX6_noFar_3 : decode cX6_noFar 3 = .ok (.iload_n 1, 1) := by decide +kernel
theorem dX6_noFar_4 : decode cX6_noFar 4 = .ok (.invokevirtual 52, 3) := by decide +kernel
theorem dX6_noFar_7 : decode cX6_noFar 7 = .ok (.isub, 1) := by decide +kernel
theorem dX6_noFar_8 : decode cX6_noFar 8 = .ok (.ireturn, 1) := by decide +kernel
theorem dX6_noWide_0 : decode cX6_noWide 0 = .ok (.ldc2_w 56, 3) := by decide +kernel
theorem dX6_noWide_3 : decode cX6_noWide 3 = .ok (.aload_n 0, 1) := by decide +kernel
theorem dX6_noWide_4 : decode cX6_noWide 4 = .ok (.iload_n 1, 1) := by decide +kernel
theorem dX6_noWide_5 : decode cX6_noWide 5 = .ok (.invokevirtual 52, 3) := by decide +kernel
theorem dX6_noWide_8 : decode cX6_noWide 8 = .ok (.i2l, 1) := by decide +kernel
theorem dX6_noWide_9 : decode cX6_noWide 9 = .ok (.lsub, 1) := by decide +kernel
theorem dX6_noWide_10 : decode cX6_noWide 10 = .ok (.lreturn, 1) := by decide +kernel
theorem dX6_isCell_0 : decode cX6_isCell 0 = .ok (.iload_n 0, 1) := by decide +kernel
theorem dX6_isCell_1 : decode cX6_isCell 1 = .ok (.iconst 0, 1) := by decide +kernel
theorem dX6_isCell_2 : decode cX6_isCell 2 = .ok (.bipush 24, 2) := by decide +kernel
theorem dX6_isCell_4 : decode cX6_isCell 4 = .ok (.invokestatic 58, 3) := by decide +kernel
theorem dX6_isCell_7 : decode cX6_isCell 7 = .ok (.ireturn, 1) := by decide +kernel
theorem dX6_isHeir_0 : decode cX6_isHeir 0 = .ok (.iload_n 1, 1) := by decide +kernel
theorem dX6_isHeir_1 : decode cX6_isHeir 1 = .ok (.iconst 0, 1) := by decide +kernel
theorem dX6_isHeir_2 : decode cX6_isHeir 2 = .ok (.aload_n 0, 1) := by decide +kernel
theorem dX6_isHeir_3 : decode cX6_isHeir 3 = .ok (.getfield 62, 3) := by decide +kernel
theorem dX6_isHeir_6 : decode cX6_isHeir 6 = .ok (.iconst 1, 1) := by decide +kernel
theorem dX6_isHeir_7 : decode cX6_isHeir 7 = .ok (.isub, 1) := by decide +kernel
theorem dX6_isHeir_8 : decode cX6_isHeir 8 = .ok (.invokestatic 58, 3) := by decide +kernel
theorem dX6_isHeir_11 : decode cX6_isHeir 11 = .ok (.ireturn, 1) := by decide +kernel
theorem dX6_has_0 : decode cX6_has 0 = .ok (.iload_n 0, 1) := by decide +kernel
theorem dX6_has_1 : decode cX6_has 1 = .ok (.iload_n 1, 1) := by decide +kernel
theorem dX6_has_2 : decode cX6_has 2 = .ok (.ishr, 1) := by decide +kernel
theorem dX6_has_3 : decode cX6_has 3 = .ok (.iconst 1, 1) := by decide +kernel
theorem dX6_has_4 : decode cX6_has 4 = .ok (.iand, 1) := by decide +kernel
theorem dX6_has_5 : decode cX6_has 5 = .ok (.iconst 1, 1) := by decide +kernel
theorem dX6_has_6 : decode cX6_has 6 = .ok (.if_icmp .ne 7, 3) := by decide +kernel
theorem dX6_has_9 : decode cX6_has 9 = .ok (.iconst 1, 1) := by decide +kernel
theorem dX6_has_10 : decode cX6_has 10 = .ok (.goto 4, 3) := by decide +kernel
theorem dX6_has_13 : decode cX6_has 13 = .ok (.iconst 0, 1) := by decide +kernel
theorem dX6_has_14 : decode cX6_has 14 = .ok (.ireturn, 1) := by decide +kernel
theorem dX6_bits_0 : decode cX6_bits 0 = .ok (.iconst 0, 1) := by decide +kernel
theorem dX6_bits_1 : decode cX6_bits 1 = .ok (.istore_n 1, 1) := by decide +kernel
theorem dX6_bits_2 : decode cX6_bits 2 = .ok (.iconst 0, 1) := by decide +kernel
theorem dX6_bits_3 : decode cX6_bits 3 = .ok (.istore_n 2, 1) := by decide +kernel
theorem dX6_bits_4 : decode cX6_bits 4 = .ok (.iload_n 2, 1) := by decide +kernel
theorem dX6_bits_5 : decode cX6_bits 5 = .ok (.bipush 25, 2) := by decide +kernel
theorem dX6_bits_7 : decode cX6_bits 7 = .ok (.if_icmp .ge 17, 3) := by decide +kernel
theorem dX6_bits_10 : decode cX6_bits 10 = .ok (.iload_n 1, 1) := by decide +kernel
theorem dX6_bits_11 : decode cX6_bits 11 = .ok (.iload_n 0, 1) := by decide +kernel
theorem dX6_bits_12 : decode cX6_bits 12 = .ok (.iload_n 2, 1) := by decide +kernel
theorem dX6_bits_13 : decode cX6_bits 13 = .ok (.ishr, 1) := by decide +kernel
theorem dX6_bits_14 : decode cX6_bits 14 = .ok (.iconst 1, 1) := by decide +kernel
theorem dX6_bits_15 : decode cX6_bits 15 = .ok (.iand, 1) := by decide +kernel
theorem dX6_bits_16 : decode cX6_bits 16 = .ok (.iadd, 1) := by decide +kernel
theorem dX6_bits_17 : decode cX6_bits 17 = .ok (.istore_n 1, 1) := by decide +kernel
theorem dX6_bits_18 : decode cX6_bits 18 = .ok (.iinc 2 1, 3) := by decide +kernel
theorem dX6_bits_21 : decode cX6_bits 21 = .ok (.goto (-17), 3) := by decide +kernel
theorem dX6_bits_24 : decode cX6_bits 24 = .ok (.iload_n 1, 1) := by decide +kernel
theorem dX6_bits_25 : decode cX6_bits 25 = .ok (.ireturn, 1) := by decide +kernel
theorem dX6_bite_0 : decode cX6_bite 0 = .ok (.iload_n 0, 1) := by decide +kernel
theorem dX6_bite_1 : decode cX6_bite 1 = .ok (.iconst 2, 1) := by decide +kernel
theorem dX6_bite_2 : decode cX6_bite 2 = .ok (.irem, 1) := by decide +kernel
theorem dX6_bite_3 : decode cX6_bite 3 = .ok (.iconst 1, 1) := by decide +kernel
theorem dX6_bite_4 : decode cX6_bite 4 = .ok (.if_icmp .ne 7, 3) := by decide +kernel
theorem dX6_bite_7 : decode cX6_bite 7 = .ok (.iconst 2, 1) := by decide +kernel
theorem dX6_bite_8 : decode cX6_bite 8 = .ok (.goto 4, 3) := by decide +kernel
theorem dX6_bite_11 : decode cX6_bite 11 = .ok (.iconst 1, 1) := by decide +kernel
theorem dX6_bite_12 : decode cX6_bite 12 = .ok (.istore_n 2, 1) := by decide +kernel
theorem dX6_bite_13 : decode cX6_bite 13 = .ok (.iload_n 0, 1) := by decide +kernel
theorem dX6_bite_14 : decode cX6_bite 14 = .ok (.iconst 2, 1) := by decide +kernel
theorem dX6_bite_15 : decode cX6_bite 15 = .ok (.if_icmp .lt 7, 3) := by decide +kernel
theorem dX6_bite_18 : decode cX6_bite 18 = .ok (.iconst 2, 1) := by decide +kernel
theorem dX6_bite_19 : decode cX6_bite 19 = .ok (.goto 4, 3) := by decide +kernel
theorem dX6_bite_22 : decode cX6_bite 22 = .ok (.iconst 1, 1) := by decide +kernel
theorem dX6_bite_23 : decode cX6_bite 23 = .ok (.istore_n 3, 1) := by decide +kernel
theorem dX6_bite_24 : decode cX6_bite 24 = .ok (.iload_n 1, 1) := by decide +kernel
theorem dX6_bite_25 : decode cX6_bite 25 = .ok (.iconst 5, 1) := by decide +kernel
theorem dX6_bite_26 : decode cX6_bite 26 = .ok (.irem, 1) := by decide +kernel
theorem dX6_bite_27 : decode cX6_bite 27 = .ok (.iload_n 2, 1) := by decide +kernel
theorem dX6_bite_28 : decode cX6_bite 28 = .ok (.iadd, 1) := by decide +kernel
theorem dX6_bite_29 : decode cX6_bite 29 = .ok (.iconst 5, 1) := by decide +kernel
theorem dX6_bite_30 : decode cX6_bite 30 = .ok (.if_icmp .gt 12, 3) := by decide +kernel
theorem dX6_bite_33 : decode cX6_bite 33 = .ok (.iload_n 1, 1) := by decide +kernel
theorem dX6_bite_34 : decode cX6_bite 34 = .ok (.iconst 5, 1) := by decide +kernel
theorem dX6_bite_35 : decode cX6_bite 35 = .ok (.idiv, 1) := by decide +kernel
theorem dX6_bite_36 : decode cX6_bite 36 = .ok (.iload_n 3, 1) := by decide +kernel
theorem dX6_bite_37 : decode cX6_bite 37 = .ok (.iadd, 1) := by decide +kernel
theorem dX6_bite_38 : decode cX6_bite 38 = .ok (.iconst 5, 1) := by decide +kernel
theorem dX6_bite_39 : decode cX6_bite 39 = .ok (.if_icmp .le 5, 3) := by decide +kernel
theorem dX6_bite_42 : decode cX6_bite 42 = .ok (.iconst 0, 1) := by decide +kernel
theorem dX6_bite_43 : decode cX6_bite 43 = .ok (.ireturn, 1) := by decide +kernel
theorem dX6_bite_44 : decode cX6_bite 44 = .ok (.iconst 1, 1) := by decide +kernel
theorem dX6_bite_45 : decode cX6_bite 45 = .ok (.iload_n 1, 1) := by decide +kernel
theorem dX6_bite_46 : decode cX6_bite 46 = .ok (.ishl, 1) := by decide +kernel
theorem dX6_bite_47 : decode cX6_bite 47 = .ok (.istore 4, 2) := by decide +kernel
theorem dX6_bite_49 : decode cX6_bite 49 = .ok (.iload_n 2, 1) := by decide +kernel
theorem dX6_bite_50 : decode cX6_bite 50 = .ok (.iconst 2, 1) := by decide +kernel
theorem dX6_bite_51 : decode cX6_bite 51 = .ok (.if_icmp .ne 13, 3) := by decide +kernel
theorem dX6_bite_54 : decode cX6_bite 54 = .ok (.iload 4, 2) := by decide +kernel
theorem dX6_bite_56 : decode cX6_bite 56 = .ok (.iconst 1, 1) := by decide +kernel
theorem dX6_bite_57 : decode cX6_bite 57 = .ok (.iload_n 1, 1) := by decide +kernel
theorem dX6_bite_58 : decode cX6_bite 58 = .ok (.iconst 1, 1) := by decide +kernel
theorem dX6_bite_59 : decode cX6_bite 59 = .ok (.iadd, 1) := by decide +kernel
theorem dX6_bite_60 : decode cX6_bite 60 = .ok (.ishl, 1) := by decide +kernel
theorem dX6_bite_61 : decode cX6_bite 61 = .ok (.ior, 1) := by decide +kernel
theorem dX6_bite_62 : decode cX6_bite 62 = .ok (.istore 4, 2) := by decide +kernel
theorem dX6_bite_64 : decode cX6_bite 64 = .ok (.iload_n 3, 1) := by decide +kernel
theorem dX6_bite_65 : decode cX6_bite 65 = .ok (.iconst 2, 1) := by decide +kernel
theorem dX6_bite_66 : decode cX6_bite 66 = .ok (.if_icmp .ne 13, 3) := by decide +kernel
theorem dX6_bite_69 : decode cX6_bite 69 = .ok (.iload 4, 2) := by decide +kernel
theorem dX6_bite_71 : decode cX6_bite 71 = .ok (.iload 4, 2) := by decide +kernel
theorem dX6_bite_73 : decode cX6_bite 73 = .ok (.iconst 5, 1) := by decide +kernel
theorem dX6_bite_74 : decode cX6_bite 74 = .ok (.ishl, 1) := by decide +kernel
theorem dX6_bite_75 : decode cX6_bite 75 = .ok (.ior, 1) := by decide +kernel
theorem dX6_bite_76 : decode cX6_bite 76 = .ok (.goto 5, 3) := by decide +kernel
theorem dX6_bite_79 : decode cX6_bite 79 = .ok (.iload 4, 2) := by decide +kernel
theorem dX6_bite_81 : decode cX6_bite 81 = .ok (.ireturn, 1) := by decide +kernel
theorem dX6_canBite_0 : decode cX6_canBite 0 = .ok (.iload_n 1, 1) := by decide +kernel
theorem dX6_canBite_1 : decode cX6_canBite 1 = .ok (.iload_n 2, 1) := by decide +kernel
theorem dX6_canBite_2 : decode cX6_canBite 2 = .ok (.invokestatic 65, 3) := by decide +kernel
theorem dX6_canBite_5 : decode cX6_canBite 5 = .ok (.ifCond .eq 19, 3) := by decide +kernel
theorem dX6_canBite_8 : decode cX6_canBite 8 = .ok (.iload_n 1, 1) := by decide +kernel
theorem dX6_canBite_9 : decode cX6_canBite 9 = .ok (.iload_n 2, 1) := by decide +kernel
theorem dX6_canBite_10 : decode cX6_canBite 10 = .ok (.invokestatic 65, 3) := by decide +kernel
theorem dX6_canBite_13 : decode cX6_canBite 13 = .ok (.iload_n 0, 1) := by decide +kernel
theorem dX6_canBite_14 : decode cX6_canBite 14 = .ok (.iconst (-1), 1) := by decide +kernel
theorem dX6_canBite_15 : decode cX6_canBite 15 = .ok (.ixor, 1) := by decide +kernel
theorem dX6_canBite_16 : decode cX6_canBite 16 = .ok (.iand, 1) := by decide +kernel
theorem dX6_canBite_17 : decode cX6_canBite 17 = .ok (.ifCond .ne 7, 3) := by decide +kernel
theorem dX6_canBite_20 : decode cX6_canBite 20 = .ok (.iconst 1, 1) := by decide +kernel
theorem dX6_canBite_21 : decode cX6_canBite 21 = .ok (.goto 4, 3) := by decide +kernel
theorem dX6_canBite_24 : decode cX6_canBite 24 = .ok (.iconst 0, 1) := by decide +kernel
theorem dX6_canBite_25 : decode cX6_canBite 25 = .ok (.ireturn, 1) := by decide +kernel
theorem dX6_besideOf_0 : decode cX6_besideOf 0 = .ok (.iconst 0, 1) := by decide +kernel
theorem dX6_besideOf_1 : decode cX6_besideOf 1 = .ok (.istore_n 1, 1) := by decide +kernel
theorem dX6_besideOf_2 : decode cX6_besideOf 2 = .ok (.iconst 0, 1) := by decide +kernel
theorem dX6_besideOf_3 : decode cX6_besideOf 3 = .ok (.istore_n 2, 1) := by decide +kernel
theorem dX6_besideOf_4 : decode cX6_besideOf 4 = .ok (.iload_n 2, 1) := by decide +kernel
theorem dX6_besideOf_5 : decode cX6_besideOf 5 = .ok (.iconst 5, 1) := by decide +kernel
theorem dX6_besideOf_6 : decode cX6_besideOf 6 = .ok (.if_icmp .ge 17, 3) := by decide +kernel
theorem dX6_besideOf_9 : decode cX6_besideOf 9 = .ok (.iload_n 1, 1) := by decide +kernel
theorem dX6_besideOf_10 : decode cX6_besideOf 10 = .ok (.iconst 1, 1) := by decide +kernel
theorem dX6_besideOf_11 : decode cX6_besideOf 11 = .ok (.iconst 5, 1) := by decide +kernel
theorem dX6_besideOf_12 : decode cX6_besideOf 12 = .ok (.iload_n 2, 1) := by decide +kernel
theorem dX6_besideOf_13 : decode cX6_besideOf 13 = .ok (.imul, 1) := by decide +kernel
theorem dX6_besideOf_14 : decode cX6_besideOf 14 = .ok (.ishl, 1) := by decide +kernel
theorem dX6_besideOf_15 : decode cX6_besideOf 15 = .ok (.ior, 1) := by decide +kernel
theorem dX6_besideOf_16 : decode cX6_besideOf 16 = .ok (.istore_n 1, 1) := by decide +kernel
theorem dX6_besideOf_17 : decode cX6_besideOf 17 = .ok (.iinc 2 1, 3) := by decide +kernel
theorem dX6_besideOf_20 : decode cX6_besideOf 20 = .ok (.goto (-16), 3) := by decide +kernel
theorem dX6_besideOf_23 : decode cX6_besideOf 23 = .ok (.iload_n 1, 1) := by decide +kernel
theorem dX6_besideOf_24 : decode cX6_besideOf 24 = .ok (.iconst 4, 1) := by decide +kernel
theorem dX6_besideOf_25 : decode cX6_besideOf 25 = .ok (.ishl, 1) := by decide +kernel
theorem dX6_besideOf_26 : decode cX6_besideOf 26 = .ok (.istore_n 2, 1) := by decide +kernel
theorem dX6_besideOf_27 : decode cX6_besideOf 27 = .ok (.iload_n 0, 1) := by decide +kernel
theorem dX6_besideOf_28 : decode cX6_besideOf 28 = .ok (.iconst 5, 1) := by decide +kernel
theorem dX6_besideOf_29 : decode cX6_besideOf 29 = .ok (.ishl, 1) := by decide +kernel
theorem dX6_besideOf_30 : decode cX6_besideOf 30 = .ok (.iload_n 0, 1) := by decide +kernel
theorem dX6_besideOf_31 : decode cX6_besideOf 31 = .ok (.iconst 5, 1) := by decide +kernel
theorem dX6_besideOf_32 : decode cX6_besideOf 32 = .ok (.ishr, 1) := by decide +kernel
theorem dX6_besideOf_33 : decode cX6_besideOf 33 = .ok (.ior, 1) := by decide +kernel
theorem dX6_besideOf_34 : decode cX6_besideOf 34 = .ok (.iload_n 0, 1) := by decide +kernel
theorem dX6_besideOf_35 : decode cX6_besideOf 35 = .ok (.iload_n 2, 1) := by decide +kernel
theorem dX6_besideOf_36 : decode cX6_besideOf 36 = .ok (.iconst (-1), 1) := by decide +kernel
theorem dX6_besideOf_37 : decode cX6_besideOf 37 = .ok (.ixor, 1) := by decide +kernel
theorem dX6_besideOf_38 : decode cX6_besideOf 38 = .ok (.iand, 1) := by decide +kernel
theorem dX6_besideOf_39 : decode cX6_besideOf 39 = .ok (.iconst 1, 1) := by decide +kernel
theorem dX6_besideOf_40 : decode cX6_besideOf 40 = .ok (.ishl, 1) := by decide +kernel
theorem dX6_besideOf_41 : decode cX6_besideOf 41 = .ok (.ior, 1) := by decide +kernel
theorem dX6_besideOf_42 : decode cX6_besideOf 42 = .ok (.iload_n 0, 1) := by decide +kernel
theorem dX6_besideOf_43 : decode cX6_besideOf 43 = .ok (.iload_n 1, 1) := by decide +kernel
theorem dX6_besideOf_44 : decode cX6_besideOf 44 = .ok (.iconst (-1), 1) := by decide +kernel
theorem dX6_besideOf_45 : decode cX6_besideOf 45 = .ok (.ixor, 1) := by decide +kernel
theorem dX6_besideOf_46 : decode cX6_besideOf 46 = .ok (.iand, 1) := by decide +kernel
theorem dX6_besideOf_47 : decode cX6_besideOf 47 = .ok (.iconst 1, 1) := by decide +kernel
theorem dX6_besideOf_48 : decode cX6_besideOf 48 = .ok (.ishr, 1) := by decide +kernel
theorem dX6_besideOf_49 : decode cX6_besideOf 49 = .ok (.ior, 1) := by decide +kernel
theorem dX6_besideOf_50 : decode cX6_besideOf 50 = .ok (.ldc 9, 2) := by decide +kernel
theorem dX6_besideOf_52 : decode cX6_besideOf 52 = .ok (.iand, 1) := by decide +kernel
theorem dX6_besideOf_53 : decode cX6_besideOf 53 = .ok (.ireturn, 1) := by decide +kernel
theorem dX6_heapOf_0 : decode cX6_heapOf 0 = .ok (.iconst 1, 1) := by decide +kernel
theorem dX6_heapOf_1 : decode cX6_heapOf 1 = .ok (.iload_n 1, 1) := by decide +kernel
theorem dX6_heapOf_2 : decode cX6_heapOf 2 = .ok (.ishl, 1) := by decide +kernel
theorem dX6_heapOf_3 : decode cX6_heapOf 3 = .ok (.iload_n 0, 1) := by decide +kernel
theorem dX6_heapOf_4 : decode cX6_heapOf 4 = .ok (.iand, 1) := by decide +kernel
theorem dX6_heapOf_5 : decode cX6_heapOf 5 = .ok (.istore_n 2, 1) := by decide +kernel
theorem dX6_heapOf_6 : decode cX6_heapOf 6 = .ok (.iload_n 2, 1) := by decide +kernel
theorem dX6_heapOf_7 : decode cX6_heapOf 7 = .ok (.istore_n 3, 1) := by decide +kernel
theorem dX6_heapOf_8 : decode cX6_heapOf 8 = .ok (.iload_n 3, 1) := by decide +kernel
theorem dX6_heapOf_9 : decode cX6_heapOf 9 = .ok (.ifCond .eq 21, 3) := by decide +kernel
theorem dX6_heapOf_12 : decode cX6_heapOf 12 = .ok (.iload_n 2, 1) := by decide +kernel
theorem dX6_heapOf_13 : decode cX6_heapOf 13 = .ok (.invokestatic 69, 3) := by decide +kernel
theorem dX6_heapOf_16 : decode cX6_heapOf 16 = .ok (.iload_n 0, 1) := by decide +kernel
theorem dX6_heapOf_17 : decode cX6_heapOf 17 = .ok (.iand, 1) := by decide +kernel
theorem dX6_heapOf_18 : decode cX6_heapOf 18 = .ok (.iload_n 2, 1) := by decide +kernel
theorem dX6_heapOf_19 : decode cX6_heapOf 19 = .ok (.iconst (-1), 1) := by decide +kernel
theorem dX6_heapOf_20 : decode cX6_heapOf 20 = .ok (.ixor, 1) := by decide +kernel
theorem dX6_heapOf_21 : decode cX6_heapOf 21 = .ok (.iand, 1) := by decide +kernel
theorem dX6_heapOf_22 : decode cX6_heapOf 22 = .ok (.istore_n 3, 1) := by decide +kernel
theorem dX6_heapOf_23 : decode cX6_heapOf 23 = .ok (.iload_n 2, 1) := by decide +kernel
theorem dX6_heapOf_24 : decode cX6_heapOf 24 = .ok (.iload_n 3, 1) := by decide +kernel
theorem dX6_heapOf_25 : decode cX6_heapOf 25 = .ok (.ior, 1) := by decide +kernel
theorem dX6_heapOf_26 : decode cX6_heapOf 26 = .ok (.istore_n 2, 1) := by decide +kernel
theorem dX6_heapOf_27 : decode cX6_heapOf 27 = .ok (.goto (-19), 3) := by decide +kernel
theorem dX6_heapOf_30 : decode cX6_heapOf 30 = .ok (.iload_n 2, 1) := by decide +kernel
theorem dX6_heapOf_31 : decode cX6_heapOf 31 = .ok (.ireturn, 1) := by decide +kernel
theorem dX6_leastOf_0 : decode cX6_leastOf 0 = .ok (.iconst 0, 1) := by decide +kernel
theorem dX6_leastOf_1 : decode cX6_leastOf 1 = .ok (.istore_n 1, 1) := by decide +kernel
theorem dX6_leastOf_2 : decode cX6_leastOf 2 = .ok (.iload_n 0, 1) := by decide +kernel
theorem dX6_leastOf_3 : decode cX6_leastOf 3 = .ok (.iload_n 1, 1) := by decide +kernel
theorem dX6_leastOf_4 : decode cX6_leastOf 4 = .ok (.invokestatic 72, 3) := by decide +kernel
theorem dX6_leastOf_7 : decode cX6_leastOf 7 = .ok (.ifCond .ne 9, 3) := by decide +kernel
theorem dX6_leastOf_10 : decode cX6_leastOf 10 = .ok (.iinc 1 1, 3) := by decide +kernel
theorem dX6_leastOf_13 : decode cX6_leastOf 13 = .ok (.goto (-11), 3) := by decide +kernel
theorem dX6_leastOf_16 : decode cX6_leastOf 16 = .ok (.iload_n 1, 1) := by decide +kernel
theorem dX6_leastOf_17 : decode cX6_leastOf 17 = .ok (.ireturn, 1) := by decide +kernel
theorem dX6_heaps_0 : decode cX6_heaps 0 = .ok (.iconst 0, 1) := by decide +kernel
theorem dX6_heaps_1 : decode cX6_heaps 1 = .ok (.istore_n 1, 1) := by decide +kernel
theorem dX6_heaps_2 : decode cX6_heaps 2 = .ok (.iload_n 0, 1) := by decide +kernel
theorem dX6_heaps_3 : decode cX6_heaps 3 = .ok (.istore_n 2, 1) := by decide +kernel
theorem dX6_heaps_4 : decode cX6_heaps 4 = .ok (.iload_n 2, 1) := by decide +kernel
theorem dX6_heaps_5 : decode cX6_heaps 5 = .ok (.ifCond .eq 22, 3) := by decide +kernel
theorem dX6_heaps_8 : decode cX6_heaps 8 = .ok (.iinc 1 1, 3) := by decide +kernel
theorem dX6_heaps_11 : decode cX6_heaps 11 = .ok (.iload_n 2, 1) := by decide +kernel
theorem dX6_heaps_12 : decode cX6_heaps 12 = .ok (.iload_n 0, 1) := by decide +kernel
theorem dX6_heaps_13 : decode cX6_heaps 13 = .ok (.iload_n 2, 1) := by decide +kernel
theorem dX6_heaps_14 : decode cX6_heaps 14 = .ok (.invokestatic 76, 3) := by decide +kernel
theorem dX6_heaps_17 : decode cX6_heaps 17 = .ok (.invokestatic 79, 3) := by decide +kernel
theorem dX6_heaps_20 : decode cX6_heaps 20 = .ok (.iconst (-1), 1) := by decide +kernel
theorem dX6_heaps_21 : decode cX6_heaps 21 = .ok (.ixor, 1) := by decide +kernel
theorem dX6_heaps_22 : decode cX6_heaps 22 = .ok (.iand, 1) := by decide +kernel
theorem dX6_heaps_23 : decode cX6_heaps 23 = .ok (.istore_n 2, 1) := by decide +kernel
theorem dX6_heaps_24 : decode cX6_heaps 24 = .ok (.goto (-20), 3) := by decide +kernel
theorem dX6_heaps_27 : decode cX6_heaps 27 = .ok (.iload_n 1, 1) := by decide +kernel
theorem dX6_heaps_28 : decode cX6_heaps 28 = .ok (.ireturn, 1) := by decide +kernel
theorem dX6_deed_0 : decode cX6_deed 0 = .ok (.iconst 0, 1) := by decide +kernel
theorem dX6_deed_1 : decode cX6_deed 1 = .ok (.istore_n 1, 1) := by decide +kernel
theorem dX6_deed_2 : decode cX6_deed 2 = .ok (.iconst 0, 1) := by decide +kernel
theorem dX6_deed_3 : decode cX6_deed 3 = .ok (.istore_n 2, 1) := by decide +kernel
theorem dX6_deed_4 : decode cX6_deed 4 = .ok (.iload_n 0, 1) := by decide +kernel
theorem dX6_deed_5 : decode cX6_deed 5 = .ok (.istore_n 3, 1) := by decide +kernel
theorem dX6_deed_6 : decode cX6_deed 6 = .ok (.iload_n 3, 1) := by decide +kernel
theorem dX6_deed_7 : decode cX6_deed 7 = .ok (.ifCond .eq 63, 3) := by decide +kernel
theorem dX6_deed_10 : decode cX6_deed 10 = .ok (.iload_n 0, 1) := by decide +kernel
theorem dX6_deed_11 : decode cX6_deed 11 = .ok (.iload_n 3, 1) := by decide +kernel
theorem dX6_deed_12 : decode cX6_deed 12 = .ok (.invokestatic 76, 3) := by decide +kernel
theorem dX6_deed_15 : decode cX6_deed 15 = .ok (.invokestatic 79, 3) := by decide +kernel
theorem dX6_deed_18 : decode cX6_deed 18 = .ok (.istore 4, 2) := by decide +kernel
theorem dX6_deed_20 : decode cX6_deed 20 = .ok (.iload 4, 2) := by decide +kernel
theorem dX6_deed_22 : decode cX6_deed 22 = .ok (.invokestatic 82, 3) := by decide +kernel
theorem dX6_deed_25 : decode cX6_deed 25 = .ok (.iload_n 1, 1) := by decide +kernel
theorem dX6_deed_26 : decode cX6_deed 26 = .ok (.invokestatic 82, 3) := by decide +kernel
theorem dX6_deed_29 : decode cX6_deed 29 = .ok (.if_icmp .ne 5, 3) := by decide +kernel
theorem dX6_deed_32 : decode cX6_deed 32 = .ok (.iconst 0, 1) := by decide +kernel
theorem dX6_deed_33 : decode cX6_deed 33 = .ok (.istore_n 2, 1) := by decide +kernel
theorem dX6_deed_34 : decode cX6_deed 34 = .ok (.iload 4, 2) := by decide +kernel
theorem dX6_deed_36 : decode cX6_deed 36 = .ok (.invokestatic 82, 3) := by decide +kernel
theorem dX6_deed_39 : decode cX6_deed 39 = .ok (.iload_n 1, 1) := by decide +kernel
theorem dX6_deed_40 : decode cX6_deed 40 = .ok (.invokestatic 82, 3) := by decide +kernel
theorem dX6_deed_43 : decode cX6_deed 43 = .ok (.if_icmp .gt 6, 3) := by decide +kernel
theorem dX6_deed_46 : decode cX6_deed 46 = .ok (.goto 8, 3) := by decide +kernel
theorem dX6_deed_49 : decode cX6_deed 49 = .ok (.iload 4, 2) := by decide +kernel
theorem dX6_deed_51 : decode cX6_deed 51 = .ok (.istore_n 1, 1) := by decide +kernel
theorem dX6_deed_52 : decode cX6_deed 52 = .ok (.iconst 1, 1) := by decide +kernel
theorem dX6_deed_53 : decode cX6_deed 53 = .ok (.istore_n 2, 1) := by decide +kernel
theorem dX6_deed_54 : decode cX6_deed 54 = .ok (.iload_n 3, 1) := by decide +kernel
theorem dX6_deed_55 : decode cX6_deed 55 = .ok (.iload_n 0, 1) := by decide +kernel
theorem dX6_deed_56 : decode cX6_deed 56 = .ok (.iload_n 3, 1) := by decide +kernel
theorem dX6_deed_57 : decode cX6_deed 57 = .ok (.invokestatic 76, 3) := by decide +kernel
theorem dX6_deed_60 : decode cX6_deed 60 = .ok (.invokestatic 79, 3) := by decide +kernel
theorem dX6_deed_63 : decode cX6_deed 63 = .ok (.iconst (-1), 1) := by decide +kernel
theorem dX6_deed_64 : decode cX6_deed 64 = .ok (.ixor, 1) := by decide +kernel
theorem dX6_deed_65 : decode cX6_deed 65 = .ok (.iand, 1) := by decide +kernel
theorem dX6_deed_66 : decode cX6_deed 66 = .ok (.istore_n 3, 1) := by decide +kernel
theorem dX6_deed_67 : decode cX6_deed 67 = .ok (.goto (-61), 3) := by decide +kernel
theorem dX6_deed_70 : decode cX6_deed 70 = .ok (.iload_n 2, 1) := by decide +kernel
theorem dX6_deed_71 : decode cX6_deed 71 = .ok (.ifCond .eq 7, 3) := by decide +kernel
theorem dX6_deed_74 : decode cX6_deed 74 = .ok (.iload_n 1, 1) := by decide +kernel
theorem dX6_deed_75 : decode cX6_deed 75 = .ok (.goto 4, 3) := by decide +kernel
theorem dX6_deed_78 : decode cX6_deed 78 = .ok (.iconst 0, 1) := by decide +kernel
theorem dX6_deed_79 : decode cX6_deed 79 = .ok (.ireturn, 1) := by decide +kernel
theorem dX6_most_0 : decode cX6_most 0 = .ok (.iload_n 0, 1) := by decide +kernel
theorem dX6_most_1 : decode cX6_most 1 = .ok (.iload_n 1, 1) := by decide +kernel
theorem dX6_most_2 : decode cX6_most 2 = .ok (.if_icmp .le 7, 3) := by decide +kernel
theorem dX6_most_5 : decode cX6_most 5 = .ok (.iload_n 0, 1) := by decide +kernel
theorem dX6_most_6 : decode cX6_most 6 = .ok (.goto 4, 3) := by decide +kernel
theorem dX6_most_9 : decode cX6_most 9 = .ok (.iload_n 1, 1) := by decide +kernel
theorem dX6_most_10 : decode cX6_most 10 = .ok (.ireturn, 1) := by decide +kernel
theorem dX6_shareBy_0 : decode cX6_shareBy 0 = .ok (.iload_n 0, 1) := by decide +kernel
theorem dX6_shareBy_1 : decode cX6_shareBy 1 = .ok (.invokestatic 85, 3) := by decide +kernel
theorem dX6_shareBy_4 : decode cX6_shareBy 4 = .ok (.istore_n 3, 1) := by decide +kernel
theorem dX6_shareBy_5 : decode cX6_shareBy 5 = .ok (.iload_n 3, 1) := by decide +kernel
theorem dX6_shareBy_6 : decode cX6_shareBy 6 = .ok (.ifCond .ne 14, 3) := by decide +kernel
theorem dX6_shareBy_9 : decode cX6_shareBy 9 = .ok (.iload_n 1, 1) := by decide +kernel
theorem dX6_shareBy_10 : decode cX6_shareBy 10 = .ok (.iconst 3, 1) := by decide +kernel
theorem dX6_shareBy_11 : decode cX6_shareBy 11 = .ok (.if_icmp .ne 7, 3) := by decide +kernel
theorem dX6_shareBy_14 : decode cX6_shareBy 14 = .ok (.iload_n 2, 1) := by decide +kernel
theorem dX6_shareBy_15 : decode cX6_shareBy 15 = .ok (.goto 4, 3) := by decide +kernel
theorem dX6_shareBy_18 : decode cX6_shareBy 18 = .ok (.iconst 0, 1) := by decide +kernel
theorem dX6_shareBy_19 : decode cX6_shareBy 19 = .ok (.ireturn, 1) := by decide +kernel
theorem dX6_shareBy_20 : decode cX6_shareBy 20 = .ok (.iconst 0, 1) := by decide +kernel
theorem dX6_shareBy_21 : decode cX6_shareBy 21 = .ok (.istore 4, 2) := by decide +kernel
theorem dX6_shareBy_23 : decode cX6_shareBy 23 = .ok (.iconst 0, 1) := by decide +kernel
theorem dX6_shareBy_24 : decode cX6_shareBy 24 = .ok (.istore 5, 2) := by decide +kernel
theorem dX6_shareBy_26 : decode cX6_shareBy 26 = .ok (.iload 5, 2) := by decide +kernel
theorem dX6_shareBy_28 : decode cX6_shareBy 28 = .ok (.iconst 5, 1) := by decide +kernel
theorem dX6_shareBy_29 : decode cX6_shareBy 29 = .ok (.if_icmp .ge 26, 3) := by decide +kernel
theorem dX6_shareBy_32 : decode cX6_shareBy 32 = .ok (.iload 4, 2) := by decide +kernel
theorem dX6_shareBy_34 : decode cX6_shareBy 34 = .ok (.iload_n 3, 1) := by decide +kernel
theorem dX6_shareBy_35 : decode cX6_shareBy 35 = .ok (.iconst 5, 1) := by decide +kernel
theorem dX6_shareBy_36 : decode cX6_shareBy 36 = .ok (.iload 5, 2) := by decide +kernel
theorem dX6_shareBy_38 : decode cX6_shareBy 38 = .ok (.imul, 1) := by decide +kernel
theorem dX6_shareBy_39 : decode cX6_shareBy 39 = .ok (.iload_n 2, 1) := by decide +kernel
theorem dX6_shareBy_40 : decode cX6_shareBy 40 = .ok (.iconst 5, 1) := by decide +kernel
theorem dX6_shareBy_41 : decode cX6_shareBy 41 = .ok (.irem, 1) := by decide +kernel
theorem dX6_shareBy_42 : decode cX6_shareBy 42 = .ok (.iadd, 1) := by decide +kernel
theorem dX6_shareBy_43 : decode cX6_shareBy 43 = .ok (.ishr, 1) := by decide +kernel
theorem dX6_shareBy_44 : decode cX6_shareBy 44 = .ok (.iconst 1, 1) := by decide +kernel
theorem dX6_shareBy_45 : decode cX6_shareBy 45 = .ok (.iand, 1) := by decide +kernel
theorem dX6_shareBy_46 : decode cX6_shareBy 46 = .ok (.iadd, 1) := by decide +kernel
theorem dX6_shareBy_47 : decode cX6_shareBy 47 = .ok (.istore 4, 2) := by decide +kernel
theorem dX6_shareBy_49 : decode cX6_shareBy 49 = .ok (.iinc 5 1, 3) := by decide +kernel
theorem dX6_shareBy_52 : decode cX6_shareBy 52 = .ok (.goto (-26), 3) := by decide +kernel
theorem dX6_shareBy_55 : decode cX6_shareBy 55 = .ok (.iload 4, 2) := by decide +kernel
theorem dX6_shareBy_57 : decode cX6_shareBy 57 = .ok (.iload_n 3, 1) := by decide +kernel
theorem dX6_shareBy_58 : decode cX6_shareBy 58 = .ok (.iconst 4, 1) := by decide +kernel
theorem dX6_shareBy_59 : decode cX6_shareBy 59 = .ok (.iand, 1) := by decide +kernel
theorem dX6_shareBy_60 : decode cX6_shareBy 60 = .ok (.ifCond .eq 7, 3) := by decide +kernel
theorem dX6_shareBy_63 : decode cX6_shareBy 63 = .ok (.iconst 5, 1) := by decide +kernel
theorem dX6_shareBy_64 : decode cX6_shareBy 64 = .ok (.goto 4, 3) := by decide +kernel
theorem dX6_shareBy_67 : decode cX6_shareBy 67 = .ok (.iconst 0, 1) := by decide +kernel
theorem dX6_shareBy_68 : decode cX6_shareBy 68 = .ok (.iadd, 1) := by decide +kernel
theorem dX6_shareBy_69 : decode cX6_shareBy 69 = .ok (.istore 5, 2) := by decide +kernel
theorem dX6_shareBy_71 : decode cX6_shareBy 71 = .ok (.iload 4, 2) := by decide +kernel
theorem dX6_shareBy_73 : decode cX6_shareBy 73 = .ok (.iconst 2, 1) := by decide +kernel
theorem dX6_shareBy_74 : decode cX6_shareBy 74 = .ok (.idiv, 1) := by decide +kernel
theorem dX6_shareBy_75 : decode cX6_shareBy 75 = .ok (.iconst 2, 1) := by decide +kernel
theorem dX6_shareBy_76 : decode cX6_shareBy 76 = .ok (.iload_n 3, 1) := by decide +kernel
theorem dX6_shareBy_77 : decode cX6_shareBy 77 = .ok (.sipush 14336, 3) := by decide +kernel
theorem dX6_shareBy_80 : decode cX6_shareBy 80 = .ok (.iand, 1) := by decide +kernel
theorem dX6_shareBy_81 : decode cX6_shareBy 81 = .ok (.invokestatic 82, 3) := by decide +kernel
theorem dX6_shareBy_84 : decode cX6_shareBy 84 = .ok (.imul, 1) := by decide +kernel
theorem dX6_shareBy_85 : decode cX6_shareBy 85 = .ok (.iadd, 1) := by decide +kernel
theorem dX6_shareBy_86 : decode cX6_shareBy 86 = .ok (.istore 6, 2) := by decide +kernel
theorem dX6_shareBy_88 : decode cX6_shareBy 88 = .ok (.iload_n 1, 1) := by decide +kernel
theorem dX6_shareBy_89 : decode cX6_shareBy 89 = .ok (.tableswitch 70 1 5 #[35, 38, 41, 46, 60], 35) := by decide +kernel
theorem dX6_shareBy_124 : decode cX6_shareBy 124 = .ok (.iload 5, 2) := by decide +kernel
theorem dX6_shareBy_126 : decode cX6_shareBy 126 = .ok (.ireturn, 1) := by decide +kernel
theorem dX6_shareBy_127 : decode cX6_shareBy 127 = .ok (.iload 6, 2) := by decide +kernel
theorem dX6_shareBy_129 : decode cX6_shareBy 129 = .ok (.ireturn, 1) := by decide +kernel
theorem dX6_shareBy_130 : decode cX6_shareBy 130 = .ok (.iload 5, 2) := by decide +kernel
theorem dX6_shareBy_132 : decode cX6_shareBy 132 = .ok (.iconst 3, 1) := by decide +kernel
theorem dX6_shareBy_133 : decode cX6_shareBy 133 = .ok (.idiv, 1) := by decide +kernel
theorem dX6_shareBy_134 : decode cX6_shareBy 134 = .ok (.ireturn, 1) := by decide +kernel
theorem dX6_shareBy_135 : decode cX6_shareBy 135 = .ok (.iconst 0, 1) := by decide +kernel
theorem dX6_shareBy_136 : decode cX6_shareBy 136 = .ok (.bipush 25, 2) := by decide +kernel
theorem dX6_shareBy_138 : decode cX6_shareBy 138 = .ok (.iload_n 0, 1) := by decide +kernel
theorem dX6_shareBy_139 : decode cX6_shareBy 139 = .ok (.invokestatic 82, 3) := by decide +kernel
theorem dX6_shareBy_142 : decode cX6_shareBy 142 = .ok (.isub, 1) := by decide +kernel
theorem dX6_shareBy_143 : decode cX6_shareBy 143 = .ok (.iload_n 2, 1) := by decide +kernel
theorem dX6_shareBy_144 : decode cX6_shareBy 144 = .ok (.isub, 1) := by decide +kernel
theorem dX6_shareBy_145 : decode cX6_shareBy 145 = .ok (.invokestatic 88, 3) := by decide +kernel
theorem dX6_shareBy_148 : decode cX6_shareBy 148 = .ok (.ireturn, 1) := by decide +kernel
theorem dX6_shareBy_149 : decode cX6_shareBy 149 = .ok (.iload 6, 2) := by decide +kernel
theorem dX6_shareBy_151 : decode cX6_shareBy 151 = .ok (.iload_n 0, 1) := by decide +kernel
theorem dX6_shareBy_152 : decode cX6_shareBy 152 = .ok (.invokestatic 91, 3) := by decide +kernel
theorem dX6_shareBy_155 : decode cX6_shareBy 155 = .ok (.iadd, 1) := by decide +kernel
theorem dX6_shareBy_156 : decode cX6_shareBy 156 = .ok (.iconst 1, 1) := by decide +kernel
theorem dX6_shareBy_157 : decode cX6_shareBy 157 = .ok (.isub, 1) := by decide +kernel
theorem dX6_shareBy_158 : decode cX6_shareBy 158 = .ok (.ireturn, 1) := by decide +kernel
theorem dX6_shareBy_159 : decode cX6_shareBy 159 = .ok (.iload 4, 2) := by decide +kernel
theorem dX6_shareBy_161 : decode cX6_shareBy 161 = .ok (.ireturn, 1) := by decide +kernel
theorem dX6_shareOf_0 : decode cX6_shareOf 0 = .ok (.iload_n 1, 1) := by decide +kernel
theorem dX6_shareOf_1 : decode cX6_shareOf 1 = .ok (.aload_n 0, 1) := by decide +kernel
theorem dX6_shareOf_2 : decode cX6_shareOf 2 = .ok (.getfield 14, 3) := by decide +kernel
theorem dX6_shareOf_5 : decode cX6_shareOf 5 = .ok (.iload_n 2, 1) := by decide +kernel
theorem dX6_shareOf_6 : decode cX6_shareOf 6 = .ok (.iaload, 1) := by decide +kernel
theorem dX6_shareOf_7 : decode cX6_shareOf 7 = .ok (.aload_n 0, 1) := by decide +kernel
theorem dX6_shareOf_8 : decode cX6_shareOf 8 = .ok (.getfield 18, 3) := by decide +kernel
theorem dX6_shareOf_11 : decode cX6_shareOf 11 = .ok (.iload_n 2, 1) := by decide +kernel
theorem dX6_shareOf_12 : decode cX6_shareOf 12 = .ok (.iaload, 1) := by decide +kernel
theorem dX6_shareOf_13 : decode cX6_shareOf 13 = .ok (.invokestatic 94, 3) := by decide +kernel
theorem dX6_shareOf_16 : decode cX6_shareOf 16 = .ok (.ireturn, 1) := by decide +kernel
theorem dX6_sharesOf_0 : decode cX6_sharesOf 0 = .ok (.iconst 0, 1) := by decide +kernel
theorem dX6_sharesOf_1 : decode cX6_sharesOf 1 = .ok (.istore_n 2, 1) := by decide +kernel
theorem dX6_sharesOf_2 : decode cX6_sharesOf 2 = .ok (.iconst 0, 1) := by decide +kernel
theorem dX6_sharesOf_3 : decode cX6_sharesOf 3 = .ok (.istore_n 3, 1) := by decide +kernel
theorem dX6_sharesOf_4 : decode cX6_sharesOf 4 = .ok (.iload_n 3, 1) := by decide +kernel
theorem dX6_sharesOf_5 : decode cX6_sharesOf 5 = .ok (.aload_n 0, 1) := by decide +kernel
theorem dX6_sharesOf_6 : decode cX6_sharesOf 6 = .ok (.getfield 62, 3) := by decide +kernel
theorem dX6_sharesOf_9 : decode cX6_sharesOf 9 = .ok (.if_icmp .ge 18, 3) := by decide +kernel
theorem dX6_sharesOf_12 : decode cX6_sharesOf 12 = .ok (.iload_n 2, 1) := by decide +kernel
theorem dX6_sharesOf_13 : decode cX6_sharesOf 13 = .ok (.aload_n 0, 1) := by decide +kernel
theorem dX6_sharesOf_14 : decode cX6_sharesOf 14 = .ok (.iload_n 1, 1) := by decide +kernel
theorem dX6_sharesOf_15 : decode cX6_sharesOf 15 = .ok (.iload_n 3, 1) := by decide +kernel
theorem dX6_sharesOf_16 : decode cX6_sharesOf 16 = .ok (.invokevirtual 98, 3) := by decide +kernel
theorem dX6_sharesOf_19 : decode cX6_sharesOf 19 = .ok (.iadd, 1) := by decide +kernel
theorem dX6_sharesOf_20 : decode cX6_sharesOf 20 = .ok (.istore_n 2, 1) := by decide +kernel
theorem dX6_sharesOf_21 : decode cX6_sharesOf 21 = .ok (.iinc 3 1, 3) := by decide +kernel
theorem dX6_sharesOf_24 : decode cX6_sharesOf 24 = .ok (.goto (-20), 3) := by decide +kernel
theorem dX6_sharesOf_27 : decode cX6_sharesOf 27 = .ok (.iload_n 2, 1) := by decide +kernel
theorem dX6_sharesOf_28 : decode cX6_sharesOf 28 = .ok (.ireturn, 1) := by decide +kernel
theorem dX6_turned_0 : decode cX6_turned 0 = .ok (.iconst 0, 1) := by decide +kernel
theorem dX6_turned_1 : decode cX6_turned 1 = .ok (.istore_n 1, 1) := by decide +kernel
theorem dX6_turned_2 : decode cX6_turned 2 = .ok (.iconst 0, 1) := by decide +kernel
theorem dX6_turned_3 : decode cX6_turned 3 = .ok (.istore_n 2, 1) := by decide +kernel
theorem dX6_turned_4 : decode cX6_turned 4 = .ok (.iload_n 2, 1) := by decide +kernel
theorem dX6_turned_5 : decode cX6_turned 5 = .ok (.bipush 25, 2) := by decide +kernel
theorem dX6_turned_7 : decode cX6_turned 7 = .ok (.if_icmp .ge 31, 3) := by decide +kernel
theorem dX6_turned_10 : decode cX6_turned 10 = .ok (.iload_n 1, 1) := by decide +kernel
theorem dX6_turned_11 : decode cX6_turned 11 = .ok (.iload_n 0, 1) := by decide +kernel
theorem dX6_turned_12 : decode cX6_turned 12 = .ok (.iload_n 2, 1) := by decide +kernel
theorem dX6_turned_13 : decode cX6_turned 13 = .ok (.ishr, 1) := by decide +kernel
theorem dX6_turned_14 : decode cX6_turned 14 = .ok (.iconst 1, 1) := by decide +kernel
theorem dX6_turned_15 : decode cX6_turned 15 = .ok (.iand, 1) := by decide +kernel
theorem dX6_turned_16 : decode cX6_turned 16 = .ok (.iconst 5, 1) := by decide +kernel
theorem dX6_turned_17 : decode cX6_turned 17 = .ok (.iload_n 2, 1) := by decide +kernel
theorem dX6_turned_18 : decode cX6_turned 18 = .ok (.iconst 5, 1) := by decide +kernel
theorem dX6_turned_19 : decode cX6_turned 19 = .ok (.irem, 1) := by decide +kernel
theorem dX6_turned_20 : decode cX6_turned 20 = .ok (.imul, 1) := by decide +kernel
theorem dX6_turned_21 : decode cX6_turned 21 = .ok (.iconst 5, 1) := by decide +kernel
theorem dX6_turned_22 : decode cX6_turned 22 = .ok (.iadd, 1) := by decide +kernel
theorem dX6_turned_23 : decode cX6_turned 23 = .ok (.iconst 1, 1) := by decide +kernel
theorem dX6_turned_24 : decode cX6_turned 24 = .ok (.isub, 1) := by decide +kernel
theorem dX6_turned_25 : decode cX6_turned 25 = .ok (.iload_n 2, 1) := by decide +kernel
theorem dX6_turned_26 : decode cX6_turned 26 = .ok (.iconst 5, 1) := by decide +kernel
theorem dX6_turned_27 : decode cX6_turned 27 = .ok (.idiv, 1) := by decide +kernel
theorem dX6_turned_28 : decode cX6_turned 28 = .ok (.isub, 1) := by decide +kernel
theorem dX6_turned_29 : decode cX6_turned 29 = .ok (.ishl, 1) := by decide +kernel
theorem dX6_turned_30 : decode cX6_turned 30 = .ok (.ior, 1) := by decide +kernel
theorem dX6_turned_31 : decode cX6_turned 31 = .ok (.istore_n 1, 1) := by decide +kernel
theorem dX6_turned_32 : decode cX6_turned 32 = .ok (.iinc 2 1, 3) := by decide +kernel
theorem dX6_turned_35 : decode cX6_turned 35 = .ok (.goto (-31), 3) := by decide +kernel
theorem dX6_turned_38 : decode cX6_turned 38 = .ok (.iload_n 1, 1) := by decide +kernel
theorem dX6_turned_39 : decode cX6_turned 39 = .ok (.ireturn, 1) := by decide +kernel
theorem dX6_turnedBy_0 : decode cX6_turnedBy 0 = .ok (.iload_n 0, 1) := by decide +kernel
theorem dX6_turnedBy_1 : decode cX6_turnedBy 1 = .ok (.istore_n 2, 1) := by decide +kernel
theorem dX6_turnedBy_2 : decode cX6_turnedBy 2 = .ok (.iconst 0, 1) := by decide +kernel
theorem dX6_turnedBy_3 : decode cX6_turnedBy 3 = .ok (.istore_n 3, 1) := by decide +kernel
theorem dX6_turnedBy_4 : decode cX6_turnedBy 4 = .ok (.iload_n 3, 1) := by decide +kernel
theorem dX6_turnedBy_5 : decode cX6_turnedBy 5 = .ok (.iload_n 1, 1) := by decide +kernel
theorem dX6_turnedBy_6 : decode cX6_turnedBy 6 = .ok (.if_icmp .ge 14, 3) := by decide +kernel
theorem dX6_turnedBy_9 : decode cX6_turnedBy 9 = .ok (.iload_n 2, 1) := by decide +kernel
theorem dX6_turnedBy_10 : decode cX6_turnedBy 10 = .ok (.invokestatic 101, 3) := by decide +kernel
theorem dX6_turnedBy_13 : decode cX6_turnedBy 13 = .ok (.istore_n 2, 1) := by decide +kernel
theorem dX6_turnedBy_14 : decode cX6_turnedBy 14 = .ok (.iinc 3 1, 3) := by decide +kernel
theorem dX6_turnedBy_17 : decode cX6_turnedBy 17 = .ok (.goto (-13), 3) := by decide +kernel
theorem dX6_turnedBy_20 : decode cX6_turnedBy 20 = .ok (.iload_n 2, 1) := by decide +kernel
theorem dX6_turnedBy_21 : decode cX6_turnedBy 21 = .ok (.ireturn, 1) := by decide +kernel
theorem dX6_letter_0 : decode cX6_letter 0 = .ok (.iload_n 1, 1) := by decide +kernel
theorem dX6_letter_1 : decode cX6_letter 1 = .ok (.ifCond .ge 10, 3) := by decide +kernel
theorem dX6_letter_4 : decode cX6_letter 4 = .ok (.aload_n 0, 1) := by decide +kernel
theorem dX6_letter_5 : decode cX6_letter 5 = .ok (.bipush (-4), 2) := by decide +kernel
theorem dX6_letter_7 : decode cX6_letter 7 = .ok (.invokevirtual 52, 3) := by decide +kernel
theorem dX6_letter_10 : decode cX6_letter 10 = .ok (.ireturn, 1) := by decide +kernel
theorem dX6_letter_11 : decode cX6_letter 11 = .ok (.iload_n 1, 1) := by decide +kernel
theorem dX6_letter_12 : decode cX6_letter 12 = .ok (.sipush 255, 3) := by decide +kernel
theorem dX6_letter_15 : decode cX6_letter 15 = .ok (.if_icmp .gt 12, 3) := by decide +kernel
theorem dX6_letter_18 : decode cX6_letter 18 = .ok (.aload_n 0, 1) := by decide +kernel
theorem dX6_letter_19 : decode cX6_letter 19 = .ok (.getfield 104, 3) := by decide +kernel
theorem dX6_letter_22 : decode cX6_letter 22 = .ok (.bipush 96, 2) := by decide +kernel
theorem dX6_letter_24 : decode cX6_letter 24 = .ok (.if_icmp .ne 10, 3) := by decide +kernel
theorem dX6_letter_27 : decode cX6_letter 27 = .ok (.aload_n 0, 1) := by decide +kernel
theorem dX6_letter_28 : decode cX6_letter 28 = .ok (.bipush (-6), 2) := by decide +kernel
theorem dX6_letter_30 : decode cX6_letter 30 = .ok (.invokevirtual 52, 3) := by decide +kernel
theorem dX6_letter_33 : decode cX6_letter 33 = .ok (.ireturn, 1) := by decide +kernel
theorem dX6_letter_34 : decode cX6_letter 34 = .ok (.aload_n 0, 1) := by decide +kernel
theorem dX6_letter_35 : decode cX6_letter 35 = .ok (.getfield 33, 3) := by decide +kernel
theorem dX6_letter_38 : decode cX6_letter 38 = .ok (.aload_n 0, 1) := by decide +kernel
theorem dX6_letter_39 : decode cX6_letter 39 = .ok (.getfield 104, 3) := by decide +kernel
theorem dX6_letter_42 : decode cX6_letter 42 = .ok (.iload_n 1, 1) := by decide +kernel
theorem dX6_letter_43 : decode cX6_letter 43 = .ok (.iastore, 1) := by decide +kernel
theorem dX6_letter_44 : decode cX6_letter 44 = .ok (.aload_n 0, 1) := by decide +kernel
theorem dX6_letter_45 : decode cX6_letter 45 = .ok (.dup, 1) := by decide +kernel
theorem dX6_letter_46 : decode cX6_letter 46 = .ok (.getfield 104, 3) := by decide +kernel
theorem dX6_letter_49 : decode cX6_letter 49 = .ok (.iconst 1, 1) := by decide +kernel
theorem dX6_letter_50 : decode cX6_letter 50 = .ok (.iadd, 1) := by decide +kernel
theorem dX6_letter_51 : decode cX6_letter 51 = .ok (.putfield 104, 3) := by decide +kernel
theorem dX6_letter_54 : decode cX6_letter 54 = .ok (.aload_n 0, 1) := by decide +kernel
theorem dX6_letter_55 : decode cX6_letter 55 = .ok (.getfield 104, 3) := by decide +kernel
theorem dX6_letter_58 : decode cX6_letter 58 = .ok (.ireturn, 1) := by decide +kernel
theorem dX6_here_0 : decode cX6_here 0 = .ok (.aload_n 0, 1) := by decide +kernel
theorem dX6_here_1 : decode cX6_here 1 = .ok (.getfield 107, 3) := by decide +kernel
theorem dX6_here_4 : decode cX6_here 4 = .ok (.aload_n 0, 1) := by decide +kernel
theorem dX6_here_5 : decode cX6_here 5 = .ok (.getfield 104, 3) := by decide +kernel
theorem dX6_here_8 : decode cX6_here 8 = .ok (.if_icmp .ge 15, 3) := by decide +kernel
theorem dX6_here_11 : decode cX6_here 11 = .ok (.aload_n 0, 1) := by decide +kernel
theorem dX6_here_12 : decode cX6_here 12 = .ok (.getfield 33, 3) := by decide +kernel
theorem dX6_here_15 : decode cX6_here 15 = .ok (.aload_n 0, 1) := by decide +kernel
theorem dX6_here_16 : decode cX6_here 16 = .ok (.getfield 107, 3) := by decide +kernel
theorem dX6_here_19 : decode cX6_here 19 = .ok (.iaload, 1) := by decide +kernel
theorem dX6_here_20 : decode cX6_here 20 = .ok (.goto 4, 3) := by decide +kernel
theorem dX6_here_23 : decode cX6_here 23 = .ok (.iconst (-1), 1) := by decide +kernel
theorem dX6_here_24 : decode cX6_here 24 = .ok (.ireturn, 1) := by decide +kernel
theorem dX6_readsNumber_0 : decode cX6_readsNumber 0 = .ok (.aload_n 0, 1) := by decide +kernel
theorem dX6_readsNumber_1 : decode cX6_readsNumber 1 = .ok (.getfield 42, 3) := by decide +kernel
theorem dX6_readsNumber_4 : decode cX6_readsNumber 4 = .ok (.iload_n 1, 1) := by decide +kernel
theorem dX6_readsNumber_5 : decode cX6_readsNumber 5 = .ok (.iconst 0, 1) := by decide +kernel
theorem dX6_readsNumber_6 : decode cX6_readsNumber 6 = .ok (.iastore, 1) := by decide +kernel
theorem dX6_readsNumber_7 : decode cX6_readsNumber 7 = .ok (.iconst 0, 1) := by decide +kernel
theorem dX6_readsNumber_8 : decode cX6_readsNumber 8 = .ok (.istore_n 3, 1) := by decide +kernel
theorem dX6_readsNumber_9 : decode cX6_readsNumber 9 = .ok (.iload_n 3, 1) := by decide +kernel
theorem dX6_readsNumber_10 : decode cX6_readsNumber 10 = .ok (.iload_n 2, 1) := by decide +kernel
theorem dX6_readsNumber_11 : decode cX6_readsNumber 11 = .ok (.if_icmp .ge 58, 3) := by decide +kernel
theorem dX6_readsNumber_14 : decode cX6_readsNumber 14 = .ok (.aload_n 0, 1) := by decide +kernel
theorem dX6_readsNumber_15 : decode cX6_readsNumber 15 = .ok (.invokevirtual 110, 3) := by decide +kernel
theorem dX6_readsNumber_18 : decode cX6_readsNumber 18 = .ok (.bipush 48, 2) := by decide +kernel
theorem dX6_readsNumber_20 : decode cX6_readsNumber 20 = .ok (.bipush 57, 2) := by decide +kernel
theorem dX6_readsNumber_22 : decode cX6_readsNumber 22 = .ok (.invokestatic 58, 3) := by decide +kernel
theorem dX6_readsNumber_25 : decode cX6_readsNumber 25 = .ok (.ifCond .ne 5, 3) := by decide +kernel
theorem dX6_readsNumber_28 : decode cX6_readsNumber 28 = .ok (.iconst 0, 1) := by decide +kernel
theorem dX6_readsNumber_29 : decode cX6_readsNumber 29 = .ok (.ireturn, 1) := by decide +kernel
theorem dX6_readsNumber_30 : decode cX6_readsNumber 30 = .ok (.aload_n 0, 1) := by decide +kernel
theorem dX6_readsNumber_31 : decode cX6_readsNumber 31 = .ok (.getfield 42, 3) := by decide +kernel
theorem dX6_readsNumber_34 : decode cX6_readsNumber 34 = .ok (.iload_n 1, 1) := by decide +kernel
theorem dX6_readsNumber_35 : decode cX6_readsNumber 35 = .ok (.bipush 10, 2) := by decide +kernel
theorem dX6_readsNumber_37 : decode cX6_readsNumber 37 = .ok (.aload_n 0, 1) := by decide +kernel
theorem dX6_readsNumber_38 : decode cX6_readsNumber 38 = .ok (.getfield 42, 3) := by decide +kernel
theorem dX6_readsNumber_41 : decode cX6_readsNumber 41 = .ok (.iload_n 1, 1) := by decide +kernel
theorem dX6_readsNumber_42 : decode cX6_readsNumber 42 = .ok (.iaload, 1) := by decide +kernel
theorem dX6_readsNumber_43 : decode cX6_readsNumber 43 = .ok (.imul, 1) := by decide +kernel
theorem dX6_readsNumber_44 : decode cX6_readsNumber 44 = .ok (.aload_n 0, 1) := by decide +kernel
theorem dX6_readsNumber_45 : decode cX6_readsNumber 45 = .ok (.invokevirtual 110, 3) := by decide +kernel
theorem dX6_readsNumber_48 : decode cX6_readsNumber 48 = .ok (.iadd, 1) := by decide +kernel
theorem dX6_readsNumber_49 : decode cX6_readsNumber 49 = .ok (.bipush 48, 2) := by decide +kernel
theorem dX6_readsNumber_51 : decode cX6_readsNumber 51 = .ok (.isub, 1) := by decide +kernel
theorem dX6_readsNumber_52 : decode cX6_readsNumber 52 = .ok (.iastore, 1) := by decide +kernel
theorem dX6_readsNumber_53 : decode cX6_readsNumber 53 = .ok (.aload_n 0, 1) := by decide +kernel
theorem dX6_readsNumber_54 : decode cX6_readsNumber 54 = .ok (.dup, 1) := by decide +kernel
theorem dX6_readsNumber_55 : decode cX6_readsNumber 55 = .ok (.getfield 107, 3) := by decide +kernel
theorem dX6_readsNumber_58 : decode cX6_readsNumber 58 = .ok (.iconst 1, 1) := by decide +kernel
theorem dX6_readsNumber_59 : decode cX6_readsNumber 59 = .ok (.iadd, 1) := by decide +kernel
theorem dX6_readsNumber_60 : decode cX6_readsNumber 60 = .ok (.putfield 107, 3) := by decide +kernel
theorem dX6_readsNumber_63 : decode cX6_readsNumber 63 = .ok (.iinc 3 1, 3) := by decide +kernel
theorem dX6_readsNumber_66 : decode cX6_readsNumber 66 = .ok (.goto (-57), 3) := by decide +kernel
theorem dX6_readsNumber_69 : decode cX6_readsNumber 69 = .ok (.iconst 1, 1) := by decide +kernel
theorem dX6_readsNumber_70 : decode cX6_readsNumber 70 = .ok (.ireturn, 1) := by decide +kernel
theorem dX6_kindBy_0 : decode cX6_kindBy 0 = .ok (.iload_n 0, 1) := by decide +kernel
theorem dX6_kindBy_1 : decode cX6_kindBy 1 = .ok (.tableswitch 103 101 119 #[93, 103, 103, 103, 103, 103, 101, 97, 103, 91, 103, 99, 103, 103, 103, 103, 103, 103, 95], 91) := by decide +kernel
theorem dX6_kindBy_92 : decode cX6_kindBy 92 = .ok (.iconst 0, 1) := by decide +kernel
theorem dX6_kindBy_93 : decode cX6_kindBy 93 = .ok (.ireturn, 1) := by decide +kernel
theorem dX6_kindBy_94 : decode cX6_kindBy 94 = .ok (.iconst 1, 1) := by decide +kernel
theorem dX6_kindBy_95 : decode cX6_kindBy 95 = .ok (.ireturn, 1) := by decide +kernel
theorem dX6_kindBy_96 : decode cX6_kindBy 96 = .ok (.iconst 2, 1) := by decide +kernel
theorem dX6_kindBy_97 : decode cX6_kindBy 97 = .ok (.ireturn, 1) := by decide +kernel
theorem dX6_kindBy_98 : decode cX6_kindBy 98 = .ok (.iconst 3, 1) := by decide +kernel
theorem dX6_kindBy_99 : decode cX6_kindBy 99 = .ok (.ireturn, 1) := by decide +kernel
theorem dX6_kindBy_100 : decode cX6_kindBy 100 = .ok (.iconst 4, 1) := by decide +kernel
theorem dX6_kindBy_101 : decode cX6_kindBy 101 = .ok (.ireturn, 1) := by decide +kernel
theorem dX6_kindBy_102 : decode cX6_kindBy 102 = .ok (.iconst 5, 1) := by decide +kernel
theorem dX6_kindBy_103 : decode cX6_kindBy 103 = .ok (.ireturn, 1) := by decide +kernel
theorem dX6_kindBy_104 : decode cX6_kindBy 104 = .ok (.bipush (-9), 2) := by decide +kernel
theorem dX6_kindBy_106 : decode cX6_kindBy 106 = .ok (.ireturn, 1) := by decide +kernel
theorem dX6_readsKind_0 : decode cX6_readsKind 0 = .ok (.aload_n 0, 1) := by decide +kernel
theorem dX6_readsKind_1 : decode cX6_readsKind 1 = .ok (.getfield 42, 3) := by decide +kernel
theorem dX6_readsKind_4 : decode cX6_readsKind 4 = .ok (.iconst 0, 1) := by decide +kernel
theorem dX6_readsKind_5 : decode cX6_readsKind 5 = .ok (.aload_n 0, 1) := by decide +kernel
theorem dX6_readsKind_6 : decode cX6_readsKind 6 = .ok (.invokevirtual 110, 3) := by decide +kernel
theorem dX6_readsKind_9 : decode cX6_readsKind 9 = .ok (.invokestatic 114, 3) := by decide +kernel
theorem dX6_readsKind_12 : decode cX6_readsKind 12 = .ok (.iastore, 1) := by decide +kernel
theorem dX6_readsKind_13 : decode cX6_readsKind 13 = .ok (.aload_n 0, 1) := by decide +kernel
theorem dX6_readsKind_14 : decode cX6_readsKind 14 = .ok (.dup, 1) := by decide +kernel
theorem dX6_readsKind_15 : decode cX6_readsKind 15 = .ok (.getfield 107, 3) := by decide +kernel
theorem dX6_readsKind_18 : decode cX6_readsKind 18 = .ok (.aload_n 0, 1) := by decide +kernel
theorem dX6_readsKind_19 : decode cX6_readsKind 19 = .ok (.getfield 42, 3) := by decide +kernel
theorem dX6_readsKind_22 : decode cX6_readsKind 22 = .ok (.iconst 0, 1) := by decide +kernel
theorem dX6_readsKind_23 : decode cX6_readsKind 23 = .ok (.iaload, 1) := by decide +kernel
theorem dX6_readsKind_24 : decode cX6_readsKind 24 = .ok (.ifCond .ge 7, 3) := by decide +kernel
theorem dX6_readsKind_27 : decode cX6_readsKind 27 = .ok (.iconst 0, 1) := by decide +kernel
theorem dX6_readsKind_28 : decode cX6_readsKind 28 = .ok (.goto 4, 3) := by decide +kernel
theorem dX6_readsKind_31 : decode cX6_readsKind 31 = .ok (.iconst 1, 1) := by decide +kernel
theorem dX6_readsKind_32 : decode cX6_readsKind 32 = .ok (.iadd, 1) := by decide +kernel
theorem dX6_readsKind_33 : decode cX6_readsKind 33 = .ok (.putfield 107, 3) := by decide +kernel
theorem dX6_readsKind_36 : decode cX6_readsKind 36 = .ok (.aload_n 0, 1) := by decide +kernel
theorem dX6_readsKind_37 : decode cX6_readsKind 37 = .ok (.getfield 42, 3) := by decide +kernel
theorem dX6_readsKind_40 : decode cX6_readsKind 40 = .ok (.iconst 0, 1) := by decide +kernel
theorem dX6_readsKind_41 : decode cX6_readsKind 41 = .ok (.iaload, 1) := by decide +kernel
theorem dX6_readsKind_42 : decode cX6_readsKind 42 = .ok (.ifCond .lt 7, 3) := by decide +kernel
theorem dX6_readsKind_45 : decode cX6_readsKind 45 = .ok (.iconst 1, 1) := by decide +kernel
theorem dX6_readsKind_46 : decode cX6_readsKind 46 = .ok (.goto 4, 3) := by decide +kernel
theorem dX6_readsKind_49 : decode cX6_readsKind 49 = .ok (.iconst 0, 1) := by decide +kernel
theorem dX6_readsKind_50 : decode cX6_readsKind 50 = .ok (.ireturn, 1) := by decide +kernel
theorem dX6_readsStatement_0 : decode cX6_readsStatement 0 = .ok (.aload_n 0, 1) := by decide +kernel
theorem dX6_readsStatement_1 : decode cX6_readsStatement 1 = .ok (.invokevirtual 110, 3) := by decide +kernel
theorem dX6_readsStatement_4 : decode cX6_readsStatement 4 = .ok (.istore_n 1, 1) := by decide +kernel
theorem dX6_readsStatement_5 : decode cX6_readsStatement 5 = .ok (.aload_n 0, 1) := by decide +kernel
theorem dX6_readsStatement_6 : decode cX6_readsStatement 6 = .ok (.dup, 1) := by decide +kernel
theorem dX6_readsStatement_7 : decode cX6_readsStatement 7 = .ok (.getfield 107, 3) := by decide +kernel
theorem dX6_readsStatement_10 : decode cX6_readsStatement 10 = .ok (.iconst 1, 1) := by decide +kernel
theorem dX6_readsStatement_11 : decode cX6_readsStatement 11 = .ok (.iadd, 1) := by decide +kernel
theorem dX6_readsStatement_12 : decode cX6_readsStatement 12 = .ok (.putfield 107, 3) := by decide +kernel
theorem dX6_readsStatement_15 : decode cX6_readsStatement 15 = .ok (.iload_n 1, 1) := by decide +kernel
theorem dX6_readsStatement_16 : decode cX6_readsStatement 16 = .ok (.lookupswitch 129 #[(98, 77), (104, 52), (108, 104), (110, 124), (114, 114)], 52) := by decide +kernel
theorem dX6_readsStatement_68 : decode cX6_readsStatement 68 = .ok (.aload_n 0, 1) := by decide +kernel
theorem dX6_readsStatement_69 : decode cX6_readsStatement 69 = .ok (.invokevirtual 117, 3) := by decide +kernel
theorem dX6_readsStatement_72 : decode cX6_readsStatement 72 = .ok (.ifCond .eq 16, 3) := by decide +kernel
theorem dX6_readsStatement_75 : decode cX6_readsStatement 75 = .ok (.aload_n 0, 1) := by decide +kernel
theorem dX6_readsStatement_76 : decode cX6_readsStatement 76 = .ok (.iconst 1, 1) := by decide +kernel
theorem dX6_readsStatement_77 : decode cX6_readsStatement 77 = .ok (.iconst 1, 1) := by decide +kernel
theorem dX6_readsStatement_78 : decode cX6_readsStatement 78 = .ok (.invokevirtual 121, 3) := by decide +kernel
theorem dX6_readsStatement_81 : decode cX6_readsStatement 81 = .ok (.ifCond .eq 7, 3) := by decide +kernel
theorem dX6_readsStatement_84 : decode cX6_readsStatement 84 = .ok (.iconst 1, 1) := by decide +kernel
theorem dX6_readsStatement_85 : decode cX6_readsStatement 85 = .ok (.goto 4, 3) := by decide +kernel
theorem dX6_readsStatement_88 : decode cX6_readsStatement 88 = .ok (.iconst 0, 1) := by decide +kernel
theorem dX6_readsStatement_89 : decode cX6_readsStatement 89 = .ok (.istore_n 2, 1) := by decide +kernel
theorem dX6_readsStatement_90 : decode cX6_readsStatement 90 = .ok (.goto 67, 3) := by decide +kernel
theorem dX6_readsStatement_93 : decode cX6_readsStatement 93 = .ok (.aload_n 0, 1) := by decide +kernel
theorem dX6_readsStatement_94 : decode cX6_readsStatement 94 = .ok (.iconst 0, 1) := by decide +kernel
theorem dX6_readsStatement_95 : decode cX6_readsStatement 95 = .ok (.iconst 1, 1) := by decide +kernel
theorem dX6_readsStatement_96 : decode cX6_readsStatement 96 = .ok (.invokevirtual 121, 3) := by decide +kernel
theorem dX6_readsStatement_99 : decode cX6_readsStatement 99 = .ok (.ifCond .eq 16, 3) := by decide +kernel
theorem dX6_readsStatement_102 : decode cX6_readsStatement 102 = .ok (.aload_n 0, 1) := by decide +kernel
theorem dX6_readsStatement_103 : decode cX6_readsStatement 103 = .ok (.iconst 1, 1) := by decide +kernel
theorem dX6_readsStatement_104 : decode cX6_readsStatement 104 = .ok (.iconst 2, 1) := by decide +kernel
theorem dX6_readsStatement_105 : decode cX6_readsStatement 105 = .ok (.invokevirtual 121, 3) := by decide +kernel
theorem dX6_readsStatement_108 : decode cX6_readsStatement 108 = .ok (.ifCond .eq 7, 3) := by decide +kernel
theorem dX6_readsStatement_111 : decode cX6_readsStatement 111 = .ok (.iconst 1, 1) := by decide +kernel
theorem dX6_readsStatement_112 : decode cX6_readsStatement 112 = .ok (.goto 4, 3) := by decide +kernel
theorem dX6_readsStatement_115 : decode cX6_readsStatement 115 = .ok (.iconst 0, 1) := by decide +kernel
theorem dX6_readsStatement_116 : decode cX6_readsStatement 116 = .ok (.istore_n 2, 1) := by decide +kernel
theorem dX6_readsStatement_117 : decode cX6_readsStatement 117 = .ok (.goto 40, 3) := by decide +kernel
theorem dX6_readsStatement_120 : decode cX6_readsStatement 120 = .ok (.aload_n 0, 1) := by decide +kernel
theorem dX6_readsStatement_121 : decode cX6_readsStatement 121 = .ok (.iconst 0, 1) := by decide +kernel
theorem dX6_readsStatement_122 : decode cX6_readsStatement 122 = .ok (.iconst 2, 1) := by decide +kernel
theorem dX6_readsStatement_123 : decode cX6_readsStatement 123 = .ok (.invokevirtual 121, 3) := by decide +kernel
theorem dX6_readsStatement_126 : decode cX6_readsStatement 126 = .ok (.istore_n 2, 1) := by decide +kernel
theorem dX6_readsStatement_127 : decode cX6_readsStatement 127 = .ok (.goto 30, 3) := by decide +kernel
theorem dX6_readsStatement_130 : decode cX6_readsStatement 130 = .ok (.aload_n 0, 1) := by decide +kernel
theorem dX6_readsStatement_131 : decode cX6_readsStatement 131 = .ok (.iconst 0, 1) := by decide +kernel
theorem dX6_readsStatement_132 : decode cX6_readsStatement 132 = .ok (.iconst 1, 1) := by decide +kernel
theorem dX6_readsStatement_133 : decode cX6_readsStatement 133 = .ok (.invokevirtual 121, 3) := by decide +kernel
theorem dX6_readsStatement_136 : decode cX6_readsStatement 136 = .ok (.istore_n 2, 1) := by decide +kernel
theorem dX6_readsStatement_137 : decode cX6_readsStatement 137 = .ok (.goto 20, 3) := by decide +kernel
theorem dX6_readsStatement_140 : decode cX6_readsStatement 140 = .ok (.iconst 1, 1) := by decide +kernel
theorem dX6_readsStatement_141 : decode cX6_readsStatement 141 = .ok (.istore_n 2, 1) := by decide +kernel
theorem dX6_readsStatement_142 : decode cX6_readsStatement 142 = .ok (.goto 15, 3) := by decide +kernel
theorem dX6_readsStatement_145 : decode cX6_readsStatement 145 = .ok (.aload_n 0, 1) := by decide +kernel
theorem dX6_readsStatement_146 : decode cX6_readsStatement 146 = .ok (.dup, 1) := by decide +kernel
theorem dX6_readsStatement_147 : decode cX6_readsStatement 147 = .ok (.getfield 107, 3) := by decide +kernel
theorem dX6_readsStatement_150 : decode cX6_readsStatement 150 = .ok (.iconst 1, 1) := by decide +kernel
theorem dX6_readsStatement_151 : decode cX6_readsStatement 151 = .ok (.isub, 1) := by decide +kernel
theorem dX6_readsStatement_152 : decode cX6_readsStatement 152 = .ok (.putfield 107, 3) := by decide +kernel
theorem dX6_readsStatement_155 : decode cX6_readsStatement 155 = .ok (.iconst 0, 1) := by decide +kernel
theorem dX6_readsStatement_156 : decode cX6_readsStatement 156 = .ok (.ireturn, 1) := by decide +kernel
theorem dX6_readsStatement_157 : decode cX6_readsStatement 157 = .ok (.iload_n 2, 1) := by decide +kernel
theorem dX6_readsStatement_158 : decode cX6_readsStatement 158 = .ok (.ifCond .eq 12, 3) := by decide +kernel
theorem dX6_readsStatement_161 : decode cX6_readsStatement 161 = .ok (.aload_n 0, 1) := by decide +kernel
theorem dX6_readsStatement_162 : decode cX6_readsStatement 162 = .ok (.invokevirtual 110, 3) := by decide +kernel
theorem dX6_readsStatement_165 : decode cX6_readsStatement 165 = .ok (.bipush 59, 2) := by decide +kernel
theorem dX6_readsStatement_167 : decode cX6_readsStatement 167 = .ok (.if_icmp .eq 5, 3) := by decide +kernel
theorem dX6_readsStatement_170 : decode cX6_readsStatement 170 = .ok (.iconst 0, 1) := by decide +kernel
theorem dX6_readsStatement_171 : decode cX6_readsStatement 171 = .ok (.ireturn, 1) := by decide +kernel
theorem dX6_readsStatement_172 : decode cX6_readsStatement 172 = .ok (.aload_n 0, 1) := by decide +kernel
theorem dX6_readsStatement_173 : decode cX6_readsStatement 173 = .ok (.dup, 1) := by decide +kernel
theorem dX6_readsStatement_174 : decode cX6_readsStatement 174 = .ok (.getfield 107, 3) := by decide +kernel
theorem dX6_readsStatement_177 : decode cX6_readsStatement 177 = .ok (.iconst 1, 1) := by decide +kernel
theorem dX6_readsStatement_178 : decode cX6_readsStatement 178 = .ok (.iadd, 1) := by decide +kernel
theorem dX6_readsStatement_179 : decode cX6_readsStatement 179 = .ok (.putfield 107, 3) := by decide +kernel
theorem dX6_readsStatement_182 : decode cX6_readsStatement 182 = .ok (.iconst 1, 1) := by decide +kernel
theorem dX6_readsStatement_183 : decode cX6_readsStatement 183 = .ok (.ireturn, 1) := by decide +kernel
theorem dX6_bitesOff_0 : decode cX6_bitesOff 0 = .ok (.aload_n 0, 1) := by decide +kernel
theorem dX6_bitesOff_1 : decode cX6_bitesOff 1 = .ok (.dup, 1) := by decide +kernel
theorem dX6_bitesOff_2 : decode cX6_bitesOff 2 = .ok (.getfield 10, 3) := by decide +kernel
theorem dX6_bitesOff_5 : decode cX6_bitesOff 5 = .ok (.iload_n 1, 1) := by decide +kernel
theorem dX6_bitesOff_6 : decode cX6_bitesOff 6 = .ok (.iconst (-1), 1) := by decide +kernel
theorem dX6_bitesOff_7 : decode cX6_bitesOff 7 = .ok (.ixor, 1) := by decide +kernel
theorem dX6_bitesOff_8 : decode cX6_bitesOff 8 = .ok (.iand, 1) := by decide +kernel
theorem dX6_bitesOff_9 : decode cX6_bitesOff 9 = .ok (.putfield 10, 3) := by decide +kernel
theorem dX6_bitesOff_12 : decode cX6_bitesOff 12 = .ok (.aload_n 0, 1) := by decide +kernel
theorem dX6_bitesOff_13 : decode cX6_bitesOff 13 = .ok (.sipush 999, 3) := by decide +kernel
theorem dX6_bitesOff_16 : decode cX6_bitesOff 16 = .ok (.aload_n 0, 1) := by decide +kernel
theorem dX6_bitesOff_17 : decode cX6_bitesOff 17 = .ok (.getfield 124, 3) := by decide +kernel
theorem dX6_bitesOff_20 : decode cX6_bitesOff 20 = .ok (.iconst 1, 1) := by decide +kernel
theorem dX6_bitesOff_21 : decode cX6_bitesOff 21 = .ok (.iadd, 1) := by decide +kernel
theorem dX6_bitesOff_22 : decode cX6_bitesOff 22 = .ok (.invokestatic 127, 3) := by decide +kernel
theorem dX6_bitesOff_25 : decode cX6_bitesOff 25 = .ok (.putfield 124, 3) := by decide +kernel
theorem dX6_bitesOff_28 : decode cX6_bitesOff 28 = .ok (.return_, 1) := by decide +kernel
theorem dX6_allAgain_0 : decode cX6_allAgain 0 = .ok (.aload_n 0, 1) := by decide +kernel
theorem dX6_allAgain_1 : decode cX6_allAgain 1 = .ok (.ldc 9, 2) := by decide +kernel
theorem dX6_allAgain_3 : decode cX6_allAgain 3 = .ok (.putfield 10, 3) := by decide +kernel
theorem dX6_allAgain_6 : decode cX6_allAgain 6 = .ok (.aload_n 0, 1) := by decide +kernel
theorem dX6_allAgain_7 : decode cX6_allAgain 7 = .ok (.iconst 0, 1) := by decide +kernel
theorem dX6_allAgain_8 : decode cX6_allAgain 8 = .ok (.putfield 124, 3) := by decide +kernel
theorem dX6_allAgain_11 : decode cX6_allAgain 11 = .ok (.return_, 1) := by decide +kernel
theorem dX6_isDone_0 : decode cX6_isDone 0 = .ok (.aload_n 0, 1) := by decide +kernel
theorem dX6_isDone_1 : decode cX6_isDone 1 = .ok (.getfield 42, 3) := by decide +kernel
theorem dX6_isDone_4 : decode cX6_isDone 4 = .ok (.iconst 0, 1) := by decide +kernel
theorem dX6_isDone_5 : decode cX6_isDone 5 = .ok (.iaload, 1) := by decide +kernel
theorem dX6_isDone_6 : decode cX6_isDone 6 = .ok (.istore_n 2, 1) := by decide +kernel
theorem dX6_isDone_7 : decode cX6_isDone 7 = .ok (.aload_n 0, 1) := by decide +kernel
theorem dX6_isDone_8 : decode cX6_isDone 8 = .ok (.getfield 42, 3) := by decide +kernel
theorem dX6_isDone_11 : decode cX6_isDone 11 = .ok (.iconst 1, 1) := by decide +kernel
theorem dX6_isDone_12 : decode cX6_isDone 12 = .ok (.iaload, 1) := by decide +kernel
theorem dX6_isDone_13 : decode cX6_isDone 13 = .ok (.istore_n 3, 1) := by decide +kernel
theorem dX6_isDone_14 : decode cX6_isDone 14 = .ok (.iload_n 1, 1) := by decide +kernel
theorem dX6_isDone_15 : decode cX6_isDone 15 = .ok (.lookupswitch 168 #[(98, 83), (104, 41), (108, 120), (114, 143)], 41) := by decide +kernel
theorem dX6_isDone_56 : decode cX6_isDone 56 = .ok (.aload_n 0, 1) := by decide +kernel
theorem dX6_isDone_57 : decode cX6_isDone 57 = .ok (.getfield 62, 3) := by decide +kernel
theorem dX6_isDone_60 : decode cX6_isDone 60 = .ok (.iconst 5, 1) := by decide +kernel
theorem dX6_isDone_61 : decode cX6_isDone 61 = .ok (.if_icmp .ne 5, 3) := by decide +kernel
theorem dX6_isDone_64 : decode cX6_isDone 64 = .ok (.iconst 0, 1) := by decide +kernel
theorem dX6_isDone_65 : decode cX6_isDone 65 = .ok (.ireturn, 1) := by decide +kernel
theorem dX6_isDone_66 : decode cX6_isDone 66 = .ok (.aload_n 0, 1) := by decide +kernel
theorem dX6_isDone_67 : decode cX6_isDone 67 = .ok (.getfield 14, 3) := by decide +kernel
theorem dX6_isDone_70 : decode cX6_isDone 70 = .ok (.aload_n 0, 1) := by decide +kernel
theorem dX6_isDone_71 : decode cX6_isDone 71 = .ok (.getfield 62, 3) := by decide +kernel
theorem dX6_isDone_74 : decode cX6_isDone 74 = .ok (.iload_n 2, 1) := by decide +kernel
theorem dX6_isDone_75 : decode cX6_isDone 75 = .ok (.iastore, 1) := by decide +kernel
theorem dX6_isDone_76 : decode cX6_isDone 76 = .ok (.aload_n 0, 1) := by decide +kernel
theorem dX6_isDone_77 : decode cX6_isDone 77 = .ok (.getfield 18, 3) := by decide +kernel
theorem dX6_isDone_80 : decode cX6_isDone 80 = .ok (.aload_n 0, 1) := by decide +kernel
theorem dX6_isDone_81 : decode cX6_isDone 81 = .ok (.getfield 62, 3) := by decide +kernel
theorem dX6_isDone_84 : decode cX6_isDone 84 = .ok (.iload_n 3, 1) := by decide +kernel
theorem dX6_isDone_85 : decode cX6_isDone 85 = .ok (.iastore, 1) := by decide +kernel
theorem dX6_isDone_86 : decode cX6_isDone 86 = .ok (.aload_n 0, 1) := by decide +kernel
theorem dX6_isDone_87 : decode cX6_isDone 87 = .ok (.dup, 1) := by decide +kernel
theorem dX6_isDone_88 : decode cX6_isDone 88 = .ok (.getfield 62, 3) := by decide +kernel
theorem dX6_isDone_91 : decode cX6_isDone 91 = .ok (.iconst 1, 1) := by decide +kernel
theorem dX6_isDone_92 : decode cX6_isDone 92 = .ok (.iadd, 1) := by decide +kernel
theorem dX6_isDone_93 : decode cX6_isDone 93 = .ok (.putfield 62, 3) := by decide +kernel
theorem dX6_isDone_96 : decode cX6_isDone 96 = .ok (.iconst 1, 1) := by decide +kernel
theorem dX6_isDone_97 : decode cX6_isDone 97 = .ok (.ireturn, 1) := by decide +kernel
theorem dX6_isDone_98 : decode cX6_isDone 98 = .ok (.iload_n 2, 1) := by decide +kernel
theorem dX6_isDone_99 : decode cX6_isDone 99 = .ok (.iconst 4, 1) := by decide +kernel
theorem dX6_isDone_100 : decode cX6_isDone 100 = .ok (.if_icmp .ge 22, 3) := by decide +kernel
theorem dX6_isDone_103 : decode cX6_isDone 103 = .ok (.iload_n 3, 1) := by decide +kernel
theorem dX6_isDone_104 : decode cX6_isDone 104 = .ok (.invokestatic 130, 3) := by decide +kernel
theorem dX6_isDone_107 : decode cX6_isDone 107 = .ok (.ifCond .eq 15, 3) := by decide +kernel
theorem dX6_isDone_110 : decode cX6_isDone 110 = .ok (.aload_n 0, 1) := by decide +kernel
theorem dX6_isDone_111 : decode cX6_isDone 111 = .ok (.getfield 10, 3) := by decide +kernel
theorem dX6_isDone_114 : decode cX6_isDone 114 = .ok (.iload_n 2, 1) := by decide +kernel
theorem dX6_isDone_115 : decode cX6_isDone 115 = .ok (.iload_n 3, 1) := by decide +kernel
theorem dX6_isDone_116 : decode cX6_isDone 116 = .ok (.invokestatic 134, 3) := by decide +kernel
theorem dX6_isDone_119 : decode cX6_isDone 119 = .ok (.ifCond .ne 5, 3) := by decide +kernel
theorem dX6_isDone_122 : decode cX6_isDone 122 = .ok (.iconst 0, 1) := by decide +kernel
theorem dX6_isDone_123 : decode cX6_isDone 123 = .ok (.ireturn, 1) := by decide +kernel
theorem dX6_isDone_124 : decode cX6_isDone 124 = .ok (.aload_n 0, 1) := by decide +kernel
theorem dX6_isDone_125 : decode cX6_isDone 125 = .ok (.iload_n 2, 1) := by decide +kernel
theorem dX6_isDone_126 : decode cX6_isDone 126 = .ok (.iload_n 3, 1) := by decide +kernel
theorem dX6_isDone_127 : decode cX6_isDone 127 = .ok (.invokestatic 65, 3) := by decide +kernel
theorem dX6_isDone_130 : decode cX6_isDone 130 = .ok (.invokevirtual 137, 3) := by decide +kernel
theorem dX6_isDone_133 : decode cX6_isDone 133 = .ok (.iconst 1, 1) := by decide +kernel
theorem dX6_isDone_134 : decode cX6_isDone 134 = .ok (.ireturn, 1) := by decide +kernel
theorem dX6_isDone_135 : decode cX6_isDone 135 = .ok (.iload_n 2, 1) := by decide +kernel
theorem dX6_isDone_136 : decode cX6_isDone 136 = .ok (.invokestatic 130, 3) := by decide +kernel
theorem dX6_isDone_139 : decode cX6_isDone 139 = .ok (.ifCond .ne 5, 3) := by decide +kernel
theorem dX6_isDone_142 : decode cX6_isDone 142 = .ok (.iconst 0, 1) := by decide +kernel
theorem dX6_isDone_143 : decode cX6_isDone 143 = .ok (.ireturn, 1) := by decide +kernel
theorem dX6_isDone_144 : decode cX6_isDone 144 = .ok (.aload_n 0, 1) := by decide +kernel
theorem dX6_isDone_145 : decode cX6_isDone 145 = .ok (.dup, 1) := by decide +kernel
theorem dX6_isDone_146 : decode cX6_isDone 146 = .ok (.getfield 10, 3) := by decide +kernel
theorem dX6_isDone_149 : decode cX6_isDone 149 = .ok (.iconst 1, 1) := by decide +kernel
theorem dX6_isDone_150 : decode cX6_isDone 150 = .ok (.iload_n 2, 1) := by decide +kernel
theorem dX6_isDone_151 : decode cX6_isDone 151 = .ok (.ishl, 1) := by decide +kernel
theorem dX6_isDone_152 : decode cX6_isDone 152 = .ok (.ior, 1) := by decide +kernel
theorem dX6_isDone_153 : decode cX6_isDone 153 = .ok (.putfield 10, 3) := by decide +kernel
theorem dX6_isDone_156 : decode cX6_isDone 156 = .ok (.iconst 1, 1) := by decide +kernel
theorem dX6_isDone_157 : decode cX6_isDone 157 = .ok (.ireturn, 1) := by decide +kernel
theorem dX6_isDone_158 : decode cX6_isDone 158 = .ok (.iload_n 2, 1) := by decide +kernel
theorem dX6_isDone_159 : decode cX6_isDone 159 = .ok (.iconst 1, 1) := by decide +kernel
theorem dX6_isDone_160 : decode cX6_isDone 160 = .ok (.iconst 3, 1) := by decide +kernel
theorem dX6_isDone_161 : decode cX6_isDone 161 = .ok (.invokestatic 58, 3) := by decide +kernel
theorem dX6_isDone_164 : decode cX6_isDone 164 = .ok (.ifCond .ne 5, 3) := by decide +kernel
theorem dX6_isDone_167 : decode cX6_isDone 167 = .ok (.iconst 0, 1) := by decide +kernel
theorem dX6_isDone_168 : decode cX6_isDone 168 = .ok (.ireturn, 1) := by decide +kernel
theorem dX6_isDone_169 : decode cX6_isDone 169 = .ok (.aload_n 0, 1) := by decide +kernel
theorem dX6_isDone_170 : decode cX6_isDone 170 = .ok (.aload_n 0, 1) := by decide +kernel
theorem dX6_isDone_171 : decode cX6_isDone 171 = .ok (.getfield 10, 3) := by decide +kernel
theorem dX6_isDone_174 : decode cX6_isDone 174 = .ok (.iload_n 2, 1) := by decide +kernel
theorem dX6_isDone_175 : decode cX6_isDone 175 = .ok (.invokestatic 141, 3) := by decide +kernel
theorem dX6_isDone_178 : decode cX6_isDone 178 = .ok (.putfield 10, 3) := by decide +kernel
theorem dX6_isDone_181 : decode cX6_isDone 181 = .ok (.iconst 1, 1) := by decide +kernel
theorem dX6_isDone_182 : decode cX6_isDone 182 = .ok (.ireturn, 1) := by decide +kernel
theorem dX6_isDone_183 : decode cX6_isDone 183 = .ok (.aload_n 0, 1) := by decide +kernel
theorem dX6_isDone_184 : decode cX6_isDone 184 = .ok (.invokevirtual 144, 3) := by decide +kernel
theorem dX6_isDone_187 : decode cX6_isDone 187 = .ok (.iconst 1, 1) := by decide +kernel
theorem dX6_isDone_188 : decode cX6_isDone 188 = .ok (.ireturn, 1) := by decide +kernel
theorem dX6_lays_0 : decode cX6_lays 0 = .ok (.aload_n 0, 1) := by decide +kernel
theorem dX6_lays_1 : decode cX6_lays 1 = .ok (.aload_n 0, 1) := by decide +kernel
theorem dX6_lays_2 : decode cX6_lays 2 = .ok (.getfield 10, 3) := by decide +kernel
theorem dX6_lays_5 : decode cX6_lays 5 = .ok (.putfield 147, 3) := by decide +kernel
theorem dX6_lays_8 : decode cX6_lays 8 = .ok (.aload_n 0, 1) := by decide +kernel
theorem dX6_lays_9 : decode cX6_lays 9 = .ok (.aload_n 0, 1) := by decide +kernel
theorem dX6_lays_10 : decode cX6_lays 10 = .ok (.getfield 124, 3) := by decide +kernel
theorem dX6_lays_13 : decode cX6_lays 13 = .ok (.putfield 150, 3) := by decide +kernel
theorem dX6_lays_16 : decode cX6_lays 16 = .ok (.aload_n 0, 1) := by decide +kernel
theorem dX6_lays_17 : decode cX6_lays 17 = .ok (.aload_n 0, 1) := by decide +kernel
theorem dX6_lays_18 : decode cX6_lays 18 = .ok (.getfield 62, 3) := by decide +kernel
theorem dX6_lays_21 : decode cX6_lays 21 = .ok (.putfield 153, 3) := by decide +kernel
theorem dX6_lays_24 : decode cX6_lays 24 = .ok (.iconst 0, 1) := by decide +kernel
theorem dX6_lays_25 : decode cX6_lays 25 = .ok (.istore_n 1, 1) := by decide +kernel
theorem dX6_lays_26 : decode cX6_lays 26 = .ok (.iload_n 1, 1) := by decide +kernel
theorem dX6_lays_27 : decode cX6_lays 27 = .ok (.iconst 5, 1) := by decide +kernel
theorem dX6_lays_28 : decode cX6_lays 28 = .ok (.if_icmp .ge 33, 3) := by decide +kernel
theorem dX6_lays_31 : decode cX6_lays 31 = .ok (.aload_n 0, 1) := by decide +kernel
theorem dX6_lays_32 : decode cX6_lays 32 = .ok (.getfield 27, 3) := by decide +kernel
theorem dX6_lays_35 : decode cX6_lays 35 = .ok (.iload_n 1, 1) := by decide +kernel
theorem dX6_lays_36 : decode cX6_lays 36 = .ok (.aload_n 0, 1) := by decide +kernel
theorem dX6_lays_37 : decode cX6_lays 37 = .ok (.getfield 14, 3) := by decide +kernel
theorem dX6_lays_40 : decode cX6_lays 40 = .ok (.iload_n 1, 1) := by decide +kernel
theorem dX6_lays_41 : decode cX6_lays 41 = .ok (.iaload, 1) := by decide +kernel
theorem dX6_lays_42 : decode cX6_lays 42 = .ok (.iastore, 1) := by decide +kernel
theorem dX6_lays_43 : decode cX6_lays 43 = .ok (.aload_n 0, 1) := by decide +kernel
theorem dX6_lays_44 : decode cX6_lays 44 = .ok (.getfield 30, 3) := by decide +kernel
theorem dX6_lays_47 : decode cX6_lays 47 = .ok (.iload_n 1, 1) := by decide +kernel
theorem dX6_lays_48 : decode cX6_lays 48 = .ok (.aload_n 0, 1) := by decide +kernel
theorem dX6_lays_49 : decode cX6_lays 49 = .ok (.getfield 18, 3) := by decide +kernel
theorem dX6_lays_52 : decode cX6_lays 52 = .ok (.iload_n 1, 1) := by decide +kernel
theorem dX6_lays_53 : decode cX6_lays 53 = .ok (.iaload, 1) := by decide +kernel
theorem dX6_lays_54 : decode cX6_lays 54 = .ok (.iastore, 1) := by decide +kernel
theorem dX6_lays_55 : decode cX6_lays 55 = .ok (.iinc 1 1, 3) := by decide +kernel
theorem dX6_lays_58 : decode cX6_lays 58 = .ok (.goto (-32), 3) := by decide +kernel
theorem dX6_lays_61 : decode cX6_lays 61 = .ok (.return_, 1) := by decide +kernel
theorem dX6_laysBack_0 : decode cX6_laysBack 0 = .ok (.aload_n 0, 1) := by decide +kernel
theorem dX6_laysBack_1 : decode cX6_laysBack 1 = .ok (.aload_n 0, 1) := by decide +kernel
theorem dX6_laysBack_2 : decode cX6_laysBack 2 = .ok (.getfield 147, 3) := by decide +kernel
theorem dX6_laysBack_5 : decode cX6_laysBack 5 = .ok (.putfield 10, 3) := by decide +kernel
theorem dX6_laysBack_8 : decode cX6_laysBack 8 = .ok (.aload_n 0, 1) := by decide +kernel
theorem dX6_laysBack_9 : decode cX6_laysBack 9 = .ok (.aload_n 0, 1) := by decide +kernel
theorem dX6_laysBack_10 : decode cX6_laysBack 10 = .ok (.getfield 150, 3) := by decide +kernel
theorem dX6_laysBack_13 : decode cX6_laysBack 13 = .ok (.putfield 124, 3) := by decide +kernel
theorem dX6_laysBack_16 : decode cX6_laysBack 16 = .ok (.aload_n 0, 1) := by decide +kernel
theorem dX6_laysBack_17 : decode cX6_laysBack 17 = .ok (.aload_n 0, 1) := by decide +kernel
theorem dX6_laysBack_18 : decode cX6_laysBack 18 = .ok (.getfield 153, 3) := by decide +kernel
theorem dX6_laysBack_21 : decode cX6_laysBack 21 = .ok (.putfield 62, 3) := by decide +kernel
theorem dX6_laysBack_24 : decode cX6_laysBack 24 = .ok (.iconst 0, 1) := by decide +kernel
theorem dX6_laysBack_25 : decode cX6_laysBack 25 = .ok (.istore_n 1, 1) := by decide +kernel
theorem dX6_laysBack_26 : decode cX6_laysBack 26 = .ok (.iload_n 1, 1) := by decide +kernel
theorem dX6_laysBack_27 : decode cX6_laysBack 27 = .ok (.iconst 5, 1) := by decide +kernel
theorem dX6_laysBack_28 : decode cX6_laysBack 28 = .ok (.if_icmp .ge 33, 3) := by decide +kernel
theorem dX6_laysBack_31 : decode cX6_laysBack 31 = .ok (.aload_n 0, 1) := by decide +kernel
theorem dX6_laysBack_32 : decode cX6_laysBack 32 = .ok (.getfield 14, 3) := by decide +kernel
theorem dX6_laysBack_35 : decode cX6_laysBack 35 = .ok (.iload_n 1, 1) := by decide +kernel
theorem dX6_laysBack_36 : decode cX6_laysBack 36 = .ok (.aload_n 0, 1) := by decide +kernel
theorem dX6_laysBack_37 : decode cX6_laysBack 37 = .ok (.getfield 27, 3) := by decide +kernel
theorem dX6_laysBack_40 : decode cX6_laysBack 40 = .ok (.iload_n 1, 1) := by decide +kernel
theorem dX6_laysBack_41 : decode cX6_laysBack 41 = .ok (.iaload, 1) := by decide +kernel
theorem dX6_laysBack_42 : decode cX6_laysBack 42 = .ok (.iastore, 1) := by decide +kernel
theorem dX6_laysBack_43 : decode cX6_laysBack 43 = .ok (.aload_n 0, 1) := by decide +kernel
theorem dX6_laysBack_44 : decode cX6_laysBack 44 = .ok (.getfield 18, 3) := by decide +kernel
theorem dX6_laysBack_47 : decode cX6_laysBack 47 = .ok (.iload_n 1, 1) := by decide +kernel
theorem dX6_laysBack_48 : decode cX6_laysBack 48 = .ok (.aload_n 0, 1) := by decide +kernel
theorem dX6_laysBack_49 : decode cX6_laysBack 49 = .ok (.getfield 30, 3) := by decide +kernel
theorem dX6_laysBack_52 : decode cX6_laysBack 52 = .ok (.iload_n 1, 1) := by decide +kernel
theorem dX6_laysBack_53 : decode cX6_laysBack 53 = .ok (.iaload, 1) := by decide +kernel
theorem dX6_laysBack_54 : decode cX6_laysBack 54 = .ok (.iastore, 1) := by decide +kernel
theorem dX6_laysBack_55 : decode cX6_laysBack 55 = .ok (.iinc 1 1, 3) := by decide +kernel
theorem dX6_laysBack_58 : decode cX6_laysBack 58 = .ok (.goto (-32), 3) := by decide +kernel
theorem dX6_laysBack_61 : decode cX6_laysBack 61 = .ok (.return_, 1) := by decide +kernel
theorem dX6_core_0 : decode cX6_core 0 = .ok (.aload_n 0, 1) := by decide +kernel
theorem dX6_core_1 : decode cX6_core 1 = .ok (.iconst 0, 1) := by decide +kernel
theorem dX6_core_2 : decode cX6_core 2 = .ok (.putfield 107, 3) := by decide +kernel
theorem dX6_core_5 : decode cX6_core 5 = .ok (.iconst 0, 1) := by decide +kernel
theorem dX6_core_6 : decode cX6_core 6 = .ok (.istore_n 1, 1) := by decide +kernel
theorem dX6_core_7 : decode cX6_core 7 = .ok (.bipush (-9), 2) := by decide +kernel
theorem dX6_core_9 : decode cX6_core 9 = .ok (.istore_n 2, 1) := by decide +kernel
theorem dX6_core_10 : decode cX6_core 10 = .ok (.aload_n 0, 1) := by decide +kernel
theorem dX6_core_11 : decode cX6_core 11 = .ok (.invokevirtual 156, 3) := by decide +kernel
theorem dX6_core_14 : decode cX6_core 14 = .ok (.ifCond .ne 12, 3) := by decide +kernel
theorem dX6_core_17 : decode cX6_core 17 = .ok (.sipush (-1000), 3) := by decide +kernel
theorem dX6_core_20 : decode cX6_core 20 = .ok (.aload_n 0, 1) := by decide +kernel
theorem dX6_core_21 : decode cX6_core 21 = .ok (.getfield 107, 3) := by decide +kernel
theorem dX6_core_24 : decode cX6_core 24 = .ok (.isub, 1) := by decide +kernel
theorem dX6_core_25 : decode cX6_core 25 = .ok (.istore_n 2, 1) := by decide +kernel
theorem dX6_core_26 : decode cX6_core 26 = .ok (.iinc 1 1, 3) := by decide +kernel
theorem dX6_core_29 : decode cX6_core 29 = .ok (.iload_n 2, 1) := by decide +kernel
theorem dX6_core_30 : decode cX6_core 30 = .ok (.bipush (-9), 2) := by decide +kernel
theorem dX6_core_32 : decode cX6_core 32 = .ok (.if_icmp .ne 14, 3) := by decide +kernel
theorem dX6_core_35 : decode cX6_core 35 = .ok (.aload_n 0, 1) := by decide +kernel
theorem dX6_core_36 : decode cX6_core 36 = .ok (.getfield 107, 3) := by decide +kernel
theorem dX6_core_39 : decode cX6_core 39 = .ok (.aload_n 0, 1) := by decide +kernel
theorem dX6_core_40 : decode cX6_core 40 = .ok (.getfield 104, 3) := by decide +kernel
theorem dX6_core_43 : decode cX6_core 43 = .ok (.if_icmp .lt (-33), 3) := by decide +kernel
theorem dX6_core_46 : decode cX6_core 46 = .ok (.aload_n 0, 1) := by decide +kernel
theorem dX6_core_47 : decode cX6_core 47 = .ok (.invokevirtual 159, 3) := by decide +kernel
theorem dX6_core_50 : decode cX6_core 50 = .ok (.aload_n 0, 1) := by decide +kernel
theorem dX6_core_51 : decode cX6_core 51 = .ok (.iconst 0, 1) := by decide +kernel
theorem dX6_core_52 : decode cX6_core 52 = .ok (.putfield 107, 3) := by decide +kernel
theorem dX6_core_55 : decode cX6_core 55 = .ok (.iload_n 2, 1) := by decide +kernel
theorem dX6_core_56 : decode cX6_core 56 = .ok (.bipush (-9), 2) := by decide +kernel
theorem dX6_core_58 : decode cX6_core 58 = .ok (.if_icmp .ne 56, 3) := by decide +kernel
theorem dX6_core_61 : decode cX6_core 61 = .ok (.aload_n 0, 1) := by decide +kernel
theorem dX6_core_62 : decode cX6_core 62 = .ok (.getfield 107, 3) := by decide +kernel
theorem dX6_core_65 : decode cX6_core 65 = .ok (.aload_n 0, 1) := by decide +kernel
theorem dX6_core_66 : decode cX6_core 66 = .ok (.getfield 104, 3) := by decide +kernel
theorem dX6_core_69 : decode cX6_core 69 = .ok (.if_icmp .ge 45, 3) := by decide +kernel
theorem dX6_core_72 : decode cX6_core 72 = .ok (.aload_n 0, 1) := by decide +kernel
theorem dX6_core_73 : decode cX6_core 73 = .ok (.getfield 107, 3) := by decide +kernel
theorem dX6_core_76 : decode cX6_core 76 = .ok (.istore_n 3, 1) := by decide +kernel
theorem dX6_core_77 : decode cX6_core 77 = .ok (.aload_n 0, 1) := by decide +kernel
theorem dX6_core_78 : decode cX6_core 78 = .ok (.invokevirtual 110, 3) := by decide +kernel
theorem dX6_core_81 : decode cX6_core 81 = .ok (.istore 4, 2) := by decide +kernel
theorem dX6_core_83 : decode cX6_core 83 = .ok (.aload_n 0, 1) := by decide +kernel
theorem dX6_core_84 : decode cX6_core 84 = .ok (.invokevirtual 156, 3) := by decide +kernel
theorem dX6_core_87 : decode cX6_core 87 = .ok (.istore 5, 2) := by decide +kernel
theorem dX6_core_89 : decode cX6_core 89 = .ok (.aload_n 0, 1) := by decide +kernel
theorem dX6_core_90 : decode cX6_core 90 = .ok (.iload 4, 2) := by decide +kernel
theorem dX6_core_92 : decode cX6_core 92 = .ok (.invokevirtual 162, 3) := by decide +kernel
theorem dX6_core_95 : decode cX6_core 95 = .ok (.ifCond .eq 6, 3) := by decide +kernel
theorem dX6_core_98 : decode cX6_core 98 = .ok (.goto (-43), 3) := by decide +kernel
theorem dX6_core_101 : decode cX6_core 101 = .ok (.sipush (-2000), 3) := by decide +kernel
theorem dX6_core_104 : decode cX6_core 104 = .ok (.iload_n 3, 1) := by decide +kernel
theorem dX6_core_105 : decode cX6_core 105 = .ok (.isub, 1) := by decide +kernel
theorem dX6_core_106 : decode cX6_core 106 = .ok (.istore_n 2, 1) := by decide +kernel
theorem dX6_core_107 : decode cX6_core 107 = .ok (.aload_n 0, 1) := by decide +kernel
theorem dX6_core_108 : decode cX6_core 108 = .ok (.invokevirtual 165, 3) := by decide +kernel
theorem dX6_core_111 : decode cX6_core 111 = .ok (.goto (-56), 3) := by decide +kernel
theorem dX6_core_114 : decode cX6_core 114 = .ok (.aload_n 0, 1) := by decide +kernel
theorem dX6_core_115 : decode cX6_core 115 = .ok (.iconst 0, 1) := by decide +kernel
theorem dX6_core_116 : decode cX6_core 116 = .ok (.putfield 104, 3) := by decide +kernel
theorem dX6_core_119 : decode cX6_core 119 = .ok (.iload_n 2, 1) := by decide +kernel
theorem dX6_core_120 : decode cX6_core 120 = .ok (.bipush (-9), 2) := by decide +kernel
theorem dX6_core_122 : decode cX6_core 122 = .ok (.if_icmp .ne 7, 3) := by decide +kernel
theorem dX6_core_125 : decode cX6_core 125 = .ok (.iload_n 1, 1) := by decide +kernel
theorem dX6_core_126 : decode cX6_core 126 = .ok (.goto 4, 3) := by decide +kernel
theorem dX6_core_129 : decode cX6_core 129 = .ok (.iload_n 2, 1) := by decide +kernel
theorem dX6_core_130 : decode cX6_core 130 = .ok (.ireturn, 1) := by decide +kernel
theorem dX6_cell_0 : decode cX6_cell 0 = .ok (.iload_n 1, 1) := by decide +kernel
theorem dX6_cell_1 : decode cX6_cell 1 = .ok (.invokestatic 130, 3) := by decide +kernel
theorem dX6_cell_4 : decode cX6_cell 4 = .ok (.ifCond .ne 9, 3) := by decide +kernel
theorem dX6_cell_7 : decode cX6_cell 7 = .ok (.aload_n 0, 1) := by decide +kernel
theorem dX6_cell_8 : decode cX6_cell 8 = .ok (.iconst (-1), 1) := by decide +kernel
theorem dX6_cell_9 : decode cX6_cell 9 = .ok (.invokevirtual 52, 3) := by decide +kernel
theorem dX6_cell_12 : decode cX6_cell 12 = .ok (.ireturn, 1) := by decide +kernel
theorem dX6_cell_13 : decode cX6_cell 13 = .ok (.iload_n 2, 1) := by decide +kernel
theorem dX6_cell_14 : decode cX6_cell 14 = .ok (.tableswitch 62 0 2 #[26, 35, 50], 26) := by decide +kernel
theorem dX6_cell_40 : decode cX6_cell 40 = .ok (.aload_n 0, 1) := by decide +kernel
theorem dX6_cell_41 : decode cX6_cell 41 = .ok (.getfield 10, 3) := by decide +kernel
theorem dX6_cell_44 : decode cX6_cell 44 = .ok (.iload_n 1, 1) := by decide +kernel
theorem dX6_cell_45 : decode cX6_cell 45 = .ok (.ishr, 1) := by decide +kernel
theorem dX6_cell_46 : decode cX6_cell 46 = .ok (.iconst 1, 1) := by decide +kernel
theorem dX6_cell_47 : decode cX6_cell 47 = .ok (.iand, 1) := by decide +kernel
theorem dX6_cell_48 : decode cX6_cell 48 = .ok (.ireturn, 1) := by decide +kernel
theorem dX6_cell_49 : decode cX6_cell 49 = .ok (.iconst 1, 1) := by decide +kernel
theorem dX6_cell_50 : decode cX6_cell 50 = .ok (.iload_n 1, 1) := by decide +kernel
theorem dX6_cell_51 : decode cX6_cell 51 = .ok (.ishl, 1) := by decide +kernel
theorem dX6_cell_52 : decode cX6_cell 52 = .ok (.invokestatic 69, 3) := by decide +kernel
theorem dX6_cell_55 : decode cX6_cell 55 = .ok (.aload_n 0, 1) := by decide +kernel
theorem dX6_cell_56 : decode cX6_cell 56 = .ok (.getfield 10, 3) := by decide +kernel
theorem dX6_cell_59 : decode cX6_cell 59 = .ok (.iand, 1) := by decide +kernel
theorem dX6_cell_60 : decode cX6_cell 60 = .ok (.invokestatic 82, 3) := by decide +kernel
theorem dX6_cell_63 : decode cX6_cell 63 = .ok (.ireturn, 1) := by decide +kernel
theorem dX6_cell_64 : decode cX6_cell 64 = .ok (.aload_n 0, 1) := by decide +kernel
theorem dX6_cell_65 : decode cX6_cell 65 = .ok (.getfield 10, 3) := by decide +kernel
theorem dX6_cell_68 : decode cX6_cell 68 = .ok (.iload_n 1, 1) := by decide +kernel
theorem dX6_cell_69 : decode cX6_cell 69 = .ok (.invokestatic 79, 3) := by decide +kernel
theorem dX6_cell_72 : decode cX6_cell 72 = .ok (.invokestatic 82, 3) := by decide +kernel
theorem dX6_cell_75 : decode cX6_cell 75 = .ok (.ireturn, 1) := by decide +kernel
theorem dX6_cell_76 : decode cX6_cell 76 = .ok (.aload_n 0, 1) := by decide +kernel
theorem dX6_cell_77 : decode cX6_cell 77 = .ok (.bipush (-2), 2) := by decide +kernel
theorem dX6_cell_79 : decode cX6_cell 79 = .ok (.invokevirtual 52, 3) := by decide +kernel
theorem dX6_cell_82 : decode cX6_cell 82 = .ok (.ireturn, 1) := by decide +kernel
theorem dX6_heir_0 : decode cX6_heir 0 = .ok (.aload_n 0, 1) := by decide +kernel
theorem dX6_heir_1 : decode cX6_heir 1 = .ok (.iload_n 1, 1) := by decide +kernel
theorem dX6_heir_2 : decode cX6_heir 2 = .ok (.invokevirtual 168, 3) := by decide +kernel
theorem dX6_heir_5 : decode cX6_heir 5 = .ok (.ifCond .ne 9, 3) := by decide +kernel
theorem dX6_heir_8 : decode cX6_heir 8 = .ok (.aload_n 0, 1) := by decide +kernel
theorem dX6_heir_9 : decode cX6_heir 9 = .ok (.iconst (-1), 1) := by decide +kernel
theorem dX6_heir_10 : decode cX6_heir 10 = .ok (.invokevirtual 52, 3) := by decide +kernel
theorem dX6_heir_13 : decode cX6_heir 13 = .ok (.ireturn, 1) := by decide +kernel
theorem dX6_heir_14 : decode cX6_heir 14 = .ok (.iload_n 2, 1) := by decide +kernel
theorem dX6_heir_15 : decode cX6_heir 15 = .ok (.ifCond .ne 12, 3) := by decide +kernel
theorem dX6_heir_18 : decode cX6_heir 18 = .ok (.aload_n 0, 1) := by decide +kernel
theorem dX6_heir_19 : decode cX6_heir 19 = .ok (.getfield 14, 3) := by decide +kernel
theorem dX6_heir_22 : decode cX6_heir 22 = .ok (.iload_n 1, 1) := by decide +kernel
theorem dX6_heir_23 : decode cX6_heir 23 = .ok (.iaload, 1) := by decide +kernel
theorem dX6_heir_24 : decode cX6_heir 24 = .ok (.goto 40, 3) := by decide +kernel
theorem dX6_heir_27 : decode cX6_heir 27 = .ok (.iload_n 2, 1) := by decide +kernel
theorem dX6_heir_28 : decode cX6_heir 28 = .ok (.iconst 1, 1) := by decide +kernel
theorem dX6_heir_29 : decode cX6_heir 29 = .ok (.if_icmp .ne 12, 3) := by decide +kernel
theorem dX6_heir_32 : decode cX6_heir 32 = .ok (.aload_n 0, 1) := by decide +kernel
theorem dX6_heir_33 : decode cX6_heir 33 = .ok (.getfield 18, 3) := by decide +kernel
theorem dX6_heir_36 : decode cX6_heir 36 = .ok (.iload_n 1, 1) := by decide +kernel
theorem dX6_heir_37 : decode cX6_heir 37 = .ok (.iaload, 1) := by decide +kernel
theorem dX6_heir_38 : decode cX6_heir 38 = .ok (.goto 26, 3) := by decide +kernel
theorem dX6_heir_41 : decode cX6_heir 41 = .ok (.iload_n 2, 1) := by decide +kernel
theorem dX6_heir_42 : decode cX6_heir 42 = .ok (.iconst 2, 1) := by decide +kernel
theorem dX6_heir_43 : decode cX6_heir 43 = .ok (.if_icmp .ne 15, 3) := by decide +kernel
theorem dX6_heir_46 : decode cX6_heir 46 = .ok (.aload_n 0, 1) := by decide +kernel
theorem dX6_heir_47 : decode cX6_heir 47 = .ok (.aload_n 0, 1) := by decide +kernel
theorem dX6_heir_48 : decode cX6_heir 48 = .ok (.getfield 10, 3) := by decide +kernel
theorem dX6_heir_51 : decode cX6_heir 51 = .ok (.iload_n 1, 1) := by decide +kernel
theorem dX6_heir_52 : decode cX6_heir 52 = .ok (.invokevirtual 98, 3) := by decide +kernel
theorem dX6_heir_55 : decode cX6_heir 55 = .ok (.goto 9, 3) := by decide +kernel
theorem dX6_heir_58 : decode cX6_heir 58 = .ok (.aload_n 0, 1) := by decide +kernel
theorem dX6_heir_59 : decode cX6_heir 59 = .ok (.bipush (-2), 2) := by decide +kernel
theorem dX6_heir_61 : decode cX6_heir 61 = .ok (.invokevirtual 52, 3) := by decide +kernel
theorem dX6_heir_64 : decode cX6_heir 64 = .ok (.ireturn, 1) := by decide +kernel
theorem dX6_bites_0 : decode cX6_bites 0 = .ok (.iload_n 1, 1) := by decide +kernel
theorem dX6_bites_1 : decode cX6_bites 1 = .ok (.iconst 0, 1) := by decide +kernel
theorem dX6_bites_2 : decode cX6_bites 2 = .ok (.iconst 3, 1) := by decide +kernel
theorem dX6_bites_3 : decode cX6_bites 3 = .ok (.invokestatic 58, 3) := by decide +kernel
theorem dX6_bites_6 : decode cX6_bites 6 = .ok (.ifCond .ne 10, 3) := by decide +kernel
theorem dX6_bites_9 : decode cX6_bites 9 = .ok (.aload_n 0, 1) := by decide +kernel
theorem dX6_bites_10 : decode cX6_bites 10 = .ok (.bipush (-2), 2) := by decide +kernel
theorem dX6_bites_12 : decode cX6_bites 12 = .ok (.invokevirtual 52, 3) := by decide +kernel
theorem dX6_bites_15 : decode cX6_bites 15 = .ok (.ireturn, 1) := by decide +kernel
theorem dX6_bites_16 : decode cX6_bites 16 = .ok (.iload_n 2, 1) := by decide +kernel
theorem dX6_bites_17 : decode cX6_bites 17 = .ok (.invokestatic 130, 3) := by decide +kernel
theorem dX6_bites_20 : decode cX6_bites 20 = .ok (.ifCond .ne 9, 3) := by decide +kernel
theorem dX6_bites_23 : decode cX6_bites 23 = .ok (.aload_n 0, 1) := by decide +kernel
theorem dX6_bites_24 : decode cX6_bites 24 = .ok (.iconst (-1), 1) := by decide +kernel
theorem dX6_bites_25 : decode cX6_bites 25 = .ok (.invokevirtual 52, 3) := by decide +kernel
theorem dX6_bites_28 : decode cX6_bites 28 = .ok (.ireturn, 1) := by decide +kernel
theorem dX6_bites_29 : decode cX6_bites 29 = .ok (.aload_n 0, 1) := by decide +kernel
theorem dX6_bites_30 : decode cX6_bites 30 = .ok (.getfield 10, 3) := by decide +kernel
theorem dX6_bites_33 : decode cX6_bites 33 = .ok (.iload_n 1, 1) := by decide +kernel
theorem dX6_bites_34 : decode cX6_bites 34 = .ok (.iload_n 2, 1) := by decide +kernel
theorem dX6_bites_35 : decode cX6_bites 35 = .ok (.invokestatic 134, 3) := by decide +kernel
theorem dX6_bites_38 : decode cX6_bites 38 = .ok (.ifCond .ne 10, 3) := by decide +kernel
theorem dX6_bites_41 : decode cX6_bites 41 = .ok (.aload_n 0, 1) := by decide +kernel
theorem dX6_bites_42 : decode cX6_bites 42 = .ok (.bipush (-3), 2) := by decide +kernel
theorem dX6_bites_44 : decode cX6_bites 44 = .ok (.invokevirtual 52, 3) := by decide +kernel
theorem dX6_bites_47 : decode cX6_bites 47 = .ok (.ireturn, 1) := by decide +kernel
theorem dX6_bites_48 : decode cX6_bites 48 = .ok (.aload_n 0, 1) := by decide +kernel
theorem dX6_bites_49 : decode cX6_bites 49 = .ok (.iload_n 1, 1) := by decide +kernel
theorem dX6_bites_50 : decode cX6_bites 50 = .ok (.iload_n 2, 1) := by decide +kernel
theorem dX6_bites_51 : decode cX6_bites 51 = .ok (.invokestatic 65, 3) := by decide +kernel
theorem dX6_bites_54 : decode cX6_bites 54 = .ok (.invokevirtual 137, 3) := by decide +kernel
theorem dX6_bites_57 : decode cX6_bites 57 = .ok (.aload_n 0, 1) := by decide +kernel
theorem dX6_bites_58 : decode cX6_bites 58 = .ok (.getfield 10, 3) := by decide +kernel
theorem dX6_bites_61 : decode cX6_bites 61 = .ok (.invokestatic 82, 3) := by decide +kernel
theorem dX6_bites_64 : decode cX6_bites 64 = .ok (.ireturn, 1) := by decide +kernel
theorem dX6_heals_0 : decode cX6_heals 0 = .ok (.iload_n 1, 1) := by decide +kernel
theorem dX6_heals_1 : decode cX6_heals 1 = .ok (.invokestatic 130, 3) := by decide +kernel
theorem dX6_heals_4 : decode cX6_heals 4 = .ok (.ifCond .ne 9, 3) := by decide +kernel
theorem dX6_heals_7 : decode cX6_heals 7 = .ok (.aload_n 0, 1) := by decide +kernel
theorem dX6_heals_8 : decode cX6_heals 8 = .ok (.iconst (-1), 1) := by decide +kernel
theorem dX6_heals_9 : decode cX6_heals 9 = .ok (.invokevirtual 52, 3) := by decide +kernel
theorem dX6_heals_12 : decode cX6_heals 12 = .ok (.ireturn, 1) := by decide +kernel
theorem dX6_heals_13 : decode cX6_heals 13 = .ok (.aload_n 0, 1) := by decide +kernel
theorem dX6_heals_14 : decode cX6_heals 14 = .ok (.getfield 10, 3) := by decide +kernel
theorem dX6_heals_17 : decode cX6_heals 17 = .ok (.iload_n 1, 1) := by decide +kernel
theorem dX6_heals_18 : decode cX6_heals 18 = .ok (.invokestatic 72, 3) := by decide +kernel
theorem dX6_heals_21 : decode cX6_heals 21 = .ok (.ifCond .eq 10, 3) := by decide +kernel
theorem dX6_heals_24 : decode cX6_heals 24 = .ok (.aload_n 0, 1) := by decide +kernel
theorem dX6_heals_25 : decode cX6_heals 25 = .ok (.bipush (-3), 2) := by decide +kernel
theorem dX6_heals_27 : decode cX6_heals 27 = .ok (.invokevirtual 52, 3) := by decide +kernel
theorem dX6_heals_30 : decode cX6_heals 30 = .ok (.ireturn, 1) := by decide +kernel
theorem dX6_heals_31 : decode cX6_heals 31 = .ok (.aload_n 0, 1) := by decide +kernel
theorem dX6_heals_32 : decode cX6_heals 32 = .ok (.dup, 1) := by decide +kernel
theorem dX6_heals_33 : decode cX6_heals 33 = .ok (.getfield 10, 3) := by decide +kernel
theorem dX6_heals_36 : decode cX6_heals 36 = .ok (.iconst 1, 1) := by decide +kernel
theorem dX6_heals_37 : decode cX6_heals 37 = .ok (.iload_n 1, 1) := by decide +kernel
theorem dX6_heals_38 : decode cX6_heals 38 = .ok (.ishl, 1) := by decide +kernel
theorem dX6_heals_39 : decode cX6_heals 39 = .ok (.ior, 1) := by decide +kernel
theorem dX6_heals_40 : decode cX6_heals 40 = .ok (.putfield 10, 3) := by decide +kernel
theorem dX6_heals_43 : decode cX6_heals 43 = .ok (.aload_n 0, 1) := by decide +kernel
theorem dX6_heals_44 : decode cX6_heals 44 = .ok (.getfield 10, 3) := by decide +kernel
theorem dX6_heals_47 : decode cX6_heals 47 = .ok (.invokestatic 82, 3) := by decide +kernel
theorem dX6_heals_50 : decode cX6_heals 50 = .ok (.ireturn, 1) := by decide +kernel
theorem dX6_rolls_0 : decode cX6_rolls 0 = .ok (.iload_n 1, 1) := by decide +kernel
theorem dX6_rolls_1 : decode cX6_rolls 1 = .ok (.iconst 1, 1) := by decide +kernel
theorem dX6_rolls_2 : decode cX6_rolls 2 = .ok (.if_icmp .ge 10, 3) := by decide +kernel
theorem dX6_rolls_5 : decode cX6_rolls 5 = .ok (.aload_n 0, 1) := by decide +kernel
theorem dX6_rolls_6 : decode cX6_rolls 6 = .ok (.bipush (-4), 2) := by decide +kernel
theorem dX6_rolls_8 : decode cX6_rolls 8 = .ok (.invokevirtual 52, 3) := by decide +kernel
theorem dX6_rolls_11 : decode cX6_rolls 11 = .ok (.ireturn, 1) := by decide +kernel
theorem dX6_rolls_12 : decode cX6_rolls 12 = .ok (.iload_n 1, 1) := by decide +kernel
theorem dX6_rolls_13 : decode cX6_rolls 13 = .ok (.iconst 3, 1) := by decide +kernel
theorem dX6_rolls_14 : decode cX6_rolls 14 = .ok (.if_icmp .le 10, 3) := by decide +kernel
theorem dX6_rolls_17 : decode cX6_rolls 17 = .ok (.aload_n 0, 1) := by decide +kernel
theorem dX6_rolls_18 : decode cX6_rolls 18 = .ok (.bipush (-6), 2) := by decide +kernel
theorem dX6_rolls_20 : decode cX6_rolls 20 = .ok (.invokevirtual 52, 3) := by decide +kernel
theorem dX6_rolls_23 : decode cX6_rolls 23 = .ok (.ireturn, 1) := by decide +kernel
theorem dX6_rolls_24 : decode cX6_rolls 24 = .ok (.aload_n 0, 1) := by decide +kernel
theorem dX6_rolls_25 : decode cX6_rolls 25 = .ok (.aload_n 0, 1) := by decide +kernel
theorem dX6_rolls_26 : decode cX6_rolls 26 = .ok (.getfield 10, 3) := by decide +kernel
theorem dX6_rolls_29 : decode cX6_rolls 29 = .ok (.iload_n 1, 1) := by decide +kernel
theorem dX6_rolls_30 : decode cX6_rolls 30 = .ok (.invokestatic 141, 3) := by decide +kernel
theorem dX6_rolls_33 : decode cX6_rolls 33 = .ok (.putfield 10, 3) := by decide +kernel
theorem dX6_rolls_36 : decode cX6_rolls 36 = .ok (.aload_n 0, 1) := by decide +kernel
theorem dX6_rolls_37 : decode cX6_rolls 37 = .ok (.getfield 10, 3) := by decide +kernel
theorem dX6_rolls_40 : decode cX6_rolls 40 = .ok (.invokestatic 82, 3) := by decide +kernel
theorem dX6_rolls_43 : decode cX6_rolls 43 = .ok (.ireturn, 1) := by decide +kernel
theorem dX6_wrongBy_0 : decode cX6_wrongBy 0 = .ok (.iload_n 0, 1) := by decide +kernel
theorem dX6_wrongBy_1 : decode cX6_wrongBy 1 = .ok (.ifCond .ge 8, 3) := by decide +kernel
theorem dX6_wrongBy_4 : decode cX6_wrongBy 4 = .ok (.bipush (-4), 2) := by decide +kernel
theorem dX6_wrongBy_6 : decode cX6_wrongBy 6 = .ok (.goto 14, 3) := by decide +kernel
theorem dX6_wrongBy_9 : decode cX6_wrongBy 9 = .ok (.iload_n 0, 1) := by decide +kernel
theorem dX6_wrongBy_10 : decode cX6_wrongBy 10 = .ok (.iload_n 1, 1) := by decide +kernel
theorem dX6_wrongBy_11 : decode cX6_wrongBy 11 = .ok (.if_icmp .le 8, 3) := by decide +kernel
theorem dX6_wrongBy_14 : decode cX6_wrongBy 14 = .ok (.bipush (-6), 2) := by decide +kernel
theorem dX6_wrongBy_16 : decode cX6_wrongBy 16 = .ok (.goto 4, 3) := by decide +kernel
theorem dX6_wrongBy_19 : decode cX6_wrongBy 19 = .ok (.iconst 0, 1) := by decide +kernel
theorem dX6_wrongBy_20 : decode cX6_wrongBy 20 = .ok (.ireturn, 1) := by decide +kernel
theorem dX6_turn_0 : decode cX6_turn 0 = .ok (.aload_n 0, 1) := by decide +kernel
theorem dX6_turn_1 : decode cX6_turn 1 = .ok (.iload_n 1, 1) := by decide +kernel
theorem dX6_turn_2 : decode cX6_turn 2 = .ok (.invokevirtual 168, 3) := by decide +kernel
theorem dX6_turn_5 : decode cX6_turn 5 = .ok (.ifCond .ne 7, 3) := by decide +kernel
theorem dX6_turn_8 : decode cX6_turn 8 = .ok (.iconst (-1), 1) := by decide +kernel
theorem dX6_turn_9 : decode cX6_turn 9 = .ok (.goto 23, 3) := by decide +kernel
theorem dX6_turn_12 : decode cX6_turn 12 = .ok (.iload_n 2, 1) := by decide +kernel
theorem dX6_turn_13 : decode cX6_turn 13 = .ok (.iconst 0, 1) := by decide +kernel
theorem dX6_turn_14 : decode cX6_turn 14 = .ok (.iconst 5, 1) := by decide +kernel
theorem dX6_turn_15 : decode cX6_turn 15 = .ok (.invokestatic 58, 3) := by decide +kernel
theorem dX6_turn_18 : decode cX6_turn 18 = .ok (.ifCond .ne 8, 3) := by decide +kernel
theorem dX6_turn_21 : decode cX6_turn 21 = .ok (.bipush (-2), 2) := by decide +kernel
theorem dX6_turn_23 : decode cX6_turn 23 = .ok (.goto 9, 3) := by decide +kernel
theorem dX6_turn_26 : decode cX6_turn 26 = .ok (.iload_n 3, 1) := by decide +kernel
theorem dX6_turn_27 : decode cX6_turn 27 = .ok (.bipush 9, 2) := by decide +kernel
theorem dX6_turn_29 : decode cX6_turn 29 = .ok (.invokestatic 171, 3) := by decide +kernel
theorem dX6_turn_32 : decode cX6_turn 32 = .ok (.istore 4, 2) := by decide +kernel
theorem dX6_turn_34 : decode cX6_turn 34 = .ok (.iload 4, 2) := by decide +kernel
theorem dX6_turn_36 : decode cX6_turn 36 = .ok (.ifCond .eq 10, 3) := by decide +kernel
theorem dX6_turn_39 : decode cX6_turn 39 = .ok (.aload_n 0, 1) := by decide +kernel
theorem dX6_turn_40 : decode cX6_turn 40 = .ok (.iload 4, 2) := by decide +kernel
theorem dX6_turn_42 : decode cX6_turn 42 = .ok (.invokevirtual 52, 3) := by decide +kernel
theorem dX6_turn_45 : decode cX6_turn 45 = .ok (.ireturn, 1) := by decide +kernel
theorem dX6_turn_46 : decode cX6_turn 46 = .ok (.bipush 10, 2) := by decide +kernel
theorem dX6_turn_48 : decode cX6_turn 48 = .ok (.aload_n 0, 1) := by decide +kernel
theorem dX6_turn_49 : decode cX6_turn 49 = .ok (.getfield 14, 3) := by decide +kernel
theorem dX6_turn_52 : decode cX6_turn 52 = .ok (.iload_n 1, 1) := by decide +kernel
theorem dX6_turn_53 : decode cX6_turn 53 = .ok (.iaload, 1) := by decide +kernel
theorem dX6_turn_54 : decode cX6_turn 54 = .ok (.imul, 1) := by decide +kernel
theorem dX6_turn_55 : decode cX6_turn 55 = .ok (.aload_n 0, 1) := by decide +kernel
theorem dX6_turn_56 : decode cX6_turn 56 = .ok (.getfield 18, 3) := by decide +kernel
theorem dX6_turn_59 : decode cX6_turn 59 = .ok (.iload_n 1, 1) := by decide +kernel
theorem dX6_turn_60 : decode cX6_turn 60 = .ok (.iaload, 1) := by decide +kernel
theorem dX6_turn_61 : decode cX6_turn 61 = .ok (.iadd, 1) := by decide +kernel
theorem dX6_turn_62 : decode cX6_turn 62 = .ok (.istore 5, 2) := by decide +kernel
theorem dX6_turn_64 : decode cX6_turn 64 = .ok (.aload_n 0, 1) := by decide +kernel
theorem dX6_turn_65 : decode cX6_turn 65 = .ok (.getfield 14, 3) := by decide +kernel
theorem dX6_turn_68 : decode cX6_turn 68 = .ok (.iload_n 1, 1) := by decide +kernel
theorem dX6_turn_69 : decode cX6_turn 69 = .ok (.iload_n 2, 1) := by decide +kernel
theorem dX6_turn_70 : decode cX6_turn 70 = .ok (.iastore, 1) := by decide +kernel
theorem dX6_turn_71 : decode cX6_turn 71 = .ok (.aload_n 0, 1) := by decide +kernel
theorem dX6_turn_72 : decode cX6_turn 72 = .ok (.getfield 18, 3) := by decide +kernel
theorem dX6_turn_75 : decode cX6_turn 75 = .ok (.iload_n 1, 1) := by decide +kernel
theorem dX6_turn_76 : decode cX6_turn 76 = .ok (.iload_n 3, 1) := by decide +kernel
theorem dX6_turn_77 : decode cX6_turn 77 = .ok (.iastore, 1) := by decide +kernel
theorem dX6_turn_78 : decode cX6_turn 78 = .ok (.iload 5, 2) := by decide +kernel
theorem dX6_turn_80 : decode cX6_turn 80 = .ok (.ireturn, 1) := by decide +kernel
theorem dX6_anew_0 : decode cX6_anew 0 = .ok (.aload_n 0, 1) := by decide +kernel
theorem dX6_anew_1 : decode cX6_anew 1 = .ok (.getfield 124, 3) := by decide +kernel
theorem dX6_anew_4 : decode cX6_anew 4 = .ok (.istore_n 1, 1) := by decide +kernel
theorem dX6_anew_5 : decode cX6_anew 5 = .ok (.aload_n 0, 1) := by decide +kernel
theorem dX6_anew_6 : decode cX6_anew 6 = .ok (.invokevirtual 144, 3) := by decide +kernel
theorem dX6_anew_9 : decode cX6_anew 9 = .ok (.iload_n 1, 1) := by decide +kernel
theorem dX6_anew_10 : decode cX6_anew 10 = .ok (.ireturn, 1) := by decide +kernel
theorem dX6_shares_0 : decode cX6_shares 0 = .ok (.iload_n 1, 1) := by decide +kernel
theorem dX6_shares_1 : decode cX6_shares 1 = .ok (.iconst 0, 1) := by decide +kernel
theorem dX6_shares_2 : decode cX6_shares 2 = .ok (.iconst 1, 1) := by decide +kernel
theorem dX6_shares_3 : decode cX6_shares 3 = .ok (.invokestatic 58, 3) := by decide +kernel
theorem dX6_shares_6 : decode cX6_shares 6 = .ok (.ifCond .ne 10, 3) := by decide +kernel
theorem dX6_shares_9 : decode cX6_shares 9 = .ok (.aload_n 0, 1) := by decide +kernel
theorem dX6_shares_10 : decode cX6_shares 10 = .ok (.bipush (-2), 2) := by decide +kernel
theorem dX6_shares_12 : decode cX6_shares 12 = .ok (.invokevirtual 52, 3) := by decide +kernel
theorem dX6_shares_15 : decode cX6_shares 15 = .ok (.ireturn, 1) := by decide +kernel
theorem dX6_shares_16 : decode cX6_shares 16 = .ok (.iload_n 1, 1) := by decide +kernel
theorem dX6_shares_17 : decode cX6_shares 17 = .ok (.ifCond .ne 12, 3) := by decide +kernel
theorem dX6_shares_20 : decode cX6_shares 20 = .ok (.aload_n 0, 1) := by decide +kernel
theorem dX6_shares_21 : decode cX6_shares 21 = .ok (.aload_n 0, 1) := by decide +kernel
theorem dX6_shares_22 : decode cX6_shares 22 = .ok (.getfield 10, 3) := by decide +kernel
theorem dX6_shares_25 : decode cX6_shares 25 = .ok (.invokevirtual 174, 3) := by decide +kernel
theorem dX6_shares_28 : decode cX6_shares 28 = .ok (.ireturn, 1) := by decide +kernel
theorem dX6_shares_29 : decode cX6_shares 29 = .ok (.bipush (-9), 2) := by decide +kernel
theorem dX6_shares_31 : decode cX6_shares 31 = .ok (.istore_n 2, 1) := by decide +kernel
theorem dX6_shares_32 : decode cX6_shares 32 = .ok (.iconst 0, 1) := by decide +kernel
theorem dX6_shares_33 : decode cX6_shares 33 = .ok (.istore_n 3, 1) := by decide +kernel
theorem dX6_shares_34 : decode cX6_shares 34 = .ok (.iload_n 3, 1) := by decide +kernel
theorem dX6_shares_35 : decode cX6_shares 35 = .ok (.aload_n 0, 1) := by decide +kernel
theorem dX6_shares_36 : decode cX6_shares 36 = .ok (.getfield 62, 3) := by decide +kernel
theorem dX6_shares_39 : decode cX6_shares 39 = .ok (.if_icmp .ge 36, 3) := by decide +kernel
theorem dX6_shares_42 : decode cX6_shares 42 = .ok (.iload_n 2, 1) := by decide +kernel
theorem dX6_shares_43 : decode cX6_shares 43 = .ok (.ifCond .lt 24, 3) := by decide +kernel
theorem dX6_shares_46 : decode cX6_shares 46 = .ok (.aload_n 0, 1) := by decide +kernel
theorem dX6_shares_47 : decode cX6_shares 47 = .ok (.aload_n 0, 1) := by decide +kernel
theorem dX6_shares_48 : decode cX6_shares 48 = .ok (.getfield 10, 3) := by decide +kernel
theorem dX6_shares_51 : decode cX6_shares 51 = .ok (.iload_n 3, 1) := by decide +kernel
theorem dX6_shares_52 : decode cX6_shares 52 = .ok (.invokevirtual 98, 3) := by decide +kernel
theorem dX6_shares_55 : decode cX6_shares 55 = .ok (.aload_n 0, 1) := by decide +kernel
theorem dX6_shares_56 : decode cX6_shares 56 = .ok (.aload_n 0, 1) := by decide +kernel
theorem dX6_shares_57 : decode cX6_shares 57 = .ok (.getfield 10, 3) := by decide +kernel
theorem dX6_shares_60 : decode cX6_shares 60 = .ok (.iload_n 2, 1) := by decide +kernel
theorem dX6_shares_61 : decode cX6_shares 61 = .ok (.invokevirtual 98, 3) := by decide +kernel
theorem dX6_shares_64 : decode cX6_shares 64 = .ok (.if_icmp .le 5, 3) := by decide +kernel
theorem dX6_shares_67 : decode cX6_shares 67 = .ok (.iload_n 3, 1) := by decide +kernel
theorem dX6_shares_68 : decode cX6_shares 68 = .ok (.istore_n 2, 1) := by decide +kernel
theorem dX6_shares_69 : decode cX6_shares 69 = .ok (.iinc 3 1, 3) := by decide +kernel
theorem dX6_shares_72 : decode cX6_shares 72 = .ok (.goto (-38), 3) := by decide +kernel
theorem dX6_shares_75 : decode cX6_shares 75 = .ok (.iload_n 2, 1) := by decide +kernel
theorem dX6_shares_76 : decode cX6_shares 76 = .ok (.ireturn, 1) := by decide +kernel
theorem dX6_leastHeap_0 : decode cX6_leastHeap 0 = .ok (.iconst 0, 1) := by decide +kernel
theorem dX6_leastHeap_1 : decode cX6_leastHeap 1 = .ok (.istore_n 1, 1) := by decide +kernel
theorem dX6_leastHeap_2 : decode cX6_leastHeap 2 = .ok (.iconst 0, 1) := by decide +kernel
theorem dX6_leastHeap_3 : decode cX6_leastHeap 3 = .ok (.istore_n 2, 1) := by decide +kernel
theorem dX6_leastHeap_4 : decode cX6_leastHeap 4 = .ok (.iload_n 2, 1) := by decide +kernel
theorem dX6_leastHeap_5 : decode cX6_leastHeap 5 = .ok (.bipush 25, 2) := by decide +kernel
theorem dX6_leastHeap_7 : decode cX6_leastHeap 7 = .ok (.if_icmp .ge 37, 3) := by decide +kernel
theorem dX6_leastHeap_10 : decode cX6_leastHeap 10 = .ok (.iload_n 0, 1) := by decide +kernel
theorem dX6_leastHeap_11 : decode cX6_leastHeap 11 = .ok (.iload_n 2, 1) := by decide +kernel
theorem dX6_leastHeap_12 : decode cX6_leastHeap 12 = .ok (.invokestatic 79, 3) := by decide +kernel
theorem dX6_leastHeap_15 : decode cX6_leastHeap 15 = .ok (.invokestatic 82, 3) := by decide +kernel
theorem dX6_leastHeap_18 : decode cX6_leastHeap 18 = .ok (.istore_n 3, 1) := by decide +kernel
theorem dX6_leastHeap_19 : decode cX6_leastHeap 19 = .ok (.iload_n 3, 1) := by decide +kernel
theorem dX6_leastHeap_20 : decode cX6_leastHeap 20 = .ok (.ifCond .le 16, 3) := by decide +kernel
theorem dX6_leastHeap_23 : decode cX6_leastHeap 23 = .ok (.iload_n 1, 1) := by decide +kernel
theorem dX6_leastHeap_24 : decode cX6_leastHeap 24 = .ok (.ifCond .eq 8, 3) := by decide +kernel
theorem dX6_leastHeap_27 : decode cX6_leastHeap 27 = .ok (.iload_n 3, 1) := by decide +kernel
theorem dX6_leastHeap_28 : decode cX6_leastHeap 28 = .ok (.iload_n 1, 1) := by decide +kernel
theorem dX6_leastHeap_29 : decode cX6_leastHeap 29 = .ok (.if_icmp .ge 7, 3) := by decide +kernel
theorem dX6_leastHeap_32 : decode cX6_leastHeap 32 = .ok (.iload_n 3, 1) := by decide +kernel
theorem dX6_leastHeap_33 : decode cX6_leastHeap 33 = .ok (.goto 4, 3) := by decide +kernel
theorem dX6_leastHeap_36 : decode cX6_leastHeap 36 = .ok (.iload_n 1, 1) := by decide +kernel
theorem dX6_leastHeap_37 : decode cX6_leastHeap 37 = .ok (.istore_n 1, 1) := by decide +kernel
theorem dX6_leastHeap_38 : decode cX6_leastHeap 38 = .ok (.iinc 2 1, 3) := by decide +kernel
theorem dX6_leastHeap_41 : decode cX6_leastHeap 41 = .ok (.goto (-37), 3) := by decide +kernel
theorem dX6_leastHeap_44 : decode cX6_leastHeap 44 = .ok (.iload_n 1, 1) := by decide +kernel
theorem dX6_leastHeap_45 : decode cX6_leastHeap 45 = .ok (.ireturn, 1) := by decide +kernel
theorem dX6_pieces_0 : decode cX6_pieces 0 = .ok (.aload_n 0, 1) := by decide +kernel
theorem dX6_pieces_1 : decode cX6_pieces 1 = .ok (.getfield 10, 3) := by decide +kernel
theorem dX6_pieces_4 : decode cX6_pieces 4 = .ok (.invokestatic 85, 3) := by decide +kernel
theorem dX6_pieces_7 : decode cX6_pieces 7 = .ok (.istore_n 2, 1) := by decide +kernel
theorem dX6_pieces_8 : decode cX6_pieces 8 = .ok (.iload_n 1, 1) := by decide +kernel
theorem dX6_pieces_9 : decode cX6_pieces 9 = .ok (.tableswitch 75 0 3 #[31, 39, 47, 61], 31) := by decide +kernel
theorem dX6_pieces_40 : decode cX6_pieces 40 = .ok (.aload_n 0, 1) := by decide +kernel
theorem dX6_pieces_41 : decode cX6_pieces 41 = .ok (.getfield 10, 3) := by decide +kernel
theorem dX6_pieces_44 : decode cX6_pieces 44 = .ok (.invokestatic 91, 3) := by decide +kernel
theorem dX6_pieces_47 : decode cX6_pieces 47 = .ok (.ireturn, 1) := by decide +kernel
theorem dX6_pieces_48 : decode cX6_pieces 48 = .ok (.aload_n 0, 1) := by decide +kernel
theorem dX6_pieces_49 : decode cX6_pieces 49 = .ok (.getfield 10, 3) := by decide +kernel
theorem dX6_pieces_52 : decode cX6_pieces 52 = .ok (.invokestatic 177, 3) := by decide +kernel
theorem dX6_pieces_55 : decode cX6_pieces 55 = .ok (.ireturn, 1) := by decide +kernel
theorem dX6_pieces_56 : decode cX6_pieces 56 = .ok (.iload_n 2, 1) := by decide +kernel
theorem dX6_pieces_57 : decode cX6_pieces 57 = .ok (.ifCond .ne 8, 3) := by decide +kernel
theorem dX6_pieces_60 : decode cX6_pieces 60 = .ok (.bipush (-9), 2) := by decide +kernel
theorem dX6_pieces_62 : decode cX6_pieces 62 = .ok (.goto 7, 3) := by decide +kernel
theorem dX6_pieces_65 : decode cX6_pieces 65 = .ok (.iload_n 2, 1) := by decide +kernel
theorem dX6_pieces_66 : decode cX6_pieces 66 = .ok (.invokestatic 76, 3) := by decide +kernel
theorem dX6_pieces_69 : decode cX6_pieces 69 = .ok (.ireturn, 1) := by decide +kernel
theorem dX6_pieces_70 : decode cX6_pieces 70 = .ok (.iload_n 2, 1) := by decide +kernel
theorem dX6_pieces_71 : decode cX6_pieces 71 = .ok (.ifCond .ne 8, 3) := by decide +kernel
theorem dX6_pieces_74 : decode cX6_pieces 74 = .ok (.bipush (-9), 2) := by decide +kernel
theorem dX6_pieces_76 : decode cX6_pieces 76 = .ok (.goto 7, 3) := by decide +kernel
theorem dX6_pieces_79 : decode cX6_pieces 79 = .ok (.iload_n 2, 1) := by decide +kernel
theorem dX6_pieces_80 : decode cX6_pieces 80 = .ok (.invokestatic 82, 3) := by decide +kernel
theorem dX6_pieces_83 : decode cX6_pieces 83 = .ok (.ireturn, 1) := by decide +kernel
theorem dX6_pieces_84 : decode cX6_pieces 84 = .ok (.aload_n 0, 1) := by decide +kernel
theorem dX6_pieces_85 : decode cX6_pieces 85 = .ok (.bipush (-2), 2) := by decide +kernel
theorem dX6_pieces_87 : decode cX6_pieces 87 = .ok (.invokevirtual 52, 3) := by decide +kernel
theorem dX6_pieces_90 : decode cX6_pieces 90 = .ok (.ireturn, 1) := by decide +kernel
theorem dX6_border_0 : decode cX6_border 0 = .ok (.iconst 0, 1) := by decide +kernel
theorem dX6_border_1 : decode cX6_border 1 = .ok (.istore_n 0, 1) := by decide +kernel
theorem dX6_border_2 : decode cX6_border 2 = .ok (.iconst 0, 1) := by decide +kernel
theorem dX6_border_3 : decode cX6_border 3 = .ok (.istore_n 1, 1) := by decide +kernel
theorem dX6_border_4 : decode cX6_border 4 = .ok (.iload_n 1, 1) := by decide +kernel
theorem dX6_border_5 : decode cX6_border 5 = .ok (.bipush 25, 2) := by decide +kernel
theorem dX6_border_7 : decode cX6_border 7 = .ok (.if_icmp .ge 43, 3) := by decide +kernel
theorem dX6_border_10 : decode cX6_border 10 = .ok (.iload_n 0, 1) := by decide +kernel
theorem dX6_border_11 : decode cX6_border 11 = .ok (.iload_n 1, 1) := by decide +kernel
theorem dX6_border_12 : decode cX6_border 12 = .ok (.iconst 5, 1) := by decide +kernel
theorem dX6_border_13 : decode cX6_border 13 = .ok (.if_icmp .lt 22, 3) := by decide +kernel
theorem dX6_border_16 : decode cX6_border 16 = .ok (.iload_n 1, 1) := by decide +kernel
theorem dX6_border_17 : decode cX6_border 17 = .ok (.bipush 20, 2) := by decide +kernel
theorem dX6_border_19 : decode cX6_border 19 = .ok (.if_icmp .ge 16, 3) := by decide +kernel
theorem dX6_border_22 : decode cX6_border 22 = .ok (.iload_n 1, 1) := by decide +kernel
theorem dX6_border_23 : decode cX6_border 23 = .ok (.iconst 5, 1) := by decide +kernel
theorem dX6_border_24 : decode cX6_border 24 = .ok (.irem, 1) := by decide +kernel
theorem dX6_border_25 : decode cX6_border 25 = .ok (.ifCond .eq 10, 3) := by decide +kernel
theorem dX6_border_28 : decode cX6_border 28 = .ok (.iload_n 1, 1) := by decide +kernel
theorem dX6_border_29 : decode cX6_border 29 = .ok (.iconst 5, 1) := by decide +kernel
theorem dX6_border_30 : decode cX6_border 30 = .ok (.irem, 1) := by decide +kernel
theorem dX6_border_31 : decode cX6_border 31 = .ok (.iconst 4, 1) := by decide +kernel
theorem dX6_border_32 : decode cX6_border 32 = .ok (.if_icmp .ne 9, 3) := by decide +kernel
theorem dX6_border_35 : decode cX6_border 35 = .ok (.iconst 1, 1) := by decide +kernel
theorem dX6_border_36 : decode cX6_border 36 = .ok (.iload_n 1, 1) := by decide +kernel
theorem dX6_border_37 : decode cX6_border 37 = .ok (.ishl, 1) := by decide +kernel
theorem dX6_border_38 : decode cX6_border 38 = .ok (.goto 4, 3) := by decide +kernel
theorem dX6_border_41 : decode cX6_border 41 = .ok (.iconst 0, 1) := by decide +kernel
theorem dX6_border_42 : decode cX6_border 42 = .ok (.ior, 1) := by decide +kernel
theorem dX6_border_43 : decode cX6_border 43 = .ok (.istore_n 0, 1) := by decide +kernel
theorem dX6_border_44 : decode cX6_border 44 = .ok (.iinc 1 1, 3) := by decide +kernel
theorem dX6_border_47 : decode cX6_border 47 = .ok (.goto (-43), 3) := by decide +kernel
theorem dX6_border_50 : decode cX6_border 50 = .ok (.iload_n 0, 1) := by decide +kernel
theorem dX6_border_51 : decode cX6_border 51 = .ok (.ireturn, 1) := by decide +kernel
theorem dX6_edge_0 : decode cX6_edge 0 = .ok (.iload_n 1, 1) := by decide +kernel
theorem dX6_edge_1 : decode cX6_edge 1 = .ok (.iconst 0, 1) := by decide +kernel
theorem dX6_edge_2 : decode cX6_edge 2 = .ok (.iconst 1, 1) := by decide +kernel
theorem dX6_edge_3 : decode cX6_edge 3 = .ok (.invokestatic 58, 3) := by decide +kernel
theorem dX6_edge_6 : decode cX6_edge 6 = .ok (.ifCond .ne 10, 3) := by decide +kernel
theorem dX6_edge_9 : decode cX6_edge 9 = .ok (.aload_n 0, 1) := by decide +kernel
theorem dX6_edge_10 : decode cX6_edge 10 = .ok (.bipush (-2), 2) := by decide +kernel
theorem dX6_edge_12 : decode cX6_edge 12 = .ok (.invokevirtual 52, 3) := by decide +kernel
theorem dX6_edge_15 : decode cX6_edge 15 = .ok (.ireturn, 1) := by decide +kernel
theorem dX6_edge_16 : decode cX6_edge 16 = .ok (.iconst 0, 1) := by decide +kernel
theorem dX6_edge_17 : decode cX6_edge 17 = .ok (.istore_n 2, 1) := by decide +kernel
theorem dX6_edge_18 : decode cX6_edge 18 = .ok (.ldc 9, 2) := by decide +kernel
theorem dX6_edge_20 : decode cX6_edge 20 = .ok (.aload_n 0, 1) := by decide +kernel
theorem dX6_edge_21 : decode cX6_edge 21 = .ok (.getfield 10, 3) := by decide +kernel
theorem dX6_edge_24 : decode cX6_edge 24 = .ok (.iconst (-1), 1) := by decide +kernel
theorem dX6_edge_25 : decode cX6_edge 25 = .ok (.ixor, 1) := by decide +kernel
theorem dX6_edge_26 : decode cX6_edge 26 = .ok (.iand, 1) := by decide +kernel
theorem dX6_edge_27 : decode cX6_edge 27 = .ok (.istore_n 3, 1) := by decide +kernel
theorem dX6_edge_28 : decode cX6_edge 28 = .ok (.iload_n 1, 1) := by decide +kernel
theorem dX6_edge_29 : decode cX6_edge 29 = .ok (.ifCond .ne 57, 3) := by decide +kernel
theorem dX6_edge_32 : decode cX6_edge 32 = .ok (.iconst 0, 1) := by decide +kernel
theorem dX6_edge_33 : decode cX6_edge 33 = .ok (.istore 4, 2) := by decide +kernel
theorem dX6_edge_35 : decode cX6_edge 35 = .ok (.iload 4, 2) := by decide +kernel
theorem dX6_edge_37 : decode cX6_edge 37 = .ok (.bipush 25, 2) := by decide +kernel
theorem dX6_edge_39 : decode cX6_edge 39 = .ok (.if_icmp .ge 45, 3) := by decide +kernel
theorem dX6_edge_42 : decode cX6_edge 42 = .ok (.iload_n 2, 1) := by decide +kernel
theorem dX6_edge_43 : decode cX6_edge 43 = .ok (.aload_n 0, 1) := by decide +kernel
theorem dX6_edge_44 : decode cX6_edge 44 = .ok (.getfield 10, 3) := by decide +kernel
theorem dX6_edge_47 : decode cX6_edge 47 = .ok (.iload 4, 2) := by decide +kernel
theorem dX6_edge_49 : decode cX6_edge 49 = .ok (.invokestatic 72, 3) := by decide +kernel
theorem dX6_edge_52 : decode cX6_edge 52 = .ok (.ifCond .eq 23, 3) := by decide +kernel
theorem dX6_edge_55 : decode cX6_edge 55 = .ok (.iconst 4, 1) := by decide +kernel
theorem dX6_edge_56 : decode cX6_edge 56 = .ok (.iconst 1, 1) := by decide +kernel
theorem dX6_edge_57 : decode cX6_edge 57 = .ok (.iload 4, 2) := by decide +kernel
theorem dX6_edge_59 : decode cX6_edge 59 = .ok (.ishl, 1) := by decide +kernel
theorem dX6_edge_60 : decode cX6_edge 60 = .ok (.invokestatic 69, 3) := by decide +kernel
theorem dX6_edge_63 : decode cX6_edge 63 = .ok (.aload_n 0, 1) := by decide +kernel
theorem dX6_edge_64 : decode cX6_edge 64 = .ok (.getfield 10, 3) := by decide +kernel
theorem dX6_edge_67 : decode cX6_edge 67 = .ok (.iand, 1) := by decide +kernel
theorem dX6_edge_68 : decode cX6_edge 68 = .ok (.invokestatic 82, 3) := by decide +kernel
theorem dX6_edge_71 : decode cX6_edge 71 = .ok (.isub, 1) := by decide +kernel
theorem dX6_edge_72 : decode cX6_edge 72 = .ok (.goto 4, 3) := by decide +kernel
theorem dX6_edge_75 : decode cX6_edge 75 = .ok (.iconst 0, 1) := by decide +kernel
theorem dX6_edge_76 : decode cX6_edge 76 = .ok (.iadd, 1) := by decide +kernel
theorem dX6_edge_77 : decode cX6_edge 77 = .ok (.istore_n 2, 1) := by decide +kernel
theorem dX6_edge_78 : decode cX6_edge 78 = .ok (.iinc 4 1, 3) := by decide +kernel
theorem dX6_edge_81 : decode cX6_edge 81 = .ok (.goto (-46), 3) := by decide +kernel
theorem dX6_edge_84 : decode cX6_edge 84 = .ok (.iload_n 2, 1) := by decide +kernel
theorem dX6_edge_85 : decode cX6_edge 85 = .ok (.ireturn, 1) := by decide +kernel
theorem dX6_edge_86 : decode cX6_edge 86 = .ok (.iload_n 3, 1) := by decide +kernel
theorem dX6_edge_87 : decode cX6_edge 87 = .ok (.istore 4, 2) := by decide +kernel
theorem dX6_edge_89 : decode cX6_edge 89 = .ok (.iload 4, 2) := by decide +kernel
theorem dX6_edge_91 : decode cX6_edge 91 = .ok (.ifCond .eq 46, 3) := by decide +kernel
theorem dX6_edge_94 : decode cX6_edge 94 = .ok (.iload_n 2, 1) := by decide +kernel
theorem dX6_edge_95 : decode cX6_edge 95 = .ok (.iload_n 3, 1) := by decide +kernel
theorem dX6_edge_96 : decode cX6_edge 96 = .ok (.iload 4, 2) := by decide +kernel
theorem dX6_edge_98 : decode cX6_edge 98 = .ok (.invokestatic 76, 3) := by decide +kernel
theorem dX6_edge_101 : decode cX6_edge 101 = .ok (.invokestatic 79, 3) := by decide +kernel
theorem dX6_edge_104 : decode cX6_edge 104 = .ok (.invokestatic 180, 3) := by decide +kernel
theorem dX6_edge_107 : decode cX6_edge 107 = .ok (.iand, 1) := by decide +kernel
theorem dX6_edge_108 : decode cX6_edge 108 = .ok (.ifCond .ne 7, 3) := by decide +kernel
theorem dX6_edge_111 : decode cX6_edge 111 = .ok (.iconst 1, 1) := by decide +kernel
theorem dX6_edge_112 : decode cX6_edge 112 = .ok (.goto 4, 3) := by decide +kernel
theorem dX6_edge_115 : decode cX6_edge 115 = .ok (.iconst 0, 1) := by decide +kernel
theorem dX6_edge_116 : decode cX6_edge 116 = .ok (.iadd, 1) := by decide +kernel
theorem dX6_edge_117 : decode cX6_edge 117 = .ok (.istore_n 2, 1) := by decide +kernel
theorem dX6_edge_118 : decode cX6_edge 118 = .ok (.iload 4, 2) := by decide +kernel
theorem dX6_edge_120 : decode cX6_edge 120 = .ok (.iload_n 3, 1) := by decide +kernel
theorem dX6_edge_121 : decode cX6_edge 121 = .ok (.iload 4, 2) := by decide +kernel
theorem dX6_edge_123 : decode cX6_edge 123 = .ok (.invokestatic 76, 3) := by decide +kernel
theorem dX6_edge_126 : decode cX6_edge 126 = .ok (.invokestatic 79, 3) := by decide +kernel
theorem dX6_edge_129 : decode cX6_edge 129 = .ok (.iconst (-1), 1) := by decide +kernel
theorem dX6_edge_130 : decode cX6_edge 130 = .ok (.ixor, 1) := by decide +kernel
theorem dX6_edge_131 : decode cX6_edge 131 = .ok (.iand, 1) := by decide +kernel
theorem dX6_edge_132 : decode cX6_edge 132 = .ok (.istore 4, 2) := by decide +kernel
theorem dX6_edge_134 : decode cX6_edge 134 = .ok (.goto (-45), 3) := by decide +kernel
theorem dX6_edge_137 : decode cX6_edge 137 = .ok (.iload_n 2, 1) := by decide +kernel
theorem dX6_edge_138 : decode cX6_edge 138 = .ok (.ireturn, 1) := by decide +kernel
theorem dX6_biteFor_0 : decode cX6_biteFor 0 = .ok (.bipush (-9), 2) := by decide +kernel
theorem dX6_biteFor_2 : decode cX6_biteFor 2 = .ok (.istore 4, 2) := by decide +kernel
theorem dX6_biteFor_4 : decode cX6_biteFor 4 = .ok (.iload_n 3, 1) := by decide +kernel
theorem dX6_biteFor_5 : decode cX6_biteFor 5 = .ok (.aload_n 0, 1) := by decide +kernel
theorem dX6_biteFor_6 : decode cX6_biteFor 6 = .ok (.iload_n 1, 1) := by decide +kernel
theorem dX6_biteFor_7 : decode cX6_biteFor 7 = .ok (.iload_n 2, 1) := by decide +kernel
theorem dX6_biteFor_8 : decode cX6_biteFor 8 = .ok (.invokevirtual 98, 3) := by decide +kernel
theorem dX6_biteFor_11 : decode cX6_biteFor 11 = .ok (.imul, 1) := by decide +kernel
theorem dX6_biteFor_12 : decode cX6_biteFor 12 = .ok (.istore 5, 2) := by decide +kernel
theorem dX6_biteFor_14 : decode cX6_biteFor 14 = .ok (.iconst 0, 1) := by decide +kernel
theorem dX6_biteFor_15 : decode cX6_biteFor 15 = .ok (.istore 6, 2) := by decide +kernel
theorem dX6_biteFor_17 : decode cX6_biteFor 17 = .ok (.iload 6, 2) := by decide +kernel
theorem dX6_biteFor_19 : decode cX6_biteFor 19 = .ok (.iconst 4, 1) := by decide +kernel
theorem dX6_biteFor_20 : decode cX6_biteFor 20 = .ok (.if_icmp .ge 83, 3) := by decide +kernel
theorem dX6_biteFor_23 : decode cX6_biteFor 23 = .ok (.iconst 0, 1) := by decide +kernel
theorem dX6_biteFor_24 : decode cX6_biteFor 24 = .ok (.istore 7, 2) := by decide +kernel
theorem dX6_biteFor_26 : decode cX6_biteFor 26 = .ok (.iload 7, 2) := by decide +kernel
theorem dX6_biteFor_28 : decode cX6_biteFor 28 = .ok (.bipush 25, 2) := by decide +kernel
theorem dX6_biteFor_30 : decode cX6_biteFor 30 = .ok (.if_icmp .ge 67, 3) := by decide +kernel
theorem dX6_biteFor_33 : decode cX6_biteFor 33 = .ok (.iload_n 1, 1) := by decide +kernel
theorem dX6_biteFor_34 : decode cX6_biteFor 34 = .ok (.iload 6, 2) := by decide +kernel
theorem dX6_biteFor_36 : decode cX6_biteFor 36 = .ok (.iload 7, 2) := by decide +kernel
theorem dX6_biteFor_38 : decode cX6_biteFor 38 = .ok (.invokestatic 134, 3) := by decide +kernel
theorem dX6_biteFor_41 : decode cX6_biteFor 41 = .ok (.ifCond .ne 6, 3) := by decide +kernel
theorem dX6_biteFor_44 : decode cX6_biteFor 44 = .ok (.goto 47, 3) := by decide +kernel
theorem dX6_biteFor_47 : decode cX6_biteFor 47 = .ok (.iload_n 3, 1) := by decide +kernel
theorem dX6_biteFor_48 : decode cX6_biteFor 48 = .ok (.aload_n 0, 1) := by decide +kernel
theorem dX6_biteFor_49 : decode cX6_biteFor 49 = .ok (.iload_n 1, 1) := by decide +kernel
theorem dX6_biteFor_50 : decode cX6_biteFor 50 = .ok (.iload 6, 2) := by decide +kernel
theorem dX6_biteFor_52 : decode cX6_biteFor 52 = .ok (.iload 7, 2) := by decide +kernel
theorem dX6_biteFor_54 : decode cX6_biteFor 54 = .ok (.invokestatic 65, 3) := by decide +kernel
theorem dX6_biteFor_57 : decode cX6_biteFor 57 = .ok (.iconst (-1), 1) := by decide +kernel
theorem dX6_biteFor_58 : decode cX6_biteFor 58 = .ok (.ixor, 1) := by decide +kernel
theorem dX6_biteFor_59 : decode cX6_biteFor 59 = .ok (.iand, 1) := by decide +kernel
theorem dX6_biteFor_60 : decode cX6_biteFor 60 = .ok (.iload_n 2, 1) := by decide +kernel
theorem dX6_biteFor_61 : decode cX6_biteFor 61 = .ok (.invokevirtual 98, 3) := by decide +kernel
theorem dX6_biteFor_64 : decode cX6_biteFor 64 = .ok (.imul, 1) := by decide +kernel
theorem dX6_biteFor_65 : decode cX6_biteFor 65 = .ok (.istore 8, 2) := by decide +kernel
theorem dX6_biteFor_67 : decode cX6_biteFor 67 = .ok (.iload 8, 2) := by decide +kernel
theorem dX6_biteFor_69 : decode cX6_biteFor 69 = .ok (.iload 5, 2) := by decide +kernel
theorem dX6_biteFor_71 : decode cX6_biteFor 71 = .ok (.if_icmp .gt 6, 3) := by decide +kernel
theorem dX6_biteFor_74 : decode cX6_biteFor 74 = .ok (.goto 17, 3) := by decide +kernel
theorem dX6_biteFor_77 : decode cX6_biteFor 77 = .ok (.bipush 100, 2) := by decide +kernel
theorem dX6_biteFor_79 : decode cX6_biteFor 79 = .ok (.iload 6, 2) := by decide +kernel
theorem dX6_biteFor_81 : decode cX6_biteFor 81 = .ok (.imul, 1) := by decide +kernel
theorem dX6_biteFor_82 : decode cX6_biteFor 82 = .ok (.iload 7, 2) := by decide +kernel
theorem dX6_biteFor_84 : decode cX6_biteFor 84 = .ok (.iadd, 1) := by decide +kernel
theorem dX6_biteFor_85 : decode cX6_biteFor 85 = .ok (.istore 4, 2) := by decide +kernel
theorem dX6_biteFor_87 : decode cX6_biteFor 87 = .ok (.iload 8, 2) := by decide +kernel
theorem dX6_biteFor_89 : decode cX6_biteFor 89 = .ok (.istore 5, 2) := by decide +kernel
theorem dX6_biteFor_91 : decode cX6_biteFor 91 = .ok (.iinc 7 1, 3) := by decide +kernel
theorem dX6_biteFor_94 : decode cX6_biteFor 94 = .ok (.goto (-68), 3) := by decide +kernel
theorem dX6_biteFor_97 : decode cX6_biteFor 97 = .ok (.iinc 6 1, 3) := by decide +kernel
theorem dX6_biteFor_100 : decode cX6_biteFor 100 = .ok (.goto (-83), 3) := by decide +kernel
theorem dX6_biteFor_103 : decode cX6_biteFor 103 = .ok (.iload 4, 2) := by decide +kernel
theorem dX6_biteFor_105 : decode cX6_biteFor 105 = .ok (.ireturn, 1) := by decide +kernel
theorem dX6_after_0 : decode cX6_after 0 = .ok (.iload_n 1, 1) := by decide +kernel
theorem dX6_after_1 : decode cX6_after 1 = .ok (.ifCond .ge 7, 3) := by decide +kernel
theorem dX6_after_4 : decode cX6_after 4 = .ok (.iload_n 0, 1) := by decide +kernel
theorem dX6_after_5 : decode cX6_after 5 = .ok (.goto 18, 3) := by decide +kernel
theorem dX6_after_8 : decode cX6_after 8 = .ok (.iload_n 0, 1) := by decide +kernel
theorem dX6_after_9 : decode cX6_after 9 = .ok (.iload_n 1, 1) := by decide +kernel
theorem dX6_after_10 : decode cX6_after 10 = .ok (.bipush 100, 2) := by decide +kernel
theorem dX6_after_12 : decode cX6_after 12 = .ok (.idiv, 1) := by decide +kernel
theorem dX6_after_13 : decode cX6_after 13 = .ok (.iload_n 1, 1) := by decide +kernel
theorem dX6_after_14 : decode cX6_after 14 = .ok (.bipush 100, 2) := by decide +kernel
theorem dX6_after_16 : decode cX6_after 16 = .ok (.irem, 1) := by decide +kernel
theorem dX6_after_17 : decode cX6_after 17 = .ok (.invokestatic 65, 3) := by decide +kernel
theorem dX6_after_20 : decode cX6_after 20 = .ok (.iconst (-1), 1) := by decide +kernel
theorem dX6_after_21 : decode cX6_after 21 = .ok (.ixor, 1) := by decide +kernel
theorem dX6_after_22 : decode cX6_after 22 = .ok (.iand, 1) := by decide +kernel
theorem dX6_after_23 : decode cX6_after 23 = .ok (.ireturn, 1) := by decide +kernel
theorem dX6_biteTold_0 : decode cX6_biteTold 0 = .ok (.aload_n 0, 1) := by decide +kernel
theorem dX6_biteTold_1 : decode cX6_biteTold 1 = .ok (.iload_n 1, 1) := by decide +kernel
theorem dX6_biteTold_2 : decode cX6_biteTold 2 = .ok (.invokevirtual 168, 3) := by decide +kernel
theorem dX6_biteTold_5 : decode cX6_biteTold 5 = .ok (.ifCond .ne 9, 3) := by decide +kernel
theorem dX6_biteTold_8 : decode cX6_biteTold 8 = .ok (.aload_n 0, 1) := by decide +kernel
theorem dX6_biteTold_9 : decode cX6_biteTold 9 = .ok (.iconst (-1), 1) := by decide +kernel
theorem dX6_biteTold_10 : decode cX6_biteTold 10 = .ok (.invokevirtual 52, 3) := by decide +kernel
theorem dX6_biteTold_13 : decode cX6_biteTold 13 = .ok (.ireturn, 1) := by decide +kernel
theorem dX6_biteTold_14 : decode cX6_biteTold 14 = .ok (.iload_n 2, 1) := by decide +kernel
theorem dX6_biteTold_15 : decode cX6_biteTold 15 = .ok (.iconst 0, 1) := by decide +kernel
theorem dX6_biteTold_16 : decode cX6_biteTold 16 = .ok (.iconst 1, 1) := by decide +kernel
theorem dX6_biteTold_17 : decode cX6_biteTold 17 = .ok (.invokestatic 58, 3) := by decide +kernel
theorem dX6_biteTold_20 : decode cX6_biteTold 20 = .ok (.ifCond .ne 10, 3) := by decide +kernel
theorem dX6_biteTold_23 : decode cX6_biteTold 23 = .ok (.aload_n 0, 1) := by decide +kernel
theorem dX6_biteTold_24 : decode cX6_biteTold 24 = .ok (.bipush (-2), 2) := by decide +kernel
theorem dX6_biteTold_26 : decode cX6_biteTold 26 = .ok (.invokevirtual 52, 3) := by decide +kernel
theorem dX6_biteTold_29 : decode cX6_biteTold 29 = .ok (.ireturn, 1) := by decide +kernel
theorem dX6_biteTold_30 : decode cX6_biteTold 30 = .ok (.aload_n 0, 1) := by decide +kernel
theorem dX6_biteTold_31 : decode cX6_biteTold 31 = .ok (.aload_n 0, 1) := by decide +kernel
theorem dX6_biteTold_32 : decode cX6_biteTold 32 = .ok (.getfield 10, 3) := by decide +kernel
theorem dX6_biteTold_35 : decode cX6_biteTold 35 = .ok (.iload_n 1, 1) := by decide +kernel
theorem dX6_biteTold_36 : decode cX6_biteTold 36 = .ok (.iload_n 3, 1) := by decide +kernel
theorem dX6_biteTold_37 : decode cX6_biteTold 37 = .ok (.invokevirtual 183, 3) := by decide +kernel
theorem dX6_biteTold_40 : decode cX6_biteTold 40 = .ok (.istore 4, 2) := by decide +kernel
theorem dX6_biteTold_42 : decode cX6_biteTold 42 = .ok (.iload 4, 2) := by decide +kernel
theorem dX6_biteTold_44 : decode cX6_biteTold 44 = .ok (.ifCond .lt 7, 3) := by decide +kernel
theorem dX6_biteTold_47 : decode cX6_biteTold 47 = .ok (.iload_n 2, 1) := by decide +kernel
theorem dX6_biteTold_48 : decode cX6_biteTold 48 = .ok (.ifCond .ne 8, 3) := by decide +kernel
theorem dX6_biteTold_51 : decode cX6_biteTold 51 = .ok (.iload 4, 2) := by decide +kernel
theorem dX6_biteTold_53 : decode cX6_biteTold 53 = .ok (.goto 17, 3) := by decide +kernel
theorem dX6_biteTold_56 : decode cX6_biteTold 56 = .ok (.aload_n 0, 1) := by decide +kernel
theorem dX6_biteTold_57 : decode cX6_biteTold 57 = .ok (.aload_n 0, 1) := by decide +kernel
theorem dX6_biteTold_58 : decode cX6_biteTold 58 = .ok (.getfield 10, 3) := by decide +kernel
theorem dX6_biteTold_61 : decode cX6_biteTold 61 = .ok (.iload 4, 2) := by decide +kernel
theorem dX6_biteTold_63 : decode cX6_biteTold 63 = .ok (.invokestatic 186, 3) := by decide +kernel
theorem dX6_biteTold_66 : decode cX6_biteTold 66 = .ok (.iload_n 1, 1) := by decide +kernel
theorem dX6_biteTold_67 : decode cX6_biteTold 67 = .ok (.invokevirtual 98, 3) := by decide +kernel
theorem dX6_biteTold_70 : decode cX6_biteTold 70 = .ok (.ireturn, 1) := by decide +kernel
theorem dX6_best_0 : decode cX6_best 0 = .ok (.aload_n 0, 1) := by decide +kernel
theorem dX6_best_1 : decode cX6_best 1 = .ok (.iload_n 1, 1) := by decide +kernel
theorem dX6_best_2 : decode cX6_best 2 = .ok (.iload_n 2, 1) := by decide +kernel
theorem dX6_best_3 : decode cX6_best 3 = .ok (.iconst 1, 1) := by decide +kernel
theorem dX6_best_4 : decode cX6_best 4 = .ok (.invokevirtual 189, 3) := by decide +kernel
theorem dX6_best_7 : decode cX6_best 7 = .ok (.ireturn, 1) := by decide +kernel
theorem dX6_worst_0 : decode cX6_worst 0 = .ok (.aload_n 0, 1) := by decide +kernel
theorem dX6_worst_1 : decode cX6_worst 1 = .ok (.iload_n 1, 1) := by decide +kernel
theorem dX6_worst_2 : decode cX6_worst 2 = .ok (.iload_n 2, 1) := by decide +kernel
theorem dX6_worst_3 : decode cX6_worst 3 = .ok (.iconst (-1), 1) := by decide +kernel
theorem dX6_worst_4 : decode cX6_worst 4 = .ok (.invokevirtual 189, 3) := by decide +kernel
theorem dX6_worst_7 : decode cX6_worst 7 = .ok (.ireturn, 1) := by decide +kernel
theorem dX6_isSoBy_0 : decode cX6_isSoBy 0 = .ok (.iload 4, 2) := by decide +kernel
theorem dX6_isSoBy_2 : decode cX6_isSoBy 2 = .ok (.ifCond .ne 19, 3) := by decide +kernel
theorem dX6_isSoBy_5 : decode cX6_isSoBy 5 = .ok (.aload_n 0, 1) := by decide +kernel
theorem dX6_isSoBy_6 : decode cX6_isSoBy 6 = .ok (.iload_n 1, 1) := by decide +kernel
theorem dX6_isSoBy_7 : decode cX6_isSoBy 7 = .ok (.iload_n 2, 1) := by decide +kernel
theorem dX6_isSoBy_8 : decode cX6_isSoBy 8 = .ok (.invokevirtual 98, 3) := by decide +kernel
theorem dX6_isSoBy_11 : decode cX6_isSoBy 11 = .ok (.iload_n 3, 1) := by decide +kernel
theorem dX6_isSoBy_12 : decode cX6_isSoBy 12 = .ok (.if_icmp .lt 7, 3) := by decide +kernel
theorem dX6_isSoBy_15 : decode cX6_isSoBy 15 = .ok (.iconst 1, 1) := by decide +kernel
theorem dX6_isSoBy_16 : decode cX6_isSoBy 16 = .ok (.goto 4, 3) := by decide +kernel
theorem dX6_isSoBy_19 : decode cX6_isSoBy 19 = .ok (.iconst 0, 1) := by decide +kernel
theorem dX6_isSoBy_20 : decode cX6_isSoBy 20 = .ok (.ireturn, 1) := by decide +kernel
theorem dX6_isSoBy_21 : decode cX6_isSoBy 21 = .ok (.iconst 0, 1) := by decide +kernel
theorem dX6_isSoBy_22 : decode cX6_isSoBy 22 = .ok (.istore 5, 2) := by decide +kernel
theorem dX6_isSoBy_24 : decode cX6_isSoBy 24 = .ok (.iload 5, 2) := by decide +kernel
theorem dX6_isSoBy_26 : decode cX6_isSoBy 26 = .ok (.iconst 4, 1) := by decide +kernel
theorem dX6_isSoBy_27 : decode cX6_isSoBy 27 = .ok (.if_icmp .ge 62, 3) := by decide +kernel
theorem dX6_isSoBy_30 : decode cX6_isSoBy 30 = .ok (.iconst 0, 1) := by decide +kernel
theorem dX6_isSoBy_31 : decode cX6_isSoBy 31 = .ok (.istore 6, 2) := by decide +kernel
theorem dX6_isSoBy_33 : decode cX6_isSoBy 33 = .ok (.iload 6, 2) := by decide +kernel
theorem dX6_isSoBy_35 : decode cX6_isSoBy 35 = .ok (.bipush 25, 2) := by decide +kernel
theorem dX6_isSoBy_37 : decode cX6_isSoBy 37 = .ok (.if_icmp .ge 46, 3) := by decide +kernel
theorem dX6_isSoBy_40 : decode cX6_isSoBy 40 = .ok (.iload_n 1, 1) := by decide +kernel
theorem dX6_isSoBy_41 : decode cX6_isSoBy 41 = .ok (.iload 5, 2) := by decide +kernel
theorem dX6_isSoBy_43 : decode cX6_isSoBy 43 = .ok (.iload 6, 2) := by decide +kernel
theorem dX6_isSoBy_45 : decode cX6_isSoBy 45 = .ok (.invokestatic 134, 3) := by decide +kernel
theorem dX6_isSoBy_48 : decode cX6_isSoBy 48 = .ok (.ifCond .eq 29, 3) := by decide +kernel
theorem dX6_isSoBy_51 : decode cX6_isSoBy 51 = .ok (.aload_n 0, 1) := by decide +kernel
theorem dX6_isSoBy_52 : decode cX6_isSoBy 52 = .ok (.iload_n 1, 1) := by decide +kernel
theorem dX6_isSoBy_53 : decode cX6_isSoBy 53 = .ok (.iload 5, 2) := by decide +kernel
theorem dX6_isSoBy_55 : decode cX6_isSoBy 55 = .ok (.iload 6, 2) := by decide +kernel
theorem dX6_isSoBy_57 : decode cX6_isSoBy 57 = .ok (.invokestatic 65, 3) := by decide +kernel
theorem dX6_isSoBy_60 : decode cX6_isSoBy 60 = .ok (.iconst (-1), 1) := by decide +kernel
theorem dX6_isSoBy_61 : decode cX6_isSoBy 61 = .ok (.ixor, 1) := by decide +kernel
theorem dX6_isSoBy_62 : decode cX6_isSoBy 62 = .ok (.iand, 1) := by decide +kernel
theorem dX6_isSoBy_63 : decode cX6_isSoBy 63 = .ok (.iload_n 2, 1) := by decide +kernel
theorem dX6_isSoBy_64 : decode cX6_isSoBy 64 = .ok (.iload_n 3, 1) := by decide +kernel
theorem dX6_isSoBy_65 : decode cX6_isSoBy 65 = .ok (.iload 4, 2) := by decide +kernel
theorem dX6_isSoBy_67 : decode cX6_isSoBy 67 = .ok (.iconst 1, 1) := by decide +kernel
theorem dX6_isSoBy_68 : decode cX6_isSoBy 68 = .ok (.isub, 1) := by decide +kernel
theorem dX6_isSoBy_69 : decode cX6_isSoBy 69 = .ok (.invokevirtual 192, 3) := by decide +kernel
theorem dX6_isSoBy_72 : decode cX6_isSoBy 72 = .ok (.ifCond .eq 5, 3) := by decide +kernel
theorem dX6_isSoBy_75 : decode cX6_isSoBy 75 = .ok (.iconst 1, 1) := by decide +kernel
theorem dX6_isSoBy_76 : decode cX6_isSoBy 76 = .ok (.ireturn, 1) := by decide +kernel
theorem dX6_isSoBy_77 : decode cX6_isSoBy 77 = .ok (.iinc 6 1, 3) := by decide +kernel
theorem dX6_isSoBy_80 : decode cX6_isSoBy 80 = .ok (.goto (-47), 3) := by decide +kernel
theorem dX6_isSoBy_83 : decode cX6_isSoBy 83 = .ok (.iinc 5 1, 3) := by decide +kernel
theorem dX6_isSoBy_86 : decode cX6_isSoBy 86 = .ok (.goto (-62), 3) := by decide +kernel
theorem dX6_isSoBy_89 : decode cX6_isSoBy 89 = .ok (.iconst 0, 1) := by decide +kernel
theorem dX6_isSoBy_90 : decode cX6_isSoBy 90 = .ok (.ireturn, 1) := by decide +kernel
theorem dX6_firstSo_0 : decode cX6_firstSo 0 = .ok (.iconst 0, 1) := by decide +kernel
theorem dX6_firstSo_1 : decode cX6_firstSo 1 = .ok (.istore 4, 2) := by decide +kernel
theorem dX6_firstSo_3 : decode cX6_firstSo 3 = .ok (.iload 4, 2) := by decide +kernel
theorem dX6_firstSo_5 : decode cX6_firstSo 5 = .ok (.iconst 4, 1) := by decide +kernel
theorem dX6_firstSo_6 : decode cX6_firstSo 6 = .ok (.if_icmp .ge 74, 3) := by decide +kernel
theorem dX6_firstSo_9 : decode cX6_firstSo 9 = .ok (.iconst 0, 1) := by decide +kernel
theorem dX6_firstSo_10 : decode cX6_firstSo 10 = .ok (.istore 5, 2) := by decide +kernel
theorem dX6_firstSo_12 : decode cX6_firstSo 12 = .ok (.iload 5, 2) := by decide +kernel
theorem dX6_firstSo_14 : decode cX6_firstSo 14 = .ok (.bipush 25, 2) := by decide +kernel
theorem dX6_firstSo_16 : decode cX6_firstSo 16 = .ok (.if_icmp .ge 58, 3) := by decide +kernel
theorem dX6_firstSo_19 : decode cX6_firstSo 19 = .ok (.aload_n 0, 1) := by decide +kernel
theorem dX6_firstSo_20 : decode cX6_firstSo 20 = .ok (.getfield 10, 3) := by decide +kernel
theorem dX6_firstSo_23 : decode cX6_firstSo 23 = .ok (.iload 4, 2) := by decide +kernel
theorem dX6_firstSo_25 : decode cX6_firstSo 25 = .ok (.iload 5, 2) := by decide +kernel
theorem dX6_firstSo_27 : decode cX6_firstSo 27 = .ok (.invokestatic 134, 3) := by decide +kernel
theorem dX6_firstSo_30 : decode cX6_firstSo 30 = .ok (.ifCond .eq 38, 3) := by decide +kernel
theorem dX6_firstSo_33 : decode cX6_firstSo 33 = .ok (.aload_n 0, 1) := by decide +kernel
theorem dX6_firstSo_34 : decode cX6_firstSo 34 = .ok (.aload_n 0, 1) := by decide +kernel
theorem dX6_firstSo_35 : decode cX6_firstSo 35 = .ok (.getfield 10, 3) := by decide +kernel
theorem dX6_firstSo_38 : decode cX6_firstSo 38 = .ok (.iload 4, 2) := by decide +kernel
theorem dX6_firstSo_40 : decode cX6_firstSo 40 = .ok (.iload 5, 2) := by decide +kernel
theorem dX6_firstSo_42 : decode cX6_firstSo 42 = .ok (.invokestatic 65, 3) := by decide +kernel
theorem dX6_firstSo_45 : decode cX6_firstSo 45 = .ok (.iconst (-1), 1) := by decide +kernel
theorem dX6_firstSo_46 : decode cX6_firstSo 46 = .ok (.ixor, 1) := by decide +kernel
theorem dX6_firstSo_47 : decode cX6_firstSo 47 = .ok (.iand, 1) := by decide +kernel
theorem dX6_firstSo_48 : decode cX6_firstSo 48 = .ok (.iload_n 1, 1) := by decide +kernel
theorem dX6_firstSo_49 : decode cX6_firstSo 49 = .ok (.iload_n 2, 1) := by decide +kernel
theorem dX6_firstSo_50 : decode cX6_firstSo 50 = .ok (.iload_n 3, 1) := by decide +kernel
theorem dX6_firstSo_51 : decode cX6_firstSo 51 = .ok (.iconst 1, 1) := by decide +kernel
theorem dX6_firstSo_52 : decode cX6_firstSo 52 = .ok (.isub, 1) := by decide +kernel
theorem dX6_firstSo_53 : decode cX6_firstSo 53 = .ok (.invokevirtual 192, 3) := by decide +kernel
theorem dX6_firstSo_56 : decode cX6_firstSo 56 = .ok (.ifCond .eq 12, 3) := by decide +kernel
theorem dX6_firstSo_59 : decode cX6_firstSo 59 = .ok (.bipush 100, 2) := by decide +kernel
theorem dX6_firstSo_61 : decode cX6_firstSo 61 = .ok (.iload 4, 2) := by decide +kernel
theorem dX6_firstSo_63 : decode cX6_firstSo 63 = .ok (.imul, 1) := by decide +kernel
theorem dX6_firstSo_64 : decode cX6_firstSo 64 = .ok (.iload 5, 2) := by decide +kernel
theorem dX6_firstSo_66 : decode cX6_firstSo 66 = .ok (.iadd, 1) := by decide +kernel
theorem dX6_firstSo_67 : decode cX6_firstSo 67 = .ok (.ireturn, 1) := by decide +kernel
theorem dX6_firstSo_68 : decode cX6_firstSo 68 = .ok (.iinc 5 1, 3) := by decide +kernel
theorem dX6_firstSo_71 : decode cX6_firstSo 71 = .ok (.goto (-59), 3) := by decide +kernel
theorem dX6_firstSo_74 : decode cX6_firstSo 74 = .ok (.iinc 4 1, 3) := by decide +kernel
theorem dX6_firstSo_77 : decode cX6_firstSo 77 = .ok (.goto (-74), 3) := by decide +kernel
theorem dX6_firstSo_80 : decode cX6_firstSo 80 = .ok (.bipush (-9), 2) := by decide +kernel
theorem dX6_firstSo_82 : decode cX6_firstSo 82 = .ok (.ireturn, 1) := by decide +kernel
theorem dX6_fewest_0 : decode cX6_fewest 0 = .ok (.aload_n 0, 1) := by decide +kernel
theorem dX6_fewest_1 : decode cX6_fewest 1 = .ok (.iload_n 1, 1) := by decide +kernel
theorem dX6_fewest_2 : decode cX6_fewest 2 = .ok (.invokevirtual 168, 3) := by decide +kernel
theorem dX6_fewest_5 : decode cX6_fewest 5 = .ok (.ifCond .eq 12, 3) := by decide +kernel
theorem dX6_fewest_8 : decode cX6_fewest 8 = .ok (.iload_n 2, 1) := by decide +kernel
theorem dX6_fewest_9 : decode cX6_fewest 9 = .ok (.bipush 40, 2) := by decide +kernel
theorem dX6_fewest_11 : decode cX6_fewest 11 = .ok (.invokestatic 171, 3) := by decide +kernel
theorem dX6_fewest_14 : decode cX6_fewest 14 = .ok (.goto 4, 3) := by decide +kernel
theorem dX6_fewest_17 : decode cX6_fewest 17 = .ok (.iconst (-1), 1) := by decide +kernel
theorem dX6_fewest_18 : decode cX6_fewest 18 = .ok (.istore 4, 2) := by decide +kernel
theorem dX6_fewest_20 : decode cX6_fewest 20 = .ok (.iload 4, 2) := by decide +kernel
theorem dX6_fewest_22 : decode cX6_fewest 22 = .ok (.ifCond .ne 16, 3) := by decide +kernel
theorem dX6_fewest_25 : decode cX6_fewest 25 = .ok (.iload_n 3, 1) := by decide +kernel
theorem dX6_fewest_26 : decode cX6_fewest 26 = .ok (.iconst 0, 1) := by decide +kernel
theorem dX6_fewest_27 : decode cX6_fewest 27 = .ok (.iconst 1, 1) := by decide +kernel
theorem dX6_fewest_28 : decode cX6_fewest 28 = .ok (.invokestatic 58, 3) := by decide +kernel
theorem dX6_fewest_31 : decode cX6_fewest 31 = .ok (.ifCond .ne 7, 3) := by decide +kernel
theorem dX6_fewest_34 : decode cX6_fewest 34 = .ok (.bipush (-2), 2) := by decide +kernel
theorem dX6_fewest_36 : decode cX6_fewest 36 = .ok (.istore 4, 2) := by decide +kernel
theorem dX6_fewest_38 : decode cX6_fewest 38 = .ok (.iload 4, 2) := by decide +kernel
theorem dX6_fewest_40 : decode cX6_fewest 40 = .ok (.ifCond .eq 10, 3) := by decide +kernel
theorem dX6_fewest_43 : decode cX6_fewest 43 = .ok (.aload_n 0, 1) := by decide +kernel
theorem dX6_fewest_44 : decode cX6_fewest 44 = .ok (.iload 4, 2) := by decide +kernel
theorem dX6_fewest_46 : decode cX6_fewest 46 = .ok (.invokevirtual 52, 3) := by decide +kernel
theorem dX6_fewest_49 : decode cX6_fewest 49 = .ok (.ireturn, 1) := by decide +kernel
theorem dX6_fewest_50 : decode cX6_fewest 50 = .ok (.iconst 0, 1) := by decide +kernel
theorem dX6_fewest_51 : decode cX6_fewest 51 = .ok (.istore 5, 2) := by decide +kernel
theorem dX6_fewest_53 : decode cX6_fewest 53 = .ok (.iload 5, 2) := by decide +kernel
theorem dX6_fewest_55 : decode cX6_fewest 55 = .ok (.iconst 3, 1) := by decide +kernel
theorem dX6_fewest_56 : decode cX6_fewest 56 = .ok (.if_icmp .ge 52, 3) := by decide +kernel
theorem dX6_fewest_59 : decode cX6_fewest 59 = .ok (.aload_n 0, 1) := by decide +kernel
theorem dX6_fewest_60 : decode cX6_fewest 60 = .ok (.aload_n 0, 1) := by decide +kernel
theorem dX6_fewest_61 : decode cX6_fewest 61 = .ok (.getfield 10, 3) := by decide +kernel
theorem dX6_fewest_64 : decode cX6_fewest 64 = .ok (.iload_n 1, 1) := by decide +kernel
theorem dX6_fewest_65 : decode cX6_fewest 65 = .ok (.iload_n 2, 1) := by decide +kernel
theorem dX6_fewest_66 : decode cX6_fewest 66 = .ok (.iload 5, 2) := by decide +kernel
theorem dX6_fewest_68 : decode cX6_fewest 68 = .ok (.invokevirtual 192, 3) := by decide +kernel
theorem dX6_fewest_71 : decode cX6_fewest 71 = .ok (.ifCond .eq 31, 3) := by decide +kernel
theorem dX6_fewest_74 : decode cX6_fewest 74 = .ok (.iload_n 3, 1) := by decide +kernel
theorem dX6_fewest_75 : decode cX6_fewest 75 = .ok (.ifCond .ne 8, 3) := by decide +kernel
theorem dX6_fewest_78 : decode cX6_fewest 78 = .ok (.iload 5, 2) := by decide +kernel
theorem dX6_fewest_80 : decode cX6_fewest 80 = .ok (.goto 21, 3) := by decide +kernel
theorem dX6_fewest_83 : decode cX6_fewest 83 = .ok (.iload 5, 2) := by decide +kernel
theorem dX6_fewest_85 : decode cX6_fewest 85 = .ok (.ifCond .ne 8, 3) := by decide +kernel
theorem dX6_fewest_88 : decode cX6_fewest 88 = .ok (.bipush (-9), 2) := by decide +kernel
theorem dX6_fewest_90 : decode cX6_fewest 90 = .ok (.goto 11, 3) := by decide +kernel
theorem dX6_fewest_93 : decode cX6_fewest 93 = .ok (.aload_n 0, 1) := by decide +kernel
theorem dX6_fewest_94 : decode cX6_fewest 94 = .ok (.iload_n 1, 1) := by decide +kernel
theorem dX6_fewest_95 : decode cX6_fewest 95 = .ok (.iload_n 2, 1) := by decide +kernel
theorem dX6_fewest_96 : decode cX6_fewest 96 = .ok (.iload 5, 2) := by decide +kernel
theorem dX6_fewest_98 : decode cX6_fewest 98 = .ok (.invokevirtual 196, 3) := by decide +kernel
theorem dX6_fewest_101 : decode cX6_fewest 101 = .ok (.ireturn, 1) := by decide +kernel
theorem dX6_fewest_102 : decode cX6_fewest 102 = .ok (.iinc 5 1, 3) := by decide +kernel
theorem dX6_fewest_105 : decode cX6_fewest 105 = .ok (.goto (-52), 3) := by decide +kernel
theorem dX6_fewest_108 : decode cX6_fewest 108 = .ok (.bipush (-9), 2) := by decide +kernel
theorem dX6_fewest_110 : decode cX6_fewest 110 = .ok (.ireturn, 1) := by decide +kernel
theorem dX6_safe_0 : decode cX6_safe 0 = .ok (.iconst 0, 1) := by decide +kernel
theorem dX6_safe_1 : decode cX6_safe 1 = .ok (.istore_n 1, 1) := by decide +kernel
theorem dX6_safe_2 : decode cX6_safe 2 = .ok (.iconst 0, 1) := by decide +kernel
theorem dX6_safe_3 : decode cX6_safe 3 = .ok (.istore_n 2, 1) := by decide +kernel
theorem dX6_safe_4 : decode cX6_safe 4 = .ok (.iload_n 2, 1) := by decide +kernel
theorem dX6_safe_5 : decode cX6_safe 5 = .ok (.iconst 4, 1) := by decide +kernel
theorem dX6_safe_6 : decode cX6_safe 6 = .ok (.if_icmp .ge 108, 3) := by decide +kernel
theorem dX6_safe_9 : decode cX6_safe 9 = .ok (.iconst 0, 1) := by decide +kernel
theorem dX6_safe_10 : decode cX6_safe 10 = .ok (.istore_n 3, 1) := by decide +kernel
theorem dX6_safe_11 : decode cX6_safe 11 = .ok (.iload_n 3, 1) := by decide +kernel
theorem dX6_safe_12 : decode cX6_safe 12 = .ok (.bipush 25, 2) := by decide +kernel
theorem dX6_safe_14 : decode cX6_safe 14 = .ok (.if_icmp .ge 94, 3) := by decide +kernel
theorem dX6_safe_17 : decode cX6_safe 17 = .ok (.aload_n 0, 1) := by decide +kernel
theorem dX6_safe_18 : decode cX6_safe 18 = .ok (.getfield 10, 3) := by decide +kernel
theorem dX6_safe_21 : decode cX6_safe 21 = .ok (.iload_n 2, 1) := by decide +kernel
theorem dX6_safe_22 : decode cX6_safe 22 = .ok (.iload_n 3, 1) := by decide +kernel
theorem dX6_safe_23 : decode cX6_safe 23 = .ok (.invokestatic 134, 3) := by decide +kernel
theorem dX6_safe_26 : decode cX6_safe 26 = .ok (.istore 4, 2) := by decide +kernel
theorem dX6_safe_28 : decode cX6_safe 28 = .ok (.iconst 0, 1) := by decide +kernel
theorem dX6_safe_29 : decode cX6_safe 29 = .ok (.istore 5, 2) := by decide +kernel
theorem dX6_safe_31 : decode cX6_safe 31 = .ok (.iload 5, 2) := by decide +kernel
theorem dX6_safe_33 : decode cX6_safe 33 = .ok (.aload_n 0, 1) := by decide +kernel
theorem dX6_safe_34 : decode cX6_safe 34 = .ok (.getfield 62, 3) := by decide +kernel
theorem dX6_safe_37 : decode cX6_safe 37 = .ok (.if_icmp .ge 52, 3) := by decide +kernel
theorem dX6_safe_40 : decode cX6_safe 40 = .ok (.iload 4, 2) := by decide +kernel
theorem dX6_safe_42 : decode cX6_safe 42 = .ok (.ifCond .eq 47, 3) := by decide +kernel
theorem dX6_safe_45 : decode cX6_safe 45 = .ok (.aload_n 0, 1) := by decide +kernel
theorem dX6_safe_46 : decode cX6_safe 46 = .ok (.aload_n 0, 1) := by decide +kernel
theorem dX6_safe_47 : decode cX6_safe 47 = .ok (.getfield 10, 3) := by decide +kernel
theorem dX6_safe_50 : decode cX6_safe 50 = .ok (.iload_n 2, 1) := by decide +kernel
theorem dX6_safe_51 : decode cX6_safe 51 = .ok (.iload_n 3, 1) := by decide +kernel
theorem dX6_safe_52 : decode cX6_safe 52 = .ok (.invokestatic 65, 3) := by decide +kernel
theorem dX6_safe_55 : decode cX6_safe 55 = .ok (.iconst (-1), 1) := by decide +kernel
theorem dX6_safe_56 : decode cX6_safe 56 = .ok (.ixor, 1) := by decide +kernel
theorem dX6_safe_57 : decode cX6_safe 57 = .ok (.iand, 1) := by decide +kernel
theorem dX6_safe_58 : decode cX6_safe 58 = .ok (.iload 5, 2) := by decide +kernel
theorem dX6_safe_60 : decode cX6_safe 60 = .ok (.invokevirtual 98, 3) := by decide +kernel
theorem dX6_safe_63 : decode cX6_safe 63 = .ok (.aload_n 0, 1) := by decide +kernel
theorem dX6_safe_64 : decode cX6_safe 64 = .ok (.aload_n 0, 1) := by decide +kernel
theorem dX6_safe_65 : decode cX6_safe 65 = .ok (.getfield 10, 3) := by decide +kernel
theorem dX6_safe_68 : decode cX6_safe 68 = .ok (.iload 5, 2) := by decide +kernel
theorem dX6_safe_70 : decode cX6_safe 70 = .ok (.invokevirtual 98, 3) := by decide +kernel
theorem dX6_safe_73 : decode cX6_safe 73 = .ok (.if_icmp .ne 7, 3) := by decide +kernel
theorem dX6_safe_76 : decode cX6_safe 76 = .ok (.iconst 1, 1) := by decide +kernel
theorem dX6_safe_77 : decode cX6_safe 77 = .ok (.goto 4, 3) := by decide +kernel
theorem dX6_safe_80 : decode cX6_safe 80 = .ok (.iconst 0, 1) := by decide +kernel
theorem dX6_safe_81 : decode cX6_safe 81 = .ok (.istore 4, 2) := by decide +kernel
theorem dX6_safe_83 : decode cX6_safe 83 = .ok (.iinc 5 1, 3) := by decide +kernel
theorem dX6_safe_86 : decode cX6_safe 86 = .ok (.goto (-55), 3) := by decide +kernel
theorem dX6_safe_89 : decode cX6_safe 89 = .ok (.iload_n 1, 1) := by decide +kernel
theorem dX6_safe_90 : decode cX6_safe 90 = .ok (.iload 4, 2) := by decide +kernel
theorem dX6_safe_92 : decode cX6_safe 92 = .ok (.ifCond .eq 7, 3) := by decide +kernel
theorem dX6_safe_95 : decode cX6_safe 95 = .ok (.iconst 1, 1) := by decide +kernel
theorem dX6_safe_96 : decode cX6_safe 96 = .ok (.goto 4, 3) := by decide +kernel
theorem dX6_safe_99 : decode cX6_safe 99 = .ok (.iconst 0, 1) := by decide +kernel
theorem dX6_safe_100 : decode cX6_safe 100 = .ok (.iadd, 1) := by decide +kernel
theorem dX6_safe_101 : decode cX6_safe 101 = .ok (.istore_n 1, 1) := by decide +kernel
theorem dX6_safe_102 : decode cX6_safe 102 = .ok (.iinc 3 1, 3) := by decide +kernel
theorem dX6_safe_105 : decode cX6_safe 105 = .ok (.goto (-94), 3) := by decide +kernel
theorem dX6_safe_108 : decode cX6_safe 108 = .ok (.iinc 2 1, 3) := by decide +kernel
theorem dX6_safe_111 : decode cX6_safe 111 = .ok (.goto (-107), 3) := by decide +kernel
theorem dX6_safe_114 : decode cX6_safe 114 = .ok (.iload_n 1, 1) := by decide +kernel
theorem dX6_safe_115 : decode cX6_safe 115 = .ok (.ireturn, 1) := by decide +kernel
theorem dX6_can_0 : decode cX6_can 0 = .ok (.iload_n 1, 1) := by decide +kernel
theorem dX6_can_1 : decode cX6_can 1 = .ok (.iconst (-1), 1) := by decide +kernel
theorem dX6_can_2 : decode cX6_can 2 = .ok (.iconst 3, 1) := by decide +kernel
theorem dX6_can_3 : decode cX6_can 3 = .ok (.invokestatic 58, 3) := by decide +kernel
theorem dX6_can_6 : decode cX6_can 6 = .ok (.ifCond .ne 10, 3) := by decide +kernel
theorem dX6_can_9 : decode cX6_can 9 = .ok (.aload_n 0, 1) := by decide +kernel
theorem dX6_can_10 : decode cX6_can 10 = .ok (.bipush (-2), 2) := by decide +kernel
theorem dX6_can_12 : decode cX6_can 12 = .ok (.invokevirtual 52, 3) := by decide +kernel
theorem dX6_can_15 : decode cX6_can 15 = .ok (.ireturn, 1) := by decide +kernel
theorem dX6_can_16 : decode cX6_can 16 = .ok (.iconst 0, 1) := by decide +kernel
theorem dX6_can_17 : decode cX6_can 17 = .ok (.istore_n 2, 1) := by decide +kernel
theorem dX6_can_18 : decode cX6_can 18 = .ok (.iconst 0, 1) := by decide +kernel
theorem dX6_can_19 : decode cX6_can 19 = .ok (.istore_n 3, 1) := by decide +kernel
theorem dX6_can_20 : decode cX6_can 20 = .ok (.iload_n 3, 1) := by decide +kernel
theorem dX6_can_21 : decode cX6_can 21 = .ok (.iconst 4, 1) := by decide +kernel
theorem dX6_can_22 : decode cX6_can 22 = .ok (.if_icmp .ge 55, 3) := by decide +kernel
theorem dX6_can_25 : decode cX6_can 25 = .ok (.iconst 0, 1) := by decide +kernel
theorem dX6_can_26 : decode cX6_can 26 = .ok (.istore 4, 2) := by decide +kernel
theorem dX6_can_28 : decode cX6_can 28 = .ok (.iload 4, 2) := by decide +kernel
theorem dX6_can_30 : decode cX6_can 30 = .ok (.bipush 25, 2) := by decide +kernel
theorem dX6_can_32 : decode cX6_can 32 = .ok (.if_icmp .ge 39, 3) := by decide +kernel
theorem dX6_can_35 : decode cX6_can 35 = .ok (.iload_n 2, 1) := by decide +kernel
theorem dX6_can_36 : decode cX6_can 36 = .ok (.iload_n 1, 1) := by decide +kernel
theorem dX6_can_37 : decode cX6_can 37 = .ok (.ifCond .lt 8, 3) := by decide +kernel
theorem dX6_can_40 : decode cX6_can 40 = .ok (.iload_n 3, 1) := by decide +kernel
theorem dX6_can_41 : decode cX6_can 41 = .ok (.iload_n 1, 1) := by decide +kernel
theorem dX6_can_42 : decode cX6_can 42 = .ok (.if_icmp .ne 20, 3) := by decide +kernel
end
section
theorem dX6_can_45 : decode cX6_can 45 = .ok (.aload_n 0, 1) := by decide +kernel
theorem dX6_can_46 : decode cX6_can 46 = .ok (.getfield 10, 3) := by decide +kernel
theorem dX6_can_49 : decode cX6_can 49 = .ok (.iload_n 3, 1) := by decide +kernel
theorem dX6_can_50 : decode cX6_can 50 = .ok (.iload 4, 2) := by decide +kernel
theorem dX6_can_52 : decode cX6_can 52 = .ok (.invokestatic 134, 3) := by decide +kernel
theorem dX6_can_55 : decode cX6_can 55 = .ok (.ifCond .eq 7, 3) := by decide +kernel
theorem dX6_can_58 : decode cX6_can 58 = .ok (.iconst 1, 1) := by decide +kernel
theorem dX6_can_59 : decode cX6_can 59 = .ok (.goto 4, 3) := by decide +kernel
theorem dX6_can_62 : decode cX6_can 62 = .ok (.iconst 0, 1) := by decide +kernel
theorem dX6_can_63 : decode cX6_can 63 = .ok (.iadd, 1) := by decide +kernel
theorem dX6_can_64 : decode cX6_can 64 = .ok (.istore_n 2, 1) := by decide +kernel
theorem dX6_can_65 : decode cX6_can 65 = .ok (.iinc 4 1, 3) := by decide +kernel
theorem dX6_can_68 : decode cX6_can 68 = .ok (.goto (-40), 3) := by decide +kernel
theorem dX6_can_71 : decode cX6_can 71 = .ok (.iinc 3 1, 3) := by decide +kernel
theorem dX6_can_74 : decode cX6_can 74 = .ok (.goto (-54), 3) := by decide +kernel
theorem dX6_can_77 : decode cX6_can 77 = .ok (.iload_n 2, 1) := by decide +kernel
theorem dX6_can_78 : decode cX6_can 78 = .ok (.ireturn, 1) := by decide +kernel
theorem dX6_comesTo_0 : decode cX6_comesTo 0 = .ok (.sipush 128, 3) := by decide +kernel
theorem dX6_comesTo_3 : decode cX6_comesTo 3 = .ok (.iload_n 1, 1) := by decide +kernel
theorem dX6_comesTo_4 : decode cX6_comesTo 4 = .ok (.imul, 1) := by decide +kernel
theorem dX6_comesTo_5 : decode cX6_comesTo 5 = .ok (.iload_n 2, 1) := by decide +kernel
theorem dX6_comesTo_6 : decode cX6_comesTo 6 = .ok (.iadd, 1) := by decide +kernel
theorem dX6_comesTo_7 : decode cX6_comesTo 7 = .ok (.istore 5, 2) := by decide +kernel
theorem dX6_comesTo_9 : decode cX6_comesTo 9 = .ok (.aload_n 0, 1) := by decide +kernel
theorem dX6_comesTo_10 : decode cX6_comesTo 10 = .ok (.getfield 45, 3) := by decide +kernel
theorem dX6_comesTo_13 : decode cX6_comesTo 13 = .ok (.iload 5, 2) := by decide +kernel
theorem dX6_comesTo_15 : decode cX6_comesTo 15 = .ok (.aload_n 0, 1) := by decide +kernel
theorem dX6_comesTo_16 : decode cX6_comesTo 16 = .ok (.getfield 45, 3) := by decide +kernel
theorem dX6_comesTo_19 : decode cX6_comesTo 19 = .ok (.iload 5, 2) := by decide +kernel
theorem dX6_comesTo_21 : decode cX6_comesTo 21 = .ok (.iaload, 1) := by decide +kernel
theorem dX6_comesTo_22 : decode cX6_comesTo 22 = .ok (.iload_n 3, 1) := by decide +kernel
theorem dX6_comesTo_23 : decode cX6_comesTo 23 = .ok (.iadd, 1) := by decide +kernel
theorem dX6_comesTo_24 : decode cX6_comesTo 24 = .ok (.ldc 199, 2) := by decide +kernel
theorem dX6_comesTo_26 : decode cX6_comesTo 26 = .ok (.irem, 1) := by decide +kernel
theorem dX6_comesTo_27 : decode cX6_comesTo 27 = .ok (.iastore, 1) := by decide +kernel
theorem dX6_comesTo_28 : decode cX6_comesTo 28 = .ok (.aload_n 0, 1) := by decide +kernel
theorem dX6_comesTo_29 : decode cX6_comesTo 29 = .ok (.getfield 48, 3) := by decide +kernel
theorem dX6_comesTo_32 : decode cX6_comesTo 32 = .ok (.iload 5, 2) := by decide +kernel
theorem dX6_comesTo_34 : decode cX6_comesTo 34 = .ok (.aload_n 0, 1) := by decide +kernel
theorem dX6_comesTo_35 : decode cX6_comesTo 35 = .ok (.getfield 48, 3) := by decide +kernel
theorem dX6_comesTo_38 : decode cX6_comesTo 38 = .ok (.iload 5, 2) := by decide +kernel
theorem dX6_comesTo_40 : decode cX6_comesTo 40 = .ok (.iaload, 1) := by decide +kernel
theorem dX6_comesTo_41 : decode cX6_comesTo 41 = .ok (.iload 4, 2) := by decide +kernel
theorem dX6_comesTo_43 : decode cX6_comesTo 43 = .ok (.invokestatic 127, 3) := by decide +kernel
theorem dX6_comesTo_46 : decode cX6_comesTo 46 = .ok (.iastore, 1) := by decide +kernel
theorem dX6_comesTo_47 : decode cX6_comesTo 47 = .ok (.return_, 1) := by decide +kernel
theorem dX6_ways_0 : decode cX6_ways 0 = .ok (.iload_n 1, 1) := by decide +kernel
theorem dX6_ways_1 : decode cX6_ways 1 = .ok (.iconst 0, 1) := by decide +kernel
theorem dX6_ways_2 : decode cX6_ways 2 = .ok (.iconst 1, 1) := by decide +kernel
theorem dX6_ways_3 : decode cX6_ways 3 = .ok (.invokestatic 58, 3) := by decide +kernel
theorem dX6_ways_6 : decode cX6_ways 6 = .ok (.ifCond .ne 10, 3) := by decide +kernel
theorem dX6_ways_9 : decode cX6_ways 9 = .ok (.aload_n 0, 1) := by decide +kernel
theorem dX6_ways_10 : decode cX6_ways 10 = .ok (.bipush (-2), 2) := by decide +kernel
theorem dX6_ways_12 : decode cX6_ways 12 = .ok (.invokevirtual 52, 3) := by decide +kernel
theorem dX6_ways_15 : decode cX6_ways 15 = .ok (.ireturn, 1) := by decide +kernel
theorem dX6_ways_16 : decode cX6_ways 16 = .ok (.ldc 9, 2) := by decide +kernel
theorem dX6_ways_18 : decode cX6_ways 18 = .ok (.aload_n 0, 1) := by decide +kernel
theorem dX6_ways_19 : decode cX6_ways 19 = .ok (.getfield 10, 3) := by decide +kernel
theorem dX6_ways_22 : decode cX6_ways 22 = .ok (.iconst (-1), 1) := by decide +kernel
theorem dX6_ways_23 : decode cX6_ways 23 = .ok (.ixor, 1) := by decide +kernel
theorem dX6_ways_24 : decode cX6_ways 24 = .ok (.iand, 1) := by decide +kernel
theorem dX6_ways_25 : decode cX6_ways 25 = .ok (.istore_n 2, 1) := by decide +kernel
theorem dX6_ways_26 : decode cX6_ways 26 = .ok (.iconst 0, 1) := by decide +kernel
theorem dX6_ways_27 : decode cX6_ways 27 = .ok (.istore_n 3, 1) := by decide +kernel
theorem dX6_ways_28 : decode cX6_ways 28 = .ok (.iload_n 3, 1) := by decide +kernel
theorem dX6_ways_29 : decode cX6_ways 29 = .ok (.sipush 3328, 3) := by decide +kernel
theorem dX6_ways_32 : decode cX6_ways 32 = .ok (.if_icmp .ge 24, 3) := by decide +kernel
theorem dX6_ways_35 : decode cX6_ways 35 = .ok (.aload_n 0, 1) := by decide +kernel
theorem dX6_ways_36 : decode cX6_ways 36 = .ok (.getfield 45, 3) := by decide +kernel
theorem dX6_ways_39 : decode cX6_ways 39 = .ok (.iload_n 3, 1) := by decide +kernel
theorem dX6_ways_40 : decode cX6_ways 40 = .ok (.iconst 0, 1) := by decide +kernel
theorem dX6_ways_41 : decode cX6_ways 41 = .ok (.iastore, 1) := by decide +kernel
theorem dX6_ways_42 : decode cX6_ways 42 = .ok (.aload_n 0, 1) := by decide +kernel
theorem dX6_ways_43 : decode cX6_ways 43 = .ok (.getfield 48, 3) := by decide +kernel
theorem dX6_ways_46 : decode cX6_ways 46 = .ok (.iload_n 3, 1) := by decide +kernel
theorem dX6_ways_47 : decode cX6_ways 47 = .ok (.ldc 51, 2) := by decide +kernel
theorem dX6_ways_49 : decode cX6_ways 49 = .ok (.iastore, 1) := by decide +kernel
theorem dX6_ways_50 : decode cX6_ways 50 = .ok (.iinc 3 1, 3) := by decide +kernel
theorem dX6_ways_53 : decode cX6_ways 53 = .ok (.goto (-25), 3) := by decide +kernel
theorem dX6_ways_56 : decode cX6_ways 56 = .ok (.aload_n 0, 1) := by decide +kernel
theorem dX6_ways_57 : decode cX6_ways 57 = .ok (.getfield 45, 3) := by decide +kernel
theorem dX6_ways_60 : decode cX6_ways 60 = .ok (.iconst 0, 1) := by decide +kernel
theorem dX6_ways_61 : decode cX6_ways 61 = .ok (.iconst 1, 1) := by decide +kernel
theorem dX6_ways_62 : decode cX6_ways 62 = .ok (.iastore, 1) := by decide +kernel
theorem dX6_ways_63 : decode cX6_ways 63 = .ok (.aload_n 0, 1) := by decide +kernel
theorem dX6_ways_64 : decode cX6_ways 64 = .ok (.getfield 48, 3) := by decide +kernel
theorem dX6_ways_67 : decode cX6_ways 67 = .ok (.iconst 0, 1) := by decide +kernel
theorem dX6_ways_68 : decode cX6_ways 68 = .ok (.iconst 0, 1) := by decide +kernel
theorem dX6_ways_69 : decode cX6_ways 69 = .ok (.iastore, 1) := by decide +kernel
theorem dX6_ways_70 : decode cX6_ways 70 = .ok (.iconst 0, 1) := by decide +kernel
theorem dX6_ways_71 : decode cX6_ways 71 = .ok (.istore_n 3, 1) := by decide +kernel
theorem dX6_ways_72 : decode cX6_ways 72 = .ok (.iload_n 3, 1) := by decide +kernel
theorem dX6_ways_73 : decode cX6_ways 73 = .ok (.bipush 25, 2) := by decide +kernel
theorem dX6_ways_75 : decode cX6_ways 75 = .ok (.if_icmp .ge 192, 3) := by decide +kernel
theorem dX6_ways_78 : decode cX6_ways 78 = .ok (.iconst 0, 1) := by decide +kernel
theorem dX6_ways_79 : decode cX6_ways 79 = .ok (.istore 4, 2) := by decide +kernel
theorem dX6_ways_81 : decode cX6_ways 81 = .ok (.iload 4, 2) := by decide +kernel
theorem dX6_ways_83 : decode cX6_ways 83 = .ok (.sipush 128, 3) := by decide +kernel
theorem dX6_ways_86 : decode cX6_ways 86 = .ok (.if_icmp .ge 175, 3) := by decide +kernel
theorem dX6_ways_89 : decode cX6_ways 89 = .ok (.sipush 128, 3) := by decide +kernel
theorem dX6_ways_92 : decode cX6_ways 92 = .ok (.iload_n 3, 1) := by decide +kernel
theorem dX6_ways_93 : decode cX6_ways 93 = .ok (.imul, 1) := by decide +kernel
theorem dX6_ways_94 : decode cX6_ways 94 = .ok (.iload 4, 2) := by decide +kernel
theorem dX6_ways_96 : decode cX6_ways 96 = .ok (.iadd, 1) := by decide +kernel
theorem dX6_ways_97 : decode cX6_ways 97 = .ok (.istore 5, 2) := by decide +kernel
theorem dX6_ways_99 : decode cX6_ways 99 = .ok (.aload_n 0, 1) := by decide +kernel
theorem dX6_ways_100 : decode cX6_ways 100 = .ok (.getfield 48, 3) := by decide +kernel
theorem dX6_ways_103 : decode cX6_ways 103 = .ok (.iload 5, 2) := by decide +kernel
theorem dX6_ways_105 : decode cX6_ways 105 = .ok (.iaload, 1) := by decide +kernel
theorem dX6_ways_106 : decode cX6_ways 106 = .ok (.ldc 51, 2) := by decide +kernel
theorem dX6_ways_108 : decode cX6_ways 108 = .ok (.if_icmp .ne 6, 3) := by decide +kernel
theorem dX6_ways_111 : decode cX6_ways 111 = .ok (.goto 144, 3) := by decide +kernel
theorem dX6_ways_114 : decode cX6_ways 114 = .ok (.iload 4, 2) := by decide +kernel
theorem dX6_ways_116 : decode cX6_ways 116 = .ok (.iconst 0, 1) := by decide +kernel
theorem dX6_ways_117 : decode cX6_ways 117 = .ok (.invokestatic 72, 3) := by decide +kernel
theorem dX6_ways_120 : decode cX6_ways 120 = .ok (.ifCond .ne 11, 3) := by decide +kernel
theorem dX6_ways_123 : decode cX6_ways 123 = .ok (.iload_n 2, 1) := by decide +kernel
theorem dX6_ways_124 : decode cX6_ways 124 = .ok (.iload_n 3, 1) := by decide +kernel
theorem dX6_ways_125 : decode cX6_ways 125 = .ok (.invokestatic 72, 3) := by decide +kernel
theorem dX6_ways_128 : decode cX6_ways 128 = .ok (.ifCond .ne 28, 3) := by decide +kernel
theorem dX6_ways_131 : decode cX6_ways 131 = .ok (.aload_n 0, 1) := by decide +kernel
theorem dX6_ways_132 : decode cX6_ways 132 = .ok (.iload_n 3, 1) := by decide +kernel
theorem dX6_ways_133 : decode cX6_ways 133 = .ok (.iconst 1, 1) := by decide +kernel
theorem dX6_ways_134 : decode cX6_ways 134 = .ok (.iadd, 1) := by decide +kernel
theorem dX6_ways_135 : decode cX6_ways 135 = .ok (.iload 4, 2) := by decide +kernel
theorem dX6_ways_137 : decode cX6_ways 137 = .ok (.iconst 1, 1) := by decide +kernel
theorem dX6_ways_138 : decode cX6_ways 138 = .ok (.ishr, 1) := by decide +kernel
theorem dX6_ways_139 : decode cX6_ways 139 = .ok (.aload_n 0, 1) := by decide +kernel
theorem dX6_ways_140 : decode cX6_ways 140 = .ok (.getfield 45, 3) := by decide +kernel
theorem dX6_ways_143 : decode cX6_ways 143 = .ok (.iload 5, 2) := by decide +kernel
theorem dX6_ways_145 : decode cX6_ways 145 = .ok (.iaload, 1) := by decide +kernel
theorem dX6_ways_146 : decode cX6_ways 146 = .ok (.aload_n 0, 1) := by decide +kernel
theorem dX6_ways_147 : decode cX6_ways 147 = .ok (.getfield 48, 3) := by decide +kernel
theorem dX6_ways_150 : decode cX6_ways 150 = .ok (.iload 5, 2) := by decide +kernel
theorem dX6_ways_152 : decode cX6_ways 152 = .ok (.iaload, 1) := by decide +kernel
theorem dX6_ways_153 : decode cX6_ways 153 = .ok (.invokevirtual 200, 3) := by decide +kernel
theorem dX6_ways_156 : decode cX6_ways 156 = .ok (.iconst 0, 1) := by decide +kernel
theorem dX6_ways_157 : decode cX6_ways 157 = .ok (.istore 6, 2) := by decide +kernel
theorem dX6_ways_159 : decode cX6_ways 159 = .ok (.iload 6, 2) := by decide +kernel
theorem dX6_ways_161 : decode cX6_ways 161 = .ok (.iconst 4, 1) := by decide +kernel
theorem dX6_ways_162 : decode cX6_ways 162 = .ok (.if_icmp .ge 93, 3) := by decide +kernel
theorem dX6_ways_165 : decode cX6_ways 165 = .ok (.iload_n 2, 1) := by decide +kernel
theorem dX6_ways_166 : decode cX6_ways 166 = .ok (.iload_n 3, 1) := by decide +kernel
theorem dX6_ways_167 : decode cX6_ways 167 = .ok (.invokestatic 72, 3) := by decide +kernel
theorem dX6_ways_170 : decode cX6_ways 170 = .ok (.ifCond .eq 85, 3) := by decide +kernel
theorem dX6_ways_173 : decode cX6_ways 173 = .ok (.iload 4, 2) := by decide +kernel
theorem dX6_ways_175 : decode cX6_ways 175 = .ok (.iconst 0, 1) := by decide +kernel
theorem dX6_ways_176 : decode cX6_ways 176 = .ok (.invokestatic 72, 3) := by decide +kernel
theorem dX6_ways_179 : decode cX6_ways 179 = .ok (.ifCond .ne 76, 3) := by decide +kernel
theorem dX6_ways_182 : decode cX6_ways 182 = .ok (.iload_n 2, 1) := by decide +kernel
theorem dX6_ways_183 : decode cX6_ways 183 = .ok (.iload 6, 2) := by decide +kernel
theorem dX6_ways_185 : decode cX6_ways 185 = .ok (.iload_n 3, 1) := by decide +kernel
theorem dX6_ways_186 : decode cX6_ways 186 = .ok (.invokestatic 134, 3) := by decide +kernel
theorem dX6_ways_189 : decode cX6_ways 189 = .ok (.ifCond .eq 14, 3) := by decide +kernel
theorem dX6_ways_192 : decode cX6_ways 192 = .ok (.iload 6, 2) := by decide +kernel
theorem dX6_ways_194 : decode cX6_ways 194 = .ok (.iload_n 3, 1) := by decide +kernel
theorem dX6_ways_195 : decode cX6_ways 195 = .ok (.invokestatic 65, 3) := by decide +kernel
theorem dX6_ways_198 : decode cX6_ways 198 = .ok (.iload_n 3, 1) := by decide +kernel
theorem dX6_ways_199 : decode cX6_ways 199 = .ok (.ishr, 1) := by decide +kernel
theorem dX6_ways_200 : decode cX6_ways 200 = .ok (.goto 4, 3) := by decide +kernel
theorem dX6_ways_203 : decode cX6_ways 203 = .ok (.iconst 0, 1) := by decide +kernel
theorem dX6_ways_204 : decode cX6_ways 204 = .ok (.istore 7, 2) := by decide +kernel
theorem dX6_ways_206 : decode cX6_ways 206 = .ok (.iload 7, 2) := by decide +kernel
theorem dX6_ways_208 : decode cX6_ways 208 = .ok (.ifCond .eq 41, 3) := by decide +kernel
theorem dX6_ways_211 : decode cX6_ways 211 = .ok (.iload 7, 2) := by decide +kernel
theorem dX6_ways_213 : decode cX6_ways 213 = .ok (.iload 4, 2) := by decide +kernel
theorem dX6_ways_215 : decode cX6_ways 215 = .ok (.iand, 1) := by decide +kernel
theorem dX6_ways_216 : decode cX6_ways 216 = .ok (.ifCond .ne 33, 3) := by decide +kernel
theorem dX6_ways_219 : decode cX6_ways 219 = .ok (.aload_n 0, 1) := by decide +kernel
theorem dX6_ways_220 : decode cX6_ways 220 = .ok (.iload_n 3, 1) := by decide +kernel
theorem dX6_ways_221 : decode cX6_ways 221 = .ok (.iconst 1, 1) := by decide +kernel
theorem dX6_ways_222 : decode cX6_ways 222 = .ok (.iadd, 1) := by decide +kernel
theorem dX6_ways_223 : decode cX6_ways 223 = .ok (.iload 4, 2) := by decide +kernel
theorem dX6_ways_225 : decode cX6_ways 225 = .ok (.iload 7, 2) := by decide +kernel
theorem dX6_ways_227 : decode cX6_ways 227 = .ok (.ior, 1) := by decide +kernel
theorem dX6_ways_228 : decode cX6_ways 228 = .ok (.iconst 1, 1) := by decide +kernel
theorem dX6_ways_229 : decode cX6_ways 229 = .ok (.ishr, 1) := by decide +kernel
theorem dX6_ways_230 : decode cX6_ways 230 = .ok (.aload_n 0, 1) := by decide +kernel
theorem dX6_ways_231 : decode cX6_ways 231 = .ok (.getfield 45, 3) := by decide +kernel
theorem dX6_ways_234 : decode cX6_ways 234 = .ok (.iload 5, 2) := by decide +kernel
theorem dX6_ways_236 : decode cX6_ways 236 = .ok (.iaload, 1) := by decide +kernel
theorem dX6_ways_237 : decode cX6_ways 237 = .ok (.aload_n 0, 1) := by decide +kernel
theorem dX6_ways_238 : decode cX6_ways 238 = .ok (.getfield 48, 3) := by decide +kernel
theorem dX6_ways_241 : decode cX6_ways 241 = .ok (.iload 5, 2) := by decide +kernel
theorem dX6_ways_243 : decode cX6_ways 243 = .ok (.iaload, 1) := by decide +kernel
theorem dX6_ways_244 : decode cX6_ways 244 = .ok (.iconst 1, 1) := by decide +kernel
theorem dX6_ways_245 : decode cX6_ways 245 = .ok (.iadd, 1) := by decide +kernel
theorem dX6_ways_246 : decode cX6_ways 246 = .ok (.invokevirtual 200, 3) := by decide +kernel
theorem dX6_ways_249 : decode cX6_ways 249 = .ok (.iinc 6 1, 3) := by decide +kernel
theorem dX6_ways_252 : decode cX6_ways 252 = .ok (.goto (-93), 3) := by decide +kernel
theorem dX6_ways_255 : decode cX6_ways 255 = .ok (.iinc 4 1, 3) := by decide +kernel
theorem dX6_ways_258 : decode cX6_ways 258 = .ok (.goto (-177), 3) := by decide +kernel
theorem dX6_ways_261 : decode cX6_ways 261 = .ok (.iinc 3 1, 3) := by decide +kernel
theorem dX6_ways_264 : decode cX6_ways 264 = .ok (.goto (-192), 3) := by decide +kernel
theorem dX6_ways_267 : decode cX6_ways 267 = .ok (.iload_n 1, 1) := by decide +kernel
theorem dX6_ways_268 : decode cX6_ways 268 = .ok (.ifCond .ne 14, 3) := by decide +kernel
theorem dX6_ways_271 : decode cX6_ways 271 = .ok (.aload_n 0, 1) := by decide +kernel
theorem dX6_ways_272 : decode cX6_ways 272 = .ok (.getfield 45, 3) := by decide +kernel
theorem dX6_ways_275 : decode cX6_ways 275 = .ok (.sipush 3200, 3) := by decide +kernel
theorem dX6_ways_278 : decode cX6_ways 278 = .ok (.iaload, 1) := by decide +kernel
theorem dX6_ways_279 : decode cX6_ways 279 = .ok (.goto 11, 3) := by decide +kernel
theorem dX6_ways_282 : decode cX6_ways 282 = .ok (.aload_n 0, 1) := by decide +kernel
theorem dX6_ways_283 : decode cX6_ways 283 = .ok (.getfield 48, 3) := by decide +kernel
theorem dX6_ways_286 : decode cX6_ways 286 = .ok (.sipush 3200, 3) := by decide +kernel
theorem dX6_ways_289 : decode cX6_ways 289 = .ok (.iaload, 1) := by decide +kernel
theorem dX6_ways_290 : decode cX6_ways 290 = .ok (.ireturn, 1) := by decide +kernel
theorem dX6_alike_0 : decode cX6_alike 0 = .ok (.iload_n 1, 1) := by decide +kernel
theorem dX6_alike_1 : decode cX6_alike 1 = .ok (.iconst 0, 1) := by decide +kernel
theorem dX6_alike_2 : decode cX6_alike 2 = .ok (.iconst 1, 1) := by decide +kernel
theorem dX6_alike_3 : decode cX6_alike 3 = .ok (.invokestatic 58, 3) := by decide +kernel
theorem dX6_alike_6 : decode cX6_alike 6 = .ok (.ifCond .ne 10, 3) := by decide +kernel
theorem dX6_alike_9 : decode cX6_alike 9 = .ok (.aload_n 0, 1) := by decide +kernel
theorem dX6_alike_10 : decode cX6_alike 10 = .ok (.bipush (-2), 2) := by decide +kernel
theorem dX6_alike_12 : decode cX6_alike 12 = .ok (.invokevirtual 52, 3) := by decide +kernel
theorem dX6_alike_15 : decode cX6_alike 15 = .ok (.ireturn, 1) := by decide +kernel
theorem dX6_alike_16 : decode cX6_alike 16 = .ok (.aload_n 0, 1) := by decide +kernel
theorem dX6_alike_17 : decode cX6_alike 17 = .ok (.getfield 10, 3) := by decide +kernel
theorem dX6_alike_20 : decode cX6_alike 20 = .ok (.istore_n 2, 1) := by decide +kernel
theorem dX6_alike_21 : decode cX6_alike 21 = .ok (.iconst 1, 1) := by decide +kernel
theorem dX6_alike_22 : decode cX6_alike 22 = .ok (.istore_n 3, 1) := by decide +kernel
theorem dX6_alike_23 : decode cX6_alike 23 = .ok (.iload_n 3, 1) := by decide +kernel
theorem dX6_alike_24 : decode cX6_alike 24 = .ok (.iconst 4, 1) := by decide +kernel
theorem dX6_alike_25 : decode cX6_alike 25 = .ok (.if_icmp .ge 22, 3) := by decide +kernel
theorem dX6_alike_28 : decode cX6_alike 28 = .ok (.iload_n 2, 1) := by decide +kernel
theorem dX6_alike_29 : decode cX6_alike 29 = .ok (.aload_n 0, 1) := by decide +kernel
theorem dX6_alike_30 : decode cX6_alike 30 = .ok (.getfield 10, 3) := by decide +kernel
theorem dX6_alike_33 : decode cX6_alike 33 = .ok (.iload_n 3, 1) := by decide +kernel
theorem dX6_alike_34 : decode cX6_alike 34 = .ok (.invokestatic 141, 3) := by decide +kernel
theorem dX6_alike_37 : decode cX6_alike 37 = .ok (.invokestatic 127, 3) := by decide +kernel
theorem dX6_alike_40 : decode cX6_alike 40 = .ok (.istore_n 2, 1) := by decide +kernel
theorem dX6_alike_41 : decode cX6_alike 41 = .ok (.iinc 3 1, 3) := by decide +kernel
theorem dX6_alike_44 : decode cX6_alike 44 = .ok (.goto (-21), 3) := by decide +kernel
theorem dX6_alike_47 : decode cX6_alike 47 = .ok (.iload_n 1, 1) := by decide +kernel
theorem dX6_alike_48 : decode cX6_alike 48 = .ok (.iconst 1, 1) := by decide +kernel
theorem dX6_alike_49 : decode cX6_alike 49 = .ok (.if_icmp .ne 5, 3) := by decide +kernel
theorem dX6_alike_52 : decode cX6_alike 52 = .ok (.iload_n 2, 1) := by decide +kernel
theorem dX6_alike_53 : decode cX6_alike 53 = .ok (.ireturn, 1) := by decide +kernel
theorem dX6_alike_54 : decode cX6_alike 54 = .ok (.aload_n 0, 1) := by decide +kernel
theorem dX6_alike_55 : decode cX6_alike 55 = .ok (.getfield 10, 3) := by decide +kernel
theorem dX6_alike_58 : decode cX6_alike 58 = .ok (.iconst 1, 1) := by decide +kernel
theorem dX6_alike_59 : decode cX6_alike 59 = .ok (.invokestatic 141, 3) := by decide +kernel
theorem dX6_alike_62 : decode cX6_alike 62 = .ok (.aload_n 0, 1) := by decide +kernel
theorem dX6_alike_63 : decode cX6_alike 63 = .ok (.getfield 10, 3) := by decide +kernel
theorem dX6_alike_66 : decode cX6_alike 66 = .ok (.if_icmp .ne 7, 3) := by decide +kernel
theorem dX6_alike_69 : decode cX6_alike 69 = .ok (.iconst 1, 1) := by decide +kernel
theorem dX6_alike_70 : decode cX6_alike 70 = .ok (.goto 23, 3) := by decide +kernel
theorem dX6_alike_73 : decode cX6_alike 73 = .ok (.aload_n 0, 1) := by decide +kernel
theorem dX6_alike_74 : decode cX6_alike 74 = .ok (.getfield 10, 3) := by decide +kernel
theorem dX6_alike_77 : decode cX6_alike 77 = .ok (.iconst 2, 1) := by decide +kernel
theorem dX6_alike_78 : decode cX6_alike 78 = .ok (.invokestatic 141, 3) := by decide +kernel
theorem dX6_alike_81 : decode cX6_alike 81 = .ok (.aload_n 0, 1) := by decide +kernel
theorem dX6_alike_82 : decode cX6_alike 82 = .ok (.getfield 10, 3) := by decide +kernel
theorem dX6_alike_85 : decode cX6_alike 85 = .ok (.if_icmp .ne 7, 3) := by decide +kernel
theorem dX6_alike_88 : decode cX6_alike 88 = .ok (.iconst 2, 1) := by decide +kernel
theorem dX6_alike_89 : decode cX6_alike 89 = .ok (.goto 4, 3) := by decide +kernel
theorem dX6_alike_92 : decode cX6_alike 92 = .ok (.iconst 4, 1) := by decide +kernel
theorem dX6_alike_93 : decode cX6_alike 93 = .ok (.ireturn, 1) := by decide +kernel
theorem dX6_settles_0 : decode cX6_settles 0 = .ok (.iload_n 1, 1) := by decide +kernel
theorem dX6_settles_1 : decode cX6_settles 1 = .ok (.iconst 0, 1) := by decide +kernel
theorem dX6_settles_2 : decode cX6_settles 2 = .ok (.iconst 1, 1) := by decide +kernel
theorem dX6_settles_3 : decode cX6_settles 3 = .ok (.invokestatic 58, 3) := by decide +kernel
theorem dX6_settles_6 : decode cX6_settles 6 = .ok (.ifCond .ne 10, 3) := by decide +kernel
theorem dX6_settles_9 : decode cX6_settles 9 = .ok (.aload_n 0, 1) := by decide +kernel
theorem dX6_settles_10 : decode cX6_settles 10 = .ok (.bipush (-2), 2) := by decide +kernel
theorem dX6_settles_12 : decode cX6_settles 12 = .ok (.invokevirtual 52, 3) := by decide +kernel
theorem dX6_settles_15 : decode cX6_settles 15 = .ok (.ireturn, 1) := by decide +kernel
theorem dX6_settles_16 : decode cX6_settles 16 = .ok (.aload_n 0, 1) := by decide +kernel
theorem dX6_settles_17 : decode cX6_settles 17 = .ok (.getfield 10, 3) := by decide +kernel
theorem dX6_settles_20 : decode cX6_settles 20 = .ok (.invokestatic 85, 3) := by decide +kernel
theorem dX6_settles_23 : decode cX6_settles 23 = .ok (.ifCond .eq 14, 3) := by decide +kernel
theorem dX6_settles_26 : decode cX6_settles 26 = .ok (.iload_n 1, 1) := by decide +kernel
theorem dX6_settles_27 : decode cX6_settles 27 = .ok (.ifCond .ne 7, 3) := by decide +kernel
theorem dX6_settles_30 : decode cX6_settles 30 = .ok (.iconst 0, 1) := by decide +kernel
theorem dX6_settles_31 : decode cX6_settles 31 = .ok (.goto 5, 3) := by decide +kernel
theorem dX6_settles_34 : decode cX6_settles 34 = .ok (.bipush (-9), 2) := by decide +kernel
theorem dX6_settles_36 : decode cX6_settles 36 = .ok (.ireturn, 1) := by decide +kernel
theorem dX6_settles_37 : decode cX6_settles 37 = .ok (.iconst 0, 1) := by decide +kernel
theorem dX6_settles_38 : decode cX6_settles 38 = .ok (.istore_n 2, 1) := by decide +kernel
theorem dX6_settles_39 : decode cX6_settles 39 = .ok (.iload_n 2, 1) := by decide +kernel
theorem dX6_settles_40 : decode cX6_settles 40 = .ok (.bipush 25, 2) := by decide +kernel
theorem dX6_settles_42 : decode cX6_settles 42 = .ok (.if_icmp .ge 46, 3) := by decide +kernel
theorem dX6_settles_45 : decode cX6_settles 45 = .ok (.aload_n 0, 1) := by decide +kernel
theorem dX6_settles_46 : decode cX6_settles 46 = .ok (.getfield 10, 3) := by decide +kernel
theorem dX6_settles_49 : decode cX6_settles 49 = .ok (.iload_n 2, 1) := by decide +kernel
theorem dX6_settles_50 : decode cX6_settles 50 = .ok (.invokestatic 72, 3) := by decide +kernel
theorem dX6_settles_53 : decode cX6_settles 53 = .ok (.ifCond .eq 29, 3) := by decide +kernel
theorem dX6_settles_56 : decode cX6_settles 56 = .ok (.aload_n 0, 1) := by decide +kernel
theorem dX6_settles_57 : decode cX6_settles 57 = .ok (.getfield 10, 3) := by decide +kernel
theorem dX6_settles_60 : decode cX6_settles 60 = .ok (.iconst 1, 1) := by decide +kernel
theorem dX6_settles_61 : decode cX6_settles 61 = .ok (.iload_n 2, 1) := by decide +kernel
theorem dX6_settles_62 : decode cX6_settles 62 = .ok (.ishl, 1) := by decide +kernel
theorem dX6_settles_63 : decode cX6_settles 63 = .ok (.iconst (-1), 1) := by decide +kernel
theorem dX6_settles_64 : decode cX6_settles 64 = .ok (.ixor, 1) := by decide +kernel
theorem dX6_settles_65 : decode cX6_settles 65 = .ok (.iand, 1) := by decide +kernel
theorem dX6_settles_66 : decode cX6_settles 66 = .ok (.invokestatic 85, 3) := by decide +kernel
theorem dX6_settles_69 : decode cX6_settles 69 = .ok (.ifCond .eq 13, 3) := by decide +kernel
theorem dX6_settles_72 : decode cX6_settles 72 = .ok (.iload_n 1, 1) := by decide +kernel
theorem dX6_settles_73 : decode cX6_settles 73 = .ok (.ifCond .ne 7, 3) := by decide +kernel
theorem dX6_settles_76 : decode cX6_settles 76 = .ok (.iconst 1, 1) := by decide +kernel
theorem dX6_settles_77 : decode cX6_settles 77 = .ok (.goto 4, 3) := by decide +kernel
theorem dX6_settles_80 : decode cX6_settles 80 = .ok (.iload_n 2, 1) := by decide +kernel
theorem dX6_settles_81 : decode cX6_settles 81 = .ok (.ireturn, 1) := by decide +kernel
theorem dX6_settles_82 : decode cX6_settles 82 = .ok (.iinc 2 1, 3) := by decide +kernel
theorem dX6_settles_85 : decode cX6_settles 85 = .ok (.goto (-46), 3) := by decide +kernel
theorem dX6_settles_88 : decode cX6_settles 88 = .ok (.iconst 0, 1) := by decide +kernel
theorem dX6_settles_89 : decode cX6_settles 89 = .ok (.istore_n 2, 1) := by decide +kernel
theorem dX6_settles_90 : decode cX6_settles 90 = .ok (.iload_n 2, 1) := by decide +kernel
theorem dX6_settles_91 : decode cX6_settles 91 = .ok (.bipush 25, 2) := by decide +kernel
theorem dX6_settles_93 : decode cX6_settles 93 = .ok (.if_icmp .ge 79, 3) := by decide +kernel
theorem dX6_settles_96 : decode cX6_settles 96 = .ok (.iload_n 2, 1) := by decide +kernel
theorem dX6_settles_97 : decode cX6_settles 97 = .ok (.iconst 1, 1) := by decide +kernel
theorem dX6_settles_98 : decode cX6_settles 98 = .ok (.iadd, 1) := by decide +kernel
theorem dX6_settles_99 : decode cX6_settles 99 = .ok (.istore_n 3, 1) := by decide +kernel
theorem dX6_settles_100 : decode cX6_settles 100 = .ok (.iload_n 3, 1) := by decide +kernel
theorem dX6_settles_101 : decode cX6_settles 101 = .ok (.bipush 25, 2) := by decide +kernel
theorem dX6_settles_103 : decode cX6_settles 103 = .ok (.if_icmp .ge 63, 3) := by decide +kernel
theorem dX6_settles_106 : decode cX6_settles 106 = .ok (.aload_n 0, 1) := by decide +kernel
theorem dX6_settles_107 : decode cX6_settles 107 = .ok (.getfield 10, 3) := by decide +kernel
theorem dX6_settles_110 : decode cX6_settles 110 = .ok (.iload_n 2, 1) := by decide +kernel
theorem dX6_settles_111 : decode cX6_settles 111 = .ok (.invokestatic 72, 3) := by decide +kernel
theorem dX6_settles_114 : decode cX6_settles 114 = .ok (.ifCond .eq 46, 3) := by decide +kernel
theorem dX6_settles_117 : decode cX6_settles 117 = .ok (.aload_n 0, 1) := by decide +kernel
theorem dX6_settles_118 : decode cX6_settles 118 = .ok (.getfield 10, 3) := by decide +kernel
theorem dX6_settles_121 : decode cX6_settles 121 = .ok (.iload_n 3, 1) := by decide +kernel
theorem dX6_settles_122 : decode cX6_settles 122 = .ok (.invokestatic 72, 3) := by decide +kernel
theorem dX6_settles_125 : decode cX6_settles 125 = .ok (.ifCond .eq 35, 3) := by decide +kernel
theorem dX6_settles_128 : decode cX6_settles 128 = .ok (.aload_n 0, 1) := by decide +kernel
theorem dX6_settles_129 : decode cX6_settles 129 = .ok (.getfield 10, 3) := by decide +kernel
theorem dX6_settles_132 : decode cX6_settles 132 = .ok (.iconst 1, 1) := by decide +kernel
theorem dX6_settles_133 : decode cX6_settles 133 = .ok (.iload_n 2, 1) := by decide +kernel
theorem dX6_settles_134 : decode cX6_settles 134 = .ok (.ishl, 1) := by decide +kernel
theorem dX6_settles_135 : decode cX6_settles 135 = .ok (.iconst (-1), 1) := by decide +kernel
theorem dX6_settles_136 : decode cX6_settles 136 = .ok (.ixor, 1) := by decide +kernel
theorem dX6_settles_137 : decode cX6_settles 137 = .ok (.iand, 1) := by decide +kernel
theorem dX6_settles_138 : decode cX6_settles 138 = .ok (.iconst 1, 1) := by decide +kernel
theorem dX6_settles_139 : decode cX6_settles 139 = .ok (.iload_n 3, 1) := by decide +kernel
theorem dX6_settles_140 : decode cX6_settles 140 = .ok (.ishl, 1) := by decide +kernel
theorem dX6_settles_141 : decode cX6_settles 141 = .ok (.iconst (-1), 1) := by decide +kernel
theorem dX6_settles_142 : decode cX6_settles 142 = .ok (.ixor, 1) := by decide +kernel
theorem dX6_settles_143 : decode cX6_settles 143 = .ok (.iand, 1) := by decide +kernel
theorem dX6_settles_144 : decode cX6_settles 144 = .ok (.invokestatic 85, 3) := by decide +kernel
theorem dX6_settles_147 : decode cX6_settles 147 = .ok (.ifCond .eq 13, 3) := by decide +kernel
theorem dX6_settles_150 : decode cX6_settles 150 = .ok (.iload_n 1, 1) := by decide +kernel
theorem dX6_settles_151 : decode cX6_settles 151 = .ok (.ifCond .ne 7, 3) := by decide +kernel
theorem dX6_settles_154 : decode cX6_settles 154 = .ok (.iconst 2, 1) := by decide +kernel
theorem dX6_settles_155 : decode cX6_settles 155 = .ok (.goto 4, 3) := by decide +kernel
theorem dX6_settles_158 : decode cX6_settles 158 = .ok (.iload_n 2, 1) := by decide +kernel
theorem dX6_settles_159 : decode cX6_settles 159 = .ok (.ireturn, 1) := by decide +kernel
theorem dX6_settles_160 : decode cX6_settles 160 = .ok (.iinc 3 1, 3) := by decide +kernel
theorem dX6_settles_163 : decode cX6_settles 163 = .ok (.goto (-63), 3) := by decide +kernel
theorem dX6_settles_166 : decode cX6_settles 166 = .ok (.iinc 2 1, 3) := by decide +kernel
theorem dX6_settles_169 : decode cX6_settles 169 = .ok (.goto (-79), 3) := by decide +kernel
theorem dX6_settles_172 : decode cX6_settles 172 = .ok (.bipush (-9), 2) := by decide +kernel
theorem dX6_settles_174 : decode cX6_settles 174 = .ok (.ireturn, 1) := by decide +kernel
theorem dX6_pips_0 : decode cX6_pips 0 = .ok (.iload_n 1, 1) := by decide +kernel
theorem dX6_pips_1 : decode cX6_pips 1 = .ok (.ifCond .ne 17, 3) := by decide +kernel
theorem dX6_pips_4 : decode cX6_pips 4 = .ok (.aload_n 0, 1) := by decide +kernel
theorem dX6_pips_5 : decode cX6_pips 5 = .ok (.getfield 10, 3) := by decide +kernel
theorem dX6_pips_8 : decode cX6_pips 8 = .ok (.sipush 14336, 3) := by decide +kernel
theorem dX6_pips_11 : decode cX6_pips 11 = .ok (.iand, 1) := by decide +kernel
theorem dX6_pips_12 : decode cX6_pips 12 = .ok (.invokestatic 82, 3) := by decide +kernel
theorem dX6_pips_15 : decode cX6_pips 15 = .ok (.goto 25, 3) := by decide +kernel
theorem dX6_pips_18 : decode cX6_pips 18 = .ok (.iload_n 1, 1) := by decide +kernel
theorem dX6_pips_19 : decode cX6_pips 19 = .ok (.iconst 1, 1) := by decide +kernel
theorem dX6_pips_20 : decode cX6_pips 20 = .ok (.if_icmp .ne 14, 3) := by decide +kernel
theorem dX6_pips_23 : decode cX6_pips 23 = .ok (.aload_n 0, 1) := by decide +kernel
theorem dX6_pips_24 : decode cX6_pips 24 = .ok (.getfield 10, 3) := by decide +kernel
theorem dX6_pips_27 : decode cX6_pips 27 = .ok (.iconst 2, 1) := by decide +kernel
theorem dX6_pips_28 : decode cX6_pips 28 = .ok (.ishr, 1) := by decide +kernel
theorem dX6_pips_29 : decode cX6_pips 29 = .ok (.iconst 1, 1) := by decide +kernel
theorem dX6_pips_30 : decode cX6_pips 30 = .ok (.iand, 1) := by decide +kernel
theorem dX6_pips_31 : decode cX6_pips 31 = .ok (.goto 9, 3) := by decide +kernel
theorem dX6_pips_34 : decode cX6_pips 34 = .ok (.aload_n 0, 1) := by decide +kernel
theorem dX6_pips_35 : decode cX6_pips 35 = .ok (.bipush (-2), 2) := by decide +kernel
theorem dX6_pips_37 : decode cX6_pips 37 = .ok (.invokevirtual 52, 3) := by decide +kernel
theorem dX6_pips_40 : decode cX6_pips 40 = .ok (.ireturn, 1) := by decide +kernel
theorem dX6_grudge_0 : decode cX6_grudge 0 = .ok (.aload_n 0, 1) := by decide +kernel
theorem dX6_grudge_1 : decode cX6_grudge 1 = .ok (.iload_n 1, 1) := by decide +kernel
theorem dX6_grudge_2 : decode cX6_grudge 2 = .ok (.invokevirtual 168, 3) := by decide +kernel
theorem dX6_grudge_5 : decode cX6_grudge 5 = .ok (.ifCond .ne 9, 3) := by decide +kernel
theorem dX6_grudge_8 : decode cX6_grudge 8 = .ok (.aload_n 0, 1) := by decide +kernel
theorem dX6_grudge_9 : decode cX6_grudge 9 = .ok (.iconst (-1), 1) := by decide +kernel
theorem dX6_grudge_10 : decode cX6_grudge 10 = .ok (.invokevirtual 52, 3) := by decide +kernel
theorem dX6_grudge_13 : decode cX6_grudge 13 = .ok (.ireturn, 1) := by decide +kernel
theorem dX6_grudge_14 : decode cX6_grudge 14 = .ok (.bipush (-9), 2) := by decide +kernel
theorem dX6_grudge_16 : decode cX6_grudge 16 = .ok (.istore_n 2, 1) := by decide +kernel
theorem dX6_grudge_17 : decode cX6_grudge 17 = .ok (.ldc 51, 2) := by decide +kernel
theorem dX6_grudge_19 : decode cX6_grudge 19 = .ok (.istore_n 3, 1) := by decide +kernel
theorem dX6_grudge_20 : decode cX6_grudge 20 = .ok (.iconst 0, 1) := by decide +kernel
theorem dX6_grudge_21 : decode cX6_grudge 21 = .ok (.istore 4, 2) := by decide +kernel
theorem dX6_grudge_23 : decode cX6_grudge 23 = .ok (.iload 4, 2) := by decide +kernel
theorem dX6_grudge_25 : decode cX6_grudge 25 = .ok (.aload_n 0, 1) := by decide +kernel
theorem dX6_grudge_26 : decode cX6_grudge 26 = .ok (.getfield 62, 3) := by decide +kernel
theorem dX6_grudge_29 : decode cX6_grudge 29 = .ok (.if_icmp .ge 77, 3) := by decide +kernel
theorem dX6_grudge_32 : decode cX6_grudge 32 = .ok (.iload 4, 2) := by decide +kernel
theorem dX6_grudge_34 : decode cX6_grudge 34 = .ok (.iload_n 1, 1) := by decide +kernel
theorem dX6_grudge_35 : decode cX6_grudge 35 = .ok (.if_icmp .ne 8, 3) := by decide +kernel
theorem dX6_grudge_38 : decode cX6_grudge 38 = .ok (.bipush (-9), 2) := by decide +kernel
theorem dX6_grudge_40 : decode cX6_grudge 40 = .ok (.goto 14, 3) := by decide +kernel
theorem dX6_grudge_43 : decode cX6_grudge 43 = .ok (.aload_n 0, 1) := by decide +kernel
theorem dX6_grudge_44 : decode cX6_grudge 44 = .ok (.aload_n 0, 1) := by decide +kernel
theorem dX6_grudge_45 : decode cX6_grudge 45 = .ok (.getfield 10, 3) := by decide +kernel
theorem dX6_grudge_48 : decode cX6_grudge 48 = .ok (.iload 4, 2) := by decide +kernel
theorem dX6_grudge_50 : decode cX6_grudge 50 = .ok (.iconst 1, 1) := by decide +kernel
theorem dX6_grudge_51 : decode cX6_grudge 51 = .ok (.invokevirtual 183, 3) := by decide +kernel
theorem dX6_grudge_54 : decode cX6_grudge 54 = .ok (.istore 5, 2) := by decide +kernel
theorem dX6_grudge_56 : decode cX6_grudge 56 = .ok (.iload 5, 2) := by decide +kernel
theorem dX6_grudge_58 : decode cX6_grudge 58 = .ok (.ifCond .lt 42, 3) := by decide +kernel
theorem dX6_grudge_61 : decode cX6_grudge 61 = .ok (.aload_n 0, 1) := by decide +kernel
theorem dX6_grudge_62 : decode cX6_grudge 62 = .ok (.aload_n 0, 1) := by decide +kernel
theorem dX6_grudge_63 : decode cX6_grudge 63 = .ok (.getfield 10, 3) := by decide +kernel
theorem dX6_grudge_66 : decode cX6_grudge 66 = .ok (.iload 5, 2) := by decide +kernel
theorem dX6_grudge_68 : decode cX6_grudge 68 = .ok (.invokestatic 186, 3) := by decide +kernel
theorem dX6_grudge_71 : decode cX6_grudge 71 = .ok (.iload_n 1, 1) := by decide +kernel
theorem dX6_grudge_72 : decode cX6_grudge 72 = .ok (.invokevirtual 98, 3) := by decide +kernel
theorem dX6_grudge_75 : decode cX6_grudge 75 = .ok (.iload_n 3, 1) := by decide +kernel
theorem dX6_grudge_76 : decode cX6_grudge 76 = .ok (.if_icmp .lt 6, 3) := by decide +kernel
theorem dX6_grudge_79 : decode cX6_grudge 79 = .ok (.goto 21, 3) := by decide +kernel
theorem dX6_grudge_82 : decode cX6_grudge 82 = .ok (.iload 4, 2) := by decide +kernel
theorem dX6_grudge_84 : decode cX6_grudge 84 = .ok (.istore_n 2, 1) := by decide +kernel
theorem dX6_grudge_85 : decode cX6_grudge 85 = .ok (.aload_n 0, 1) := by decide +kernel
theorem dX6_grudge_86 : decode cX6_grudge 86 = .ok (.aload_n 0, 1) := by decide +kernel
theorem dX6_grudge_87 : decode cX6_grudge 87 = .ok (.getfield 10, 3) := by decide +kernel
theorem dX6_grudge_90 : decode cX6_grudge 90 = .ok (.iload 5, 2) := by decide +kernel
theorem dX6_grudge_92 : decode cX6_grudge 92 = .ok (.invokestatic 186, 3) := by decide +kernel
theorem dX6_grudge_95 : decode cX6_grudge 95 = .ok (.iload_n 1, 1) := by decide +kernel
theorem dX6_grudge_96 : decode cX6_grudge 96 = .ok (.invokevirtual 98, 3) := by decide +kernel
theorem dX6_grudge_99 : decode cX6_grudge 99 = .ok (.istore_n 3, 1) := by decide +kernel
theorem dX6_grudge_100 : decode cX6_grudge 100 = .ok (.iinc 4 1, 3) := by decide +kernel
theorem dX6_grudge_103 : decode cX6_grudge 103 = .ok (.goto (-80), 3) := by decide +kernel
theorem dX6_grudge_106 : decode cX6_grudge 106 = .ok (.iload_n 2, 1) := by decide +kernel
theorem dX6_grudge_107 : decode cX6_grudge 107 = .ok (.ireturn, 1) := by decide +kernel
theorem dX6_areTwo_0 : decode cX6_areTwo 0 = .ok (.aload_n 0, 1) := by decide +kernel
theorem dX6_areTwo_1 : decode cX6_areTwo 1 = .ok (.iload_n 1, 1) := by decide +kernel
theorem dX6_areTwo_2 : decode cX6_areTwo 2 = .ok (.invokevirtual 168, 3) := by decide +kernel
theorem dX6_areTwo_5 : decode cX6_areTwo 5 = .ok (.ifCond .eq 20, 3) := by decide +kernel
theorem dX6_areTwo_8 : decode cX6_areTwo 8 = .ok (.aload_n 0, 1) := by decide +kernel
theorem dX6_areTwo_9 : decode cX6_areTwo 9 = .ok (.iload_n 2, 1) := by decide +kernel
theorem dX6_areTwo_10 : decode cX6_areTwo 10 = .ok (.invokevirtual 168, 3) := by decide +kernel
theorem dX6_areTwo_13 : decode cX6_areTwo 13 = .ok (.ifCond .eq 12, 3) := by decide +kernel
theorem dX6_areTwo_16 : decode cX6_areTwo 16 = .ok (.iload_n 1, 1) := by decide +kernel
theorem dX6_areTwo_17 : decode cX6_areTwo 17 = .ok (.iload_n 2, 1) := by decide +kernel
theorem dX6_areTwo_18 : decode cX6_areTwo 18 = .ok (.if_icmp .eq 7, 3) := by decide +kernel
theorem dX6_areTwo_21 : decode cX6_areTwo 21 = .ok (.iconst 1, 1) := by decide +kernel
theorem dX6_areTwo_22 : decode cX6_areTwo 22 = .ok (.goto 4, 3) := by decide +kernel
theorem dX6_areTwo_25 : decode cX6_areTwo 25 = .ok (.iconst 0, 1) := by decide +kernel
theorem dX6_areTwo_26 : decode cX6_areTwo 26 = .ok (.ireturn, 1) := by decide +kernel
theorem dX6_gain_0 : decode cX6_gain 0 = .ok (.aload_n 0, 1) := by decide +kernel
theorem dX6_gain_1 : decode cX6_gain 1 = .ok (.iload_n 1, 1) := by decide +kernel
theorem dX6_gain_2 : decode cX6_gain 2 = .ok (.iload_n 2, 1) := by decide +kernel
theorem dX6_gain_3 : decode cX6_gain 3 = .ok (.invokevirtual 204, 3) := by decide +kernel
theorem dX6_gain_6 : decode cX6_gain 6 = .ok (.ifCond .eq 38, 3) := by decide +kernel
theorem dX6_gain_9 : decode cX6_gain 9 = .ok (.aload_n 0, 1) := by decide +kernel
theorem dX6_gain_10 : decode cX6_gain 10 = .ok (.aload_n 0, 1) := by decide +kernel
theorem dX6_gain_11 : decode cX6_gain 11 = .ok (.getfield 10, 3) := by decide +kernel
theorem dX6_gain_14 : decode cX6_gain 14 = .ok (.aload_n 0, 1) := by decide +kernel
theorem dX6_gain_15 : decode cX6_gain 15 = .ok (.aload_n 0, 1) := by decide +kernel
theorem dX6_gain_16 : decode cX6_gain 16 = .ok (.getfield 10, 3) := by decide +kernel
theorem dX6_gain_19 : decode cX6_gain 19 = .ok (.iload_n 1, 1) := by decide +kernel
theorem dX6_gain_20 : decode cX6_gain 20 = .ok (.iconst 1, 1) := by decide +kernel
theorem dX6_gain_21 : decode cX6_gain 21 = .ok (.invokevirtual 183, 3) := by decide +kernel
theorem dX6_gain_24 : decode cX6_gain 24 = .ok (.invokestatic 186, 3) := by decide +kernel
theorem dX6_gain_27 : decode cX6_gain 27 = .ok (.iload_n 2, 1) := by decide +kernel
theorem dX6_gain_28 : decode cX6_gain 28 = .ok (.invokevirtual 98, 3) := by decide +kernel
theorem dX6_gain_31 : decode cX6_gain 31 = .ok (.aload_n 0, 1) := by decide +kernel
theorem dX6_gain_32 : decode cX6_gain 32 = .ok (.aload_n 0, 1) := by decide +kernel
theorem dX6_gain_33 : decode cX6_gain 33 = .ok (.getfield 10, 3) := by decide +kernel
theorem dX6_gain_36 : decode cX6_gain 36 = .ok (.iload_n 2, 1) := by decide +kernel
theorem dX6_gain_37 : decode cX6_gain 37 = .ok (.invokevirtual 98, 3) := by decide +kernel
theorem dX6_gain_40 : decode cX6_gain 40 = .ok (.isub, 1) := by decide +kernel
theorem dX6_gain_41 : decode cX6_gain 41 = .ok (.goto 8, 3) := by decide +kernel
theorem dX6_gain_44 : decode cX6_gain 44 = .ok (.aload_n 0, 1) := by decide +kernel
theorem dX6_gain_45 : decode cX6_gain 45 = .ok (.iconst (-1), 1) := by decide +kernel
theorem dX6_gain_46 : decode cX6_gain 46 = .ok (.invokevirtual 207, 3) := by decide +kernel
theorem dX6_gain_49 : decode cX6_gain 49 = .ok (.ireturn, 1) := by decide +kernel
theorem dX6_join_0 : decode cX6_join 0 = .ok (.iload_n 1, 1) := by decide +kernel
theorem dX6_join_1 : decode cX6_join 1 = .ok (.invokestatic 130, 3) := by decide +kernel
theorem dX6_join_4 : decode cX6_join 4 = .ok (.ifCond .ne 9, 3) := by decide +kernel
theorem dX6_join_7 : decode cX6_join 7 = .ok (.aload_n 0, 1) := by decide +kernel
theorem dX6_join_8 : decode cX6_join 8 = .ok (.iconst (-1), 1) := by decide +kernel
theorem dX6_join_9 : decode cX6_join 9 = .ok (.invokevirtual 52, 3) := by decide +kernel
theorem dX6_join_12 : decode cX6_join 12 = .ok (.ireturn, 1) := by decide +kernel
theorem dX6_join_13 : decode cX6_join 13 = .ok (.aload_n 0, 1) := by decide +kernel
theorem dX6_join_14 : decode cX6_join 14 = .ok (.getfield 10, 3) := by decide +kernel
theorem dX6_join_17 : decode cX6_join 17 = .ok (.iload_n 1, 1) := by decide +kernel
theorem dX6_join_18 : decode cX6_join 18 = .ok (.invokestatic 72, 3) := by decide +kernel
theorem dX6_join_21 : decode cX6_join 21 = .ok (.ifCond .eq 12, 3) := by decide +kernel
theorem dX6_join_24 : decode cX6_join 24 = .ok (.aload_n 0, 1) := by decide +kernel
theorem dX6_join_25 : decode cX6_join 25 = .ok (.bipush (-3), 2) := by decide +kernel
theorem dX6_join_27 : decode cX6_join 27 = .ok (.invokevirtual 52, 3) := by decide +kernel
theorem dX6_join_30 : decode cX6_join 30 = .ok (.goto 14, 3) := by decide +kernel
theorem dX6_join_33 : decode cX6_join 33 = .ok (.aload_n 0, 1) := by decide +kernel
theorem dX6_join_34 : decode cX6_join 34 = .ok (.getfield 10, 3) := by decide +kernel
theorem dX6_join_37 : decode cX6_join 37 = .ok (.iconst 1, 1) := by decide +kernel
theorem dX6_join_38 : decode cX6_join 38 = .ok (.iload_n 1, 1) := by decide +kernel
theorem dX6_join_39 : decode cX6_join 39 = .ok (.ishl, 1) := by decide +kernel
theorem dX6_join_40 : decode cX6_join 40 = .ok (.ior, 1) := by decide +kernel
theorem dX6_join_41 : decode cX6_join 41 = .ok (.invokestatic 91, 3) := by decide +kernel
theorem dX6_join_44 : decode cX6_join 44 = .ok (.ireturn, 1) := by decide +kernel
theorem dX6_stepsFrom_0 : decode cX6_stepsFrom 0 = .ok (.iconst 0, 1) := by decide +kernel
theorem dX6_stepsFrom_1 : decode cX6_stepsFrom 1 = .ok (.istore_n 2, 1) := by decide +kernel
theorem dX6_stepsFrom_2 : decode cX6_stepsFrom 2 = .ok (.iconst 0, 1) := by decide +kernel
theorem dX6_stepsFrom_3 : decode cX6_stepsFrom 3 = .ok (.istore_n 3, 1) := by decide +kernel
theorem dX6_stepsFrom_4 : decode cX6_stepsFrom 4 = .ok (.iload_n 3, 1) := by decide +kernel
theorem dX6_stepsFrom_5 : decode cX6_stepsFrom 5 = .ok (.bipush 25, 2) := by decide +kernel
theorem dX6_stepsFrom_7 : decode cX6_stepsFrom 7 = .ok (.if_icmp .ge 62, 3) := by decide +kernel
theorem dX6_stepsFrom_10 : decode cX6_stepsFrom 10 = .ok (.iload_n 3, 1) := by decide +kernel
theorem dX6_stepsFrom_11 : decode cX6_stepsFrom 11 = .ok (.iconst 5, 1) := by decide +kernel
theorem dX6_stepsFrom_12 : decode cX6_stepsFrom 12 = .ok (.idiv, 1) := by decide +kernel
theorem dX6_stepsFrom_13 : decode cX6_stepsFrom 13 = .ok (.iload_n 1, 1) := by decide +kernel
theorem dX6_stepsFrom_14 : decode cX6_stepsFrom 14 = .ok (.iconst 5, 1) := by decide +kernel
theorem dX6_stepsFrom_15 : decode cX6_stepsFrom 15 = .ok (.idiv, 1) := by decide +kernel
theorem dX6_stepsFrom_16 : decode cX6_stepsFrom 16 = .ok (.isub, 1) := by decide +kernel
theorem dX6_stepsFrom_17 : decode cX6_stepsFrom 17 = .ok (.istore 4, 2) := by decide +kernel
theorem dX6_stepsFrom_19 : decode cX6_stepsFrom 19 = .ok (.iload_n 3, 1) := by decide +kernel
theorem dX6_stepsFrom_20 : decode cX6_stepsFrom 20 = .ok (.iconst 5, 1) := by decide +kernel
theorem dX6_stepsFrom_21 : decode cX6_stepsFrom 21 = .ok (.irem, 1) := by decide +kernel
theorem dX6_stepsFrom_22 : decode cX6_stepsFrom 22 = .ok (.iload_n 1, 1) := by decide +kernel
theorem dX6_stepsFrom_23 : decode cX6_stepsFrom 23 = .ok (.iconst 5, 1) := by decide +kernel
theorem dX6_stepsFrom_24 : decode cX6_stepsFrom 24 = .ok (.irem, 1) := by decide +kernel
theorem dX6_stepsFrom_25 : decode cX6_stepsFrom 25 = .ok (.isub, 1) := by decide +kernel
theorem dX6_stepsFrom_26 : decode cX6_stepsFrom 26 = .ok (.istore 5, 2) := by decide +kernel
theorem dX6_stepsFrom_28 : decode cX6_stepsFrom 28 = .ok (.iload_n 2, 1) := by decide +kernel
theorem dX6_stepsFrom_29 : decode cX6_stepsFrom 29 = .ok (.aload_n 0, 1) := by decide +kernel
theorem dX6_stepsFrom_30 : decode cX6_stepsFrom 30 = .ok (.getfield 10, 3) := by decide +kernel
theorem dX6_stepsFrom_33 : decode cX6_stepsFrom 33 = .ok (.iload_n 3, 1) := by decide +kernel
theorem dX6_stepsFrom_34 : decode cX6_stepsFrom 34 = .ok (.invokestatic 72, 3) := by decide +kernel
theorem dX6_stepsFrom_37 : decode cX6_stepsFrom 37 = .ok (.ifCond .eq 23, 3) := by decide +kernel
theorem dX6_stepsFrom_40 : decode cX6_stepsFrom 40 = .ok (.iload 4, 2) := by decide +kernel
theorem dX6_stepsFrom_42 : decode cX6_stepsFrom 42 = .ok (.iload 4, 2) := by decide +kernel
theorem dX6_stepsFrom_44 : decode cX6_stepsFrom 44 = .ok (.ineg, 1) := by decide +kernel
theorem dX6_stepsFrom_45 : decode cX6_stepsFrom 45 = .ok (.invokestatic 88, 3) := by decide +kernel
theorem dX6_stepsFrom_48 : decode cX6_stepsFrom 48 = .ok (.iload 5, 2) := by decide +kernel
theorem dX6_stepsFrom_50 : decode cX6_stepsFrom 50 = .ok (.iload 5, 2) := by decide +kernel
theorem dX6_stepsFrom_52 : decode cX6_stepsFrom 52 = .ok (.ineg, 1) := by decide +kernel
theorem dX6_stepsFrom_53 : decode cX6_stepsFrom 53 = .ok (.invokestatic 88, 3) := by decide +kernel
theorem dX6_stepsFrom_56 : decode cX6_stepsFrom 56 = .ok (.iadd, 1) := by decide +kernel
theorem dX6_stepsFrom_57 : decode cX6_stepsFrom 57 = .ok (.goto 4, 3) := by decide +kernel
theorem dX6_stepsFrom_60 : decode cX6_stepsFrom 60 = .ok (.iconst 0, 1) := by decide +kernel
theorem dX6_stepsFrom_61 : decode cX6_stepsFrom 61 = .ok (.iadd, 1) := by decide +kernel
theorem dX6_stepsFrom_62 : decode cX6_stepsFrom 62 = .ok (.istore_n 2, 1) := by decide +kernel
theorem dX6_stepsFrom_63 : decode cX6_stepsFrom 63 = .ok (.iinc 3 1, 3) := by decide +kernel
theorem dX6_stepsFrom_66 : decode cX6_stepsFrom 66 = .ok (.goto (-62), 3) := by decide +kernel
theorem dX6_stepsFrom_69 : decode cX6_stepsFrom 69 = .ok (.iload_n 2, 1) := by decide +kernel
theorem dX6_stepsFrom_70 : decode cX6_stepsFrom 70 = .ok (.ireturn, 1) := by decide +kernel
theorem dX6_bridge_0 : decode cX6_bridge 0 = .ok (.iload_n 1, 1) := by decide +kernel
theorem dX6_bridge_1 : decode cX6_bridge 1 = .ok (.iconst 0, 1) := by decide +kernel
theorem dX6_bridge_2 : decode cX6_bridge 2 = .ok (.iconst 2, 1) := by decide +kernel
theorem dX6_bridge_3 : decode cX6_bridge 3 = .ok (.invokestatic 58, 3) := by decide +kernel
theorem dX6_bridge_6 : decode cX6_bridge 6 = .ok (.ifCond .ne 10, 3) := by decide +kernel
theorem dX6_bridge_9 : decode cX6_bridge 9 = .ok (.aload_n 0, 1) := by decide +kernel
theorem dX6_bridge_10 : decode cX6_bridge 10 = .ok (.bipush (-2), 2) := by decide +kernel
theorem dX6_bridge_12 : decode cX6_bridge 12 = .ok (.invokevirtual 52, 3) := by decide +kernel
theorem dX6_bridge_15 : decode cX6_bridge 15 = .ok (.ireturn, 1) := by decide +kernel
theorem dX6_bridge_16 : decode cX6_bridge 16 = .ok (.iconst 0, 1) := by decide +kernel
theorem dX6_bridge_17 : decode cX6_bridge 17 = .ok (.istore_n 2, 1) := by decide +kernel
theorem dX6_bridge_18 : decode cX6_bridge 18 = .ok (.bipush (-9), 2) := by decide +kernel
theorem dX6_bridge_20 : decode cX6_bridge 20 = .ok (.istore_n 3, 1) := by decide +kernel
theorem dX6_bridge_21 : decode cX6_bridge 21 = .ok (.bipush (-9), 2) := by decide +kernel
theorem dX6_bridge_23 : decode cX6_bridge 23 = .ok (.istore 4, 2) := by decide +kernel
theorem dX6_bridge_25 : decode cX6_bridge 25 = .ok (.bipush 24, 2) := by decide +kernel
theorem dX6_bridge_27 : decode cX6_bridge 27 = .ok (.istore 5, 2) := by decide +kernel
theorem dX6_bridge_29 : decode cX6_bridge 29 = .ok (.iload 5, 2) := by decide +kernel
theorem dX6_bridge_31 : decode cX6_bridge 31 = .ok (.ifCond .lt 109, 3) := by decide +kernel
theorem dX6_bridge_34 : decode cX6_bridge 34 = .ok (.aload_n 0, 1) := by decide +kernel
theorem dX6_bridge_35 : decode cX6_bridge 35 = .ok (.getfield 10, 3) := by decide +kernel
theorem dX6_bridge_38 : decode cX6_bridge 38 = .ok (.iload 5, 2) := by decide +kernel
theorem dX6_bridge_40 : decode cX6_bridge 40 = .ok (.invokestatic 72, 3) := by decide +kernel
theorem dX6_bridge_43 : decode cX6_bridge 43 = .ok (.ifCond .ne 6, 3) := by decide +kernel
theorem dX6_bridge_46 : decode cX6_bridge 46 = .ok (.goto 88, 3) := by decide +kernel
theorem dX6_bridge_49 : decode cX6_bridge 49 = .ok (.aload_n 0, 1) := by decide +kernel
theorem dX6_bridge_50 : decode cX6_bridge 50 = .ok (.getfield 10, 3) := by decide +kernel
theorem dX6_bridge_53 : decode cX6_bridge 53 = .ok (.iconst 1, 1) := by decide +kernel
theorem dX6_bridge_54 : decode cX6_bridge 54 = .ok (.iload 5, 2) := by decide +kernel
theorem dX6_bridge_56 : decode cX6_bridge 56 = .ok (.ishl, 1) := by decide +kernel
theorem dX6_bridge_57 : decode cX6_bridge 57 = .ok (.iconst (-1), 1) := by decide +kernel
theorem dX6_bridge_58 : decode cX6_bridge 58 = .ok (.ixor, 1) := by decide +kernel
theorem dX6_bridge_59 : decode cX6_bridge 59 = .ok (.iand, 1) := by decide +kernel
theorem dX6_bridge_60 : decode cX6_bridge 60 = .ok (.invokestatic 91, 3) := by decide +kernel
theorem dX6_bridge_63 : decode cX6_bridge 63 = .ok (.aload_n 0, 1) := by decide +kernel
theorem dX6_bridge_64 : decode cX6_bridge 64 = .ok (.getfield 10, 3) := by decide +kernel
theorem dX6_bridge_67 : decode cX6_bridge 67 = .ok (.invokestatic 91, 3) := by decide +kernel
theorem dX6_bridge_70 : decode cX6_bridge 70 = .ok (.if_icmp .le 7, 3) := by decide +kernel
theorem dX6_bridge_73 : decode cX6_bridge 73 = .ok (.iconst 1, 1) := by decide +kernel
theorem dX6_bridge_74 : decode cX6_bridge 74 = .ok (.goto 4, 3) := by decide +kernel
theorem dX6_bridge_77 : decode cX6_bridge 77 = .ok (.iconst 0, 1) := by decide +kernel
theorem dX6_bridge_78 : decode cX6_bridge 78 = .ok (.istore 6, 2) := by decide +kernel
theorem dX6_bridge_80 : decode cX6_bridge 80 = .ok (.iload_n 2, 1) := by decide +kernel
theorem dX6_bridge_81 : decode cX6_bridge 81 = .ok (.iload 6, 2) := by decide +kernel
theorem dX6_bridge_83 : decode cX6_bridge 83 = .ok (.ifCond .eq 7, 3) := by decide +kernel
theorem dX6_bridge_86 : decode cX6_bridge 86 = .ok (.iconst 1, 1) := by decide +kernel
theorem dX6_bridge_87 : decode cX6_bridge 87 = .ok (.goto 4, 3) := by decide +kernel
theorem dX6_bridge_90 : decode cX6_bridge 90 = .ok (.iconst 0, 1) := by decide +kernel
theorem dX6_bridge_91 : decode cX6_bridge 91 = .ok (.iadd, 1) := by decide +kernel
theorem dX6_bridge_92 : decode cX6_bridge 92 = .ok (.istore_n 2, 1) := by decide +kernel
theorem dX6_bridge_93 : decode cX6_bridge 93 = .ok (.iload 6, 2) := by decide +kernel
theorem dX6_bridge_95 : decode cX6_bridge 95 = .ok (.ifCond .eq 8, 3) := by decide +kernel
theorem dX6_bridge_98 : decode cX6_bridge 98 = .ok (.iload 5, 2) := by decide +kernel
theorem dX6_bridge_100 : decode cX6_bridge 100 = .ok (.goto 4, 3) := by decide +kernel
theorem dX6_bridge_103 : decode cX6_bridge 103 = .ok (.iload_n 3, 1) := by decide +kernel
theorem dX6_bridge_104 : decode cX6_bridge 104 = .ok (.istore_n 3, 1) := by decide +kernel
theorem dX6_bridge_105 : decode cX6_bridge 105 = .ok (.iload 4, 2) := by decide +kernel
theorem dX6_bridge_107 : decode cX6_bridge 107 = .ok (.ifCond .lt 18, 3) := by decide +kernel
theorem dX6_bridge_110 : decode cX6_bridge 110 = .ok (.aload_n 0, 1) := by decide +kernel
theorem dX6_bridge_111 : decode cX6_bridge 111 = .ok (.iload 5, 2) := by decide +kernel
theorem dX6_bridge_113 : decode cX6_bridge 113 = .ok (.invokevirtual 210, 3) := by decide +kernel
theorem dX6_bridge_116 : decode cX6_bridge 116 = .ok (.aload_n 0, 1) := by decide +kernel
theorem dX6_bridge_117 : decode cX6_bridge 117 = .ok (.iload 4, 2) := by decide +kernel
theorem dX6_bridge_119 : decode cX6_bridge 119 = .ok (.invokevirtual 210, 3) := by decide +kernel
theorem dX6_bridge_122 : decode cX6_bridge 122 = .ok (.if_icmp .gt 8, 3) := by decide +kernel
theorem dX6_bridge_125 : decode cX6_bridge 125 = .ok (.iload 5, 2) := by decide +kernel
theorem dX6_bridge_127 : decode cX6_bridge 127 = .ok (.goto 5, 3) := by decide +kernel
theorem dX6_bridge_130 : decode cX6_bridge 130 = .ok (.iload 4, 2) := by decide +kernel
theorem dX6_bridge_132 : decode cX6_bridge 132 = .ok (.istore 4, 2) := by decide +kernel
theorem dX6_bridge_134 : decode cX6_bridge 134 = .ok (.iinc 5 (-1), 3) := by decide +kernel
theorem dX6_bridge_137 : decode cX6_bridge 137 = .ok (.goto (-108), 3) := by decide +kernel
theorem dX6_bridge_140 : decode cX6_bridge 140 = .ok (.iload_n 1, 1) := by decide +kernel
theorem dX6_bridge_141 : decode cX6_bridge 141 = .ok (.ifCond .ne 7, 3) := by decide +kernel
theorem dX6_bridge_144 : decode cX6_bridge 144 = .ok (.iload_n 2, 1) := by decide +kernel
theorem dX6_bridge_145 : decode cX6_bridge 145 = .ok (.goto 14, 3) := by decide +kernel
theorem dX6_bridge_148 : decode cX6_bridge 148 = .ok (.iload_n 1, 1) := by decide +kernel
theorem dX6_bridge_149 : decode cX6_bridge 149 = .ok (.iconst 1, 1) := by decide +kernel
theorem dX6_bridge_150 : decode cX6_bridge 150 = .ok (.if_icmp .ne 7, 3) := by decide +kernel
theorem dX6_bridge_153 : decode cX6_bridge 153 = .ok (.iload_n 3, 1) := by decide +kernel
theorem dX6_bridge_154 : decode cX6_bridge 154 = .ok (.goto 5, 3) := by decide +kernel
theorem dX6_bridge_157 : decode cX6_bridge 157 = .ok (.iload 4, 2) := by decide +kernel
theorem dX6_bridge_159 : decode cX6_bridge 159 = .ok (.ireturn, 1) := by decide +kernel
theorem dX6_firstBite_0 : decode cX6_firstBite 0 = .ok (.iconst 0, 1) := by decide +kernel
theorem dX6_firstBite_1 : decode cX6_firstBite 1 = .ok (.istore_n 2, 1) := by decide +kernel
theorem dX6_firstBite_2 : decode cX6_firstBite 2 = .ok (.iload_n 2, 1) := by decide +kernel
theorem dX6_firstBite_3 : decode cX6_firstBite 3 = .ok (.iconst 4, 1) := by decide +kernel
theorem dX6_firstBite_4 : decode cX6_firstBite 4 = .ok (.if_icmp .ge 39, 3) := by decide +kernel
theorem dX6_firstBite_7 : decode cX6_firstBite 7 = .ok (.iconst 0, 1) := by decide +kernel
theorem dX6_firstBite_8 : decode cX6_firstBite 8 = .ok (.istore_n 3, 1) := by decide +kernel
theorem dX6_firstBite_9 : decode cX6_firstBite 9 = .ok (.iload_n 3, 1) := by decide +kernel
theorem dX6_firstBite_10 : decode cX6_firstBite 10 = .ok (.bipush 25, 2) := by decide +kernel
theorem dX6_firstBite_12 : decode cX6_firstBite 12 = .ok (.if_icmp .ge 25, 3) := by decide +kernel
theorem dX6_firstBite_15 : decode cX6_firstBite 15 = .ok (.iload_n 1, 1) := by decide +kernel
theorem dX6_firstBite_16 : decode cX6_firstBite 16 = .ok (.iload_n 2, 1) := by decide +kernel
theorem dX6_firstBite_17 : decode cX6_firstBite 17 = .ok (.iload_n 3, 1) := by decide +kernel
theorem dX6_firstBite_18 : decode cX6_firstBite 18 = .ok (.invokestatic 134, 3) := by decide +kernel
theorem dX6_firstBite_21 : decode cX6_firstBite 21 = .ok (.ifCond .eq 10, 3) := by decide +kernel
theorem dX6_firstBite_24 : decode cX6_firstBite 24 = .ok (.bipush 100, 2) := by decide +kernel
theorem dX6_firstBite_26 : decode cX6_firstBite 26 = .ok (.iload_n 2, 1) := by decide +kernel
theorem dX6_firstBite_27 : decode cX6_firstBite 27 = .ok (.imul, 1) := by decide +kernel
theorem dX6_firstBite_28 : decode cX6_firstBite 28 = .ok (.iload_n 3, 1) := by decide +kernel
theorem dX6_firstBite_29 : decode cX6_firstBite 29 = .ok (.iadd, 1) := by decide +kernel
theorem dX6_firstBite_30 : decode cX6_firstBite 30 = .ok (.ireturn, 1) := by decide +kernel
theorem dX6_firstBite_31 : decode cX6_firstBite 31 = .ok (.iinc 3 1, 3) := by decide +kernel
theorem dX6_firstBite_34 : decode cX6_firstBite 34 = .ok (.goto (-25), 3) := by decide +kernel
theorem dX6_firstBite_37 : decode cX6_firstBite 37 = .ok (.iinc 2 1, 3) := by decide +kernel
theorem dX6_firstBite_40 : decode cX6_firstBite 40 = .ok (.goto (-38), 3) := by decide +kernel
theorem dX6_firstBite_43 : decode cX6_firstBite 43 = .ok (.bipush (-9), 2) := by decide +kernel
theorem dX6_firstBite_45 : decode cX6_firstBite 45 = .ok (.ireturn, 1) := by decide +kernel
theorem dX6_shareBoth_0 : decode cX6_shareBoth 0 = .ok (.aload_n 0, 1) := by decide +kernel
theorem dX6_shareBoth_1 : decode cX6_shareBoth 1 = .ok (.getfield 10, 3) := by decide +kernel
theorem dX6_shareBoth_4 : decode cX6_shareBoth 4 = .ok (.iload_n 3, 1) := by decide +kernel
theorem dX6_shareBoth_5 : decode cX6_shareBoth 5 = .ok (.ifCond .ne 16, 3) := by decide +kernel
theorem dX6_shareBoth_8 : decode cX6_shareBoth 8 = .ok (.aload_n 0, 1) := by decide +kernel
theorem dX6_shareBoth_9 : decode cX6_shareBoth 9 = .ok (.aload_n 0, 1) := by decide +kernel
theorem dX6_shareBoth_10 : decode cX6_shareBoth 10 = .ok (.getfield 10, 3) := by decide +kernel
theorem dX6_shareBoth_13 : decode cX6_shareBoth 13 = .ok (.iload_n 2, 1) := by decide +kernel
theorem dX6_shareBoth_14 : decode cX6_shareBoth 14 = .ok (.iconst 1, 1) := by decide +kernel
theorem dX6_shareBoth_15 : decode cX6_shareBoth 15 = .ok (.invokevirtual 183, 3) := by decide +kernel
theorem dX6_shareBoth_18 : decode cX6_shareBoth 18 = .ok (.goto 11, 3) := by decide +kernel
theorem dX6_shareBoth_21 : decode cX6_shareBoth 21 = .ok (.aload_n 0, 1) := by decide +kernel
theorem dX6_shareBoth_22 : decode cX6_shareBoth 22 = .ok (.aload_n 0, 1) := by decide +kernel
theorem dX6_shareBoth_23 : decode cX6_shareBoth 23 = .ok (.getfield 10, 3) := by decide +kernel
theorem dX6_shareBoth_26 : decode cX6_shareBoth 26 = .ok (.invokevirtual 213, 3) := by decide +kernel
theorem dX6_shareBoth_29 : decode cX6_shareBoth 29 = .ok (.invokestatic 186, 3) := by decide +kernel
theorem dX6_shareBoth_32 : decode cX6_shareBoth 32 = .ok (.istore 6, 2) := by decide +kernel
theorem dX6_shareBoth_34 : decode cX6_shareBoth 34 = .ok (.aload_n 0, 1) := by decide +kernel
theorem dX6_shareBoth_35 : decode cX6_shareBoth 35 = .ok (.iload 6, 2) := by decide +kernel
theorem dX6_shareBoth_37 : decode cX6_shareBoth 37 = .ok (.iload 5, 2) := by decide +kernel
theorem dX6_shareBoth_39 : decode cX6_shareBoth 39 = .ok (.ifCond .ne 15, 3) := by decide +kernel
theorem dX6_shareBoth_42 : decode cX6_shareBoth 42 = .ok (.aload_n 0, 1) := by decide +kernel
theorem dX6_shareBoth_43 : decode cX6_shareBoth 43 = .ok (.iload 6, 2) := by decide +kernel
theorem dX6_shareBoth_45 : decode cX6_shareBoth 45 = .ok (.iload 4, 2) := by decide +kernel
theorem dX6_shareBoth_47 : decode cX6_shareBoth 47 = .ok (.iconst 1, 1) := by decide +kernel
theorem dX6_shareBoth_48 : decode cX6_shareBoth 48 = .ok (.invokevirtual 183, 3) := by decide +kernel
theorem dX6_shareBoth_51 : decode cX6_shareBoth 51 = .ok (.goto 9, 3) := by decide +kernel
theorem dX6_shareBoth_54 : decode cX6_shareBoth 54 = .ok (.aload_n 0, 1) := by decide +kernel
theorem dX6_shareBoth_55 : decode cX6_shareBoth 55 = .ok (.iload 6, 2) := by decide +kernel
theorem dX6_shareBoth_57 : decode cX6_shareBoth 57 = .ok (.invokevirtual 213, 3) := by decide +kernel
theorem dX6_shareBoth_60 : decode cX6_shareBoth 60 = .ok (.invokestatic 186, 3) := by decide +kernel
theorem dX6_shareBoth_63 : decode cX6_shareBoth 63 = .ok (.iload_n 1, 1) := by decide +kernel
theorem dX6_shareBoth_64 : decode cX6_shareBoth 64 = .ok (.invokevirtual 98, 3) := by decide +kernel
theorem dX6_shareBoth_67 : decode cX6_shareBoth 67 = .ok (.ireturn, 1) := by decide +kernel
theorem dX6_two_0 : decode cX6_two 0 = .ok (.aload_n 0, 1) := by decide +kernel
theorem dX6_two_1 : decode cX6_two 1 = .ok (.iload_n 1, 1) := by decide +kernel
theorem dX6_two_2 : decode cX6_two 2 = .ok (.iload_n 2, 1) := by decide +kernel
theorem dX6_two_3 : decode cX6_two 3 = .ok (.invokevirtual 204, 3) := by decide +kernel
theorem dX6_two_6 : decode cX6_two 6 = .ok (.ifCond .ne 9, 3) := by decide +kernel
theorem dX6_two_9 : decode cX6_two 9 = .ok (.aload_n 0, 1) := by decide +kernel
theorem dX6_two_10 : decode cX6_two 10 = .ok (.iconst (-1), 1) := by decide +kernel
theorem dX6_two_11 : decode cX6_two 11 = .ok (.invokevirtual 52, 3) := by decide +kernel
theorem dX6_two_14 : decode cX6_two 14 = .ok (.ireturn, 1) := by decide +kernel
theorem dX6_two_15 : decode cX6_two 15 = .ok (.iconst 0, 1) := by decide +kernel
theorem dX6_two_16 : decode cX6_two 16 = .ok (.istore_n 3, 1) := by decide +kernel
theorem dX6_two_17 : decode cX6_two 17 = .ok (.iload_n 3, 1) := by decide +kernel
theorem dX6_two_18 : decode cX6_two 18 = .ok (.iconst 4, 1) := by decide +kernel
theorem dX6_two_19 : decode cX6_two 19 = .ok (.if_icmp .ge 82, 3) := by decide +kernel
theorem dX6_two_22 : decode cX6_two 22 = .ok (.iload_n 3, 1) := by decide +kernel
theorem dX6_two_23 : decode cX6_two 23 = .ok (.iconst 2, 1) := by decide +kernel
theorem dX6_two_24 : decode cX6_two 24 = .ok (.idiv, 1) := by decide +kernel
theorem dX6_two_25 : decode cX6_two 25 = .ok (.istore 4, 2) := by decide +kernel
theorem dX6_two_27 : decode cX6_two 27 = .ok (.iload_n 3, 1) := by decide +kernel
theorem dX6_two_28 : decode cX6_two 28 = .ok (.iconst 2, 1) := by decide +kernel
theorem dX6_two_29 : decode cX6_two 29 = .ok (.irem, 1) := by decide +kernel
theorem dX6_two_30 : decode cX6_two 30 = .ok (.istore 5, 2) := by decide +kernel
theorem dX6_two_32 : decode cX6_two 32 = .ok (.aload_n 0, 1) := by decide +kernel
theorem dX6_two_33 : decode cX6_two 33 = .ok (.iload_n 1, 1) := by decide +kernel
theorem dX6_two_34 : decode cX6_two 34 = .ok (.iload_n 1, 1) := by decide +kernel
theorem dX6_two_35 : decode cX6_two 35 = .ok (.iconst 1, 1) := by decide +kernel
theorem dX6_two_36 : decode cX6_two 36 = .ok (.iload 4, 2) := by decide +kernel
theorem dX6_two_38 : decode cX6_two 38 = .ok (.isub, 1) := by decide +kernel
theorem dX6_two_39 : decode cX6_two 39 = .ok (.iload_n 2, 1) := by decide +kernel
theorem dX6_two_40 : decode cX6_two 40 = .ok (.iload 5, 2) := by decide +kernel
theorem dX6_two_42 : decode cX6_two 42 = .ok (.invokevirtual 216, 3) := by decide +kernel
theorem dX6_two_45 : decode cX6_two 45 = .ok (.aload_n 0, 1) := by decide +kernel
theorem dX6_two_46 : decode cX6_two 46 = .ok (.iload_n 1, 1) := by decide +kernel
theorem dX6_two_47 : decode cX6_two 47 = .ok (.iload_n 1, 1) := by decide +kernel
theorem dX6_two_48 : decode cX6_two 48 = .ok (.iload 4, 2) := by decide +kernel
theorem dX6_two_50 : decode cX6_two 50 = .ok (.iload_n 2, 1) := by decide +kernel
theorem dX6_two_51 : decode cX6_two 51 = .ok (.iload 5, 2) := by decide +kernel
theorem dX6_two_53 : decode cX6_two 53 = .ok (.invokevirtual 216, 3) := by decide +kernel
theorem dX6_two_56 : decode cX6_two 56 = .ok (.if_icmp .gt 39, 3) := by decide +kernel
theorem dX6_two_59 : decode cX6_two 59 = .ok (.aload_n 0, 1) := by decide +kernel
theorem dX6_two_60 : decode cX6_two 60 = .ok (.iload_n 2, 1) := by decide +kernel
theorem dX6_two_61 : decode cX6_two 61 = .ok (.iload_n 1, 1) := by decide +kernel
theorem dX6_two_62 : decode cX6_two 62 = .ok (.iload 4, 2) := by decide +kernel
theorem dX6_two_64 : decode cX6_two 64 = .ok (.iload_n 2, 1) := by decide +kernel
theorem dX6_two_65 : decode cX6_two 65 = .ok (.iconst 1, 1) := by decide +kernel
theorem dX6_two_66 : decode cX6_two 66 = .ok (.iload 5, 2) := by decide +kernel
theorem dX6_two_68 : decode cX6_two 68 = .ok (.isub, 1) := by decide +kernel
theorem dX6_two_69 : decode cX6_two 69 = .ok (.invokevirtual 216, 3) := by decide +kernel
theorem dX6_two_72 : decode cX6_two 72 = .ok (.aload_n 0, 1) := by decide +kernel
theorem dX6_two_73 : decode cX6_two 73 = .ok (.iload_n 2, 1) := by decide +kernel
theorem dX6_two_74 : decode cX6_two 74 = .ok (.iload_n 1, 1) := by decide +kernel
theorem dX6_two_75 : decode cX6_two 75 = .ok (.iload 4, 2) := by decide +kernel
theorem dX6_two_77 : decode cX6_two 77 = .ok (.iload_n 2, 1) := by decide +kernel
theorem dX6_two_78 : decode cX6_two 78 = .ok (.iload 5, 2) := by decide +kernel
theorem dX6_two_80 : decode cX6_two 80 = .ok (.invokevirtual 216, 3) := by decide +kernel
theorem dX6_two_83 : decode cX6_two 83 = .ok (.if_icmp .gt 12, 3) := by decide +kernel
theorem dX6_two_86 : decode cX6_two 86 = .ok (.bipush 10, 2) := by decide +kernel
theorem dX6_two_88 : decode cX6_two 88 = .ok (.iload 4, 2) := by decide +kernel
theorem dX6_two_90 : decode cX6_two 90 = .ok (.imul, 1) := by decide +kernel
theorem dX6_two_91 : decode cX6_two 91 = .ok (.iload 5, 2) := by decide +kernel
theorem dX6_two_93 : decode cX6_two 93 = .ok (.iadd, 1) := by decide +kernel
theorem dX6_two_94 : decode cX6_two 94 = .ok (.ireturn, 1) := by decide +kernel
theorem dX6_two_95 : decode cX6_two 95 = .ok (.iinc 3 1, 3) := by decide +kernel
theorem dX6_two_98 : decode cX6_two 98 = .ok (.goto (-81), 3) := by decide +kernel
theorem dX6_two_101 : decode cX6_two 101 = .ok (.bipush (-9), 2) := by decide +kernel
theorem dX6_two_103 : decode cX6_two 103 = .ok (.ireturn, 1) := by decide +kernel
theorem dX6_gcd_0 : decode cX6_gcd 0 = .ok (.lload_n 0, 1) := by decide +kernel
theorem dX6_gcd_1 : decode cX6_gcd 1 = .ok (.lstore 4, 2) := by decide +kernel
theorem dX6_gcd_3 : decode cX6_gcd 3 = .ok (.lload_n 2, 1) := by decide +kernel
theorem dX6_gcd_4 : decode cX6_gcd 4 = .ok (.lstore 6, 2) := by decide +kernel
theorem dX6_gcd_6 : decode cX6_gcd 6 = .ok (.lload 6, 2) := by decide +kernel
theorem dX6_gcd_8 : decode cX6_gcd 8 = .ok (.lconst 0, 1) := by decide +kernel
theorem dX6_gcd_9 : decode cX6_gcd 9 = .ok (.lcmp, 1) := by decide +kernel
theorem dX6_gcd_10 : decode cX6_gcd 10 = .ok (.ifCond .eq 21, 3) := by decide +kernel
theorem dX6_gcd_13 : decode cX6_gcd 13 = .ok (.lload 4, 2) := by decide +kernel
theorem dX6_gcd_15 : decode cX6_gcd 15 = .ok (.lload 6, 2) := by decide +kernel
theorem dX6_gcd_17 : decode cX6_gcd 17 = .ok (.lrem, 1) := by decide +kernel
theorem dX6_gcd_18 : decode cX6_gcd 18 = .ok (.lstore 8, 2) := by decide +kernel
theorem dX6_gcd_20 : decode cX6_gcd 20 = .ok (.lload 6, 2) := by decide +kernel
theorem dX6_gcd_22 : decode cX6_gcd 22 = .ok (.lstore 4, 2) := by decide +kernel
theorem dX6_gcd_24 : decode cX6_gcd 24 = .ok (.lload 8, 2) := by decide +kernel
theorem dX6_gcd_26 : decode cX6_gcd 26 = .ok (.lstore 6, 2) := by decide +kernel
theorem dX6_gcd_28 : decode cX6_gcd 28 = .ok (.goto (-22), 3) := by decide +kernel
theorem dX6_gcd_31 : decode cX6_gcd 31 = .ok (.lload 4, 2) := by decide +kernel
theorem dX6_gcd_33 : decode cX6_gcd 33 = .ok (.lreturn, 1) := by decide +kernel
theorem dX6_partOf_0 : decode cX6_partOf 0 = .ok (.lload_n 0, 1) := by decide +kernel
theorem dX6_partOf_1 : decode cX6_partOf 1 = .ok (.lconst 0, 1) := by decide +kernel
theorem dX6_partOf_2 : decode cX6_partOf 2 = .ok (.lcmp, 1) := by decide +kernel
theorem dX6_partOf_3 : decode cX6_partOf 3 = .ok (.ifCond .ne 7, 3) := by decide +kernel
theorem dX6_partOf_6 : decode cX6_partOf 6 = .ok (.iload 4, 2) := by decide +kernel
theorem dX6_partOf_8 : decode cX6_partOf 8 = .ok (.i2l, 1) := by decide +kernel
theorem dX6_partOf_9 : decode cX6_partOf 9 = .ok (.lreturn, 1) := by decide +kernel
theorem dX6_partOf_10 : decode cX6_partOf 10 = .ok (.iload 4, 2) := by decide +kernel
theorem dX6_partOf_12 : decode cX6_partOf 12 = .ok (.ifCond .ne 7, 3) := by decide +kernel
theorem dX6_partOf_15 : decode cX6_partOf 15 = .ok (.lload_n 0, 1) := by decide +kernel
theorem dX6_partOf_16 : decode cX6_partOf 16 = .ok (.goto 4, 3) := by decide +kernel
theorem dX6_partOf_19 : decode cX6_partOf 19 = .ok (.lload_n 2, 1) := by decide +kernel
theorem dX6_partOf_20 : decode cX6_partOf 20 = .ok (.lload_n 0, 1) := by decide +kernel
theorem dX6_partOf_21 : decode cX6_partOf 21 = .ok (.lload_n 2, 1) := by decide +kernel
theorem dX6_partOf_22 : decode cX6_partOf 22 = .ok (.invokestatic 220, 3) := by decide +kernel
theorem dX6_partOf_25 : decode cX6_partOf 25 = .ok (.ldiv, 1) := by decide +kernel
theorem dX6_partOf_26 : decode cX6_partOf 26 = .ok (.lreturn, 1) := by decide +kernel
theorem dX6_waysFor_0 : decode cX6_waysFor 0 = .ok (.iload 4, 2) := by decide +kernel
theorem dX6_waysFor_2 : decode cX6_waysFor 2 = .ok (.ifCond .eq 7, 3) := by decide +kernel
theorem dX6_waysFor_5 : decode cX6_waysFor 5 = .ok (.iload_n 1, 1) := by decide +kernel
theorem dX6_waysFor_6 : decode cX6_waysFor 6 = .ok (.ifCond .ne 19, 3) := by decide +kernel
theorem dX6_waysFor_9 : decode cX6_waysFor 9 = .ok (.aload_n 0, 1) := by decide +kernel
theorem dX6_waysFor_10 : decode cX6_waysFor 10 = .ok (.iload_n 1, 1) := by decide +kernel
theorem dX6_waysFor_11 : decode cX6_waysFor 11 = .ok (.iload_n 2, 1) := by decide +kernel
theorem dX6_waysFor_12 : decode cX6_waysFor 12 = .ok (.invokevirtual 98, 3) := by decide +kernel
theorem dX6_waysFor_15 : decode cX6_waysFor 15 = .ok (.iload_n 3, 1) := by decide +kernel
theorem dX6_waysFor_16 : decode cX6_waysFor 16 = .ok (.if_icmp .lt 7, 3) := by decide +kernel
theorem dX6_waysFor_19 : decode cX6_waysFor 19 = .ok (.lconst 1, 1) := by decide +kernel
theorem dX6_waysFor_20 : decode cX6_waysFor 20 = .ok (.goto 4, 3) := by decide +kernel
theorem dX6_waysFor_23 : decode cX6_waysFor 23 = .ok (.lconst 0, 1) := by decide +kernel
theorem dX6_waysFor_24 : decode cX6_waysFor 24 = .ok (.lreturn, 1) := by decide +kernel
theorem dX6_waysFor_25 : decode cX6_waysFor 25 = .ok (.lconst 0, 1) := by decide +kernel
theorem dX6_waysFor_26 : decode cX6_waysFor 26 = .ok (.lstore 5, 2) := by decide +kernel
theorem dX6_waysFor_28 : decode cX6_waysFor 28 = .ok (.iconst 0, 1) := by decide +kernel
theorem dX6_waysFor_29 : decode cX6_waysFor 29 = .ok (.istore 7, 2) := by decide +kernel
theorem dX6_waysFor_31 : decode cX6_waysFor 31 = .ok (.iload 7, 2) := by decide +kernel
theorem dX6_waysFor_33 : decode cX6_waysFor 33 = .ok (.bipush 25, 2) := by decide +kernel
theorem dX6_waysFor_35 : decode cX6_waysFor 35 = .ok (.if_icmp .ge 45, 3) := by decide +kernel
theorem dX6_waysFor_38 : decode cX6_waysFor 38 = .ok (.lload 5, 2) := by decide +kernel
theorem dX6_waysFor_40 : decode cX6_waysFor 40 = .ok (.iload_n 1, 1) := by decide +kernel
theorem dX6_waysFor_41 : decode cX6_waysFor 41 = .ok (.iload 7, 2) := by decide +kernel
theorem dX6_waysFor_43 : decode cX6_waysFor 43 = .ok (.invokestatic 72, 3) := by decide +kernel
theorem dX6_waysFor_46 : decode cX6_waysFor 46 = .ok (.ifCond .eq 24, 3) := by decide +kernel
theorem dX6_waysFor_49 : decode cX6_waysFor 49 = .ok (.aload_n 0, 1) := by decide +kernel
theorem dX6_waysFor_50 : decode cX6_waysFor 50 = .ok (.iload_n 1, 1) := by decide +kernel
theorem dX6_waysFor_51 : decode cX6_waysFor 51 = .ok (.iconst 1, 1) := by decide +kernel
theorem dX6_waysFor_52 : decode cX6_waysFor 52 = .ok (.iload 7, 2) := by decide +kernel
theorem dX6_waysFor_54 : decode cX6_waysFor 54 = .ok (.ishl, 1) := by decide +kernel
theorem dX6_waysFor_55 : decode cX6_waysFor 55 = .ok (.iconst (-1), 1) := by decide +kernel
theorem dX6_waysFor_56 : decode cX6_waysFor 56 = .ok (.ixor, 1) := by decide +kernel
theorem dX6_waysFor_57 : decode cX6_waysFor 57 = .ok (.iand, 1) := by decide +kernel
theorem dX6_waysFor_58 : decode cX6_waysFor 58 = .ok (.iload_n 2, 1) := by decide +kernel
theorem dX6_waysFor_59 : decode cX6_waysFor 59 = .ok (.iload_n 3, 1) := by decide +kernel
theorem dX6_waysFor_60 : decode cX6_waysFor 60 = .ok (.iload 4, 2) := by decide +kernel
theorem dX6_waysFor_62 : decode cX6_waysFor 62 = .ok (.iconst 1, 1) := by decide +kernel
theorem dX6_waysFor_63 : decode cX6_waysFor 63 = .ok (.isub, 1) := by decide +kernel
theorem dX6_waysFor_64 : decode cX6_waysFor 64 = .ok (.invokevirtual 224, 3) := by decide +kernel
theorem dX6_waysFor_67 : decode cX6_waysFor 67 = .ok (.goto 4, 3) := by decide +kernel
theorem dX6_waysFor_70 : decode cX6_waysFor 70 = .ok (.lconst 0, 1) := by decide +kernel
theorem dX6_waysFor_71 : decode cX6_waysFor 71 = .ok (.ladd, 1) := by decide +kernel
theorem dX6_waysFor_72 : decode cX6_waysFor 72 = .ok (.lstore 5, 2) := by decide +kernel
theorem dX6_waysFor_74 : decode cX6_waysFor 74 = .ok (.iinc 7 1, 3) := by decide +kernel
theorem dX6_waysFor_77 : decode cX6_waysFor 77 = .ok (.goto (-46), 3) := by decide +kernel
theorem dX6_waysFor_80 : decode cX6_waysFor 80 = .ok (.lload 5, 2) := by decide +kernel
theorem dX6_waysFor_82 : decode cX6_waysFor 82 = .ok (.lreturn, 1) := by decide +kernel
theorem dX6_chance_0 : decode cX6_chance 0 = .ok (.aload_n 0, 1) := by decide +kernel
theorem dX6_chance_1 : decode cX6_chance 1 = .ok (.iload_n 1, 1) := by decide +kernel
theorem dX6_chance_2 : decode cX6_chance 2 = .ok (.invokevirtual 168, 3) := by decide +kernel
theorem dX6_chance_5 : decode cX6_chance 5 = .ok (.ifCond .ne 9, 3) := by decide +kernel
theorem dX6_chance_8 : decode cX6_chance 8 = .ok (.aload_n 0, 1) := by decide +kernel
theorem dX6_chance_9 : decode cX6_chance 9 = .ok (.iconst (-1), 1) := by decide +kernel
theorem dX6_chance_10 : decode cX6_chance 10 = .ok (.invokevirtual 228, 3) := by decide +kernel
theorem dX6_chance_13 : decode cX6_chance 13 = .ok (.lreturn, 1) := by decide +kernel
theorem dX6_chance_14 : decode cX6_chance 14 = .ok (.iload_n 2, 1) := by decide +kernel
theorem dX6_chance_15 : decode cX6_chance 15 = .ok (.ifCond .lt 7, 3) := by decide +kernel
theorem dX6_chance_18 : decode cX6_chance 18 = .ok (.iload_n 3, 1) := by decide +kernel
theorem dX6_chance_19 : decode cX6_chance 19 = .ok (.ifCond .ge 10, 3) := by decide +kernel
theorem dX6_chance_22 : decode cX6_chance 22 = .ok (.aload_n 0, 1) := by decide +kernel
theorem dX6_chance_23 : decode cX6_chance 23 = .ok (.bipush (-4), 2) := by decide +kernel
theorem dX6_chance_25 : decode cX6_chance 25 = .ok (.invokevirtual 228, 3) := by decide +kernel
theorem dX6_chance_28 : decode cX6_chance 28 = .ok (.lreturn, 1) := by decide +kernel
theorem dX6_chance_29 : decode cX6_chance 29 = .ok (.iload_n 2, 1) := by decide +kernel
theorem dX6_chance_30 : decode cX6_chance 30 = .ok (.iconst 2, 1) := by decide +kernel
theorem dX6_chance_31 : decode cX6_chance 31 = .ok (.if_icmp .gt 9, 3) := by decide +kernel
theorem dX6_chance_34 : decode cX6_chance 34 = .ok (.iload_n 3, 1) := by decide +kernel
theorem dX6_chance_35 : decode cX6_chance 35 = .ok (.bipush 40, 2) := by decide +kernel
theorem dX6_chance_37 : decode cX6_chance 37 = .ok (.if_icmp .le 10, 3) := by decide +kernel
theorem dX6_chance_40 : decode cX6_chance 40 = .ok (.aload_n 0, 1) := by decide +kernel
theorem dX6_chance_41 : decode cX6_chance 41 = .ok (.bipush (-6), 2) := by decide +kernel
theorem dX6_chance_43 : decode cX6_chance 43 = .ok (.invokevirtual 228, 3) := by decide +kernel
theorem dX6_chance_46 : decode cX6_chance 46 = .ok (.lreturn, 1) := by decide +kernel
theorem dX6_chance_47 : decode cX6_chance 47 = .ok (.iload 4, 2) := by decide +kernel
theorem dX6_chance_49 : decode cX6_chance 49 = .ok (.iconst 0, 1) := by decide +kernel
theorem dX6_chance_50 : decode cX6_chance 50 = .ok (.iconst 1, 1) := by decide +kernel
theorem dX6_chance_51 : decode cX6_chance 51 = .ok (.invokestatic 58, 3) := by decide +kernel
theorem dX6_chance_54 : decode cX6_chance 54 = .ok (.ifCond .ne 10, 3) := by decide +kernel
theorem dX6_chance_57 : decode cX6_chance 57 = .ok (.aload_n 0, 1) := by decide +kernel
theorem dX6_chance_58 : decode cX6_chance 58 = .ok (.bipush (-2), 2) := by decide +kernel
theorem dX6_chance_60 : decode cX6_chance 60 = .ok (.invokevirtual 228, 3) := by decide +kernel
theorem dX6_chance_63 : decode cX6_chance 63 = .ok (.lreturn, 1) := by decide +kernel
theorem dX6_chance_64 : decode cX6_chance 64 = .ok (.lconst 1, 1) := by decide +kernel
theorem dX6_chance_65 : decode cX6_chance 65 = .ok (.lstore 5, 2) := by decide +kernel
theorem dX6_chance_67 : decode cX6_chance 67 = .ok (.iconst 0, 1) := by decide +kernel
theorem dX6_chance_68 : decode cX6_chance 68 = .ok (.istore 7, 2) := by decide +kernel
theorem dX6_chance_70 : decode cX6_chance 70 = .ok (.iload 7, 2) := by decide +kernel
theorem dX6_chance_72 : decode cX6_chance 72 = .ok (.iload_n 2, 1) := by decide +kernel
theorem dX6_chance_73 : decode cX6_chance 73 = .ok (.if_icmp .ge 37, 3) := by decide +kernel
theorem dX6_chance_76 : decode cX6_chance 76 = .ok (.aload_n 0, 1) := by decide +kernel
theorem dX6_chance_77 : decode cX6_chance 77 = .ok (.getfield 10, 3) := by decide +kernel
theorem dX6_chance_80 : decode cX6_chance 80 = .ok (.invokestatic 82, 3) := by decide +kernel
theorem dX6_chance_83 : decode cX6_chance 83 = .ok (.iload 7, 2) := by decide +kernel
theorem dX6_chance_85 : decode cX6_chance 85 = .ok (.if_icmp .le 25, 3) := by decide +kernel
theorem dX6_chance_88 : decode cX6_chance 88 = .ok (.lload 5, 2) := by decide +kernel
theorem dX6_chance_90 : decode cX6_chance 90 = .ok (.aload_n 0, 1) := by decide +kernel
theorem dX6_chance_91 : decode cX6_chance 91 = .ok (.getfield 10, 3) := by decide +kernel
theorem dX6_chance_94 : decode cX6_chance 94 = .ok (.invokestatic 82, 3) := by decide +kernel
theorem dX6_chance_97 : decode cX6_chance 97 = .ok (.iload 7, 2) := by decide +kernel
theorem dX6_chance_99 : decode cX6_chance 99 = .ok (.isub, 1) := by decide +kernel
theorem dX6_chance_100 : decode cX6_chance 100 = .ok (.i2l, 1) := by decide +kernel
theorem dX6_chance_101 : decode cX6_chance 101 = .ok (.lmul, 1) := by decide +kernel
theorem dX6_chance_102 : decode cX6_chance 102 = .ok (.lstore 5, 2) := by decide +kernel
theorem dX6_chance_104 : decode cX6_chance 104 = .ok (.iinc 7 1, 3) := by decide +kernel
theorem dX6_chance_107 : decode cX6_chance 107 = .ok (.goto (-37), 3) := by decide +kernel
theorem dX6_chance_110 : decode cX6_chance 110 = .ok (.aload_n 0, 1) := by decide +kernel
theorem dX6_chance_111 : decode cX6_chance 111 = .ok (.aload_n 0, 1) := by decide +kernel
theorem dX6_chance_112 : decode cX6_chance 112 = .ok (.getfield 10, 3) := by decide +kernel
theorem dX6_chance_115 : decode cX6_chance 115 = .ok (.iload_n 1, 1) := by decide +kernel
theorem dX6_chance_116 : decode cX6_chance 116 = .ok (.iload_n 3, 1) := by decide +kernel
theorem dX6_chance_117 : decode cX6_chance 117 = .ok (.iload_n 2, 1) := by decide +kernel
theorem dX6_chance_118 : decode cX6_chance 118 = .ok (.invokevirtual 224, 3) := by decide +kernel
theorem dX6_chance_121 : decode cX6_chance 121 = .ok (.lload 5, 2) := by decide +kernel
theorem dX6_chance_123 : decode cX6_chance 123 = .ok (.iload 4, 2) := by decide +kernel
theorem dX6_chance_125 : decode cX6_chance 125 = .ok (.invokestatic 232, 3) := by decide +kernel
theorem dX6_chance_128 : decode cX6_chance 128 = .ok (.lreturn, 1) := by decide +kernel
theorem dX6_mean_0 : decode cX6_mean 0 = .ok (.iload_n 1, 1) := by decide +kernel
theorem dX6_mean_1 : decode cX6_mean 1 = .ok (.iconst 0, 1) := by decide +kernel
theorem dX6_mean_2 : decode cX6_mean 2 = .ok (.iconst 1, 1) := by decide +kernel
theorem dX6_mean_3 : decode cX6_mean 3 = .ok (.invokestatic 58, 3) := by decide +kernel
theorem dX6_mean_6 : decode cX6_mean 6 = .ok (.ifCond .eq 24, 3) := by decide +kernel
theorem dX6_mean_9 : decode cX6_mean 9 = .ok (.aload_n 0, 1) := by decide +kernel
theorem dX6_mean_10 : decode cX6_mean 10 = .ok (.aload_n 0, 1) := by decide +kernel
theorem dX6_mean_11 : decode cX6_mean 11 = .ok (.getfield 10, 3) := by decide +kernel
theorem dX6_mean_14 : decode cX6_mean 14 = .ok (.invokevirtual 174, 3) := by decide +kernel
theorem dX6_mean_17 : decode cX6_mean 17 = .ok (.i2l, 1) := by decide +kernel
theorem dX6_mean_18 : decode cX6_mean 18 = .ok (.aload_n 0, 1) := by decide +kernel
theorem dX6_mean_19 : decode cX6_mean 19 = .ok (.getfield 62, 3) := by decide +kernel
theorem dX6_mean_22 : decode cX6_mean 22 = .ok (.i2l, 1) := by decide +kernel
theorem dX6_mean_23 : decode cX6_mean 23 = .ok (.iload_n 1, 1) := by decide +kernel
theorem dX6_mean_24 : decode cX6_mean 24 = .ok (.invokestatic 232, 3) := by decide +kernel
theorem dX6_mean_27 : decode cX6_mean 27 = .ok (.goto 9, 3) := by decide +kernel
theorem dX6_mean_30 : decode cX6_mean 30 = .ok (.aload_n 0, 1) := by decide +kernel
theorem dX6_mean_31 : decode cX6_mean 31 = .ok (.bipush (-2), 2) := by decide +kernel
theorem dX6_mean_33 : decode cX6_mean 33 = .ok (.invokevirtual 228, 3) := by decide +kernel
theorem dX6_mean_36 : decode cX6_mean 36 = .ok (.lreturn, 1) := by decide +kernel
theorem dX6_whatIs_0 : decode cX6_whatIs 0 = .ok (.aload_n 0, 1) := by decide +kernel
theorem dX6_whatIs_1 : decode cX6_whatIs 1 = .ok (.iload_n 1, 1) := by decide +kernel
theorem dX6_whatIs_2 : decode cX6_whatIs 2 = .ok (.invokevirtual 168, 3) := by decide +kernel
theorem dX6_whatIs_5 : decode cX6_whatIs 5 = .ok (.ifCond .ne 9, 3) := by decide +kernel
theorem dX6_whatIs_8 : decode cX6_whatIs 8 = .ok (.aload_n 0, 1) := by decide +kernel
theorem dX6_whatIs_9 : decode cX6_whatIs 9 = .ok (.iconst (-1), 1) := by decide +kernel
theorem dX6_whatIs_10 : decode cX6_whatIs 10 = .ok (.invokevirtual 52, 3) := by decide +kernel
theorem dX6_whatIs_13 : decode cX6_whatIs 13 = .ok (.ireturn, 1) := by decide +kernel
theorem dX6_whatIs_14 : decode cX6_whatIs 14 = .ok (.iload_n 2, 1) := by decide +kernel
theorem dX6_whatIs_15 : decode cX6_whatIs 15 = .ok (.iconst 0, 1) := by decide +kernel
theorem dX6_whatIs_16 : decode cX6_whatIs 16 = .ok (.iconst 1, 1) := by decide +kernel
theorem dX6_whatIs_17 : decode cX6_whatIs 17 = .ok (.invokestatic 58, 3) := by decide +kernel
theorem dX6_whatIs_20 : decode cX6_whatIs 20 = .ok (.ifCond .ne 10, 3) := by decide +kernel
theorem dX6_whatIs_23 : decode cX6_whatIs 23 = .ok (.aload_n 0, 1) := by decide +kernel
theorem dX6_whatIs_24 : decode cX6_whatIs 24 = .ok (.bipush (-2), 2) := by decide +kernel
theorem dX6_whatIs_26 : decode cX6_whatIs 26 = .ok (.invokevirtual 52, 3) := by decide +kernel
theorem dX6_whatIs_29 : decode cX6_whatIs 29 = .ok (.ireturn, 1) := by decide +kernel
theorem dX6_whatIs_30 : decode cX6_whatIs 30 = .ok (.iconst 0, 1) := by decide +kernel
theorem dX6_whatIs_31 : decode cX6_whatIs 31 = .ok (.istore_n 3, 1) := by decide +kernel
theorem dX6_whatIs_32 : decode cX6_whatIs 32 = .ok (.iconst 0, 1) := by decide +kernel
theorem dX6_whatIs_33 : decode cX6_whatIs 33 = .ok (.istore 4, 2) := by decide +kernel
theorem dX6_whatIs_35 : decode cX6_whatIs 35 = .ok (.iload 4, 2) := by decide +kernel
theorem dX6_whatIs_37 : decode cX6_whatIs 37 = .ok (.iload_n 2, 1) := by decide +kernel
theorem dX6_whatIs_38 : decode cX6_whatIs 38 = .ok (.ifCond .ne 8, 3) := by decide +kernel
theorem dX6_whatIs_41 : decode cX6_whatIs 41 = .ok (.bipush 6, 2) := by decide +kernel
theorem dX6_whatIs_43 : decode cX6_whatIs 43 = .ok (.goto 5, 3) := by decide +kernel
theorem dX6_whatIs_46 : decode cX6_whatIs 46 = .ok (.bipush 10, 2) := by decide +kernel
theorem dX6_whatIs_48 : decode cX6_whatIs 48 = .ok (.if_icmp .ge 125, 3) := by decide +kernel
theorem dX6_whatIs_51 : decode cX6_whatIs 51 = .ok (.iconst 1, 1) := by decide +kernel
theorem dX6_whatIs_52 : decode cX6_whatIs 52 = .ok (.istore 5, 2) := by decide +kernel
theorem dX6_whatIs_54 : decode cX6_whatIs 54 = .ok (.iconst 0, 1) := by decide +kernel
theorem dX6_whatIs_55 : decode cX6_whatIs 55 = .ok (.istore 6, 2) := by decide +kernel
theorem dX6_whatIs_57 : decode cX6_whatIs 57 = .ok (.iload 6, 2) := by decide +kernel
theorem dX6_whatIs_59 : decode cX6_whatIs 59 = .ok (.aload_n 0, 1) := by decide +kernel
theorem dX6_whatIs_60 : decode cX6_whatIs 60 = .ok (.getfield 236, 3) := by decide +kernel
theorem dX6_whatIs_63 : decode cX6_whatIs 63 = .ok (.if_icmp .ge 88, 3) := by decide +kernel
theorem dX6_whatIs_66 : decode cX6_whatIs 66 = .ok (.iload 5, 2) := by decide +kernel
theorem dX6_whatIs_68 : decode cX6_whatIs 68 = .ok (.iload 6, 2) := by decide +kernel
theorem dX6_whatIs_70 : decode cX6_whatIs 70 = .ok (.ifCond .ne 10, 3) := by decide +kernel
theorem dX6_whatIs_73 : decode cX6_whatIs 73 = .ok (.aload_n 0, 1) := by decide +kernel
theorem dX6_whatIs_74 : decode cX6_whatIs 74 = .ok (.getfield 10, 3) := by decide +kernel
theorem dX6_whatIs_77 : decode cX6_whatIs 77 = .ok (.goto 16, 3) := by decide +kernel
theorem dX6_whatIs_80 : decode cX6_whatIs 80 = .ok (.aload_n 0, 1) := by decide +kernel
theorem dX6_whatIs_81 : decode cX6_whatIs 81 = .ok (.getfield 10, 3) := by decide +kernel
theorem dX6_whatIs_84 : decode cX6_whatIs 84 = .ok (.iconst 1, 1) := by decide +kernel
theorem dX6_whatIs_85 : decode cX6_whatIs 85 = .ok (.iload 6, 2) := by decide +kernel
theorem dX6_whatIs_87 : decode cX6_whatIs 87 = .ok (.iconst 1, 1) := by decide +kernel
theorem dX6_whatIs_88 : decode cX6_whatIs 88 = .ok (.isub, 1) := by decide +kernel
theorem dX6_whatIs_89 : decode cX6_whatIs 89 = .ok (.ishl, 1) := by decide +kernel
theorem dX6_whatIs_90 : decode cX6_whatIs 90 = .ok (.iconst (-1), 1) := by decide +kernel
theorem dX6_whatIs_91 : decode cX6_whatIs 91 = .ok (.ixor, 1) := by decide +kernel
theorem dX6_whatIs_92 : decode cX6_whatIs 92 = .ok (.iand, 1) := by decide +kernel
theorem dX6_whatIs_93 : decode cX6_whatIs 93 = .ok (.iload_n 2, 1) := by decide +kernel
theorem dX6_whatIs_94 : decode cX6_whatIs 94 = .ok (.ifCond .ne 8, 3) := by decide +kernel
theorem dX6_whatIs_97 : decode cX6_whatIs 97 = .ok (.iload 4, 2) := by decide +kernel
theorem dX6_whatIs_99 : decode cX6_whatIs 99 = .ok (.goto 9, 3) := by decide +kernel
theorem dX6_whatIs_102 : decode cX6_whatIs 102 = .ok (.aload_n 0, 1) := by decide +kernel
theorem dX6_whatIs_103 : decode cX6_whatIs 103 = .ok (.getfield 14, 3) := by decide +kernel
theorem dX6_whatIs_106 : decode cX6_whatIs 106 = .ok (.iload_n 1, 1) := by decide +kernel
theorem dX6_whatIs_107 : decode cX6_whatIs 107 = .ok (.iaload, 1) := by decide +kernel
theorem dX6_whatIs_108 : decode cX6_whatIs 108 = .ok (.iload_n 2, 1) := by decide +kernel
theorem dX6_whatIs_109 : decode cX6_whatIs 109 = .ok (.iconst 1, 1) := by decide +kernel
theorem dX6_whatIs_110 : decode cX6_whatIs 110 = .ok (.if_icmp .ne 8, 3) := by decide +kernel
theorem dX6_whatIs_113 : decode cX6_whatIs 113 = .ok (.iload 4, 2) := by decide +kernel
theorem dX6_whatIs_115 : decode cX6_whatIs 115 = .ok (.goto 9, 3) := by decide +kernel
theorem dX6_whatIs_118 : decode cX6_whatIs 118 = .ok (.aload_n 0, 1) := by decide +kernel
theorem dX6_whatIs_119 : decode cX6_whatIs 119 = .ok (.getfield 18, 3) := by decide +kernel
theorem dX6_whatIs_122 : decode cX6_whatIs 122 = .ok (.iload_n 1, 1) := by decide +kernel
theorem dX6_whatIs_123 : decode cX6_whatIs 123 = .ok (.iaload, 1) := by decide +kernel
theorem dX6_whatIs_124 : decode cX6_whatIs 124 = .ok (.invokestatic 94, 3) := by decide +kernel
theorem dX6_whatIs_127 : decode cX6_whatIs 127 = .ok (.aload_n 0, 1) := by decide +kernel
theorem dX6_whatIs_128 : decode cX6_whatIs 128 = .ok (.getfield 36, 3) := by decide +kernel
theorem dX6_whatIs_131 : decode cX6_whatIs 131 = .ok (.iload 6, 2) := by decide +kernel
theorem dX6_whatIs_133 : decode cX6_whatIs 133 = .ok (.iaload, 1) := by decide +kernel
theorem dX6_whatIs_134 : decode cX6_whatIs 134 = .ok (.if_icmp .ne 7, 3) := by decide +kernel
theorem dX6_whatIs_137 : decode cX6_whatIs 137 = .ok (.iconst 1, 1) := by decide +kernel
theorem dX6_whatIs_138 : decode cX6_whatIs 138 = .ok (.goto 4, 3) := by decide +kernel
theorem dX6_whatIs_141 : decode cX6_whatIs 141 = .ok (.iconst 0, 1) := by decide +kernel
theorem dX6_whatIs_142 : decode cX6_whatIs 142 = .ok (.iand, 1) := by decide +kernel
theorem dX6_whatIs_143 : decode cX6_whatIs 143 = .ok (.istore 5, 2) := by decide +kernel
theorem dX6_whatIs_145 : decode cX6_whatIs 145 = .ok (.iinc 6 1, 3) := by decide +kernel
theorem dX6_whatIs_148 : decode cX6_whatIs 148 = .ok (.goto (-91), 3) := by decide +kernel
theorem dX6_whatIs_151 : decode cX6_whatIs 151 = .ok (.iload_n 3, 1) := by decide +kernel
theorem dX6_whatIs_152 : decode cX6_whatIs 152 = .ok (.iload 5, 2) := by decide +kernel
theorem dX6_whatIs_154 : decode cX6_whatIs 154 = .ok (.ifCond .eq 10, 3) := by decide +kernel
theorem dX6_whatIs_157 : decode cX6_whatIs 157 = .ok (.iconst 1, 1) := by decide +kernel
theorem dX6_whatIs_158 : decode cX6_whatIs 158 = .ok (.iload 4, 2) := by decide +kernel
theorem dX6_whatIs_160 : decode cX6_whatIs 160 = .ok (.ishl, 1) := by decide +kernel
theorem dX6_whatIs_161 : decode cX6_whatIs 161 = .ok (.goto 4, 3) := by decide +kernel
theorem dX6_whatIs_164 : decode cX6_whatIs 164 = .ok (.iconst 0, 1) := by decide +kernel
theorem dX6_whatIs_165 : decode cX6_whatIs 165 = .ok (.ior, 1) := by decide +kernel
theorem dX6_whatIs_166 : decode cX6_whatIs 166 = .ok (.istore_n 3, 1) := by decide +kernel
theorem dX6_whatIs_167 : decode cX6_whatIs 167 = .ok (.iinc 4 1, 3) := by decide +kernel
theorem dX6_whatIs_170 : decode cX6_whatIs 170 = .ok (.goto (-135), 3) := by decide +kernel
theorem dX6_whatIs_173 : decode cX6_whatIs 173 = .ok (.iload_n 3, 1) := by decide +kernel
theorem dX6_whatIs_174 : decode cX6_whatIs 174 = .ok (.ireturn, 1) := by decide +kernel
theorem dX6_row_0 : decode cX6_row 0 = .ok (.iload_n 1, 1) := by decide +kernel
theorem dX6_row_1 : decode cX6_row 1 = .ok (.bipush 99, 2) := by decide +kernel
theorem dX6_row_3 : decode cX6_row 3 = .ok (.invokestatic 171, 3) := by decide +kernel
theorem dX6_row_6 : decode cX6_row 6 = .ok (.istore_n 2, 1) := by decide +kernel
theorem dX6_row_7 : decode cX6_row 7 = .ok (.iload_n 2, 1) := by decide +kernel
theorem dX6_row_8 : decode cX6_row 8 = .ok (.ifCond .ne 15, 3) := by decide +kernel
theorem dX6_row_11 : decode cX6_row 11 = .ok (.aload_n 0, 1) := by decide +kernel
theorem dX6_row_12 : decode cX6_row 12 = .ok (.getfield 236, 3) := by decide +kernel
theorem dX6_row_15 : decode cX6_row 15 = .ok (.bipush 16, 2) := by decide +kernel
theorem dX6_row_17 : decode cX6_row 17 = .ok (.if_icmp .ne 6, 3) := by decide +kernel
theorem dX6_row_20 : decode cX6_row 20 = .ok (.bipush (-6), 2) := by decide +kernel
theorem dX6_row_22 : decode cX6_row 22 = .ok (.istore_n 2, 1) := by decide +kernel
theorem dX6_row_23 : decode cX6_row 23 = .ok (.iload_n 2, 1) := by decide +kernel
theorem dX6_row_24 : decode cX6_row 24 = .ok (.ifCond .eq 9, 3) := by decide +kernel
theorem dX6_row_27 : decode cX6_row 27 = .ok (.aload_n 0, 1) := by decide +kernel
theorem dX6_row_28 : decode cX6_row 28 = .ok (.iload_n 2, 1) := by decide +kernel
theorem dX6_row_29 : decode cX6_row 29 = .ok (.invokevirtual 52, 3) := by decide +kernel
theorem dX6_row_32 : decode cX6_row 32 = .ok (.ireturn, 1) := by decide +kernel
theorem dX6_row_33 : decode cX6_row 33 = .ok (.aload_n 0, 1) := by decide +kernel
theorem dX6_row_34 : decode cX6_row 34 = .ok (.getfield 36, 3) := by decide +kernel
theorem dX6_row_37 : decode cX6_row 37 = .ok (.aload_n 0, 1) := by decide +kernel
theorem dX6_row_38 : decode cX6_row 38 = .ok (.getfield 236, 3) := by decide +kernel
theorem dX6_row_41 : decode cX6_row 41 = .ok (.iload_n 1, 1) := by decide +kernel
theorem dX6_row_42 : decode cX6_row 42 = .ok (.iastore, 1) := by decide +kernel
theorem dX6_row_43 : decode cX6_row 43 = .ok (.aload_n 0, 1) := by decide +kernel
theorem dX6_row_44 : decode cX6_row 44 = .ok (.dup, 1) := by decide +kernel
theorem dX6_row_45 : decode cX6_row 45 = .ok (.getfield 236, 3) := by decide +kernel
theorem dX6_row_48 : decode cX6_row 48 = .ok (.iconst 1, 1) := by decide +kernel
theorem dX6_row_49 : decode cX6_row 49 = .ok (.iadd, 1) := by decide +kernel
theorem dX6_row_50 : decode cX6_row 50 = .ok (.putfield 236, 3) := by decide +kernel
theorem dX6_row_53 : decode cX6_row 53 = .ok (.aload_n 0, 1) := by decide +kernel
theorem dX6_row_54 : decode cX6_row 54 = .ok (.getfield 236, 3) := by decide +kernel
theorem dX6_row_57 : decode cX6_row 57 = .ok (.ireturn, 1) := by decide +kernel
theorem dX6_judge_0 : decode cX6_judge 0 = .ok (.aload_n 0, 1) := by decide +kernel
theorem dX6_judge_1 : decode cX6_judge 1 = .ok (.getfield 236, 3) := by decide +kernel
theorem dX6_judge_4 : decode cX6_judge 4 = .ok (.istore_n 1, 1) := by decide +kernel
theorem dX6_judge_5 : decode cX6_judge 5 = .ok (.aload_n 0, 1) := by decide +kernel
theorem dX6_judge_6 : decode cX6_judge 6 = .ok (.iconst 0, 1) := by decide +kernel
theorem dX6_judge_7 : decode cX6_judge 7 = .ok (.putfield 236, 3) := by decide +kernel
theorem dX6_judge_10 : decode cX6_judge 10 = .ok (.iconst 0, 1) := by decide +kernel
theorem dX6_judge_11 : decode cX6_judge 11 = .ok (.istore_n 2, 1) := by decide +kernel
theorem dX6_judge_12 : decode cX6_judge 12 = .ok (.iload_n 2, 1) := by decide +kernel
theorem dX6_judge_13 : decode cX6_judge 13 = .ok (.iload_n 1, 1) := by decide +kernel
theorem dX6_judge_14 : decode cX6_judge 14 = .ok (.if_icmp .ge 37, 3) := by decide +kernel
theorem dX6_judge_17 : decode cX6_judge 17 = .ok (.aload_n 0, 1) := by decide +kernel
theorem dX6_judge_18 : decode cX6_judge 18 = .ok (.iload_n 2, 1) := by decide +kernel
theorem dX6_judge_19 : decode cX6_judge 19 = .ok (.invokevirtual 168, 3) := by decide +kernel
theorem dX6_judge_22 : decode cX6_judge 22 = .ok (.ifCond .eq 21, 3) := by decide +kernel
theorem dX6_judge_25 : decode cX6_judge 25 = .ok (.aload_n 0, 1) := by decide +kernel
theorem dX6_judge_26 : decode cX6_judge 26 = .ok (.aload_n 0, 1) := by decide +kernel
theorem dX6_judge_27 : decode cX6_judge 27 = .ok (.getfield 10, 3) := by decide +kernel
theorem dX6_judge_30 : decode cX6_judge 30 = .ok (.iload_n 2, 1) := by decide +kernel
theorem dX6_judge_31 : decode cX6_judge 31 = .ok (.invokevirtual 98, 3) := by decide +kernel
theorem dX6_judge_34 : decode cX6_judge 34 = .ok (.aload_n 0, 1) := by decide +kernel
theorem dX6_judge_35 : decode cX6_judge 35 = .ok (.getfield 36, 3) := by decide +kernel
theorem dX6_judge_38 : decode cX6_judge 38 = .ok (.iload_n 2, 1) := by decide +kernel
theorem dX6_judge_39 : decode cX6_judge 39 = .ok (.iaload, 1) := by decide +kernel
theorem dX6_judge_40 : decode cX6_judge 40 = .ok (.if_icmp .eq 5, 3) := by decide +kernel
theorem dX6_judge_43 : decode cX6_judge 43 = .ok (.iload_n 2, 1) := by decide +kernel
theorem dX6_judge_44 : decode cX6_judge 44 = .ok (.ireturn, 1) := by decide +kernel
theorem dX6_judge_45 : decode cX6_judge 45 = .ok (.iinc 2 1, 3) := by decide +kernel
theorem dX6_judge_48 : decode cX6_judge 48 = .ok (.goto (-36), 3) := by decide +kernel
theorem dX6_judge_51 : decode cX6_judge 51 = .ok (.bipush (-9), 2) := by decide +kernel
theorem dX6_judge_53 : decode cX6_judge 53 = .ok (.ireturn, 1) := by decide +kernel
theorem dX6_clear_0 : decode cX6_clear 0 = .ok (.aload_n 0, 1) := by decide +kernel
theorem dX6_clear_1 : decode cX6_clear 1 = .ok (.getfield 236, 3) := by decide +kernel
theorem dX6_clear_4 : decode cX6_clear 4 = .ok (.istore_n 1, 1) := by decide +kernel
theorem dX6_clear_5 : decode cX6_clear 5 = .ok (.aload_n 0, 1) := by decide +kernel
theorem dX6_clear_6 : decode cX6_clear 6 = .ok (.iconst 0, 1) := by decide +kernel
theorem dX6_clear_7 : decode cX6_clear 7 = .ok (.putfield 236, 3) := by decide +kernel
theorem dX6_clear_10 : decode cX6_clear 10 = .ok (.iload_n 1, 1) := by decide +kernel
theorem dX6_clear_11 : decode cX6_clear 11 = .ok (.ireturn, 1) := by decide +kernel
theorem dX6_drawn_0 : decode cX6_drawn 0 = .ok (.aload_n 0, 1) := by decide +kernel
theorem dX6_drawn_1 : decode cX6_drawn 1 = .ok (.aload_n 0, 1) := by decide +kernel
theorem dX6_drawn_2 : decode cX6_drawn 2 = .ok (.getfield 239, 3) := by decide +kernel
theorem dX6_drawn_5 : decode cX6_drawn 5 = .ok (.ldc 242, 2) := by decide +kernel
theorem dX6_drawn_7 : decode cX6_drawn 7 = .ok (.imul, 1) := by decide +kernel
theorem dX6_drawn_8 : decode cX6_drawn 8 = .ok (.ldc 243, 2) := by decide +kernel
theorem dX6_drawn_10 : decode cX6_drawn 10 = .ok (.iadd, 1) := by decide +kernel
theorem dX6_drawn_11 : decode cX6_drawn 11 = .ok (.putfield 239, 3) := by decide +kernel
theorem dX6_drawn_14 : decode cX6_drawn 14 = .ok (.aload_n 0, 1) := by decide +kernel
theorem dX6_drawn_15 : decode cX6_drawn 15 = .ok (.getfield 239, 3) := by decide +kernel
theorem dX6_drawn_18 : decode cX6_drawn 18 = .ok (.ldc 244, 2) := by decide +kernel
theorem dX6_drawn_20 : decode cX6_drawn 20 = .ok (.iand, 1) := by decide +kernel
theorem dX6_drawn_21 : decode cX6_drawn 21 = .ok (.sipush 256, 3) := by decide +kernel
theorem dX6_drawn_24 : decode cX6_drawn 24 = .ok (.idiv, 1) := by decide +kernel
theorem dX6_drawn_25 : decode cX6_drawn 25 = .ok (.iload_n 1, 1) := by decide +kernel
theorem dX6_drawn_26 : decode cX6_drawn 26 = .ok (.irem, 1) := by decide +kernel
theorem dX6_drawn_27 : decode cX6_drawn 27 = .ok (.ireturn, 1) := by decide +kernel
theorem dX6_lots_0 : decode cX6_lots 0 = .ok (.iload_n 1, 1) := by decide +kernel
theorem dX6_lots_1 : decode cX6_lots 1 = .ok (.iconst 1, 1) := by decide +kernel
theorem dX6_lots_2 : decode cX6_lots 2 = .ok (.if_icmp .ge 10, 3) := by decide +kernel
theorem dX6_lots_5 : decode cX6_lots 5 = .ok (.aload_n 0, 1) := by decide +kernel
theorem dX6_lots_6 : decode cX6_lots 6 = .ok (.bipush (-4), 2) := by decide +kernel
theorem dX6_lots_8 : decode cX6_lots 8 = .ok (.invokevirtual 52, 3) := by decide +kernel
theorem dX6_lots_11 : decode cX6_lots 11 = .ok (.ireturn, 1) := by decide +kernel
theorem dX6_lots_12 : decode cX6_lots 12 = .ok (.iload_n 1, 1) := by decide +kernel
theorem dX6_lots_13 : decode cX6_lots 13 = .ok (.bipush 20, 2) := by decide +kernel
theorem dX6_lots_15 : decode cX6_lots 15 = .ok (.if_icmp .le 10, 3) := by decide +kernel
theorem dX6_lots_18 : decode cX6_lots 18 = .ok (.aload_n 0, 1) := by decide +kernel
theorem dX6_lots_19 : decode cX6_lots 19 = .ok (.bipush (-6), 2) := by decide +kernel
theorem dX6_lots_21 : decode cX6_lots 21 = .ok (.invokevirtual 52, 3) := by decide +kernel
theorem dX6_lots_24 : decode cX6_lots 24 = .ok (.ireturn, 1) := by decide +kernel
theorem dX6_lots_25 : decode cX6_lots 25 = .ok (.iload_n 3, 1) := by decide +kernel
theorem dX6_lots_26 : decode cX6_lots 26 = .ok (.iconst 0, 1) := by decide +kernel
theorem dX6_lots_27 : decode cX6_lots 27 = .ok (.iconst 1, 1) := by decide +kernel
theorem dX6_lots_28 : decode cX6_lots 28 = .ok (.invokestatic 58, 3) := by decide +kernel
theorem dX6_lots_31 : decode cX6_lots 31 = .ok (.ifCond .ne 10, 3) := by decide +kernel
theorem dX6_lots_34 : decode cX6_lots 34 = .ok (.aload_n 0, 1) := by decide +kernel
theorem dX6_lots_35 : decode cX6_lots 35 = .ok (.bipush (-2), 2) := by decide +kernel
theorem dX6_lots_37 : decode cX6_lots 37 = .ok (.invokevirtual 52, 3) := by decide +kernel
theorem dX6_lots_40 : decode cX6_lots 40 = .ok (.ireturn, 1) := by decide +kernel
theorem dX6_lots_41 : decode cX6_lots 41 = .ok (.aload_n 0, 1) := by decide +kernel
theorem dX6_lots_42 : decode cX6_lots 42 = .ok (.iload_n 2, 1) := by decide +kernel
theorem dX6_lots_43 : decode cX6_lots 43 = .ok (.putfield 239, 3) := by decide +kernel
theorem dX6_lots_46 : decode cX6_lots 46 = .ok (.iconst 0, 1) := by decide +kernel
theorem dX6_lots_47 : decode cX6_lots 47 = .ok (.istore 4, 2) := by decide +kernel
theorem dX6_lots_49 : decode cX6_lots 49 = .ok (.iconst 0, 1) := by decide +kernel
theorem dX6_lots_50 : decode cX6_lots 50 = .ok (.istore 5, 2) := by decide +kernel
theorem dX6_lots_52 : decode cX6_lots 52 = .ok (.iload 5, 2) := by decide +kernel
theorem dX6_lots_54 : decode cX6_lots 54 = .ok (.iload_n 1, 1) := by decide +kernel
theorem dX6_lots_55 : decode cX6_lots 55 = .ok (.if_icmp .ge 108, 3) := by decide +kernel
theorem dX6_lots_58 : decode cX6_lots 58 = .ok (.aload_n 0, 1) := by decide +kernel
theorem dX6_lots_59 : decode cX6_lots 59 = .ok (.getfield 10, 3) := by decide +kernel
theorem dX6_lots_62 : decode cX6_lots 62 = .ok (.istore 6, 2) := by decide +kernel
theorem dX6_lots_64 : decode cX6_lots 64 = .ok (.iconst 0, 1) := by decide +kernel
theorem dX6_lots_65 : decode cX6_lots 65 = .ok (.istore 7, 2) := by decide +kernel
theorem dX6_lots_67 : decode cX6_lots 67 = .ok (.iload 7, 2) := by decide +kernel
theorem dX6_lots_69 : decode cX6_lots 69 = .ok (.bipush 6, 2) := by decide +kernel
theorem dX6_lots_71 : decode cX6_lots 71 = .ok (.if_icmp .ge 55, 3) := by decide +kernel
theorem dX6_lots_74 : decode cX6_lots 74 = .ok (.aload_n 0, 1) := by decide +kernel
theorem dX6_lots_75 : decode cX6_lots 75 = .ok (.iconst 4, 1) := by decide +kernel
theorem dX6_lots_76 : decode cX6_lots 76 = .ok (.invokevirtual 245, 3) := by decide +kernel
theorem dX6_lots_79 : decode cX6_lots 79 = .ok (.istore 8, 2) := by decide +kernel
theorem dX6_lots_81 : decode cX6_lots 81 = .ok (.aload_n 0, 1) := by decide +kernel
theorem dX6_lots_82 : decode cX6_lots 82 = .ok (.bipush 25, 2) := by decide +kernel
theorem dX6_lots_84 : decode cX6_lots 84 = .ok (.invokevirtual 245, 3) := by decide +kernel
theorem dX6_lots_87 : decode cX6_lots 87 = .ok (.istore 9, 2) := by decide +kernel
theorem dX6_lots_89 : decode cX6_lots 89 = .ok (.iload 6, 2) := by decide +kernel
theorem dX6_lots_91 : decode cX6_lots 91 = .ok (.iload 8, 2) := by decide +kernel
theorem dX6_lots_93 : decode cX6_lots 93 = .ok (.iload 9, 2) := by decide +kernel
theorem dX6_lots_95 : decode cX6_lots 95 = .ok (.invokestatic 134, 3) := by decide +kernel
theorem dX6_lots_98 : decode cX6_lots 98 = .ok (.ifCond .eq 18, 3) := by decide +kernel
theorem dX6_lots_101 : decode cX6_lots 101 = .ok (.iload 6, 2) := by decide +kernel
theorem dX6_lots_103 : decode cX6_lots 103 = .ok (.iload 8, 2) := by decide +kernel
theorem dX6_lots_105 : decode cX6_lots 105 = .ok (.iload 9, 2) := by decide +kernel
theorem dX6_lots_107 : decode cX6_lots 107 = .ok (.invokestatic 65, 3) := by decide +kernel
theorem dX6_lots_110 : decode cX6_lots 110 = .ok (.iconst (-1), 1) := by decide +kernel
theorem dX6_lots_111 : decode cX6_lots 111 = .ok (.ixor, 1) := by decide +kernel
theorem dX6_lots_112 : decode cX6_lots 112 = .ok (.iand, 1) := by decide +kernel
theorem dX6_lots_113 : decode cX6_lots 113 = .ok (.goto 5, 3) := by decide +kernel
theorem dX6_lots_116 : decode cX6_lots 116 = .ok (.iload 6, 2) := by decide +kernel
theorem dX6_lots_118 : decode cX6_lots 118 = .ok (.istore 6, 2) := by decide +kernel
theorem dX6_lots_120 : decode cX6_lots 120 = .ok (.iinc 7 1, 3) := by decide +kernel
theorem dX6_lots_123 : decode cX6_lots 123 = .ok (.goto (-56), 3) := by decide +kernel
theorem dX6_lots_126 : decode cX6_lots 126 = .ok (.iload 4, 2) := by decide +kernel
theorem dX6_lots_128 : decode cX6_lots 128 = .ok (.iload_n 3, 1) := by decide +kernel
theorem dX6_lots_129 : decode cX6_lots 129 = .ok (.ifCond .ne 12, 3) := by decide +kernel
theorem dX6_lots_132 : decode cX6_lots 132 = .ok (.aload_n 0, 1) := by decide +kernel
theorem dX6_lots_133 : decode cX6_lots 133 = .ok (.iload 6, 2) := by decide +kernel
theorem dX6_lots_135 : decode cX6_lots 135 = .ok (.invokevirtual 174, 3) := by decide +kernel
theorem dX6_lots_138 : decode cX6_lots 138 = .ok (.goto 16, 3) := by decide +kernel
theorem dX6_lots_141 : decode cX6_lots 141 = .ok (.iload 6, 2) := by decide +kernel
theorem dX6_lots_143 : decode cX6_lots 143 = .ok (.invokestatic 85, 3) := by decide +kernel
theorem dX6_lots_146 : decode cX6_lots 146 = .ok (.ifCond .ne 7, 3) := by decide +kernel
theorem dX6_lots_149 : decode cX6_lots 149 = .ok (.iconst 1, 1) := by decide +kernel
theorem dX6_lots_150 : decode cX6_lots 150 = .ok (.goto 4, 3) := by decide +kernel
theorem dX6_lots_153 : decode cX6_lots 153 = .ok (.iconst 0, 1) := by decide +kernel
theorem dX6_lots_154 : decode cX6_lots 154 = .ok (.iadd, 1) := by decide +kernel
theorem dX6_lots_155 : decode cX6_lots 155 = .ok (.istore 4, 2) := by decide +kernel
theorem dX6_lots_157 : decode cX6_lots 157 = .ok (.iinc 5 1, 3) := by decide +kernel
theorem dX6_lots_160 : decode cX6_lots 160 = .ok (.goto (-108), 3) := by decide +kernel
theorem dX6_lots_163 : decode cX6_lots 163 = .ok (.iload 4, 2) := by decide +kernel
theorem dX6_lots_165 : decode cX6_lots 165 = .ok (.ireturn, 1) := by decide +kernel
theorem dX6_image_0 : decode cX6_image 0 = .ok (.aload_n 0, 1) := by decide +kernel
theorem dX6_image_1 : decode cX6_image 1 = .ok (.aload_n 0, 1) := by decide +kernel
theorem dX6_image_2 : decode cX6_image 2 = .ok (.getfield 10, 3) := by decide +kernel
theorem dX6_image_5 : decode cX6_image 5 = .ok (.putfield 248, 3) := by decide +kernel
theorem dX6_image_8 : decode cX6_image 8 = .ok (.aload_n 0, 1) := by decide +kernel
theorem dX6_image_9 : decode cX6_image 9 = .ok (.aload_n 0, 1) := by decide +kernel
theorem dX6_image_10 : decode cX6_image 10 = .ok (.getfield 124, 3) := by decide +kernel
theorem dX6_image_13 : decode cX6_image 13 = .ok (.putfield 251, 3) := by decide +kernel
theorem dX6_image_16 : decode cX6_image 16 = .ok (.aload_n 0, 1) := by decide +kernel
theorem dX6_image_17 : decode cX6_image 17 = .ok (.aload_n 0, 1) := by decide +kernel
theorem dX6_image_18 : decode cX6_image 18 = .ok (.getfield 62, 3) := by decide +kernel
theorem dX6_image_21 : decode cX6_image 21 = .ok (.putfield 254, 3) := by decide +kernel
theorem dX6_image_24 : decode cX6_image 24 = .ok (.iconst 0, 1) := by decide +kernel
theorem dX6_image_25 : decode cX6_image 25 = .ok (.istore_n 1, 1) := by decide +kernel
theorem dX6_image_26 : decode cX6_image 26 = .ok (.iload_n 1, 1) := by decide +kernel
theorem dX6_image_27 : decode cX6_image 27 = .ok (.iconst 5, 1) := by decide +kernel
theorem dX6_image_28 : decode cX6_image 28 = .ok (.if_icmp .ge 33, 3) := by decide +kernel
theorem dX6_image_31 : decode cX6_image 31 = .ok (.aload_n 0, 1) := by decide +kernel
theorem dX6_image_32 : decode cX6_image 32 = .ok (.getfield 21, 3) := by decide +kernel
theorem dX6_image_35 : decode cX6_image 35 = .ok (.iload_n 1, 1) := by decide +kernel
theorem dX6_image_36 : decode cX6_image 36 = .ok (.aload_n 0, 1) := by decide +kernel
theorem dX6_image_37 : decode cX6_image 37 = .ok (.getfield 14, 3) := by decide +kernel
theorem dX6_image_40 : decode cX6_image 40 = .ok (.iload_n 1, 1) := by decide +kernel
theorem dX6_image_41 : decode cX6_image 41 = .ok (.iaload, 1) := by decide +kernel
theorem dX6_image_42 : decode cX6_image 42 = .ok (.iastore, 1) := by decide +kernel
theorem dX6_image_43 : decode cX6_image 43 = .ok (.aload_n 0, 1) := by decide +kernel
theorem dX6_image_44 : decode cX6_image 44 = .ok (.getfield 24, 3) := by decide +kernel
theorem dX6_image_47 : decode cX6_image 47 = .ok (.iload_n 1, 1) := by decide +kernel
theorem dX6_image_48 : decode cX6_image 48 = .ok (.aload_n 0, 1) := by decide +kernel
theorem dX6_image_49 : decode cX6_image 49 = .ok (.getfield 18, 3) := by decide +kernel
theorem dX6_image_52 : decode cX6_image 52 = .ok (.iload_n 1, 1) := by decide +kernel
theorem dX6_image_53 : decode cX6_image 53 = .ok (.iaload, 1) := by decide +kernel
theorem dX6_image_54 : decode cX6_image 54 = .ok (.iastore, 1) := by decide +kernel
theorem dX6_image_55 : decode cX6_image 55 = .ok (.iinc 1 1, 3) := by decide +kernel
theorem dX6_image_58 : decode cX6_image 58 = .ok (.goto (-32), 3) := by decide +kernel
theorem dX6_image_61 : decode cX6_image 61 = .ok (.aload_n 0, 1) := by decide +kernel
theorem dX6_image_62 : decode cX6_image 62 = .ok (.iconst 1, 1) := by decide +kernel
theorem dX6_image_63 : decode cX6_image 63 = .ok (.putfield 257, 3) := by decide +kernel
theorem dX6_image_66 : decode cX6_image 66 = .ok (.aload_n 0, 1) := by decide +kernel
theorem dX6_image_67 : decode cX6_image 67 = .ok (.getfield 124, 3) := by decide +kernel
theorem dX6_image_70 : decode cX6_image 70 = .ok (.ireturn, 1) := by decide +kernel
theorem dX6_on_0 : decode cX6_on 0 = .ok (.aload_n 0, 1) := by decide +kernel
theorem dX6_on_1 : decode cX6_on 1 = .ok (.getfield 257, 3) := by decide +kernel
theorem dX6_on_4 : decode cX6_on 4 = .ok (.ifCond .ne 10, 3) := by decide +kernel
theorem dX6_on_7 : decode cX6_on 7 = .ok (.aload_n 0, 1) := by decide +kernel
theorem dX6_on_8 : decode cX6_on 8 = .ok (.bipush (-3), 2) := by decide +kernel
theorem dX6_on_10 : decode cX6_on 10 = .ok (.invokevirtual 52, 3) := by decide +kernel
theorem dX6_on_13 : decode cX6_on 13 = .ok (.ireturn, 1) := by decide +kernel
theorem dX6_on_14 : decode cX6_on 14 = .ok (.aload_n 0, 1) := by decide +kernel
theorem dX6_on_15 : decode cX6_on 15 = .ok (.aload_n 0, 1) := by decide +kernel
theorem dX6_on_16 : decode cX6_on 16 = .ok (.getfield 248, 3) := by decide +kernel
theorem dX6_on_19 : decode cX6_on 19 = .ok (.putfield 10, 3) := by decide +kernel
theorem dX6_on_22 : decode cX6_on 22 = .ok (.aload_n 0, 1) := by decide +kernel
theorem dX6_on_23 : decode cX6_on 23 = .ok (.aload_n 0, 1) := by decide +kernel
theorem dX6_on_24 : decode cX6_on 24 = .ok (.getfield 251, 3) := by decide +kernel
theorem dX6_on_27 : decode cX6_on 27 = .ok (.putfield 124, 3) := by decide +kernel
theorem dX6_on_30 : decode cX6_on 30 = .ok (.aload_n 0, 1) := by decide +kernel
theorem dX6_on_31 : decode cX6_on 31 = .ok (.aload_n 0, 1) := by decide +kernel
theorem dX6_on_32 : decode cX6_on 32 = .ok (.getfield 254, 3) := by decide +kernel
theorem dX6_on_35 : decode cX6_on 35 = .ok (.putfield 62, 3) := by decide +kernel
theorem dX6_on_38 : decode cX6_on 38 = .ok (.iconst 0, 1) := by decide +kernel
theorem dX6_on_39 : decode cX6_on 39 = .ok (.istore_n 1, 1) := by decide +kernel
theorem dX6_on_40 : decode cX6_on 40 = .ok (.iload_n 1, 1) := by decide +kernel
theorem dX6_on_41 : decode cX6_on 41 = .ok (.iconst 5, 1) := by decide +kernel
theorem dX6_on_42 : decode cX6_on 42 = .ok (.if_icmp .ge 33, 3) := by decide +kernel
theorem dX6_on_45 : decode cX6_on 45 = .ok (.aload_n 0, 1) := by decide +kernel
theorem dX6_on_46 : decode cX6_on 46 = .ok (.getfield 14, 3) := by decide +kernel
theorem dX6_on_49 : decode cX6_on 49 = .ok (.iload_n 1, 1) := by decide +kernel
theorem dX6_on_50 : decode cX6_on 50 = .ok (.aload_n 0, 1) := by decide +kernel
theorem dX6_on_51 : decode cX6_on 51 = .ok (.getfield 21, 3) := by decide +kernel
theorem dX6_on_54 : decode cX6_on 54 = .ok (.iload_n 1, 1) := by decide +kernel
theorem dX6_on_55 : decode cX6_on 55 = .ok (.iaload, 1) := by decide +kernel
theorem dX6_on_56 : decode cX6_on 56 = .ok (.iastore, 1) := by decide +kernel
theorem dX6_on_57 : decode cX6_on 57 = .ok (.aload_n 0, 1) := by decide +kernel
theorem dX6_on_58 : decode cX6_on 58 = .ok (.getfield 18, 3) := by decide +kernel
theorem dX6_on_61 : decode cX6_on 61 = .ok (.iload_n 1, 1) := by decide +kernel
theorem dX6_on_62 : decode cX6_on 62 = .ok (.aload_n 0, 1) := by decide +kernel
theorem dX6_on_63 : decode cX6_on 63 = .ok (.getfield 24, 3) := by decide +kernel
theorem dX6_on_66 : decode cX6_on 66 = .ok (.iload_n 1, 1) := by decide +kernel
theorem dX6_on_67 : decode cX6_on 67 = .ok (.iaload, 1) := by decide +kernel
theorem dX6_on_68 : decode cX6_on 68 = .ok (.iastore, 1) := by decide +kernel
theorem dX6_on_69 : decode cX6_on 69 = .ok (.iinc 1 1, 3) := by decide +kernel
theorem dX6_on_72 : decode cX6_on 72 = .ok (.goto (-32), 3) := by decide +kernel
theorem dX6_on_75 : decode cX6_on 75 = .ok (.aload_n 0, 1) := by decide +kernel
theorem dX6_on_76 : decode cX6_on 76 = .ok (.getfield 124, 3) := by decide +kernel
theorem dX6_on_79 : decode cX6_on 79 = .ok (.ireturn, 1) := by decide +kernel
theorem dX6_count_0 : decode cX6_count 0 = .ok (.iload_n 1, 1) := by decide +kernel
theorem dX6_count_1 : decode cX6_count 1 = .ok (.bipush 11, 2) := by decide +kernel
theorem dX6_count_3 : decode cX6_count 3 = .ok (.bipush 16, 2) := by decide +kernel
theorem dX6_count_5 : decode cX6_count 5 = .ok (.invokestatic 58, 3) := by decide +kernel
theorem dX6_count_8 : decode cX6_count 8 = .ok (.ifCond .eq 13, 3) := by decide +kernel
theorem dX6_count_11 : decode cX6_count 11 = .ok (.aload_n 0, 1) := by decide +kernel
theorem dX6_count_12 : decode cX6_count 12 = .ok (.getfield 39, 3) := by decide +kernel
theorem dX6_count_15 : decode cX6_count 15 = .ok (.iload_n 1, 1) := by decide +kernel
theorem dX6_count_16 : decode cX6_count 16 = .ok (.bipush 10, 2) := by decide +kernel
theorem dX6_count_18 : decode cX6_count 18 = .ok (.isub, 1) := by decide +kernel
theorem dX6_count_19 : decode cX6_count 19 = .ok (.iaload, 1) := by decide +kernel
theorem dX6_count_20 : decode cX6_count 20 = .ok (.ireturn, 1) := by decide +kernel
theorem dX6_count_21 : decode cX6_count 21 = .ok (.iload_n 1, 1) := by decide +kernel
theorem dX6_count_22 : decode cX6_count 22 = .ok (.tableswitch 104 0 7 #[46, 51, 56, 61, 69, 78, 94, 99], 46) := by decide +kernel
theorem dX6_count_68 : decode cX6_count 68 = .ok (.aload_n 0, 1) := by decide +kernel
theorem dX6_count_69 : decode cX6_count 69 = .ok (.getfield 62, 3) := by decide +kernel
theorem dX6_count_72 : decode cX6_count 72 = .ok (.ireturn, 1) := by decide +kernel
theorem dX6_count_73 : decode cX6_count 73 = .ok (.aload_n 0, 1) := by decide +kernel
theorem dX6_count_74 : decode cX6_count 74 = .ok (.getfield 124, 3) := by decide +kernel
theorem dX6_count_77 : decode cX6_count 77 = .ok (.ireturn, 1) := by decide +kernel
theorem dX6_count_78 : decode cX6_count 78 = .ok (.aload_n 0, 1) := by decide +kernel
theorem dX6_count_79 : decode cX6_count 79 = .ok (.getfield 10, 3) := by decide +kernel
theorem dX6_count_82 : decode cX6_count 82 = .ok (.ireturn, 1) := by decide +kernel
theorem dX6_count_83 : decode cX6_count 83 = .ok (.aload_n 0, 1) := by decide +kernel
theorem dX6_count_84 : decode cX6_count 84 = .ok (.getfield 10, 3) := by decide +kernel
theorem dX6_count_87 : decode cX6_count 87 = .ok (.invokestatic 82, 3) := by decide +kernel
theorem dX6_count_90 : decode cX6_count 90 = .ok (.ireturn, 1) := by decide +kernel
theorem dX6_count_91 : decode cX6_count 91 = .ok (.aload_n 0, 1) := by decide +kernel
theorem dX6_count_92 : decode cX6_count 92 = .ok (.aload_n 0, 1) := by decide +kernel
theorem dX6_count_93 : decode cX6_count 93 = .ok (.getfield 10, 3) := by decide +kernel
theorem dX6_count_96 : decode cX6_count 96 = .ok (.invokevirtual 174, 3) := by decide +kernel
theorem dX6_count_99 : decode cX6_count 99 = .ok (.ireturn, 1) := by decide +kernel
theorem dX6_count_100 : decode cX6_count 100 = .ok (.aload_n 0, 1) := by decide +kernel
theorem dX6_count_101 : decode cX6_count 101 = .ok (.getfield 10, 3) := by decide +kernel
theorem dX6_count_104 : decode cX6_count 104 = .ok (.invokestatic 85, 3) := by decide +kernel
theorem dX6_count_107 : decode cX6_count 107 = .ok (.ifCond .ne 7, 3) := by decide +kernel
theorem dX6_count_110 : decode cX6_count 110 = .ok (.iconst 1, 1) := by decide +kernel
theorem dX6_count_111 : decode cX6_count 111 = .ok (.goto 4, 3) := by decide +kernel
theorem dX6_count_114 : decode cX6_count 114 = .ok (.iconst 0, 1) := by decide +kernel
theorem dX6_count_115 : decode cX6_count 115 = .ok (.ireturn, 1) := by decide +kernel
theorem dX6_count_116 : decode cX6_count 116 = .ok (.aload_n 0, 1) := by decide +kernel
theorem dX6_count_117 : decode cX6_count 117 = .ok (.getfield 236, 3) := by decide +kernel
theorem dX6_count_120 : decode cX6_count 120 = .ok (.ireturn, 1) := by decide +kernel
theorem dX6_count_121 : decode cX6_count 121 = .ok (.aload_n 0, 1) := by decide +kernel
theorem dX6_count_122 : decode cX6_count 122 = .ok (.getfield 104, 3) := by decide +kernel
theorem dX6_count_125 : decode cX6_count 125 = .ok (.ireturn, 1) := by decide +kernel
theorem dX6_count_126 : decode cX6_count 126 = .ok (.bipush (-9), 2) := by decide +kernel
theorem dX6_count_128 : decode cX6_count 128 = .ok (.ireturn, 1) := by decide +kernel
theorem dJ11_isValidCodePoint_9a6ad_0 : decode cJ11_isValidCodePoint_9a6ad 0 = .ok (.iload_n 0, 1) := by decide +kernel
theorem dJ11_isValidCodePoint_9a6ad_1 : decode cJ11_isValidCodePoint_9a6ad 1 = .ok (.bipush 16, 2) := by decide +kernel
theorem dJ11_isValidCodePoint_9a6ad_3 : decode cJ11_isValidCodePoint_9a6ad 3 = .ok (.iushr, 1) := by decide +kernel
theorem dJ11_isValidCodePoint_9a6ad_4 : decode cJ11_isValidCodePoint_9a6ad 4 = .ok (.istore_n 1, 1) := by decide +kernel
theorem dJ11_isValidCodePoint_9a6ad_5 : decode cJ11_isValidCodePoint_9a6ad 5 = .ok (.iload_n 1, 1) := by decide +kernel
theorem dJ11_isValidCodePoint_9a6ad_6 : decode cJ11_isValidCodePoint_9a6ad 6 = .ok (.bipush 17, 2) := by decide +kernel
theorem dJ11_isValidCodePoint_9a6ad_8 : decode cJ11_isValidCodePoint_9a6ad 8 = .ok (.if_icmp .ge 7, 3) := by decide +kernel
theorem dJ11_isValidCodePoint_9a6ad_11 : decode cJ11_isValidCodePoint_9a6ad 11 = .ok (.iconst 1, 1) := by decide +kernel
theorem dJ11_isValidCodePoint_9a6ad_12 : decode cJ11_isValidCodePoint_9a6ad 12 = .ok (.goto 4, 3) := by decide +kernel
theorem dJ11_isValidCodePoint_9a6ad_15 : decode cJ11_isValidCodePoint_9a6ad 15 = .ok (.iconst 0, 1) := by decide +kernel
theorem dJ11_isValidCodePoint_9a6ad_16 : decode cJ11_isValidCodePoint_9a6ad 16 = .ok (.ireturn, 1) := by decide +kernel
theorem dJ11_highSurrogate_5068e_0 : decode cJ11_highSurrogate_5068e 0 = .ok (.iload_n 0, 1) := by decide +kernel
theorem dJ11_highSurrogate_5068e_1 : decode cJ11_highSurrogate_5068e 1 = .ok (.bipush 10, 2) := by decide +kernel
theorem dJ11_highSurrogate_5068e_3 : decode cJ11_highSurrogate_5068e 3 = .ok (.iushr, 1) := by decide +kernel
theorem dJ11_highSurrogate_5068e_4 : decode cJ11_highSurrogate_5068e 4 = .ok (.ldc 110, 2) := by decide +kernel
theorem dJ11_highSurrogate_5068e_6 : decode cJ11_highSurrogate_5068e 6 = .ok (.iadd, 1) := by decide +kernel
theorem dJ11_highSurrogate_5068e_7 : decode cJ11_highSurrogate_5068e 7 = .ok (.i2c, 1) := by decide +kernel
theorem dJ11_highSurrogate_5068e_8 : decode cJ11_highSurrogate_5068e 8 = .ok (.ireturn, 1) := by decide +kernel
theorem dJ11_lowSurrogate_5068e_0 : decode cJ11_lowSurrogate_5068e 0 = .ok (.iload_n 0, 1) := by decide +kernel
theorem dJ11_lowSurrogate_5068e_1 : decode cJ11_lowSurrogate_5068e 1 = .ok (.sipush 1023, 3) := by decide +kernel
theorem dJ11_lowSurrogate_5068e_4 : decode cJ11_lowSurrogate_5068e 4 = .ok (.iand, 1) := by decide +kernel
theorem dJ11_lowSurrogate_5068e_5 : decode cJ11_lowSurrogate_5068e 5 = .ok (.ldc 76, 2) := by decide +kernel
theorem dJ11_lowSurrogate_5068e_7 : decode cJ11_lowSurrogate_5068e 7 = .ok (.iadd, 1) := by decide +kernel
theorem dJ11_lowSurrogate_5068e_8 : decode cJ11_lowSurrogate_5068e 8 = .ok (.i2c, 1) := by decide +kernel
theorem dJ11_lowSurrogate_5068e_9 : decode cJ11_lowSurrogate_5068e 9 = .ok (.ireturn, 1) := by decide +kernel
theorem dJ6_bitCount_0f7a4_0 : decode cJ6_bitCount_0f7a4 0 = .ok (.iload_n 0, 1) := by decide +kernel
theorem dJ6_bitCount_0f7a4_1 : decode cJ6_bitCount_0f7a4 1 = .ok (.iload_n 0, 1) := by decide +kernel
theorem dJ6_bitCount_0f7a4_2 : decode cJ6_bitCount_0f7a4 2 = .ok (.iconst 1, 1) := by decide +kernel
theorem dJ6_bitCount_0f7a4_3 : decode cJ6_bitCount_0f7a4 3 = .ok (.iushr, 1) := by decide +kernel
theorem dJ6_bitCount_0f7a4_4 : decode cJ6_bitCount_0f7a4 4 = .ok (.ldc_w 265, 3) := by decide +kernel
theorem dJ6_bitCount_0f7a4_7 : decode cJ6_bitCount_0f7a4 7 = .ok (.iand, 1) := by decide +kernel
theorem dJ6_bitCount_0f7a4_8 : decode cJ6_bitCount_0f7a4 8 = .ok (.isub, 1) := by decide +kernel
theorem dJ6_bitCount_0f7a4_9 : decode cJ6_bitCount_0f7a4 9 = .ok (.istore_n 0, 1) := by decide +kernel
theorem dJ6_bitCount_0f7a4_10 : decode cJ6_bitCount_0f7a4 10 = .ok (.iload_n 0, 1) := by decide +kernel
theorem dJ6_bitCount_0f7a4_11 : decode cJ6_bitCount_0f7a4 11 = .ok (.ldc_w 266, 3) := by decide +kernel
theorem dJ6_bitCount_0f7a4_14 : decode cJ6_bitCount_0f7a4 14 = .ok (.iand, 1) := by decide +kernel
theorem dJ6_bitCount_0f7a4_15 : decode cJ6_bitCount_0f7a4 15 = .ok (.iload_n 0, 1) := by decide +kernel
theorem dJ6_bitCount_0f7a4_16 : decode cJ6_bitCount_0f7a4 16 = .ok (.iconst 2, 1) := by decide +kernel
theorem dJ6_bitCount_0f7a4_17 : decode cJ6_bitCount_0f7a4 17 = .ok (.iushr, 1) := by decide +kernel
theorem dJ6_bitCount_0f7a4_18 : decode cJ6_bitCount_0f7a4 18 = .ok (.ldc_w 266, 3) := by decide +kernel
theorem dJ6_bitCount_0f7a4_21 : decode cJ6_bitCount_0f7a4 21 = .ok (.iand, 1) := by decide +kernel
theorem dJ6_bitCount_0f7a4_22 : decode cJ6_bitCount_0f7a4 22 = .ok (.iadd, 1) := by decide +kernel
theorem dJ6_bitCount_0f7a4_23 : decode cJ6_bitCount_0f7a4 23 = .ok (.istore_n 0, 1) := by decide +kernel
theorem dJ6_bitCount_0f7a4_24 : decode cJ6_bitCount_0f7a4 24 = .ok (.iload_n 0, 1) := by decide +kernel
theorem dJ6_bitCount_0f7a4_25 : decode cJ6_bitCount_0f7a4 25 = .ok (.iload_n 0, 1) := by decide +kernel
theorem dJ6_bitCount_0f7a4_26 : decode cJ6_bitCount_0f7a4 26 = .ok (.iconst 4, 1) := by decide +kernel
theorem dJ6_bitCount_0f7a4_27 : decode cJ6_bitCount_0f7a4 27 = .ok (.iushr, 1) := by decide +kernel
theorem dJ6_bitCount_0f7a4_28 : decode cJ6_bitCount_0f7a4 28 = .ok (.iadd, 1) := by decide +kernel
theorem dJ6_bitCount_0f7a4_29 : decode cJ6_bitCount_0f7a4 29 = .ok (.ldc_w 267, 3) := by decide +kernel
theorem dJ6_bitCount_0f7a4_32 : decode cJ6_bitCount_0f7a4 32 = .ok (.iand, 1) := by decide +kernel
theorem dJ6_bitCount_0f7a4_33 : decode cJ6_bitCount_0f7a4 33 = .ok (.istore_n 0, 1) := by decide +kernel
theorem dJ6_bitCount_0f7a4_34 : decode cJ6_bitCount_0f7a4 34 = .ok (.iload_n 0, 1) := by decide +kernel
theorem dJ6_bitCount_0f7a4_35 : decode cJ6_bitCount_0f7a4 35 = .ok (.iload_n 0, 1) := by decide +kernel
theorem dJ6_bitCount_0f7a4_36 : decode cJ6_bitCount_0f7a4 36 = .ok (.bipush 8, 2) := by decide +kernel
theorem dJ6_bitCount_0f7a4_38 : decode cJ6_bitCount_0f7a4 38 = .ok (.iushr, 1) := by decide +kernel
theorem dJ6_bitCount_0f7a4_39 : decode cJ6_bitCount_0f7a4 39 = .ok (.iadd, 1) := by decide +kernel
theorem dJ6_bitCount_0f7a4_40 : decode cJ6_bitCount_0f7a4 40 = .ok (.istore_n 0, 1) := by decide +kernel
theorem dJ6_bitCount_0f7a4_41 : decode cJ6_bitCount_0f7a4 41 = .ok (.iload_n 0, 1) := by decide +kernel
theorem dJ6_bitCount_0f7a4_42 : decode cJ6_bitCount_0f7a4 42 = .ok (.iload_n 0, 1) := by decide +kernel
theorem dJ6_bitCount_0f7a4_43 : decode cJ6_bitCount_0f7a4 43 = .ok (.bipush 16, 2) := by decide +kernel
theorem dJ6_bitCount_0f7a4_45 : decode cJ6_bitCount_0f7a4 45 = .ok (.iushr, 1) := by decide +kernel
theorem dJ6_bitCount_0f7a4_46 : decode cJ6_bitCount_0f7a4 46 = .ok (.iadd, 1) := by decide +kernel
theorem dJ6_bitCount_0f7a4_47 : decode cJ6_bitCount_0f7a4 47 = .ok (.istore_n 0, 1) := by decide +kernel
theorem dJ6_bitCount_0f7a4_48 : decode cJ6_bitCount_0f7a4 48 = .ok (.iload_n 0, 1) := by decide +kernel
theorem dJ6_bitCount_0f7a4_49 : decode cJ6_bitCount_0f7a4 49 = .ok (.bipush 63, 2) := by decide +kernel
theorem dJ6_bitCount_0f7a4_51 : decode cJ6_bitCount_0f7a4 51 = .ok (.iand, 1) := by decide +kernel
theorem dJ6_bitCount_0f7a4_52 : decode cJ6_bitCount_0f7a4 52 = .ok (.ireturn, 1) := by decide +kernel
theorem dJ9_abs_0f7a4_0 : decode cJ9_abs_0f7a4 0 = .ok (.iload_n 0, 1) := by decide +kernel
theorem dJ9_abs_0f7a4_1 : decode cJ9_abs_0f7a4 1 = .ok (.ifCond .ge 8, 3) := by decide +kernel
theorem dJ9_abs_0f7a4_4 : decode cJ9_abs_0f7a4 4 = .ok (.iload_n 0, 1) := by decide +kernel
theorem dJ9_abs_0f7a4_5 : decode cJ9_abs_0f7a4 5 = .ok (.ineg, 1) := by decide +kernel
theorem dJ9_abs_0f7a4_6 : decode cJ9_abs_0f7a4 6 = .ok (.goto 4, 3) := by decide +kernel
theorem dJ9_abs_0f7a4_9 : decode cJ9_abs_0f7a4 9 = .ok (.iload_n 0, 1) := by decide +kernel
theorem dJ9_abs_0f7a4_10 : decode cJ9_abs_0f7a4 10 = .ok (.ireturn, 1) := by decide +kernel
theorem dJ9_max_7cf53_0 : decode cJ9_max_7cf53 0 = .ok (.iload_n 0, 1) := by decide +kernel
theorem dJ9_max_7cf53_1 : decode cJ9_max_7cf53 1 = .ok (.iload_n 1, 1) := by decide +kernel
theorem dJ9_max_7cf53_2 : decode cJ9_max_7cf53 2 = .ok (.if_icmp .lt 7, 3) := by decide +kernel
theorem dJ9_max_7cf53_5 : decode cJ9_max_7cf53 5 = .ok (.iload_n 0, 1) := by decide +kernel
theorem dJ9_max_7cf53_6 : decode cJ9_max_7cf53 6 = .ok (.goto 4, 3) := by decide +kernel
theorem dJ9_max_7cf53_9 : decode cJ9_max_7cf53 9 = .ok (.iload_n 1, 1) := by decide +kernel
theorem dJ9_max_7cf53_10 : decode cJ9_max_7cf53 10 = .ok (.ireturn, 1) := by decide +kernel
theorem dJ9_min_7cf53_0 : decode cJ9_min_7cf53 0 = .ok (.iload_n 0, 1) := by decide +kernel
theorem dJ9_min_7cf53_1 : decode cJ9_min_7cf53 1 = .ok (.iload_n 1, 1) := by decide +kernel
theorem dJ9_min_7cf53_2 : decode cJ9_min_7cf53 2 = .ok (.if_icmp .gt 7, 3) := by decide +kernel
theorem dJ9_min_7cf53_5 : decode cJ9_min_7cf53 5 = .ok (.iload_n 0, 1) := by decide +kernel
theorem dJ9_min_7cf53_6 : decode cJ9_min_7cf53 6 = .ok (.goto 4, 3) := by decide +kernel
theorem dJ9_min_7cf53_9 : decode cJ9_min_7cf53 9 = .ok (.iload_n 1, 1) := by decide +kernel
theorem dJ9_min_7cf53_10 : decode cJ9_min_7cf53 10 = .ok (.ireturn, 1) := by decide +kernel
theorem dJ0_length_8abf5_0 : decode cJ0_length_8abf5 0 = .ok (.aload_n 0, 1) := by decide +kernel
theorem dJ0_length_8abf5_1 : decode cJ0_length_8abf5 1 = .ok (.getfield 9, 3) := by decide +kernel
theorem dJ0_length_8abf5_4 : decode cJ0_length_8abf5 4 = .ok (.arraylength, 1) := by decide +kernel
theorem dJ0_length_8abf5_5 : decode cJ0_length_8abf5 5 = .ok (.aload_n 0, 1) := by decide +kernel
theorem dJ0_length_8abf5_6 : decode cJ0_length_8abf5 6 = .ok (.invokevirtual 335, 3) := by decide +kernel
theorem dJ0_length_8abf5_9 : decode cJ0_length_8abf5 9 = .ok (.ishr, 1) := by decide +kernel
theorem dJ0_length_8abf5_10 : decode cJ0_length_8abf5 10 = .ok (.ireturn, 1) := by decide +kernel
theorem dJ0_charAt_5068e_0 : decode cJ0_charAt_5068e 0 = .ok (.aload_n 0, 1) := by decide +kernel
theorem dJ0_charAt_5068e_1 : decode cJ0_charAt_5068e 1 = .ok (.invokevirtual 492, 3) := by decide +kernel
theorem dJ0_charAt_5068e_4 : decode cJ0_charAt_5068e 4 = .ok (.ifCond .eq 12, 3) := by decide +kernel
theorem dJ0_charAt_5068e_7 : decode cJ0_charAt_5068e 7 = .ok (.aload_n 0, 1) := by decide +kernel
theorem dJ0_charAt_5068e_8 : decode cJ0_charAt_5068e 8 = .ok (.getfield 9, 3) := by decide +kernel
theorem dJ0_charAt_5068e_11 : decode cJ0_charAt_5068e 11 = .ok (.iload_n 1, 1) := by decide +kernel
theorem dJ0_charAt_5068e_12 : decode cJ0_charAt_5068e 12 = .ok (.invokestatic 495, 3) := by decide +kernel
theorem dJ0_charAt_5068e_15 : decode cJ0_charAt_5068e 15 = .ok (.ireturn, 1) := by decide +kernel
theorem dJ0_charAt_5068e_16 : decode cJ0_charAt_5068e 16 = .ok (.aload_n 0, 1) := by decide +kernel
theorem dJ0_charAt_5068e_17 : decode cJ0_charAt_5068e 17 = .ok (.getfield 9, 3) := by decide +kernel
theorem dJ0_charAt_5068e_20 : decode cJ0_charAt_5068e 20 = .ok (.iload_n 1, 1) := by decide +kernel
theorem dJ0_charAt_5068e_21 : decode cJ0_charAt_5068e 21 = .ok (.invokestatic 498, 3) := by decide +kernel
theorem dJ0_charAt_5068e_24 : decode cJ0_charAt_5068e 24 = .ok (.ireturn, 1) := by decide +kernel
theorem dJ0_indexOf_0f7a4_0 : decode cJ0_indexOf_0f7a4 0 = .ok (.aload_n 0, 1) := by decide +kernel
theorem dJ0_indexOf_0f7a4_1 : decode cJ0_indexOf_0f7a4 1 = .ok (.iload_n 1, 1) := by decide +kernel
theorem dJ0_indexOf_0f7a4_2 : decode cJ0_indexOf_0f7a4 2 = .ok (.iconst 0, 1) := by decide +kernel
theorem dJ0_indexOf_0f7a4_3 : decode cJ0_indexOf_0f7a4 3 = .ok (.invokevirtual 633, 3) := by decide +kernel
theorem dJ0_indexOf_0f7a4_6 : decode cJ0_indexOf_0f7a4 6 = .ok (.ireturn, 1) := by decide +kernel
theorem dJ0_indexOf_7cf53_0 : decode cJ0_indexOf_7cf53 0 = .ok (.aload_n 0, 1) := by decide +kernel
theorem dJ0_indexOf_7cf53_1 : decode cJ0_indexOf_7cf53 1 = .ok (.invokevirtual 492, 3) := by decide +kernel
theorem dJ0_indexOf_7cf53_4 : decode cJ0_indexOf_7cf53 4 = .ok (.ifCond .eq 19, 3) := by decide +kernel
theorem dJ0_indexOf_7cf53_7 : decode cJ0_indexOf_7cf53 7 = .ok (.aload_n 0, 1) := by decide +kernel
theorem dJ0_indexOf_7cf53_8 : decode cJ0_indexOf_7cf53 8 = .ok (.getfield 9, 3) := by decide +kernel
theorem dJ0_indexOf_7cf53_11 : decode cJ0_indexOf_7cf53 11 = .ok (.iload_n 1, 1) := by decide +kernel
theorem dJ0_indexOf_7cf53_12 : decode cJ0_indexOf_7cf53 12 = .ok (.iload_n 2, 1) := by decide +kernel
theorem dJ0_indexOf_7cf53_13 : decode cJ0_indexOf_7cf53 13 = .ok (.aload_n 0, 1) := by decide +kernel
theorem dJ0_indexOf_7cf53_14 : decode cJ0_indexOf_7cf53 14 = .ok (.invokevirtual 505, 3) := by decide +kernel
theorem dJ0_indexOf_7cf53_17 : decode cJ0_indexOf_7cf53 17 = .ok (.invokestatic 637, 3) := by decide +kernel
theorem dJ0_indexOf_7cf53_20 : decode cJ0_indexOf_7cf53 20 = .ok (.goto 16, 3) := by decide +kernel
theorem dJ0_indexOf_7cf53_23 : decode cJ0_indexOf_7cf53 23 = .ok (.aload_n 0, 1) := by decide +kernel
theorem dJ0_indexOf_7cf53_24 : decode cJ0_indexOf_7cf53 24 = .ok (.getfield 9, 3) := by decide +kernel
theorem dJ0_indexOf_7cf53_27 : decode cJ0_indexOf_7cf53 27 = .ok (.iload_n 1, 1) := by decide +kernel
theorem dJ0_indexOf_7cf53_28 : decode cJ0_indexOf_7cf53 28 = .ok (.iload_n 2, 1) := by decide +kernel
theorem dJ0_indexOf_7cf53_29 : decode cJ0_indexOf_7cf53 29 = .ok (.aload_n 0, 1) := by decide +kernel
theorem dJ0_indexOf_7cf53_30 : decode cJ0_indexOf_7cf53 30 = .ok (.invokevirtual 505, 3) := by decide +kernel
theorem dJ0_indexOf_7cf53_33 : decode cJ0_indexOf_7cf53 33 = .ok (.invokestatic 640, 3) := by decide +kernel
theorem dJ0_indexOf_7cf53_36 : decode cJ0_indexOf_7cf53 36 = .ok (.ireturn, 1) := by decide +kernel
theorem dJ0_coder_7d493_0 : decode cJ0_coder_7d493 0 = .ok (.getstatic 38, 3) := by decide +kernel
theorem dJ0_coder_7d493_3 : decode cJ0_coder_7d493 3 = .ok (.ifCond .eq 10, 3) := by decide +kernel
theorem dJ0_coder_7d493_6 : decode cJ0_coder_7d493 6 = .ok (.aload_n 0, 1) := by decide +kernel
theorem dJ0_coder_7d493_7 : decode cJ0_coder_7d493 7 = .ok (.getfield 15, 3) := by decide +kernel
theorem dJ0_coder_7d493_10 : decode cJ0_coder_7d493 10 = .ok (.goto 4, 3) := by decide +kernel
theorem dJ0_coder_7d493_13 : decode cJ0_coder_7d493 13 = .ok (.iconst 1, 1) := by decide +kernel
theorem dJ0_coder_7d493_14 : decode cJ0_coder_7d493 14 = .ok (.ireturn, 1) := by decide +kernel
theorem dJ0_isLatin1_aae02_0 : decode cJ0_isLatin1_aae02 0 = .ok (.getstatic 38, 3) := by decide +kernel
theorem dJ0_isLatin1_aae02_3 : decode cJ0_isLatin1_aae02 3 = .ok (.ifCond .eq 14, 3) := by decide +kernel
theorem dJ0_isLatin1_aae02_6 : decode cJ0_isLatin1_aae02 6 = .ok (.aload_n 0, 1) := by decide +kernel
theorem dJ0_isLatin1_aae02_7 : decode cJ0_isLatin1_aae02 7 = .ok (.getfield 15, 3) := by decide +kernel
theorem dJ0_isLatin1_aae02_10 : decode cJ0_isLatin1_aae02 10 = .ok (.ifCond .ne 7, 3) := by decide +kernel
theorem dJ0_isLatin1_aae02_13 : decode cJ0_isLatin1_aae02 13 = .ok (.iconst 1, 1) := by decide +kernel
theorem dJ0_isLatin1_aae02_14 : decode cJ0_isLatin1_aae02 14 = .ok (.goto 4, 3) := by decide +kernel
theorem dJ0_isLatin1_aae02_17 : decode cJ0_isLatin1_aae02 17 = .ok (.iconst 0, 1) := by decide +kernel
theorem dJ0_isLatin1_aae02_18 : decode cJ0_isLatin1_aae02 18 = .ok (.ireturn, 1) := by decide +kernel
theorem dJ0_checkIndex_df160_0 : decode cJ0_checkIndex_df160 0 = .ok (.iload_n 0, 1) := by decide +kernel
theorem dJ0_checkIndex_df160_1 : decode cJ0_checkIndex_df160 1 = .ok (.iload_n 1, 1) := by decide +kernel
theorem dJ0_checkIndex_df160_2 : decode cJ0_checkIndex_df160 2 = .ok (.getstatic 1053, 3) := by decide +kernel
theorem dJ0_checkIndex_df160_5 : decode cJ0_checkIndex_df160 5 = .ok (.invokestatic 1059, 3) := by decide +kernel
theorem dJ0_checkIndex_df160_8 : decode cJ0_checkIndex_df160 8 = .ok (.pop, 1) := by decide +kernel
theorem dJ0_checkIndex_df160_9 : decode cJ0_checkIndex_df160 9 = .ok (.return_, 1) := by decide +kernel
theorem dJ0_checkBoundsBeginEnd_23922_0 : decode cJ0_checkBoundsBeginEnd_23922 0 = .ok (.iload_n 0, 1) := by decide +kernel
theorem dJ0_checkBoundsBeginEnd_23922_1 : decode cJ0_checkBoundsBeginEnd_23922 1 = .ok (.iload_n 1, 1) := by decide +kernel
theorem dJ0_checkBoundsBeginEnd_23922_2 : decode cJ0_checkBoundsBeginEnd_23922 2 = .ok (.iload_n 2, 1) := by decide +kernel
theorem dJ0_checkBoundsBeginEnd_23922_3 : decode cJ0_checkBoundsBeginEnd_23922 3 = .ok (.getstatic 1053, 3) := by decide +kernel
theorem dJ0_checkBoundsBeginEnd_23922_6 : decode cJ0_checkBoundsBeginEnd_23922 6 = .ok (.invokestatic 1062, 3) := by decide +kernel
theorem dJ0_checkBoundsBeginEnd_23922_9 : decode cJ0_checkBoundsBeginEnd_23922 9 = .ok (.pop, 1) := by decide +kernel
theorem dJ0_checkBoundsBeginEnd_23922_10 : decode cJ0_checkBoundsBeginEnd_23922 10 = .ok (.return_, 1) := by decide +kernel
theorem dJ1_charAt_3b067_0 : decode cJ1_charAt_3b067 0 = .ok (.iload_n 1, 1) := by decide +kernel
theorem dJ1_charAt_3b067_1 : decode cJ1_charAt_3b067 1 = .ok (.aload_n 0, 1) := by decide +kernel
theorem dJ1_charAt_3b067_2 : decode cJ1_charAt_3b067 2 = .ok (.arraylength, 1) := by decide +kernel
theorem dJ1_charAt_3b067_3 : decode cJ1_charAt_3b067 3 = .ok (.invokestatic 9, 3) := by decide +kernel
theorem dJ1_charAt_3b067_6 : decode cJ1_charAt_3b067 6 = .ok (.aload_n 0, 1) := by decide +kernel
theorem dJ1_charAt_3b067_7 : decode cJ1_charAt_3b067 7 = .ok (.iload_n 1, 1) := by decide +kernel
theorem dJ1_charAt_3b067_8 : decode cJ1_charAt_3b067 8 = .ok (.baload, 1) := by decide +kernel
theorem dJ1_charAt_3b067_9 : decode cJ1_charAt_3b067 9 = .ok (.sipush 255, 3) := by decide +kernel
theorem dJ1_charAt_3b067_12 : decode cJ1_charAt_3b067 12 = .ok (.iand, 1) := by decide +kernel
theorem dJ1_charAt_3b067_13 : decode cJ1_charAt_3b067 13 = .ok (.i2c, 1) := by decide +kernel
theorem dJ1_charAt_3b067_14 : decode cJ1_charAt_3b067 14 = .ok (.ireturn, 1) := by decide +kernel
theorem dJ1_canEncode_9a6ad_0 : decode cJ1_canEncode_9a6ad 0 = .ok (.iload_n 0, 1) := by decide +kernel
theorem dJ1_canEncode_9a6ad_1 : decode cJ1_canEncode_9a6ad 1 = .ok (.ifCond .lt 14, 3) := by decide +kernel
theorem dJ1_canEncode_9a6ad_4 : decode cJ1_canEncode_9a6ad 4 = .ok (.iload_n 0, 1) := by decide +kernel
theorem dJ1_canEncode_9a6ad_5 : decode cJ1_canEncode_9a6ad 5 = .ok (.sipush 255, 3) := by decide +kernel
theorem dJ1_canEncode_9a6ad_8 : decode cJ1_canEncode_9a6ad 8 = .ok (.if_icmp .gt 7, 3) := by decide +kernel
theorem dJ1_canEncode_9a6ad_11 : decode cJ1_canEncode_9a6ad 11 = .ok (.iconst 1, 1) := by decide +kernel
theorem dJ1_canEncode_9a6ad_12 : decode cJ1_canEncode_9a6ad 12 = .ok (.goto 4, 3) := by decide +kernel
theorem dJ1_canEncode_9a6ad_15 : decode cJ1_canEncode_9a6ad 15 = .ok (.iconst 0, 1) := by decide +kernel
theorem dJ1_canEncode_9a6ad_16 : decode cJ1_canEncode_9a6ad 16 = .ok (.ireturn, 1) := by decide +kernel
theorem dJ1_indexOf_4cfef_0 : decode cJ1_indexOf_4cfef 0 = .ok (.iload_n 1, 1) := by decide +kernel
theorem dJ1_indexOf_4cfef_1 : decode cJ1_indexOf_4cfef 1 = .ok (.invokestatic 88, 3) := by decide +kernel
theorem dJ1_indexOf_4cfef_4 : decode cJ1_indexOf_4cfef 4 = .ok (.ifCond .ne 5, 3) := by decide +kernel
theorem dJ1_indexOf_4cfef_7 : decode cJ1_indexOf_4cfef 7 = .ok (.iconst (-1), 1) := by decide +kernel
theorem dJ1_indexOf_4cfef_8 : decode cJ1_indexOf_4cfef 8 = .ok (.ireturn, 1) := by decide +kernel
theorem dJ1_indexOf_4cfef_9 : decode cJ1_indexOf_4cfef 9 = .ok (.iload_n 2, 1) := by decide +kernel
theorem dJ1_indexOf_4cfef_10 : decode cJ1_indexOf_4cfef 10 = .ok (.iconst 0, 1) := by decide +kernel
theorem dJ1_indexOf_4cfef_11 : decode cJ1_indexOf_4cfef 11 = .ok (.invokestatic 92, 3) := by decide +kernel
theorem dJ1_indexOf_4cfef_14 : decode cJ1_indexOf_4cfef 14 = .ok (.istore_n 2, 1) := by decide +kernel
theorem dJ1_indexOf_4cfef_15 : decode cJ1_indexOf_4cfef 15 = .ok (.iload_n 3, 1) := by decide +kernel
theorem dJ1_indexOf_4cfef_16 : decode cJ1_indexOf_4cfef 16 = .ok (.aload_n 0, 1) := by decide +kernel
theorem dJ1_indexOf_4cfef_17 : decode cJ1_indexOf_4cfef 17 = .ok (.arraylength, 1) := by decide +kernel
theorem dJ1_indexOf_4cfef_18 : decode cJ1_indexOf_4cfef 18 = .ok (.invokestatic 38, 3) := by decide +kernel
theorem dJ1_indexOf_4cfef_21 : decode cJ1_indexOf_4cfef 21 = .ok (.istore_n 3, 1) := by decide +kernel
theorem dJ1_indexOf_4cfef_22 : decode cJ1_indexOf_4cfef 22 = .ok (.iload_n 2, 1) := by decide +kernel
theorem dJ1_indexOf_4cfef_23 : decode cJ1_indexOf_4cfef 23 = .ok (.iload_n 3, 1) := by decide +kernel
theorem dJ1_indexOf_4cfef_24 : decode cJ1_indexOf_4cfef 24 = .ok (.if_icmp .lt 5, 3) := by decide +kernel
theorem dJ1_indexOf_4cfef_27 : decode cJ1_indexOf_4cfef 27 = .ok (.iconst (-1), 1) := by decide +kernel
theorem dJ1_indexOf_4cfef_28 : decode cJ1_indexOf_4cfef 28 = .ok (.ireturn, 1) := by decide +kernel
theorem dJ1_indexOf_4cfef_29 : decode cJ1_indexOf_4cfef 29 = .ok (.aload_n 0, 1) := by decide +kernel
theorem dJ1_indexOf_4cfef_30 : decode cJ1_indexOf_4cfef 30 = .ok (.iload_n 1, 1) := by decide +kernel
theorem dJ1_indexOf_4cfef_31 : decode cJ1_indexOf_4cfef 31 = .ok (.iload_n 2, 1) := by decide +kernel
theorem dJ1_indexOf_4cfef_32 : decode cJ1_indexOf_4cfef 32 = .ok (.iload_n 3, 1) := by decide +kernel
theorem dJ1_indexOf_4cfef_33 : decode cJ1_indexOf_4cfef 33 = .ok (.invokestatic 95, 3) := by decide +kernel
theorem dJ1_indexOf_4cfef_36 : decode cJ1_indexOf_4cfef 36 = .ok (.ireturn, 1) := by decide +kernel
theorem dJ1_indexOfChar_4cfef_0 : decode cJ1_indexOfChar_4cfef 0 = .ok (.iload_n 1, 1) := by decide +kernel
theorem dJ1_indexOfChar_4cfef_1 : decode cJ1_indexOfChar_4cfef 1 = .ok (.i2b, 1) := by decide +kernel
theorem dJ1_indexOfChar_4cfef_2 : decode cJ1_indexOfChar_4cfef 2 = .ok (.istore 4, 2) := by decide +kernel
theorem dJ1_indexOfChar_4cfef_4 : decode cJ1_indexOfChar_4cfef 4 = .ok (.iload_n 2, 1) := by decide +kernel
theorem dJ1_indexOfChar_4cfef_5 : decode cJ1_indexOfChar_4cfef 5 = .ok (.istore 5, 2) := by decide +kernel
theorem dJ1_indexOfChar_4cfef_7 : decode cJ1_indexOfChar_4cfef 7 = .ok (.iload 5, 2) := by decide +kernel
theorem dJ1_indexOfChar_4cfef_9 : decode cJ1_indexOfChar_4cfef 9 = .ok (.iload_n 3, 1) := by decide +kernel
theorem dJ1_indexOfChar_4cfef_10 : decode cJ1_indexOfChar_4cfef 10 = .ok (.if_icmp .ge 21, 3) := by decide +kernel
theorem dJ1_indexOfChar_4cfef_13 : decode cJ1_indexOfChar_4cfef 13 = .ok (.aload_n 0, 1) := by decide +kernel
theorem dJ1_indexOfChar_4cfef_14 : decode cJ1_indexOfChar_4cfef 14 = .ok (.iload 5, 2) := by decide +kernel
theorem dJ1_indexOfChar_4cfef_16 : decode cJ1_indexOfChar_4cfef 16 = .ok (.baload, 1) := by decide +kernel
theorem dJ1_indexOfChar_4cfef_17 : decode cJ1_indexOfChar_4cfef 17 = .ok (.iload 4, 2) := by decide +kernel
theorem dJ1_indexOfChar_4cfef_19 : decode cJ1_indexOfChar_4cfef 19 = .ok (.if_icmp .ne 6, 3) := by decide +kernel
theorem dJ1_indexOfChar_4cfef_22 : decode cJ1_indexOfChar_4cfef 22 = .ok (.iload 5, 2) := by decide +kernel
theorem dJ1_indexOfChar_4cfef_24 : decode cJ1_indexOfChar_4cfef 24 = .ok (.ireturn, 1) := by decide +kernel
theorem dJ1_indexOfChar_4cfef_25 : decode cJ1_indexOfChar_4cfef 25 = .ok (.iinc 5 1, 3) := by decide +kernel
theorem dJ1_indexOfChar_4cfef_28 : decode cJ1_indexOfChar_4cfef 28 = .ok (.goto (-21), 3) := by decide +kernel
theorem dJ1_indexOfChar_4cfef_31 : decode cJ1_indexOfChar_4cfef 31 = .ok (.iconst (-1), 1) := by decide +kernel
theorem dJ1_indexOfChar_4cfef_32 : decode cJ1_indexOfChar_4cfef 32 = .ok (.ireturn, 1) := by decide +kernel
theorem dJ2_getChar_3b067_0 : decode cJ2_getChar_3b067 0 = .ok (.getstatic 44, 3) := by decide +kernel
theorem dJ2_getChar_3b067_3 : decode cJ2_getChar_3b067 3 = .ok (.ifCond .ne 25, 3) := by decide +kernel
theorem dJ2_getChar_3b067_6 : decode cJ2_getChar_3b067 6 = .ok (.iload_n 1, 1) := by decide +kernel
theorem dJ2_getChar_3b067_7 : decode cJ2_getChar_3b067 7 = .ok (.ifCond .lt 11, 3) := by decide +kernel
theorem dJ2_getChar_3b067_10 : decode cJ2_getChar_3b067 10 = .ok (.iload_n 1, 1) := by decide +kernel
theorem dJ2_getChar_3b067_11 : decode cJ2_getChar_3b067 11 = .ok (.aload_n 0, 1) := by decide +kernel
theorem dJ2_getChar_3b067_12 : decode cJ2_getChar_3b067 12 = .ok (.invokestatic 48, 3) := by decide +kernel
theorem dJ2_getChar_3b067_15 : decode cJ2_getChar_3b067 15 = .ok (.if_icmp .lt 13, 3) := by decide +kernel
theorem dJ2_getChar_3b067_18 : decode cJ2_getChar_3b067 18 = .ok (.new 52, 3) := by decide +kernel
theorem dJ2_getChar_3b067_21 : decode cJ2_getChar_3b067 21 = .ok (.dup, 1) := by decide +kernel
theorem dJ2_getChar_3b067_22 : decode cJ2_getChar_3b067 22 = .ok (.ldc 54, 2) := by decide +kernel
theorem dJ2_getChar_3b067_24 : decode cJ2_getChar_3b067 24 = .ok (.invokespecial 56, 3) := by decide +kernel
theorem dJ2_getChar_3b067_27 : decode cJ2_getChar_3b067 27 = .ok (.athrow, 1) := by decide +kernel
theorem dJ2_getChar_3b067_28 : decode cJ2_getChar_3b067 28 = .ok (.iload_n 1, 1) := by decide +kernel
theorem dJ2_getChar_3b067_29 : decode cJ2_getChar_3b067 29 = .ok (.iconst 1, 1) := by decide +kernel
theorem dJ2_getChar_3b067_30 : decode cJ2_getChar_3b067 30 = .ok (.ishl, 1) := by decide +kernel
theorem dJ2_getChar_3b067_31 : decode cJ2_getChar_3b067 31 = .ok (.istore_n 1, 1) := by decide +kernel
theorem dJ2_getChar_3b067_32 : decode cJ2_getChar_3b067 32 = .ok (.aload_n 0, 1) := by decide +kernel
theorem dJ2_getChar_3b067_33 : decode cJ2_getChar_3b067 33 = .ok (.iload_n 1, 1) := by decide +kernel
theorem dJ2_getChar_3b067_34 : decode cJ2_getChar_3b067 34 = .ok (.iinc 1 1, 3) := by decide +kernel
theorem dJ2_getChar_3b067_37 : decode cJ2_getChar_3b067 37 = .ok (.baload, 1) := by decide +kernel
theorem dJ2_getChar_3b067_38 : decode cJ2_getChar_3b067 38 = .ok (.sipush 255, 3) := by decide +kernel
theorem dJ2_getChar_3b067_41 : decode cJ2_getChar_3b067 41 = .ok (.iand, 1) := by decide +kernel
theorem dJ2_getChar_3b067_42 : decode cJ2_getChar_3b067 42 = .ok (.getstatic 59, 3) := by decide +kernel
theorem dJ2_getChar_3b067_45 : decode cJ2_getChar_3b067 45 = .ok (.ishl, 1) := by decide +kernel
theorem dJ2_getChar_3b067_46 : decode cJ2_getChar_3b067 46 = .ok (.aload_n 0, 1) := by decide +kernel
theorem dJ2_getChar_3b067_47 : decode cJ2_getChar_3b067 47 = .ok (.iload_n 1, 1) := by decide +kernel
theorem dJ2_getChar_3b067_48 : decode cJ2_getChar_3b067 48 = .ok (.baload, 1) := by decide +kernel
theorem dJ2_getChar_3b067_49 : decode cJ2_getChar_3b067 49 = .ok (.sipush 255, 3) := by decide +kernel
theorem dJ2_getChar_3b067_52 : decode cJ2_getChar_3b067 52 = .ok (.iand, 1) := by decide +kernel
theorem dJ2_getChar_3b067_53 : decode cJ2_getChar_3b067 53 = .ok (.getstatic 63, 3) := by decide +kernel
theorem dJ2_getChar_3b067_56 : decode cJ2_getChar_3b067 56 = .ok (.ishl, 1) := by decide +kernel
theorem dJ2_getChar_3b067_57 : decode cJ2_getChar_3b067 57 = .ok (.ior, 1) := by decide +kernel
theorem dJ2_getChar_3b067_58 : decode cJ2_getChar_3b067 58 = .ok (.i2c, 1) := by decide +kernel
theorem dJ2_getChar_3b067_59 : decode cJ2_getChar_3b067 59 = .ok (.ireturn, 1) := by decide +kernel
theorem dJ2_length_9d52b_0 : decode cJ2_length_9d52b 0 = .ok (.aload_n 0, 1) := by decide +kernel
theorem dJ2_length_9d52b_1 : decode cJ2_length_9d52b 1 = .ok (.arraylength, 1) := by decide +kernel
theorem dJ2_length_9d52b_2 : decode cJ2_length_9d52b 2 = .ok (.iconst 1, 1) := by decide +kernel
theorem dJ2_length_9d52b_3 : decode cJ2_length_9d52b 3 = .ok (.ishr, 1) := by decide +kernel
theorem dJ2_length_9d52b_4 : decode cJ2_length_9d52b 4 = .ok (.ireturn, 1) := by decide +kernel
theorem dJ2_indexOf_4cfef_0 : decode cJ2_indexOf_4cfef 0 = .ok (.iload_n 2, 1) := by decide +kernel
theorem dJ2_indexOf_4cfef_1 : decode cJ2_indexOf_4cfef 1 = .ok (.iconst 0, 1) := by decide +kernel
theorem dJ2_indexOf_4cfef_2 : decode cJ2_indexOf_4cfef 2 = .ok (.invokestatic 224, 3) := by decide +kernel
theorem dJ2_indexOf_4cfef_5 : decode cJ2_indexOf_4cfef 5 = .ok (.istore_n 2, 1) := by decide +kernel
theorem dJ2_indexOf_4cfef_6 : decode cJ2_indexOf_4cfef 6 = .ok (.iload_n 3, 1) := by decide +kernel
theorem dJ2_indexOf_4cfef_7 : decode cJ2_indexOf_4cfef 7 = .ok (.aload_n 0, 1) := by decide +kernel
theorem dJ2_indexOf_4cfef_8 : decode cJ2_indexOf_4cfef 8 = .ok (.arraylength, 1) := by decide +kernel
theorem dJ2_indexOf_4cfef_9 : decode cJ2_indexOf_4cfef 9 = .ok (.iconst 1, 1) := by decide +kernel
theorem dJ2_indexOf_4cfef_10 : decode cJ2_indexOf_4cfef 10 = .ok (.ishr, 1) := by decide +kernel
theorem dJ2_indexOf_4cfef_11 : decode cJ2_indexOf_4cfef 11 = .ok (.invokestatic 183, 3) := by decide +kernel
theorem dJ2_indexOf_4cfef_14 : decode cJ2_indexOf_4cfef 14 = .ok (.istore_n 3, 1) := by decide +kernel
theorem dJ2_indexOf_4cfef_15 : decode cJ2_indexOf_4cfef 15 = .ok (.iload_n 2, 1) := by decide +kernel
theorem dJ2_indexOf_4cfef_16 : decode cJ2_indexOf_4cfef 16 = .ok (.iload_n 3, 1) := by decide +kernel
theorem dJ2_indexOf_4cfef_17 : decode cJ2_indexOf_4cfef 17 = .ok (.if_icmp .lt 5, 3) := by decide +kernel
theorem dJ2_indexOf_4cfef_20 : decode cJ2_indexOf_4cfef 20 = .ok (.iconst (-1), 1) := by decide +kernel
theorem dJ2_indexOf_4cfef_21 : decode cJ2_indexOf_4cfef 21 = .ok (.ireturn, 1) := by decide +kernel
theorem dJ2_indexOf_4cfef_22 : decode cJ2_indexOf_4cfef 22 = .ok (.iload_n 1, 1) := by decide +kernel
theorem dJ2_indexOf_4cfef_23 : decode cJ2_indexOf_4cfef 23 = .ok (.ldc 227, 2) := by decide +kernel
theorem dJ2_indexOf_4cfef_25 : decode cJ2_indexOf_4cfef 25 = .ok (.if_icmp .ge 11, 3) := by decide +kernel
theorem dJ2_indexOf_4cfef_28 : decode cJ2_indexOf_4cfef 28 = .ok (.aload_n 0, 1) := by decide +kernel
theorem dJ2_indexOf_4cfef_29 : decode cJ2_indexOf_4cfef 29 = .ok (.iload_n 1, 1) := by decide +kernel
theorem dJ2_indexOf_4cfef_30 : decode cJ2_indexOf_4cfef 30 = .ok (.iload_n 2, 1) := by decide +kernel
theorem dJ2_indexOf_4cfef_31 : decode cJ2_indexOf_4cfef 31 = .ok (.iload_n 3, 1) := by decide +kernel
theorem dJ2_indexOf_4cfef_32 : decode cJ2_indexOf_4cfef 32 = .ok (.invokestatic 228, 3) := by decide +kernel
theorem dJ2_indexOf_4cfef_35 : decode cJ2_indexOf_4cfef 35 = .ok (.ireturn, 1) := by decide +kernel
theorem dJ2_indexOf_4cfef_36 : decode cJ2_indexOf_4cfef 36 = .ok (.aload_n 0, 1) := by decide +kernel
theorem dJ2_indexOf_4cfef_37 : decode cJ2_indexOf_4cfef 37 = .ok (.iload_n 1, 1) := by decide +kernel
theorem dJ2_indexOf_4cfef_38 : decode cJ2_indexOf_4cfef 38 = .ok (.iload_n 2, 1) := by decide +kernel
theorem dJ2_indexOf_4cfef_39 : decode cJ2_indexOf_4cfef 39 = .ok (.iload_n 3, 1) := by decide +kernel
theorem dJ2_indexOf_4cfef_40 : decode cJ2_indexOf_4cfef 40 = .ok (.invokestatic 232, 3) := by decide +kernel
theorem dJ2_indexOf_4cfef_43 : decode cJ2_indexOf_4cfef 43 = .ok (.ireturn, 1) := by decide +kernel
theorem dJ2_indexOfChar_4cfef_0 : decode cJ2_indexOfChar_4cfef 0 = .ok (.iload_n 2, 1) := by decide +kernel
theorem dJ2_indexOfChar_4cfef_1 : decode cJ2_indexOfChar_4cfef 1 = .ok (.iload_n 3, 1) := by decide +kernel
theorem dJ2_indexOfChar_4cfef_2 : decode cJ2_indexOfChar_4cfef 2 = .ok (.aload_n 0, 1) := by decide +kernel
theorem dJ2_indexOfChar_4cfef_3 : decode cJ2_indexOfChar_4cfef 3 = .ok (.invokestatic 96, 3) := by decide +kernel
theorem dJ2_indexOfChar_4cfef_6 : decode cJ2_indexOfChar_4cfef 6 = .ok (.aload_n 0, 1) := by decide +kernel
theorem dJ2_indexOfChar_4cfef_7 : decode cJ2_indexOfChar_4cfef 7 = .ok (.iload_n 1, 1) := by decide +kernel
theorem dJ2_indexOfChar_4cfef_8 : decode cJ2_indexOfChar_4cfef 8 = .ok (.iload_n 2, 1) := by decide +kernel
theorem dJ2_indexOfChar_4cfef_9 : decode cJ2_indexOfChar_4cfef 9 = .ok (.iload_n 3, 1) := by decide +kernel
theorem dJ2_indexOfChar_4cfef_10 : decode cJ2_indexOfChar_4cfef 10 = .ok (.invokestatic 244, 3) := by decide +kernel
theorem dJ2_indexOfChar_4cfef_13 : decode cJ2_indexOfChar_4cfef 13 = .ok (.ireturn, 1) := by decide +kernel
theorem dJ2_indexOfCharUnsafe_4cfef_0 : decode cJ2_indexOfCharUnsafe_4cfef 0 = .ok (.iload_n 2, 1) := by decide +kernel
theorem dJ2_indexOfCharUnsafe_4cfef_1 : decode cJ2_indexOfCharUnsafe_4cfef 1 = .ok (.istore 4, 2) := by decide +kernel
theorem dJ2_indexOfCharUnsafe_4cfef_3 : decode cJ2_indexOfCharUnsafe_4cfef 3 = .ok (.iload 4, 2) := by decide +kernel
theorem dJ2_indexOfCharUnsafe_4cfef_5 : decode cJ2_indexOfCharUnsafe_4cfef 5 = .ok (.iload_n 3, 1) := by decide +kernel
theorem dJ2_indexOfCharUnsafe_4cfef_6 : decode cJ2_indexOfCharUnsafe_4cfef 6 = .ok (.if_icmp .ge 22, 3) := by decide +kernel
theorem dJ2_indexOfCharUnsafe_4cfef_9 : decode cJ2_indexOfCharUnsafe_4cfef 9 = .ok (.aload_n 0, 1) := by decide +kernel
theorem dJ2_indexOfCharUnsafe_4cfef_10 : decode cJ2_indexOfCharUnsafe_4cfef 10 = .ok (.iload 4, 2) := by decide +kernel
theorem dJ2_indexOfCharUnsafe_4cfef_12 : decode cJ2_indexOfCharUnsafe_4cfef 12 = .ok (.invokestatic 71, 3) := by decide +kernel
theorem dJ2_indexOfCharUnsafe_4cfef_15 : decode cJ2_indexOfCharUnsafe_4cfef 15 = .ok (.iload_n 1, 1) := by decide +kernel
theorem dJ2_indexOfCharUnsafe_4cfef_16 : decode cJ2_indexOfCharUnsafe_4cfef 16 = .ok (.if_icmp .ne 6, 3) := by decide +kernel
theorem dJ2_indexOfCharUnsafe_4cfef_19 : decode cJ2_indexOfCharUnsafe_4cfef 19 = .ok (.iload 4, 2) := by decide +kernel
theorem dJ2_indexOfCharUnsafe_4cfef_21 : decode cJ2_indexOfCharUnsafe_4cfef 21 = .ok (.ireturn, 1) := by decide +kernel
theorem dJ2_indexOfCharUnsafe_4cfef_22 : decode cJ2_indexOfCharUnsafe_4cfef 22 = .ok (.iinc 4 1, 3) := by decide +kernel
theorem dJ2_indexOfCharUnsafe_4cfef_25 : decode cJ2_indexOfCharUnsafe_4cfef 25 = .ok (.goto (-22), 3) := by decide +kernel
theorem dJ2_indexOfCharUnsafe_4cfef_28 : decode cJ2_indexOfCharUnsafe_4cfef 28 = .ok (.iconst (-1), 1) := by decide +kernel
theorem dJ2_indexOfCharUnsafe_4cfef_29 : decode cJ2_indexOfCharUnsafe_4cfef 29 = .ok (.ireturn, 1) := by decide +kernel
theorem dJ2_indexOfSupplementary_4cfef_0 : decode cJ2_indexOfSupplementary_4cfef 0 = .ok (.iload_n 1, 1) := by decide +kernel
theorem dJ2_indexOfSupplementary_4cfef_1 : decode cJ2_indexOfSupplementary_4cfef 1 = .ok (.invokestatic 164, 3) := by decide +kernel
theorem dJ2_indexOfSupplementary_4cfef_4 : decode cJ2_indexOfSupplementary_4cfef 4 = .ok (.ifCond .eq 65, 3) := by decide +kernel
theorem dJ2_indexOfSupplementary_4cfef_7 : decode cJ2_indexOfSupplementary_4cfef 7 = .ok (.iload_n 1, 1) := by decide +kernel
theorem dJ2_indexOfSupplementary_4cfef_8 : decode cJ2_indexOfSupplementary_4cfef 8 = .ok (.invokestatic 157, 3) := by decide +kernel
theorem dJ2_indexOfSupplementary_4cfef_11 : decode cJ2_indexOfSupplementary_4cfef 11 = .ok (.istore 4, 2) := by decide +kernel
theorem dJ2_indexOfSupplementary_4cfef_13 : decode cJ2_indexOfSupplementary_4cfef 13 = .ok (.iload_n 1, 1) := by decide +kernel
theorem dJ2_indexOfSupplementary_4cfef_14 : decode cJ2_indexOfSupplementary_4cfef 14 = .ok (.invokestatic 161, 3) := by decide +kernel
theorem dJ2_indexOfSupplementary_4cfef_17 : decode cJ2_indexOfSupplementary_4cfef 17 = .ok (.istore 5, 2) := by decide +kernel
theorem dJ2_indexOfSupplementary_4cfef_19 : decode cJ2_indexOfSupplementary_4cfef 19 = .ok (.iload_n 2, 1) := by decide +kernel
theorem dJ2_indexOfSupplementary_4cfef_20 : decode cJ2_indexOfSupplementary_4cfef 20 = .ok (.iload_n 3, 1) := by decide +kernel
theorem dJ2_indexOfSupplementary_4cfef_21 : decode cJ2_indexOfSupplementary_4cfef 21 = .ok (.aload_n 0, 1) := by decide +kernel
theorem dJ2_indexOfSupplementary_4cfef_22 : decode cJ2_indexOfSupplementary_4cfef 22 = .ok (.invokestatic 96, 3) := by decide +kernel
theorem dJ2_indexOfSupplementary_4cfef_25 : decode cJ2_indexOfSupplementary_4cfef 25 = .ok (.iload_n 2, 1) := by decide +kernel
theorem dJ2_indexOfSupplementary_4cfef_26 : decode cJ2_indexOfSupplementary_4cfef 26 = .ok (.istore 6, 2) := by decide +kernel
theorem dJ2_indexOfSupplementary_4cfef_28 : decode cJ2_indexOfSupplementary_4cfef 28 = .ok (.iload 6, 2) := by decide +kernel
theorem dJ2_indexOfSupplementary_4cfef_30 : decode cJ2_indexOfSupplementary_4cfef 30 = .ok (.iload_n 3, 1) := by decide +kernel
theorem dJ2_indexOfSupplementary_4cfef_31 : decode cJ2_indexOfSupplementary_4cfef 31 = .ok (.iconst 1, 1) := by decide +kernel
theorem dJ2_indexOfSupplementary_4cfef_32 : decode cJ2_indexOfSupplementary_4cfef 32 = .ok (.isub, 1) := by decide +kernel
theorem dJ2_indexOfSupplementary_4cfef_33 : decode cJ2_indexOfSupplementary_4cfef 33 = .ok (.if_icmp .ge 36, 3) := by decide +kernel
theorem dJ2_indexOfSupplementary_4cfef_36 : decode cJ2_indexOfSupplementary_4cfef 36 = .ok (.aload_n 0, 1) := by decide +kernel
theorem dJ2_indexOfSupplementary_4cfef_37 : decode cJ2_indexOfSupplementary_4cfef 37 = .ok (.iload 6, 2) := by decide +kernel
theorem dJ2_indexOfSupplementary_4cfef_39 : decode cJ2_indexOfSupplementary_4cfef 39 = .ok (.invokestatic 71, 3) := by decide +kernel
theorem dJ2_indexOfSupplementary_4cfef_42 : decode cJ2_indexOfSupplementary_4cfef 42 = .ok (.iload 4, 2) := by decide +kernel
theorem dJ2_indexOfSupplementary_4cfef_44 : decode cJ2_indexOfSupplementary_4cfef 44 = .ok (.if_icmp .ne 19, 3) := by decide +kernel
theorem dJ2_indexOfSupplementary_4cfef_47 : decode cJ2_indexOfSupplementary_4cfef 47 = .ok (.aload_n 0, 1) := by decide +kernel
theorem dJ2_indexOfSupplementary_4cfef_48 : decode cJ2_indexOfSupplementary_4cfef 48 = .ok (.iload 6, 2) := by decide +kernel
theorem dJ2_indexOfSupplementary_4cfef_50 : decode cJ2_indexOfSupplementary_4cfef 50 = .ok (.iconst 1, 1) := by decide +kernel
theorem dJ2_indexOfSupplementary_4cfef_51 : decode cJ2_indexOfSupplementary_4cfef 51 = .ok (.iadd, 1) := by decide +kernel
theorem dJ2_indexOfSupplementary_4cfef_52 : decode cJ2_indexOfSupplementary_4cfef 52 = .ok (.invokestatic 71, 3) := by decide +kernel
theorem dJ2_indexOfSupplementary_4cfef_55 : decode cJ2_indexOfSupplementary_4cfef 55 = .ok (.iload 5, 2) := by decide +kernel
theorem dJ2_indexOfSupplementary_4cfef_57 : decode cJ2_indexOfSupplementary_4cfef 57 = .ok (.if_icmp .ne 6, 3) := by decide +kernel
theorem dJ2_indexOfSupplementary_4cfef_60 : decode cJ2_indexOfSupplementary_4cfef 60 = .ok (.iload 6, 2) := by decide +kernel
theorem dJ2_indexOfSupplementary_4cfef_62 : decode cJ2_indexOfSupplementary_4cfef 62 = .ok (.ireturn, 1) := by decide +kernel
theorem dJ2_indexOfSupplementary_4cfef_63 : decode cJ2_indexOfSupplementary_4cfef 63 = .ok (.iinc 6 1, 3) := by decide +kernel
theorem dJ2_indexOfSupplementary_4cfef_66 : decode cJ2_indexOfSupplementary_4cfef 66 = .ok (.goto (-38), 3) := by decide +kernel
theorem dJ2_indexOfSupplementary_4cfef_69 : decode cJ2_indexOfSupplementary_4cfef 69 = .ok (.iconst (-1), 1) := by decide +kernel
theorem dJ2_indexOfSupplementary_4cfef_70 : decode cJ2_indexOfSupplementary_4cfef 70 = .ok (.ireturn, 1) := by decide +kernel
theorem dJ2_charAt_3b067_0 : decode cJ2_charAt_3b067 0 = .ok (.iload_n 1, 1) := by decide +kernel
theorem dJ2_charAt_3b067_1 : decode cJ2_charAt_3b067 1 = .ok (.aload_n 0, 1) := by decide +kernel
theorem dJ2_charAt_3b067_2 : decode cJ2_charAt_3b067 2 = .ok (.invokestatic 67, 3) := by decide +kernel
theorem dJ2_charAt_3b067_5 : decode cJ2_charAt_3b067 5 = .ok (.aload_n 0, 1) := by decide +kernel
theorem dJ2_charAt_3b067_6 : decode cJ2_charAt_3b067 6 = .ok (.iload_n 1, 1) := by decide +kernel
theorem dJ2_charAt_3b067_7 : decode cJ2_charAt_3b067 7 = .ok (.invokestatic 71, 3) := by decide +kernel
theorem dJ2_charAt_3b067_10 : decode cJ2_charAt_3b067 10 = .ok (.ireturn, 1) := by decide +kernel
theorem dJ2_checkIndex_2214a_0 : decode cJ2_checkIndex_2214a 0 = .ok (.iload_n 0, 1) := by decide +kernel
theorem dJ2_checkIndex_2214a_1 : decode cJ2_checkIndex_2214a 1 = .ok (.aload_n 1, 1) := by decide +kernel
theorem dJ2_checkIndex_2214a_2 : decode cJ2_checkIndex_2214a 2 = .ok (.invokestatic 48, 3) := by decide +kernel
theorem dJ2_checkIndex_2214a_5 : decode cJ2_checkIndex_2214a 5 = .ok (.invokestatic 414, 3) := by decide +kernel
theorem dJ2_checkIndex_2214a_8 : decode cJ2_checkIndex_2214a 8 = .ok (.return_, 1) := by decide +kernel
theorem dJ2_checkBoundsBeginEnd_d044e_0 : decode cJ2_checkBoundsBeginEnd_d044e 0 = .ok (.iload_n 0, 1) := by decide +kernel
theorem dJ2_checkBoundsBeginEnd_d044e_1 : decode cJ2_checkBoundsBeginEnd_d044e 1 = .ok (.iload_n 1, 1) := by decide +kernel
theorem dJ2_checkBoundsBeginEnd_d044e_2 : decode cJ2_checkBoundsBeginEnd_d044e 2 = .ok (.aload_n 2, 1) := by decide +kernel
theorem dJ2_checkBoundsBeginEnd_d044e_3 : decode cJ2_checkBoundsBeginEnd_d044e 3 = .ok (.invokestatic 48, 3) := by decide +kernel
theorem dJ2_checkBoundsBeginEnd_d044e_6 : decode cJ2_checkBoundsBeginEnd_d044e 6 = .ok (.invokestatic 241, 3) := by decide +kernel
theorem dJ2_checkBoundsBeginEnd_d044e_9 : decode cJ2_checkBoundsBeginEnd_d044e 9 = .ok (.return_, 1) := by decide +kernel
theorem dJ3_checkIndex_8e157_0 : decode cJ3_checkIndex_8e157 0 = .ok (.iload_n 0, 1) := by decide +kernel
theorem dJ3_checkIndex_8e157_1 : decode cJ3_checkIndex_8e157 1 = .ok (.ifCond .lt 8, 3) := by decide +kernel
theorem dJ3_checkIndex_8e157_4 : decode cJ3_checkIndex_8e157 4 = .ok (.iload_n 0, 1) := by decide +kernel
theorem dJ3_checkIndex_8e157_5 : decode cJ3_checkIndex_8e157 5 = .ok (.iload_n 1, 1) := by decide +kernel
theorem dJ3_checkIndex_8e157_6 : decode cJ3_checkIndex_8e157 6 = .ok (.if_icmp .lt 10, 3) := by decide +kernel
theorem dJ3_checkIndex_8e157_9 : decode cJ3_checkIndex_8e157 9 = .ok (.aload_n 2, 1) := by decide +kernel
theorem dJ3_checkIndex_8e157_10 : decode cJ3_checkIndex_8e157 10 = .ok (.iload_n 0, 1) := by decide +kernel
theorem dJ3_checkIndex_8e157_11 : decode cJ3_checkIndex_8e157 11 = .ok (.iload_n 1, 1) := by decide +kernel
theorem dJ3_checkIndex_8e157_12 : decode cJ3_checkIndex_8e157 12 = .ok (.invokestatic 95, 3) := by decide +kernel
theorem dJ3_checkIndex_8e157_15 : decode cJ3_checkIndex_8e157 15 = .ok (.athrow, 1) := by decide +kernel
theorem dJ3_checkIndex_8e157_16 : decode cJ3_checkIndex_8e157 16 = .ok (.iload_n 0, 1) := by decide +kernel
theorem dJ3_checkIndex_8e157_17 : decode cJ3_checkIndex_8e157 17 = .ok (.ireturn, 1) := by decide +kernel
theorem dJ3_checkFromToIndex_8c36e_0 : decode cJ3_checkFromToIndex_8c36e 0 = .ok (.iload_n 0, 1) := by decide +kernel
theorem dJ3_checkFromToIndex_8c36e_1 : decode cJ3_checkFromToIndex_8c36e 1 = .ok (.ifCond .lt 13, 3) := by decide +kernel
theorem dJ3_checkFromToIndex_8c36e_4 : decode cJ3_checkFromToIndex_8c36e 4 = .ok (.iload_n 0, 1) := by decide +kernel
theorem dJ3_checkFromToIndex_8c36e_5 : decode cJ3_checkFromToIndex_8c36e 5 = .ok (.iload_n 1, 1) := by decide +kernel
theorem dJ3_checkFromToIndex_8c36e_6 : decode cJ3_checkFromToIndex_8c36e 6 = .ok (.if_icmp .gt 8, 3) := by decide +kernel
theorem dJ3_checkFromToIndex_8c36e_9 : decode cJ3_checkFromToIndex_8c36e 9 = .ok (.iload_n 1, 1) := by decide +kernel
theorem dJ3_checkFromToIndex_8c36e_10 : decode cJ3_checkFromToIndex_8c36e 10 = .ok (.iload_n 2, 1) := by decide +kernel
theorem dJ3_checkFromToIndex_8c36e_11 : decode cJ3_checkFromToIndex_8c36e 11 = .ok (.if_icmp .le 11, 3) := by decide +kernel
theorem dJ3_checkFromToIndex_8c36e_14 : decode cJ3_checkFromToIndex_8c36e 14 = .ok (.aload_n 3, 1) := by decide +kernel
theorem dJ3_checkFromToIndex_8c36e_15 : decode cJ3_checkFromToIndex_8c36e 15 = .ok (.iload_n 0, 1) := by decide +kernel
theorem dJ3_checkFromToIndex_8c36e_16 : decode cJ3_checkFromToIndex_8c36e 16 = .ok (.iload_n 1, 1) := by decide +kernel
theorem dJ3_checkFromToIndex_8c36e_17 : decode cJ3_checkFromToIndex_8c36e 17 = .ok (.iload_n 2, 1) := by decide +kernel
theorem dJ3_checkFromToIndex_8c36e_18 : decode cJ3_checkFromToIndex_8c36e 18 = .ok (.invokestatic 99, 3) := by decide +kernel
theorem dJ3_checkFromToIndex_8c36e_21 : decode cJ3_checkFromToIndex_8c36e 21 = .ok (.athrow, 1) := by decide +kernel
theorem dJ3_checkFromToIndex_8c36e_22 : decode cJ3_checkFromToIndex_8c36e 22 = .ok (.iload_n 0, 1) := by decide +kernel
theorem dJ3_checkFromToIndex_8c36e_23 : decode cJ3_checkFromToIndex_8c36e 23 = .ok (.ireturn, 1) := by decide +kernel
theorem dL_law_0 : decode cL_law 0 = .ok (.new 7, 3) := by decide +kernel
theorem dL_law_3 : decode cL_law 3 = .ok (.dup, 1) := by decide +kernel
theorem dL_law_4 : decode cL_law 4 = .ok (.invokespecial 9, 3) := by decide +kernel
theorem dL_law_7 : decode cL_law 7 = .ok (.astore_n 1, 1) := by decide +kernel
theorem dL_law_8 : decode cL_law 8 = .ok (.new 10, 3) := by decide +kernel
theorem dL_law_11 : decode cL_law 11 = .ok (.dup, 1) := by decide +kernel
theorem dL_law_12 : decode cL_law 12 = .ok (.invokespecial 12, 3) := by decide +kernel
theorem dL_law_15 : decode cL_law 15 = .ok (.astore_n 2, 1) := by decide +kernel
theorem dL_law_16 : decode cL_law 16 = .ok (.iconst 0, 1) := by decide +kernel
theorem dL_law_17 : decode cL_law 17 = .ok (.istore_n 3, 1) := by decide +kernel
theorem dL_law_18 : decode cL_law 18 = .ok (.iload_n 3, 1) := by decide +kernel
theorem dL_law_19 : decode cL_law 19 = .ok (.aload_n 0, 1) := by decide +kernel
theorem dL_law_20 : decode cL_law 20 = .ok (.arraylength, 1) := by decide +kernel
theorem dL_law_21 : decode cL_law 21 = .ok (.iconst 5, 1) := by decide +kernel
theorem dL_law_22 : decode cL_law 22 = .ok (.isub, 1) := by decide +kernel
theorem dL_law_23 : decode cL_law 23 = .ok (.if_icmp .gt 1105, 3) := by decide +kernel
theorem dL_law_26 : decode cL_law 26 = .ok (.aload_n 0, 1) := by decide +kernel
theorem dL_law_27 : decode cL_law 27 = .ok (.iload_n 3, 1) := by decide +kernel
theorem dL_law_28 : decode cL_law 28 = .ok (.iaload, 1) := by decide +kernel
theorem dL_law_29 : decode cL_law 29 = .ok (.bipush 63, 2) := by decide +kernel
theorem dL_law_31 : decode cL_law 31 = .ok (.iand, 1) := by decide +kernel
theorem dL_law_32 : decode cL_law 32 = .ok (.tableswitch 1090 0 35 #[160, 183, 196, 229, 262, 295, 318, 341, 384, 397, 420, 443, 466, 499, 532, 575, 588, 611, 634, 657, 680, 703, 726, 759, 782, 805, 838, 892, 916, 949, 972, 985, 998, 1041, 1054, 1067], 160) := by decide +kernel
theorem dL_law_192 : decode cL_law 192 = .ok (.aload_n 1, 1) := by decide +kernel
theorem dL_law_193 : decode cL_law 193 = .ok (.aload_n 0, 1) := by decide +kernel
theorem dL_law_194 : decode cL_law 194 = .ok (.iload_n 3, 1) := by decide +kernel
theorem dL_law_195 : decode cL_law 195 = .ok (.iconst 1, 1) := by decide +kernel
theorem dL_law_196 : decode cL_law 196 = .ok (.iadd, 1) := by decide +kernel
theorem dL_law_197 : decode cL_law 197 = .ok (.iaload, 1) := by decide +kernel
theorem dL_law_198 : decode cL_law 198 = .ok (.invokevirtual 13, 3) := by decide +kernel
theorem dL_law_201 : decode cL_law 201 = .ok (.aload_n 2, 1) := by decide +kernel
theorem dL_law_202 : decode cL_law 202 = .ok (.aload_n 0, 1) := by decide +kernel
theorem dL_law_203 : decode cL_law 203 = .ok (.iload_n 3, 1) := by decide +kernel
theorem dL_law_204 : decode cL_law 204 = .ok (.iconst 1, 1) := by decide +kernel
theorem dL_law_205 : decode cL_law 205 = .ok (.iadd, 1) := by decide +kernel
theorem dL_law_206 : decode cL_law 206 = .ok (.iaload, 1) := by decide +kernel
theorem dL_law_207 : decode cL_law 207 = .ok (.invokevirtual 17, 3) := by decide +kernel
theorem dL_law_210 : decode cL_law 210 = .ok (.if_icmp .eq 912, 3) := by decide +kernel
theorem dL_law_213 : decode cL_law 213 = .ok (.iconst 0, 1) := by decide +kernel
theorem dL_law_214 : decode cL_law 214 = .ok (.ireturn, 1) := by decide +kernel
theorem dL_law_215 : decode cL_law 215 = .ok (.aload_n 1, 1) := by decide +kernel
theorem dL_law_216 : decode cL_law 216 = .ok (.invokevirtual 18, 3) := by decide +kernel
theorem dL_law_219 : decode cL_law 219 = .ok (.aload_n 2, 1) := by decide +kernel
theorem dL_law_220 : decode cL_law 220 = .ok (.invokevirtual 22, 3) := by decide +kernel
theorem dL_law_223 : decode cL_law 223 = .ok (.if_icmp .eq 899, 3) := by decide +kernel
theorem dL_law_226 : decode cL_law 226 = .ok (.iconst 0, 1) := by decide +kernel
theorem dL_law_227 : decode cL_law 227 = .ok (.ireturn, 1) := by decide +kernel
theorem dL_law_228 : decode cL_law 228 = .ok (.aload_n 1, 1) := by decide +kernel
theorem dL_law_229 : decode cL_law 229 = .ok (.aload_n 0, 1) := by decide +kernel
theorem dL_law_230 : decode cL_law 230 = .ok (.iload_n 3, 1) := by decide +kernel
theorem dL_law_231 : decode cL_law 231 = .ok (.iconst 1, 1) := by decide +kernel
theorem dL_law_232 : decode cL_law 232 = .ok (.iadd, 1) := by decide +kernel
theorem dL_law_233 : decode cL_law 233 = .ok (.iaload, 1) := by decide +kernel
theorem dL_law_234 : decode cL_law 234 = .ok (.aload_n 0, 1) := by decide +kernel
theorem dL_law_235 : decode cL_law 235 = .ok (.iload_n 3, 1) := by decide +kernel
theorem dL_law_236 : decode cL_law 236 = .ok (.iconst 2, 1) := by decide +kernel
theorem dL_law_237 : decode cL_law 237 = .ok (.iadd, 1) := by decide +kernel
theorem dL_law_238 : decode cL_law 238 = .ok (.iaload, 1) := by decide +kernel
theorem dL_law_239 : decode cL_law 239 = .ok (.invokevirtual 23, 3) := by decide +kernel
theorem dL_law_242 : decode cL_law 242 = .ok (.aload_n 2, 1) := by decide +kernel
theorem dL_law_243 : decode cL_law 243 = .ok (.aload_n 0, 1) := by decide +kernel
theorem dL_law_244 : decode cL_law 244 = .ok (.iload_n 3, 1) := by decide +kernel
theorem dL_law_245 : decode cL_law 245 = .ok (.iconst 1, 1) := by decide +kernel
theorem dL_law_246 : decode cL_law 246 = .ok (.iadd, 1) := by decide +kernel
theorem dL_law_247 : decode cL_law 247 = .ok (.iaload, 1) := by decide +kernel
theorem dL_law_248 : decode cL_law 248 = .ok (.aload_n 0, 1) := by decide +kernel
theorem dL_law_249 : decode cL_law 249 = .ok (.iload_n 3, 1) := by decide +kernel
theorem dL_law_250 : decode cL_law 250 = .ok (.iconst 2, 1) := by decide +kernel
theorem dL_law_251 : decode cL_law 251 = .ok (.iadd, 1) := by decide +kernel
theorem dL_law_252 : decode cL_law 252 = .ok (.iaload, 1) := by decide +kernel
theorem dL_law_253 : decode cL_law 253 = .ok (.invokevirtual 27, 3) := by decide +kernel
theorem dL_law_256 : decode cL_law 256 = .ok (.if_icmp .eq 866, 3) := by decide +kernel
theorem dL_law_259 : decode cL_law 259 = .ok (.iconst 0, 1) := by decide +kernel
theorem dL_law_260 : decode cL_law 260 = .ok (.ireturn, 1) := by decide +kernel
theorem dL_law_261 : decode cL_law 261 = .ok (.aload_n 1, 1) := by decide +kernel
theorem dL_law_262 : decode cL_law 262 = .ok (.aload_n 0, 1) := by decide +kernel
theorem dL_law_263 : decode cL_law 263 = .ok (.iload_n 3, 1) := by decide +kernel
theorem dL_law_264 : decode cL_law 264 = .ok (.iconst 1, 1) := by decide +kernel
theorem dL_law_265 : decode cL_law 265 = .ok (.iadd, 1) := by decide +kernel
theorem dL_law_266 : decode cL_law 266 = .ok (.iaload, 1) := by decide +kernel
theorem dL_law_267 : decode cL_law 267 = .ok (.aload_n 0, 1) := by decide +kernel
theorem dL_law_268 : decode cL_law 268 = .ok (.iload_n 3, 1) := by decide +kernel
theorem dL_law_269 : decode cL_law 269 = .ok (.iconst 2, 1) := by decide +kernel
theorem dL_law_270 : decode cL_law 270 = .ok (.iadd, 1) := by decide +kernel
theorem dL_law_271 : decode cL_law 271 = .ok (.iaload, 1) := by decide +kernel
theorem dL_law_272 : decode cL_law 272 = .ok (.invokevirtual 28, 3) := by decide +kernel
theorem dL_law_275 : decode cL_law 275 = .ok (.aload_n 2, 1) := by decide +kernel
theorem dL_law_276 : decode cL_law 276 = .ok (.aload_n 0, 1) := by decide +kernel
theorem dL_law_277 : decode cL_law 277 = .ok (.iload_n 3, 1) := by decide +kernel
theorem dL_law_278 : decode cL_law 278 = .ok (.iconst 1, 1) := by decide +kernel
theorem dL_law_279 : decode cL_law 279 = .ok (.iadd, 1) := by decide +kernel
theorem dL_law_280 : decode cL_law 280 = .ok (.iaload, 1) := by decide +kernel
theorem dL_law_281 : decode cL_law 281 = .ok (.aload_n 0, 1) := by decide +kernel
theorem dL_law_282 : decode cL_law 282 = .ok (.iload_n 3, 1) := by decide +kernel
theorem dL_law_283 : decode cL_law 283 = .ok (.iconst 2, 1) := by decide +kernel
theorem dL_law_284 : decode cL_law 284 = .ok (.iadd, 1) := by decide +kernel
theorem dL_law_285 : decode cL_law 285 = .ok (.iaload, 1) := by decide +kernel
theorem dL_law_286 : decode cL_law 286 = .ok (.invokevirtual 31, 3) := by decide +kernel
theorem dL_law_289 : decode cL_law 289 = .ok (.if_icmp .eq 833, 3) := by decide +kernel
theorem dL_law_292 : decode cL_law 292 = .ok (.iconst 0, 1) := by decide +kernel
theorem dL_law_293 : decode cL_law 293 = .ok (.ireturn, 1) := by decide +kernel
theorem dL_law_294 : decode cL_law 294 = .ok (.aload_n 1, 1) := by decide +kernel
theorem dL_law_295 : decode cL_law 295 = .ok (.aload_n 0, 1) := by decide +kernel
theorem dL_law_296 : decode cL_law 296 = .ok (.iload_n 3, 1) := by decide +kernel
theorem dL_law_297 : decode cL_law 297 = .ok (.iconst 1, 1) := by decide +kernel
theorem dL_law_298 : decode cL_law 298 = .ok (.iadd, 1) := by decide +kernel
theorem dL_law_299 : decode cL_law 299 = .ok (.iaload, 1) := by decide +kernel
theorem dL_law_300 : decode cL_law 300 = .ok (.aload_n 0, 1) := by decide +kernel
theorem dL_law_301 : decode cL_law 301 = .ok (.iload_n 3, 1) := by decide +kernel
theorem dL_law_302 : decode cL_law 302 = .ok (.iconst 2, 1) := by decide +kernel
theorem dL_law_303 : decode cL_law 303 = .ok (.iadd, 1) := by decide +kernel
theorem dL_law_304 : decode cL_law 304 = .ok (.iaload, 1) := by decide +kernel
theorem dL_law_305 : decode cL_law 305 = .ok (.invokevirtual 32, 3) := by decide +kernel
theorem dL_law_308 : decode cL_law 308 = .ok (.aload_n 2, 1) := by decide +kernel
theorem dL_law_309 : decode cL_law 309 = .ok (.aload_n 0, 1) := by decide +kernel
theorem dL_law_310 : decode cL_law 310 = .ok (.iload_n 3, 1) := by decide +kernel
theorem dL_law_311 : decode cL_law 311 = .ok (.iconst 1, 1) := by decide +kernel
theorem dL_law_312 : decode cL_law 312 = .ok (.iadd, 1) := by decide +kernel
theorem dL_law_313 : decode cL_law 313 = .ok (.iaload, 1) := by decide +kernel
theorem dL_law_314 : decode cL_law 314 = .ok (.aload_n 0, 1) := by decide +kernel
theorem dL_law_315 : decode cL_law 315 = .ok (.iload_n 3, 1) := by decide +kernel
theorem dL_law_316 : decode cL_law 316 = .ok (.iconst 2, 1) := by decide +kernel
theorem dL_law_317 : decode cL_law 317 = .ok (.iadd, 1) := by decide +kernel
theorem dL_law_318 : decode cL_law 318 = .ok (.iaload, 1) := by decide +kernel
theorem dL_law_319 : decode cL_law 319 = .ok (.invokevirtual 35, 3) := by decide +kernel
theorem dL_law_322 : decode cL_law 322 = .ok (.if_icmp .eq 800, 3) := by decide +kernel
theorem dL_law_325 : decode cL_law 325 = .ok (.iconst 0, 1) := by decide +kernel
theorem dL_law_326 : decode cL_law 326 = .ok (.ireturn, 1) := by decide +kernel
theorem dL_law_327 : decode cL_law 327 = .ok (.aload_n 1, 1) := by decide +kernel
theorem dL_law_328 : decode cL_law 328 = .ok (.aload_n 0, 1) := by decide +kernel
theorem dL_law_329 : decode cL_law 329 = .ok (.iload_n 3, 1) := by decide +kernel
theorem dL_law_330 : decode cL_law 330 = .ok (.iconst 1, 1) := by decide +kernel
theorem dL_law_331 : decode cL_law 331 = .ok (.iadd, 1) := by decide +kernel
theorem dL_law_332 : decode cL_law 332 = .ok (.iaload, 1) := by decide +kernel
theorem dL_law_333 : decode cL_law 333 = .ok (.invokevirtual 36, 3) := by decide +kernel
theorem dL_law_336 : decode cL_law 336 = .ok (.aload_n 2, 1) := by decide +kernel
theorem dL_law_337 : decode cL_law 337 = .ok (.aload_n 0, 1) := by decide +kernel
theorem dL_law_338 : decode cL_law 338 = .ok (.iload_n 3, 1) := by decide +kernel
theorem dL_law_339 : decode cL_law 339 = .ok (.iconst 1, 1) := by decide +kernel
theorem dL_law_340 : decode cL_law 340 = .ok (.iadd, 1) := by decide +kernel
theorem dL_law_341 : decode cL_law 341 = .ok (.iaload, 1) := by decide +kernel
theorem dL_law_342 : decode cL_law 342 = .ok (.invokevirtual 39, 3) := by decide +kernel
theorem dL_law_345 : decode cL_law 345 = .ok (.if_icmp .eq 777, 3) := by decide +kernel
theorem dL_law_348 : decode cL_law 348 = .ok (.iconst 0, 1) := by decide +kernel
theorem dL_law_349 : decode cL_law 349 = .ok (.ireturn, 1) := by decide +kernel
theorem dL_law_350 : decode cL_law 350 = .ok (.aload_n 1, 1) := by decide +kernel
theorem dL_law_351 : decode cL_law 351 = .ok (.aload_n 0, 1) := by decide +kernel
theorem dL_law_352 : decode cL_law 352 = .ok (.iload_n 3, 1) := by decide +kernel
theorem dL_law_353 : decode cL_law 353 = .ok (.iconst 1, 1) := by decide +kernel
theorem dL_law_354 : decode cL_law 354 = .ok (.iadd, 1) := by decide +kernel
theorem dL_law_355 : decode cL_law 355 = .ok (.iaload, 1) := by decide +kernel
theorem dL_law_356 : decode cL_law 356 = .ok (.invokevirtual 40, 3) := by decide +kernel
theorem dL_law_359 : decode cL_law 359 = .ok (.aload_n 2, 1) := by decide +kernel
theorem dL_law_360 : decode cL_law 360 = .ok (.aload_n 0, 1) := by decide +kernel
theorem dL_law_361 : decode cL_law 361 = .ok (.iload_n 3, 1) := by decide +kernel
theorem dL_law_362 : decode cL_law 362 = .ok (.iconst 1, 1) := by decide +kernel
theorem dL_law_363 : decode cL_law 363 = .ok (.iadd, 1) := by decide +kernel
theorem dL_law_364 : decode cL_law 364 = .ok (.iaload, 1) := by decide +kernel
theorem dL_law_365 : decode cL_law 365 = .ok (.invokevirtual 43, 3) := by decide +kernel
theorem dL_law_368 : decode cL_law 368 = .ok (.if_icmp .eq 754, 3) := by decide +kernel
theorem dL_law_371 : decode cL_law 371 = .ok (.iconst 0, 1) := by decide +kernel
theorem dL_law_372 : decode cL_law 372 = .ok (.ireturn, 1) := by decide +kernel
theorem dL_law_373 : decode cL_law 373 = .ok (.aload_n 1, 1) := by decide +kernel
theorem dL_law_374 : decode cL_law 374 = .ok (.aload_n 0, 1) := by decide +kernel
theorem dL_law_375 : decode cL_law 375 = .ok (.iload_n 3, 1) := by decide +kernel
theorem dL_law_376 : decode cL_law 376 = .ok (.iconst 1, 1) := by decide +kernel
theorem dL_law_377 : decode cL_law 377 = .ok (.iadd, 1) := by decide +kernel
theorem dL_law_378 : decode cL_law 378 = .ok (.iaload, 1) := by decide +kernel
theorem dL_law_379 : decode cL_law 379 = .ok (.aload_n 0, 1) := by decide +kernel
theorem dL_law_380 : decode cL_law 380 = .ok (.iload_n 3, 1) := by decide +kernel
theorem dL_law_381 : decode cL_law 381 = .ok (.iconst 2, 1) := by decide +kernel
theorem dL_law_382 : decode cL_law 382 = .ok (.iadd, 1) := by decide +kernel
theorem dL_law_383 : decode cL_law 383 = .ok (.iaload, 1) := by decide +kernel
theorem dL_law_384 : decode cL_law 384 = .ok (.aload_n 0, 1) := by decide +kernel
theorem dL_law_385 : decode cL_law 385 = .ok (.iload_n 3, 1) := by decide +kernel
theorem dL_law_386 : decode cL_law 386 = .ok (.iconst 3, 1) := by decide +kernel
theorem dL_law_387 : decode cL_law 387 = .ok (.iadd, 1) := by decide +kernel
theorem dL_law_388 : decode cL_law 388 = .ok (.iaload, 1) := by decide +kernel
theorem dL_law_389 : decode cL_law 389 = .ok (.invokevirtual 44, 3) := by decide +kernel
theorem dL_law_392 : decode cL_law 392 = .ok (.aload_n 2, 1) := by decide +kernel
theorem dL_law_393 : decode cL_law 393 = .ok (.aload_n 0, 1) := by decide +kernel
theorem dL_law_394 : decode cL_law 394 = .ok (.iload_n 3, 1) := by decide +kernel
theorem dL_law_395 : decode cL_law 395 = .ok (.iconst 1, 1) := by decide +kernel
theorem dL_law_396 : decode cL_law 396 = .ok (.iadd, 1) := by decide +kernel
theorem dL_law_397 : decode cL_law 397 = .ok (.iaload, 1) := by decide +kernel
theorem dL_law_398 : decode cL_law 398 = .ok (.aload_n 0, 1) := by decide +kernel
theorem dL_law_399 : decode cL_law 399 = .ok (.iload_n 3, 1) := by decide +kernel
theorem dL_law_400 : decode cL_law 400 = .ok (.iconst 2, 1) := by decide +kernel
theorem dL_law_401 : decode cL_law 401 = .ok (.iadd, 1) := by decide +kernel
theorem dL_law_402 : decode cL_law 402 = .ok (.iaload, 1) := by decide +kernel
theorem dL_law_403 : decode cL_law 403 = .ok (.aload_n 0, 1) := by decide +kernel
theorem dL_law_404 : decode cL_law 404 = .ok (.iload_n 3, 1) := by decide +kernel
theorem dL_law_405 : decode cL_law 405 = .ok (.iconst 3, 1) := by decide +kernel
theorem dL_law_406 : decode cL_law 406 = .ok (.iadd, 1) := by decide +kernel
theorem dL_law_407 : decode cL_law 407 = .ok (.iaload, 1) := by decide +kernel
theorem dL_law_408 : decode cL_law 408 = .ok (.invokevirtual 48, 3) := by decide +kernel
theorem dL_law_411 : decode cL_law 411 = .ok (.if_icmp .eq 711, 3) := by decide +kernel
theorem dL_law_414 : decode cL_law 414 = .ok (.iconst 0, 1) := by decide +kernel
theorem dL_law_415 : decode cL_law 415 = .ok (.ireturn, 1) := by decide +kernel
theorem dL_law_416 : decode cL_law 416 = .ok (.aload_n 1, 1) := by decide +kernel
theorem dL_law_417 : decode cL_law 417 = .ok (.invokevirtual 49, 3) := by decide +kernel
theorem dL_law_420 : decode cL_law 420 = .ok (.aload_n 2, 1) := by decide +kernel
theorem dL_law_421 : decode cL_law 421 = .ok (.invokevirtual 52, 3) := by decide +kernel
theorem dL_law_424 : decode cL_law 424 = .ok (.if_icmp .eq 698, 3) := by decide +kernel
theorem dL_law_427 : decode cL_law 427 = .ok (.iconst 0, 1) := by decide +kernel
theorem dL_law_428 : decode cL_law 428 = .ok (.ireturn, 1) := by decide +kernel
theorem dL_law_429 : decode cL_law 429 = .ok (.aload_n 1, 1) := by decide +kernel
theorem dL_law_430 : decode cL_law 430 = .ok (.aload_n 0, 1) := by decide +kernel
theorem dL_law_431 : decode cL_law 431 = .ok (.iload_n 3, 1) := by decide +kernel
theorem dL_law_432 : decode cL_law 432 = .ok (.iconst 1, 1) := by decide +kernel
theorem dL_law_433 : decode cL_law 433 = .ok (.iadd, 1) := by decide +kernel
theorem dL_law_434 : decode cL_law 434 = .ok (.iaload, 1) := by decide +kernel
theorem dL_law_435 : decode cL_law 435 = .ok (.invokevirtual 53, 3) := by decide +kernel
theorem dL_law_438 : decode cL_law 438 = .ok (.aload_n 2, 1) := by decide +kernel
theorem dL_law_439 : decode cL_law 439 = .ok (.aload_n 0, 1) := by decide +kernel
theorem dL_law_440 : decode cL_law 440 = .ok (.iload_n 3, 1) := by decide +kernel
theorem dL_law_441 : decode cL_law 441 = .ok (.iconst 1, 1) := by decide +kernel
theorem dL_law_442 : decode cL_law 442 = .ok (.iadd, 1) := by decide +kernel
theorem dL_law_443 : decode cL_law 443 = .ok (.iaload, 1) := by decide +kernel
theorem dL_law_444 : decode cL_law 444 = .ok (.invokevirtual 56, 3) := by decide +kernel
theorem dL_law_447 : decode cL_law 447 = .ok (.if_icmp .eq 675, 3) := by decide +kernel
theorem dL_law_450 : decode cL_law 450 = .ok (.iconst 0, 1) := by decide +kernel
theorem dL_law_451 : decode cL_law 451 = .ok (.ireturn, 1) := by decide +kernel
theorem dL_law_452 : decode cL_law 452 = .ok (.aload_n 1, 1) := by decide +kernel
theorem dL_law_453 : decode cL_law 453 = .ok (.aload_n 0, 1) := by decide +kernel
theorem dL_law_454 : decode cL_law 454 = .ok (.iload_n 3, 1) := by decide +kernel
theorem dL_law_455 : decode cL_law 455 = .ok (.iconst 1, 1) := by decide +kernel
theorem dL_law_456 : decode cL_law 456 = .ok (.iadd, 1) := by decide +kernel
theorem dL_law_457 : decode cL_law 457 = .ok (.iaload, 1) := by decide +kernel
theorem dL_law_458 : decode cL_law 458 = .ok (.invokevirtual 57, 3) := by decide +kernel
theorem dL_law_461 : decode cL_law 461 = .ok (.aload_n 2, 1) := by decide +kernel
theorem dL_law_462 : decode cL_law 462 = .ok (.aload_n 0, 1) := by decide +kernel
theorem dL_law_463 : decode cL_law 463 = .ok (.iload_n 3, 1) := by decide +kernel
theorem dL_law_464 : decode cL_law 464 = .ok (.iconst 1, 1) := by decide +kernel
theorem dL_law_465 : decode cL_law 465 = .ok (.iadd, 1) := by decide +kernel
theorem dL_law_466 : decode cL_law 466 = .ok (.iaload, 1) := by decide +kernel
theorem dL_law_467 : decode cL_law 467 = .ok (.invokevirtual 60, 3) := by decide +kernel
theorem dL_law_470 : decode cL_law 470 = .ok (.if_icmp .eq 652, 3) := by decide +kernel
theorem dL_law_473 : decode cL_law 473 = .ok (.iconst 0, 1) := by decide +kernel
theorem dL_law_474 : decode cL_law 474 = .ok (.ireturn, 1) := by decide +kernel
theorem dL_law_475 : decode cL_law 475 = .ok (.aload_n 1, 1) := by decide +kernel
theorem dL_law_476 : decode cL_law 476 = .ok (.aload_n 0, 1) := by decide +kernel
theorem dL_law_477 : decode cL_law 477 = .ok (.iload_n 3, 1) := by decide +kernel
theorem dL_law_478 : decode cL_law 478 = .ok (.iconst 1, 1) := by decide +kernel
theorem dL_law_479 : decode cL_law 479 = .ok (.iadd, 1) := by decide +kernel
theorem dL_law_480 : decode cL_law 480 = .ok (.iaload, 1) := by decide +kernel
theorem dL_law_481 : decode cL_law 481 = .ok (.invokevirtual 61, 3) := by decide +kernel
theorem dL_law_484 : decode cL_law 484 = .ok (.aload_n 2, 1) := by decide +kernel
theorem dL_law_485 : decode cL_law 485 = .ok (.aload_n 0, 1) := by decide +kernel
theorem dL_law_486 : decode cL_law 486 = .ok (.iload_n 3, 1) := by decide +kernel
theorem dL_law_487 : decode cL_law 487 = .ok (.iconst 1, 1) := by decide +kernel
theorem dL_law_488 : decode cL_law 488 = .ok (.iadd, 1) := by decide +kernel
theorem dL_law_489 : decode cL_law 489 = .ok (.iaload, 1) := by decide +kernel
theorem dL_law_490 : decode cL_law 490 = .ok (.invokevirtual 64, 3) := by decide +kernel
theorem dL_law_493 : decode cL_law 493 = .ok (.if_icmp .eq 629, 3) := by decide +kernel
theorem dL_law_496 : decode cL_law 496 = .ok (.iconst 0, 1) := by decide +kernel
theorem dL_law_497 : decode cL_law 497 = .ok (.ireturn, 1) := by decide +kernel
theorem dL_law_498 : decode cL_law 498 = .ok (.aload_n 1, 1) := by decide +kernel
theorem dL_law_499 : decode cL_law 499 = .ok (.aload_n 0, 1) := by decide +kernel
theorem dL_law_500 : decode cL_law 500 = .ok (.iload_n 3, 1) := by decide +kernel
theorem dL_law_501 : decode cL_law 501 = .ok (.iconst 1, 1) := by decide +kernel
theorem dL_law_502 : decode cL_law 502 = .ok (.iadd, 1) := by decide +kernel
theorem dL_law_503 : decode cL_law 503 = .ok (.iaload, 1) := by decide +kernel
theorem dL_law_504 : decode cL_law 504 = .ok (.aload_n 0, 1) := by decide +kernel
theorem dL_law_505 : decode cL_law 505 = .ok (.iload_n 3, 1) := by decide +kernel
theorem dL_law_506 : decode cL_law 506 = .ok (.iconst 2, 1) := by decide +kernel
theorem dL_law_507 : decode cL_law 507 = .ok (.iadd, 1) := by decide +kernel
theorem dL_law_508 : decode cL_law 508 = .ok (.iaload, 1) := by decide +kernel
theorem dL_law_509 : decode cL_law 509 = .ok (.invokevirtual 65, 3) := by decide +kernel
theorem dL_law_512 : decode cL_law 512 = .ok (.aload_n 2, 1) := by decide +kernel
theorem dL_law_513 : decode cL_law 513 = .ok (.aload_n 0, 1) := by decide +kernel
theorem dL_law_514 : decode cL_law 514 = .ok (.iload_n 3, 1) := by decide +kernel
theorem dL_law_515 : decode cL_law 515 = .ok (.iconst 1, 1) := by decide +kernel
theorem dL_law_516 : decode cL_law 516 = .ok (.iadd, 1) := by decide +kernel
theorem dL_law_517 : decode cL_law 517 = .ok (.iaload, 1) := by decide +kernel
theorem dL_law_518 : decode cL_law 518 = .ok (.aload_n 0, 1) := by decide +kernel
theorem dL_law_519 : decode cL_law 519 = .ok (.iload_n 3, 1) := by decide +kernel
theorem dL_law_520 : decode cL_law 520 = .ok (.iconst 2, 1) := by decide +kernel
theorem dL_law_521 : decode cL_law 521 = .ok (.iadd, 1) := by decide +kernel
theorem dL_law_522 : decode cL_law 522 = .ok (.iaload, 1) := by decide +kernel
theorem dL_law_523 : decode cL_law 523 = .ok (.invokevirtual 68, 3) := by decide +kernel
theorem dL_law_526 : decode cL_law 526 = .ok (.if_icmp .eq 596, 3) := by decide +kernel
theorem dL_law_529 : decode cL_law 529 = .ok (.iconst 0, 1) := by decide +kernel
theorem dL_law_530 : decode cL_law 530 = .ok (.ireturn, 1) := by decide +kernel
theorem dL_law_531 : decode cL_law 531 = .ok (.aload_n 1, 1) := by decide +kernel
theorem dL_law_532 : decode cL_law 532 = .ok (.aload_n 0, 1) := by decide +kernel
theorem dL_law_533 : decode cL_law 533 = .ok (.iload_n 3, 1) := by decide +kernel
theorem dL_law_534 : decode cL_law 534 = .ok (.iconst 1, 1) := by decide +kernel
theorem dL_law_535 : decode cL_law 535 = .ok (.iadd, 1) := by decide +kernel
theorem dL_law_536 : decode cL_law 536 = .ok (.iaload, 1) := by decide +kernel
theorem dL_law_537 : decode cL_law 537 = .ok (.aload_n 0, 1) := by decide +kernel
theorem dL_law_538 : decode cL_law 538 = .ok (.iload_n 3, 1) := by decide +kernel
theorem dL_law_539 : decode cL_law 539 = .ok (.iconst 2, 1) := by decide +kernel
theorem dL_law_540 : decode cL_law 540 = .ok (.iadd, 1) := by decide +kernel
theorem dL_law_541 : decode cL_law 541 = .ok (.iaload, 1) := by decide +kernel
theorem dL_law_542 : decode cL_law 542 = .ok (.invokevirtual 69, 3) := by decide +kernel
theorem dL_law_545 : decode cL_law 545 = .ok (.aload_n 2, 1) := by decide +kernel
theorem dL_law_546 : decode cL_law 546 = .ok (.aload_n 0, 1) := by decide +kernel
theorem dL_law_547 : decode cL_law 547 = .ok (.iload_n 3, 1) := by decide +kernel
theorem dL_law_548 : decode cL_law 548 = .ok (.iconst 1, 1) := by decide +kernel
theorem dL_law_549 : decode cL_law 549 = .ok (.iadd, 1) := by decide +kernel
theorem dL_law_550 : decode cL_law 550 = .ok (.iaload, 1) := by decide +kernel
theorem dL_law_551 : decode cL_law 551 = .ok (.aload_n 0, 1) := by decide +kernel
theorem dL_law_552 : decode cL_law 552 = .ok (.iload_n 3, 1) := by decide +kernel
theorem dL_law_553 : decode cL_law 553 = .ok (.iconst 2, 1) := by decide +kernel
theorem dL_law_554 : decode cL_law 554 = .ok (.iadd, 1) := by decide +kernel
theorem dL_law_555 : decode cL_law 555 = .ok (.iaload, 1) := by decide +kernel
theorem dL_law_556 : decode cL_law 556 = .ok (.invokevirtual 72, 3) := by decide +kernel
theorem dL_law_559 : decode cL_law 559 = .ok (.if_icmp .eq 563, 3) := by decide +kernel
theorem dL_law_562 : decode cL_law 562 = .ok (.iconst 0, 1) := by decide +kernel
theorem dL_law_563 : decode cL_law 563 = .ok (.ireturn, 1) := by decide +kernel
theorem dL_law_564 : decode cL_law 564 = .ok (.aload_n 1, 1) := by decide +kernel
theorem dL_law_565 : decode cL_law 565 = .ok (.aload_n 0, 1) := by decide +kernel
theorem dL_law_566 : decode cL_law 566 = .ok (.iload_n 3, 1) := by decide +kernel
theorem dL_law_567 : decode cL_law 567 = .ok (.iconst 1, 1) := by decide +kernel
theorem dL_law_568 : decode cL_law 568 = .ok (.iadd, 1) := by decide +kernel
theorem dL_law_569 : decode cL_law 569 = .ok (.iaload, 1) := by decide +kernel
theorem dL_law_570 : decode cL_law 570 = .ok (.aload_n 0, 1) := by decide +kernel
theorem dL_law_571 : decode cL_law 571 = .ok (.iload_n 3, 1) := by decide +kernel
theorem dL_law_572 : decode cL_law 572 = .ok (.iconst 2, 1) := by decide +kernel
theorem dL_law_573 : decode cL_law 573 = .ok (.iadd, 1) := by decide +kernel
theorem dL_law_574 : decode cL_law 574 = .ok (.iaload, 1) := by decide +kernel
theorem dL_law_575 : decode cL_law 575 = .ok (.aload_n 0, 1) := by decide +kernel
theorem dL_law_576 : decode cL_law 576 = .ok (.iload_n 3, 1) := by decide +kernel
theorem dL_law_577 : decode cL_law 577 = .ok (.iconst 3, 1) := by decide +kernel
theorem dL_law_578 : decode cL_law 578 = .ok (.iadd, 1) := by decide +kernel
theorem dL_law_579 : decode cL_law 579 = .ok (.iaload, 1) := by decide +kernel
theorem dL_law_580 : decode cL_law 580 = .ok (.invokevirtual 73, 3) := by decide +kernel
theorem dL_law_583 : decode cL_law 583 = .ok (.aload_n 2, 1) := by decide +kernel
theorem dL_law_584 : decode cL_law 584 = .ok (.aload_n 0, 1) := by decide +kernel
theorem dL_law_585 : decode cL_law 585 = .ok (.iload_n 3, 1) := by decide +kernel
theorem dL_law_586 : decode cL_law 586 = .ok (.iconst 1, 1) := by decide +kernel
theorem dL_law_587 : decode cL_law 587 = .ok (.iadd, 1) := by decide +kernel
theorem dL_law_588 : decode cL_law 588 = .ok (.iaload, 1) := by decide +kernel
theorem dL_law_589 : decode cL_law 589 = .ok (.aload_n 0, 1) := by decide +kernel
theorem dL_law_590 : decode cL_law 590 = .ok (.iload_n 3, 1) := by decide +kernel
theorem dL_law_591 : decode cL_law 591 = .ok (.iconst 2, 1) := by decide +kernel
theorem dL_law_592 : decode cL_law 592 = .ok (.iadd, 1) := by decide +kernel
theorem dL_law_593 : decode cL_law 593 = .ok (.iaload, 1) := by decide +kernel
theorem dL_law_594 : decode cL_law 594 = .ok (.aload_n 0, 1) := by decide +kernel
theorem dL_law_595 : decode cL_law 595 = .ok (.iload_n 3, 1) := by decide +kernel
theorem dL_law_596 : decode cL_law 596 = .ok (.iconst 3, 1) := by decide +kernel
theorem dL_law_597 : decode cL_law 597 = .ok (.iadd, 1) := by decide +kernel
theorem dL_law_598 : decode cL_law 598 = .ok (.iaload, 1) := by decide +kernel
theorem dL_law_599 : decode cL_law 599 = .ok (.invokevirtual 76, 3) := by decide +kernel
theorem dL_law_602 : decode cL_law 602 = .ok (.if_icmp .eq 520, 3) := by decide +kernel
theorem dL_law_605 : decode cL_law 605 = .ok (.iconst 0, 1) := by decide +kernel
theorem dL_law_606 : decode cL_law 606 = .ok (.ireturn, 1) := by decide +kernel
theorem dL_law_607 : decode cL_law 607 = .ok (.aload_n 1, 1) := by decide +kernel
theorem dL_law_608 : decode cL_law 608 = .ok (.invokevirtual 77, 3) := by decide +kernel
theorem dL_law_611 : decode cL_law 611 = .ok (.aload_n 2, 1) := by decide +kernel
theorem dL_law_612 : decode cL_law 612 = .ok (.invokevirtual 80, 3) := by decide +kernel
theorem dL_law_615 : decode cL_law 615 = .ok (.if_icmp .eq 507, 3) := by decide +kernel
theorem dL_law_618 : decode cL_law 618 = .ok (.iconst 0, 1) := by decide +kernel
theorem dL_law_619 : decode cL_law 619 = .ok (.ireturn, 1) := by decide +kernel
theorem dL_law_620 : decode cL_law 620 = .ok (.aload_n 1, 1) := by decide +kernel
theorem dL_law_621 : decode cL_law 621 = .ok (.aload_n 0, 1) := by decide +kernel
theorem dL_law_622 : decode cL_law 622 = .ok (.iload_n 3, 1) := by decide +kernel
theorem dL_law_623 : decode cL_law 623 = .ok (.iconst 1, 1) := by decide +kernel
theorem dL_law_624 : decode cL_law 624 = .ok (.iadd, 1) := by decide +kernel
theorem dL_law_625 : decode cL_law 625 = .ok (.iaload, 1) := by decide +kernel
theorem dL_law_626 : decode cL_law 626 = .ok (.invokevirtual 81, 3) := by decide +kernel
theorem dL_law_629 : decode cL_law 629 = .ok (.aload_n 2, 1) := by decide +kernel
theorem dL_law_630 : decode cL_law 630 = .ok (.aload_n 0, 1) := by decide +kernel
theorem dL_law_631 : decode cL_law 631 = .ok (.iload_n 3, 1) := by decide +kernel
theorem dL_law_632 : decode cL_law 632 = .ok (.iconst 1, 1) := by decide +kernel
theorem dL_law_633 : decode cL_law 633 = .ok (.iadd, 1) := by decide +kernel
theorem dL_law_634 : decode cL_law 634 = .ok (.iaload, 1) := by decide +kernel
theorem dL_law_635 : decode cL_law 635 = .ok (.invokevirtual 84, 3) := by decide +kernel
theorem dL_law_638 : decode cL_law 638 = .ok (.if_icmp .eq 484, 3) := by decide +kernel
theorem dL_law_641 : decode cL_law 641 = .ok (.iconst 0, 1) := by decide +kernel
theorem dL_law_642 : decode cL_law 642 = .ok (.ireturn, 1) := by decide +kernel
theorem dL_law_643 : decode cL_law 643 = .ok (.aload_n 1, 1) := by decide +kernel
theorem dL_law_644 : decode cL_law 644 = .ok (.aload_n 0, 1) := by decide +kernel
theorem dL_law_645 : decode cL_law 645 = .ok (.iload_n 3, 1) := by decide +kernel
theorem dL_law_646 : decode cL_law 646 = .ok (.iconst 1, 1) := by decide +kernel
theorem dL_law_647 : decode cL_law 647 = .ok (.iadd, 1) := by decide +kernel
theorem dL_law_648 : decode cL_law 648 = .ok (.iaload, 1) := by decide +kernel
theorem dL_law_649 : decode cL_law 649 = .ok (.invokevirtual 85, 3) := by decide +kernel
theorem dL_law_652 : decode cL_law 652 = .ok (.aload_n 2, 1) := by decide +kernel
theorem dL_law_653 : decode cL_law 653 = .ok (.aload_n 0, 1) := by decide +kernel
theorem dL_law_654 : decode cL_law 654 = .ok (.iload_n 3, 1) := by decide +kernel
theorem dL_law_655 : decode cL_law 655 = .ok (.iconst 1, 1) := by decide +kernel
theorem dL_law_656 : decode cL_law 656 = .ok (.iadd, 1) := by decide +kernel
theorem dL_law_657 : decode cL_law 657 = .ok (.iaload, 1) := by decide +kernel
theorem dL_law_658 : decode cL_law 658 = .ok (.invokevirtual 88, 3) := by decide +kernel
theorem dL_law_661 : decode cL_law 661 = .ok (.if_icmp .eq 461, 3) := by decide +kernel
theorem dL_law_664 : decode cL_law 664 = .ok (.iconst 0, 1) := by decide +kernel
theorem dL_law_665 : decode cL_law 665 = .ok (.ireturn, 1) := by decide +kernel
theorem dL_law_666 : decode cL_law 666 = .ok (.aload_n 1, 1) := by decide +kernel
theorem dL_law_667 : decode cL_law 667 = .ok (.aload_n 0, 1) := by decide +kernel
theorem dL_law_668 : decode cL_law 668 = .ok (.iload_n 3, 1) := by decide +kernel
theorem dL_law_669 : decode cL_law 669 = .ok (.iconst 1, 1) := by decide +kernel
theorem dL_law_670 : decode cL_law 670 = .ok (.iadd, 1) := by decide +kernel
theorem dL_law_671 : decode cL_law 671 = .ok (.iaload, 1) := by decide +kernel
theorem dL_law_672 : decode cL_law 672 = .ok (.invokevirtual 89, 3) := by decide +kernel
theorem dL_law_675 : decode cL_law 675 = .ok (.aload_n 2, 1) := by decide +kernel
theorem dL_law_676 : decode cL_law 676 = .ok (.aload_n 0, 1) := by decide +kernel
theorem dL_law_677 : decode cL_law 677 = .ok (.iload_n 3, 1) := by decide +kernel
theorem dL_law_678 : decode cL_law 678 = .ok (.iconst 1, 1) := by decide +kernel
theorem dL_law_679 : decode cL_law 679 = .ok (.iadd, 1) := by decide +kernel
theorem dL_law_680 : decode cL_law 680 = .ok (.iaload, 1) := by decide +kernel
theorem dL_law_681 : decode cL_law 681 = .ok (.invokevirtual 92, 3) := by decide +kernel
theorem dL_law_684 : decode cL_law 684 = .ok (.if_icmp .eq 438, 3) := by decide +kernel
theorem dL_law_687 : decode cL_law 687 = .ok (.iconst 0, 1) := by decide +kernel
theorem dL_law_688 : decode cL_law 688 = .ok (.ireturn, 1) := by decide +kernel
theorem dL_law_689 : decode cL_law 689 = .ok (.aload_n 1, 1) := by decide +kernel
theorem dL_law_690 : decode cL_law 690 = .ok (.aload_n 0, 1) := by decide +kernel
theorem dL_law_691 : decode cL_law 691 = .ok (.iload_n 3, 1) := by decide +kernel
theorem dL_law_692 : decode cL_law 692 = .ok (.iconst 1, 1) := by decide +kernel
theorem dL_law_693 : decode cL_law 693 = .ok (.iadd, 1) := by decide +kernel
theorem dL_law_694 : decode cL_law 694 = .ok (.iaload, 1) := by decide +kernel
theorem dL_law_695 : decode cL_law 695 = .ok (.invokevirtual 93, 3) := by decide +kernel
theorem dL_law_698 : decode cL_law 698 = .ok (.aload_n 2, 1) := by decide +kernel
theorem dL_law_699 : decode cL_law 699 = .ok (.aload_n 0, 1) := by decide +kernel
theorem dL_law_700 : decode cL_law 700 = .ok (.iload_n 3, 1) := by decide +kernel
theorem dL_law_701 : decode cL_law 701 = .ok (.iconst 1, 1) := by decide +kernel
theorem dL_law_702 : decode cL_law 702 = .ok (.iadd, 1) := by decide +kernel
theorem dL_law_703 : decode cL_law 703 = .ok (.iaload, 1) := by decide +kernel
theorem dL_law_704 : decode cL_law 704 = .ok (.invokevirtual 96, 3) := by decide +kernel
theorem dL_law_707 : decode cL_law 707 = .ok (.if_icmp .eq 415, 3) := by decide +kernel
theorem dL_law_710 : decode cL_law 710 = .ok (.iconst 0, 1) := by decide +kernel
theorem dL_law_711 : decode cL_law 711 = .ok (.ireturn, 1) := by decide +kernel
theorem dL_law_712 : decode cL_law 712 = .ok (.aload_n 1, 1) := by decide +kernel
theorem dL_law_713 : decode cL_law 713 = .ok (.aload_n 0, 1) := by decide +kernel
theorem dL_law_714 : decode cL_law 714 = .ok (.iload_n 3, 1) := by decide +kernel
theorem dL_law_715 : decode cL_law 715 = .ok (.iconst 1, 1) := by decide +kernel
theorem dL_law_716 : decode cL_law 716 = .ok (.iadd, 1) := by decide +kernel
theorem dL_law_717 : decode cL_law 717 = .ok (.iaload, 1) := by decide +kernel
theorem dL_law_718 : decode cL_law 718 = .ok (.invokevirtual 97, 3) := by decide +kernel
theorem dL_law_721 : decode cL_law 721 = .ok (.aload_n 2, 1) := by decide +kernel
theorem dL_law_722 : decode cL_law 722 = .ok (.aload_n 0, 1) := by decide +kernel
theorem dL_law_723 : decode cL_law 723 = .ok (.iload_n 3, 1) := by decide +kernel
theorem dL_law_724 : decode cL_law 724 = .ok (.iconst 1, 1) := by decide +kernel
theorem dL_law_725 : decode cL_law 725 = .ok (.iadd, 1) := by decide +kernel
theorem dL_law_726 : decode cL_law 726 = .ok (.iaload, 1) := by decide +kernel
theorem dL_law_727 : decode cL_law 727 = .ok (.invokevirtual 100, 3) := by decide +kernel
theorem dL_law_730 : decode cL_law 730 = .ok (.if_icmp .eq 392, 3) := by decide +kernel
theorem dL_law_733 : decode cL_law 733 = .ok (.iconst 0, 1) := by decide +kernel
theorem dL_law_734 : decode cL_law 734 = .ok (.ireturn, 1) := by decide +kernel
theorem dL_law_735 : decode cL_law 735 = .ok (.aload_n 1, 1) := by decide +kernel
theorem dL_law_736 : decode cL_law 736 = .ok (.aload_n 0, 1) := by decide +kernel
theorem dL_law_737 : decode cL_law 737 = .ok (.iload_n 3, 1) := by decide +kernel
theorem dL_law_738 : decode cL_law 738 = .ok (.iconst 1, 1) := by decide +kernel
theorem dL_law_739 : decode cL_law 739 = .ok (.iadd, 1) := by decide +kernel
theorem dL_law_740 : decode cL_law 740 = .ok (.iaload, 1) := by decide +kernel
theorem dL_law_741 : decode cL_law 741 = .ok (.invokevirtual 101, 3) := by decide +kernel
theorem dL_law_744 : decode cL_law 744 = .ok (.aload_n 2, 1) := by decide +kernel
theorem dL_law_745 : decode cL_law 745 = .ok (.aload_n 0, 1) := by decide +kernel
theorem dL_law_746 : decode cL_law 746 = .ok (.iload_n 3, 1) := by decide +kernel
theorem dL_law_747 : decode cL_law 747 = .ok (.iconst 1, 1) := by decide +kernel
theorem dL_law_748 : decode cL_law 748 = .ok (.iadd, 1) := by decide +kernel
theorem dL_law_749 : decode cL_law 749 = .ok (.iaload, 1) := by decide +kernel
theorem dL_law_750 : decode cL_law 750 = .ok (.invokevirtual 104, 3) := by decide +kernel
theorem dL_law_753 : decode cL_law 753 = .ok (.if_icmp .eq 369, 3) := by decide +kernel
theorem dL_law_756 : decode cL_law 756 = .ok (.iconst 0, 1) := by decide +kernel
theorem dL_law_757 : decode cL_law 757 = .ok (.ireturn, 1) := by decide +kernel
theorem dL_law_758 : decode cL_law 758 = .ok (.aload_n 1, 1) := by decide +kernel
theorem dL_law_759 : decode cL_law 759 = .ok (.aload_n 0, 1) := by decide +kernel
theorem dL_law_760 : decode cL_law 760 = .ok (.iload_n 3, 1) := by decide +kernel
theorem dL_law_761 : decode cL_law 761 = .ok (.iconst 1, 1) := by decide +kernel
theorem dL_law_762 : decode cL_law 762 = .ok (.iadd, 1) := by decide +kernel
theorem dL_law_763 : decode cL_law 763 = .ok (.iaload, 1) := by decide +kernel
theorem dL_law_764 : decode cL_law 764 = .ok (.aload_n 0, 1) := by decide +kernel
theorem dL_law_765 : decode cL_law 765 = .ok (.iload_n 3, 1) := by decide +kernel
theorem dL_law_766 : decode cL_law 766 = .ok (.iconst 2, 1) := by decide +kernel
theorem dL_law_767 : decode cL_law 767 = .ok (.iadd, 1) := by decide +kernel
theorem dL_law_768 : decode cL_law 768 = .ok (.iaload, 1) := by decide +kernel
theorem dL_law_769 : decode cL_law 769 = .ok (.invokevirtual 105, 3) := by decide +kernel
theorem dL_law_772 : decode cL_law 772 = .ok (.aload_n 2, 1) := by decide +kernel
theorem dL_law_773 : decode cL_law 773 = .ok (.aload_n 0, 1) := by decide +kernel
theorem dL_law_774 : decode cL_law 774 = .ok (.iload_n 3, 1) := by decide +kernel
theorem dL_law_775 : decode cL_law 775 = .ok (.iconst 1, 1) := by decide +kernel
theorem dL_law_776 : decode cL_law 776 = .ok (.iadd, 1) := by decide +kernel
theorem dL_law_777 : decode cL_law 777 = .ok (.iaload, 1) := by decide +kernel
theorem dL_law_778 : decode cL_law 778 = .ok (.aload_n 0, 1) := by decide +kernel
theorem dL_law_779 : decode cL_law 779 = .ok (.iload_n 3, 1) := by decide +kernel
theorem dL_law_780 : decode cL_law 780 = .ok (.iconst 2, 1) := by decide +kernel
theorem dL_law_781 : decode cL_law 781 = .ok (.iadd, 1) := by decide +kernel
theorem dL_law_782 : decode cL_law 782 = .ok (.iaload, 1) := by decide +kernel
theorem dL_law_783 : decode cL_law 783 = .ok (.invokevirtual 108, 3) := by decide +kernel
theorem dL_law_786 : decode cL_law 786 = .ok (.if_icmp .eq 336, 3) := by decide +kernel
theorem dL_law_789 : decode cL_law 789 = .ok (.iconst 0, 1) := by decide +kernel
theorem dL_law_790 : decode cL_law 790 = .ok (.ireturn, 1) := by decide +kernel
theorem dL_law_791 : decode cL_law 791 = .ok (.aload_n 1, 1) := by decide +kernel
theorem dL_law_792 : decode cL_law 792 = .ok (.aload_n 0, 1) := by decide +kernel
theorem dL_law_793 : decode cL_law 793 = .ok (.iload_n 3, 1) := by decide +kernel
theorem dL_law_794 : decode cL_law 794 = .ok (.iconst 1, 1) := by decide +kernel
theorem dL_law_795 : decode cL_law 795 = .ok (.iadd, 1) := by decide +kernel
theorem dL_law_796 : decode cL_law 796 = .ok (.iaload, 1) := by decide +kernel
theorem dL_law_797 : decode cL_law 797 = .ok (.invokevirtual 109, 3) := by decide +kernel
theorem dL_law_800 : decode cL_law 800 = .ok (.aload_n 2, 1) := by decide +kernel
theorem dL_law_801 : decode cL_law 801 = .ok (.aload_n 0, 1) := by decide +kernel
theorem dL_law_802 : decode cL_law 802 = .ok (.iload_n 3, 1) := by decide +kernel
theorem dL_law_803 : decode cL_law 803 = .ok (.iconst 1, 1) := by decide +kernel
theorem dL_law_804 : decode cL_law 804 = .ok (.iadd, 1) := by decide +kernel
theorem dL_law_805 : decode cL_law 805 = .ok (.iaload, 1) := by decide +kernel
theorem dL_law_806 : decode cL_law 806 = .ok (.invokevirtual 112, 3) := by decide +kernel
theorem dL_law_809 : decode cL_law 809 = .ok (.if_icmp .eq 313, 3) := by decide +kernel
theorem dL_law_812 : decode cL_law 812 = .ok (.iconst 0, 1) := by decide +kernel
theorem dL_law_813 : decode cL_law 813 = .ok (.ireturn, 1) := by decide +kernel
theorem dL_law_814 : decode cL_law 814 = .ok (.aload_n 1, 1) := by decide +kernel
theorem dL_law_815 : decode cL_law 815 = .ok (.aload_n 0, 1) := by decide +kernel
theorem dL_law_816 : decode cL_law 816 = .ok (.iload_n 3, 1) := by decide +kernel
theorem dL_law_817 : decode cL_law 817 = .ok (.iconst 1, 1) := by decide +kernel
theorem dL_law_818 : decode cL_law 818 = .ok (.iadd, 1) := by decide +kernel
theorem dL_law_819 : decode cL_law 819 = .ok (.iaload, 1) := by decide +kernel
theorem dL_law_820 : decode cL_law 820 = .ok (.invokevirtual 113, 3) := by decide +kernel
theorem dL_law_823 : decode cL_law 823 = .ok (.aload_n 2, 1) := by decide +kernel
theorem dL_law_824 : decode cL_law 824 = .ok (.aload_n 0, 1) := by decide +kernel
theorem dL_law_825 : decode cL_law 825 = .ok (.iload_n 3, 1) := by decide +kernel
theorem dL_law_826 : decode cL_law 826 = .ok (.iconst 1, 1) := by decide +kernel
theorem dL_law_827 : decode cL_law 827 = .ok (.iadd, 1) := by decide +kernel
theorem dL_law_828 : decode cL_law 828 = .ok (.iaload, 1) := by decide +kernel
theorem dL_law_829 : decode cL_law 829 = .ok (.invokevirtual 116, 3) := by decide +kernel
theorem dL_law_832 : decode cL_law 832 = .ok (.if_icmp .eq 290, 3) := by decide +kernel
theorem dL_law_835 : decode cL_law 835 = .ok (.iconst 0, 1) := by decide +kernel
theorem dL_law_836 : decode cL_law 836 = .ok (.ireturn, 1) := by decide +kernel
theorem dL_law_837 : decode cL_law 837 = .ok (.aload_n 1, 1) := by decide +kernel
theorem dL_law_838 : decode cL_law 838 = .ok (.aload_n 0, 1) := by decide +kernel
theorem dL_law_839 : decode cL_law 839 = .ok (.iload_n 3, 1) := by decide +kernel
theorem dL_law_840 : decode cL_law 840 = .ok (.iconst 1, 1) := by decide +kernel
theorem dL_law_841 : decode cL_law 841 = .ok (.iadd, 1) := by decide +kernel
theorem dL_law_842 : decode cL_law 842 = .ok (.iaload, 1) := by decide +kernel
theorem dL_law_843 : decode cL_law 843 = .ok (.aload_n 0, 1) := by decide +kernel
theorem dL_law_844 : decode cL_law 844 = .ok (.iload_n 3, 1) := by decide +kernel
theorem dL_law_845 : decode cL_law 845 = .ok (.iconst 2, 1) := by decide +kernel
theorem dL_law_846 : decode cL_law 846 = .ok (.iadd, 1) := by decide +kernel
theorem dL_law_847 : decode cL_law 847 = .ok (.iaload, 1) := by decide +kernel
theorem dL_law_848 : decode cL_law 848 = .ok (.invokevirtual 117, 3) := by decide +kernel
theorem dL_law_851 : decode cL_law 851 = .ok (.aload_n 2, 1) := by decide +kernel
theorem dL_law_852 : decode cL_law 852 = .ok (.aload_n 0, 1) := by decide +kernel
theorem dL_law_853 : decode cL_law 853 = .ok (.iload_n 3, 1) := by decide +kernel
theorem dL_law_854 : decode cL_law 854 = .ok (.iconst 1, 1) := by decide +kernel
theorem dL_law_855 : decode cL_law 855 = .ok (.iadd, 1) := by decide +kernel
theorem dL_law_856 : decode cL_law 856 = .ok (.iaload, 1) := by decide +kernel
theorem dL_law_857 : decode cL_law 857 = .ok (.aload_n 0, 1) := by decide +kernel
theorem dL_law_858 : decode cL_law 858 = .ok (.iload_n 3, 1) := by decide +kernel
theorem dL_law_859 : decode cL_law 859 = .ok (.iconst 2, 1) := by decide +kernel
theorem dL_law_860 : decode cL_law 860 = .ok (.iadd, 1) := by decide +kernel
theorem dL_law_861 : decode cL_law 861 = .ok (.iaload, 1) := by decide +kernel
theorem dL_law_862 : decode cL_law 862 = .ok (.invokevirtual 120, 3) := by decide +kernel
theorem dL_law_865 : decode cL_law 865 = .ok (.if_icmp .eq 257, 3) := by decide +kernel
theorem dL_law_868 : decode cL_law 868 = .ok (.iconst 0, 1) := by decide +kernel
theorem dL_law_869 : decode cL_law 869 = .ok (.ireturn, 1) := by decide +kernel
theorem dL_law_870 : decode cL_law 870 = .ok (.aload_n 1, 1) := by decide +kernel
theorem dL_law_871 : decode cL_law 871 = .ok (.aload_n 0, 1) := by decide +kernel
theorem dL_law_872 : decode cL_law 872 = .ok (.iload_n 3, 1) := by decide +kernel
theorem dL_law_873 : decode cL_law 873 = .ok (.iconst 1, 1) := by decide +kernel
theorem dL_law_874 : decode cL_law 874 = .ok (.iadd, 1) := by decide +kernel
theorem dL_law_875 : decode cL_law 875 = .ok (.iaload, 1) := by decide +kernel
theorem dL_law_876 : decode cL_law 876 = .ok (.aload_n 0, 1) := by decide +kernel
theorem dL_law_877 : decode cL_law 877 = .ok (.iload_n 3, 1) := by decide +kernel
theorem dL_law_878 : decode cL_law 878 = .ok (.iconst 2, 1) := by decide +kernel
theorem dL_law_879 : decode cL_law 879 = .ok (.iadd, 1) := by decide +kernel
theorem dL_law_880 : decode cL_law 880 = .ok (.iaload, 1) := by decide +kernel
theorem dL_law_881 : decode cL_law 881 = .ok (.aload_n 0, 1) := by decide +kernel
theorem dL_law_882 : decode cL_law 882 = .ok (.iload_n 3, 1) := by decide +kernel
theorem dL_law_883 : decode cL_law 883 = .ok (.iconst 3, 1) := by decide +kernel
theorem dL_law_884 : decode cL_law 884 = .ok (.iadd, 1) := by decide +kernel
theorem dL_law_885 : decode cL_law 885 = .ok (.iaload, 1) := by decide +kernel
theorem dL_law_886 : decode cL_law 886 = .ok (.aload_n 0, 1) := by decide +kernel
theorem dL_law_887 : decode cL_law 887 = .ok (.iload_n 3, 1) := by decide +kernel
theorem dL_law_888 : decode cL_law 888 = .ok (.iconst 4, 1) := by decide +kernel
theorem dL_law_889 : decode cL_law 889 = .ok (.iadd, 1) := by decide +kernel
theorem dL_law_890 : decode cL_law 890 = .ok (.iaload, 1) := by decide +kernel
theorem dL_law_891 : decode cL_law 891 = .ok (.invokevirtual 121, 3) := by decide +kernel
theorem dL_law_894 : decode cL_law 894 = .ok (.aload_n 2, 1) := by decide +kernel
theorem dL_law_895 : decode cL_law 895 = .ok (.aload_n 0, 1) := by decide +kernel
theorem dL_law_896 : decode cL_law 896 = .ok (.iload_n 3, 1) := by decide +kernel
theorem dL_law_897 : decode cL_law 897 = .ok (.iconst 1, 1) := by decide +kernel
theorem dL_law_898 : decode cL_law 898 = .ok (.iadd, 1) := by decide +kernel
theorem dL_law_899 : decode cL_law 899 = .ok (.iaload, 1) := by decide +kernel
theorem dL_law_900 : decode cL_law 900 = .ok (.aload_n 0, 1) := by decide +kernel
theorem dL_law_901 : decode cL_law 901 = .ok (.iload_n 3, 1) := by decide +kernel
theorem dL_law_902 : decode cL_law 902 = .ok (.iconst 2, 1) := by decide +kernel
theorem dL_law_903 : decode cL_law 903 = .ok (.iadd, 1) := by decide +kernel
theorem dL_law_904 : decode cL_law 904 = .ok (.iaload, 1) := by decide +kernel
theorem dL_law_905 : decode cL_law 905 = .ok (.aload_n 0, 1) := by decide +kernel
theorem dL_law_906 : decode cL_law 906 = .ok (.iload_n 3, 1) := by decide +kernel
theorem dL_law_907 : decode cL_law 907 = .ok (.iconst 3, 1) := by decide +kernel
theorem dL_law_908 : decode cL_law 908 = .ok (.iadd, 1) := by decide +kernel
theorem dL_law_909 : decode cL_law 909 = .ok (.iaload, 1) := by decide +kernel
theorem dL_law_910 : decode cL_law 910 = .ok (.aload_n 0, 1) := by decide +kernel
theorem dL_law_911 : decode cL_law 911 = .ok (.iload_n 3, 1) := by decide +kernel
theorem dL_law_912 : decode cL_law 912 = .ok (.iconst 4, 1) := by decide +kernel
theorem dL_law_913 : decode cL_law 913 = .ok (.iadd, 1) := by decide +kernel
theorem dL_law_914 : decode cL_law 914 = .ok (.iaload, 1) := by decide +kernel
theorem dL_law_915 : decode cL_law 915 = .ok (.invokevirtual 125, 3) := by decide +kernel
theorem dL_law_918 : decode cL_law 918 = .ok (.lcmp, 1) := by decide +kernel
theorem dL_law_919 : decode cL_law 919 = .ok (.ifCond .eq 203, 3) := by decide +kernel
theorem dL_law_922 : decode cL_law 922 = .ok (.iconst 0, 1) := by decide +kernel
theorem dL_law_923 : decode cL_law 923 = .ok (.ireturn, 1) := by decide +kernel
theorem dL_law_924 : decode cL_law 924 = .ok (.aload_n 1, 1) := by decide +kernel
theorem dL_law_925 : decode cL_law 925 = .ok (.aload_n 0, 1) := by decide +kernel
theorem dL_law_926 : decode cL_law 926 = .ok (.iload_n 3, 1) := by decide +kernel
theorem dL_law_927 : decode cL_law 927 = .ok (.iconst 1, 1) := by decide +kernel
theorem dL_law_928 : decode cL_law 928 = .ok (.iadd, 1) := by decide +kernel
theorem dL_law_929 : decode cL_law 929 = .ok (.iaload, 1) := by decide +kernel
theorem dL_law_930 : decode cL_law 930 = .ok (.invokevirtual 126, 3) := by decide +kernel
theorem dL_law_933 : decode cL_law 933 = .ok (.aload_n 2, 1) := by decide +kernel
theorem dL_law_934 : decode cL_law 934 = .ok (.aload_n 0, 1) := by decide +kernel
theorem dL_law_935 : decode cL_law 935 = .ok (.iload_n 3, 1) := by decide +kernel
theorem dL_law_936 : decode cL_law 936 = .ok (.iconst 1, 1) := by decide +kernel
theorem dL_law_937 : decode cL_law 937 = .ok (.iadd, 1) := by decide +kernel
theorem dL_law_938 : decode cL_law 938 = .ok (.iaload, 1) := by decide +kernel
theorem dL_law_939 : decode cL_law 939 = .ok (.invokevirtual 130, 3) := by decide +kernel
theorem dL_law_942 : decode cL_law 942 = .ok (.lcmp, 1) := by decide +kernel
theorem dL_law_943 : decode cL_law 943 = .ok (.ifCond .eq 179, 3) := by decide +kernel
theorem dL_law_946 : decode cL_law 946 = .ok (.iconst 0, 1) := by decide +kernel
theorem dL_law_947 : decode cL_law 947 = .ok (.ireturn, 1) := by decide +kernel
theorem dL_law_948 : decode cL_law 948 = .ok (.aload_n 1, 1) := by decide +kernel
theorem dL_law_949 : decode cL_law 949 = .ok (.aload_n 0, 1) := by decide +kernel
theorem dL_law_950 : decode cL_law 950 = .ok (.iload_n 3, 1) := by decide +kernel
theorem dL_law_951 : decode cL_law 951 = .ok (.iconst 1, 1) := by decide +kernel
theorem dL_law_952 : decode cL_law 952 = .ok (.iadd, 1) := by decide +kernel
theorem dL_law_953 : decode cL_law 953 = .ok (.iaload, 1) := by decide +kernel
theorem dL_law_954 : decode cL_law 954 = .ok (.aload_n 0, 1) := by decide +kernel
theorem dL_law_955 : decode cL_law 955 = .ok (.iload_n 3, 1) := by decide +kernel
theorem dL_law_956 : decode cL_law 956 = .ok (.iconst 2, 1) := by decide +kernel
theorem dL_law_957 : decode cL_law 957 = .ok (.iadd, 1) := by decide +kernel
theorem dL_law_958 : decode cL_law 958 = .ok (.iaload, 1) := by decide +kernel
theorem dL_law_959 : decode cL_law 959 = .ok (.invokevirtual 131, 3) := by decide +kernel
theorem dL_law_962 : decode cL_law 962 = .ok (.aload_n 2, 1) := by decide +kernel
theorem dL_law_963 : decode cL_law 963 = .ok (.aload_n 0, 1) := by decide +kernel
theorem dL_law_964 : decode cL_law 964 = .ok (.iload_n 3, 1) := by decide +kernel
theorem dL_law_965 : decode cL_law 965 = .ok (.iconst 1, 1) := by decide +kernel
theorem dL_law_966 : decode cL_law 966 = .ok (.iadd, 1) := by decide +kernel
theorem dL_law_967 : decode cL_law 967 = .ok (.iaload, 1) := by decide +kernel
theorem dL_law_968 : decode cL_law 968 = .ok (.aload_n 0, 1) := by decide +kernel
theorem dL_law_969 : decode cL_law 969 = .ok (.iload_n 3, 1) := by decide +kernel
theorem dL_law_970 : decode cL_law 970 = .ok (.iconst 2, 1) := by decide +kernel
theorem dL_law_971 : decode cL_law 971 = .ok (.iadd, 1) := by decide +kernel
theorem dL_law_972 : decode cL_law 972 = .ok (.iaload, 1) := by decide +kernel
theorem dL_law_973 : decode cL_law 973 = .ok (.invokevirtual 134, 3) := by decide +kernel
theorem dL_law_976 : decode cL_law 976 = .ok (.if_icmp .eq 146, 3) := by decide +kernel
theorem dL_law_979 : decode cL_law 979 = .ok (.iconst 0, 1) := by decide +kernel
theorem dL_law_980 : decode cL_law 980 = .ok (.ireturn, 1) := by decide +kernel
theorem dL_law_981 : decode cL_law 981 = .ok (.aload_n 1, 1) := by decide +kernel
theorem dL_law_982 : decode cL_law 982 = .ok (.aload_n 0, 1) := by decide +kernel
theorem dL_law_983 : decode cL_law 983 = .ok (.iload_n 3, 1) := by decide +kernel
theorem dL_law_984 : decode cL_law 984 = .ok (.iconst 1, 1) := by decide +kernel
theorem dL_law_985 : decode cL_law 985 = .ok (.iadd, 1) := by decide +kernel
theorem dL_law_986 : decode cL_law 986 = .ok (.iaload, 1) := by decide +kernel
theorem dL_law_987 : decode cL_law 987 = .ok (.invokevirtual 135, 3) := by decide +kernel
theorem dL_law_990 : decode cL_law 990 = .ok (.aload_n 2, 1) := by decide +kernel
theorem dL_law_991 : decode cL_law 991 = .ok (.aload_n 0, 1) := by decide +kernel
theorem dL_law_992 : decode cL_law 992 = .ok (.iload_n 3, 1) := by decide +kernel
theorem dL_law_993 : decode cL_law 993 = .ok (.iconst 1, 1) := by decide +kernel
theorem dL_law_994 : decode cL_law 994 = .ok (.iadd, 1) := by decide +kernel
theorem dL_law_995 : decode cL_law 995 = .ok (.iaload, 1) := by decide +kernel
theorem dL_law_996 : decode cL_law 996 = .ok (.invokevirtual 138, 3) := by decide +kernel
theorem dL_law_999 : decode cL_law 999 = .ok (.if_icmp .eq 123, 3) := by decide +kernel
theorem dL_law_1002 : decode cL_law 1002 = .ok (.iconst 0, 1) := by decide +kernel
theorem dL_law_1003 : decode cL_law 1003 = .ok (.ireturn, 1) := by decide +kernel
theorem dL_law_1004 : decode cL_law 1004 = .ok (.aload_n 1, 1) := by decide +kernel
theorem dL_law_1005 : decode cL_law 1005 = .ok (.invokevirtual 139, 3) := by decide +kernel
theorem dL_law_1008 : decode cL_law 1008 = .ok (.aload_n 2, 1) := by decide +kernel
theorem dL_law_1009 : decode cL_law 1009 = .ok (.invokevirtual 142, 3) := by decide +kernel
theorem dL_law_1012 : decode cL_law 1012 = .ok (.if_icmp .eq 110, 3) := by decide +kernel
theorem dL_law_1015 : decode cL_law 1015 = .ok (.iconst 0, 1) := by decide +kernel
theorem dL_law_1016 : decode cL_law 1016 = .ok (.ireturn, 1) := by decide +kernel
theorem dL_law_1017 : decode cL_law 1017 = .ok (.aload_n 1, 1) := by decide +kernel
theorem dL_law_1018 : decode cL_law 1018 = .ok (.invokevirtual 143, 3) := by decide +kernel
theorem dL_law_1021 : decode cL_law 1021 = .ok (.aload_n 2, 1) := by decide +kernel
theorem dL_law_1022 : decode cL_law 1022 = .ok (.invokevirtual 146, 3) := by decide +kernel
theorem dL_law_1025 : decode cL_law 1025 = .ok (.if_icmp .eq 97, 3) := by decide +kernel
theorem dL_law_1028 : decode cL_law 1028 = .ok (.iconst 0, 1) := by decide +kernel
theorem dL_law_1029 : decode cL_law 1029 = .ok (.ireturn, 1) := by decide +kernel
theorem dL_law_1030 : decode cL_law 1030 = .ok (.aload_n 1, 1) := by decide +kernel
theorem dL_law_1031 : decode cL_law 1031 = .ok (.aload_n 0, 1) := by decide +kernel
theorem dL_law_1032 : decode cL_law 1032 = .ok (.iload_n 3, 1) := by decide +kernel
theorem dL_law_1033 : decode cL_law 1033 = .ok (.iconst 1, 1) := by decide +kernel
theorem dL_law_1034 : decode cL_law 1034 = .ok (.iadd, 1) := by decide +kernel
theorem dL_law_1035 : decode cL_law 1035 = .ok (.iaload, 1) := by decide +kernel
theorem dL_law_1036 : decode cL_law 1036 = .ok (.aload_n 0, 1) := by decide +kernel
theorem dL_law_1037 : decode cL_law 1037 = .ok (.iload_n 3, 1) := by decide +kernel
theorem dL_law_1038 : decode cL_law 1038 = .ok (.iconst 2, 1) := by decide +kernel
theorem dL_law_1039 : decode cL_law 1039 = .ok (.iadd, 1) := by decide +kernel
theorem dL_law_1040 : decode cL_law 1040 = .ok (.iaload, 1) := by decide +kernel
theorem dL_law_1041 : decode cL_law 1041 = .ok (.aload_n 0, 1) := by decide +kernel
theorem dL_law_1042 : decode cL_law 1042 = .ok (.iload_n 3, 1) := by decide +kernel
theorem dL_law_1043 : decode cL_law 1043 = .ok (.iconst 3, 1) := by decide +kernel
theorem dL_law_1044 : decode cL_law 1044 = .ok (.iadd, 1) := by decide +kernel
theorem dL_law_1045 : decode cL_law 1045 = .ok (.iaload, 1) := by decide +kernel
theorem dL_law_1046 : decode cL_law 1046 = .ok (.invokevirtual 147, 3) := by decide +kernel
theorem dL_law_1049 : decode cL_law 1049 = .ok (.aload_n 2, 1) := by decide +kernel
theorem dL_law_1050 : decode cL_law 1050 = .ok (.aload_n 0, 1) := by decide +kernel
theorem dL_law_1051 : decode cL_law 1051 = .ok (.iload_n 3, 1) := by decide +kernel
theorem dL_law_1052 : decode cL_law 1052 = .ok (.iconst 1, 1) := by decide +kernel
theorem dL_law_1053 : decode cL_law 1053 = .ok (.iadd, 1) := by decide +kernel
theorem dL_law_1054 : decode cL_law 1054 = .ok (.iaload, 1) := by decide +kernel
theorem dL_law_1055 : decode cL_law 1055 = .ok (.aload_n 0, 1) := by decide +kernel
theorem dL_law_1056 : decode cL_law 1056 = .ok (.iload_n 3, 1) := by decide +kernel
theorem dL_law_1057 : decode cL_law 1057 = .ok (.iconst 2, 1) := by decide +kernel
theorem dL_law_1058 : decode cL_law 1058 = .ok (.iadd, 1) := by decide +kernel
theorem dL_law_1059 : decode cL_law 1059 = .ok (.iaload, 1) := by decide +kernel
theorem dL_law_1060 : decode cL_law 1060 = .ok (.aload_n 0, 1) := by decide +kernel
theorem dL_law_1061 : decode cL_law 1061 = .ok (.iload_n 3, 1) := by decide +kernel
theorem dL_law_1062 : decode cL_law 1062 = .ok (.iconst 3, 1) := by decide +kernel
theorem dL_law_1063 : decode cL_law 1063 = .ok (.iadd, 1) := by decide +kernel
theorem dL_law_1064 : decode cL_law 1064 = .ok (.iaload, 1) := by decide +kernel
theorem dL_law_1065 : decode cL_law 1065 = .ok (.invokevirtual 150, 3) := by decide +kernel
theorem dL_law_1068 : decode cL_law 1068 = .ok (.if_icmp .eq 54, 3) := by decide +kernel
theorem dL_law_1071 : decode cL_law 1071 = .ok (.iconst 0, 1) := by decide +kernel
theorem dL_law_1072 : decode cL_law 1072 = .ok (.ireturn, 1) := by decide +kernel
theorem dL_law_1073 : decode cL_law 1073 = .ok (.aload_n 1, 1) := by decide +kernel
theorem dL_law_1074 : decode cL_law 1074 = .ok (.invokevirtual 151, 3) := by decide +kernel
theorem dL_law_1077 : decode cL_law 1077 = .ok (.aload_n 2, 1) := by decide +kernel
theorem dL_law_1078 : decode cL_law 1078 = .ok (.invokevirtual 154, 3) := by decide +kernel
theorem dL_law_1081 : decode cL_law 1081 = .ok (.if_icmp .eq 41, 3) := by decide +kernel
theorem dL_law_1084 : decode cL_law 1084 = .ok (.iconst 0, 1) := by decide +kernel
theorem dL_law_1085 : decode cL_law 1085 = .ok (.ireturn, 1) := by decide +kernel
theorem dL_law_1086 : decode cL_law 1086 = .ok (.aload_n 1, 1) := by decide +kernel
theorem dL_law_1087 : decode cL_law 1087 = .ok (.invokevirtual 155, 3) := by decide +kernel
theorem dL_law_1090 : decode cL_law 1090 = .ok (.aload_n 2, 1) := by decide +kernel
theorem dL_law_1091 : decode cL_law 1091 = .ok (.invokevirtual 158, 3) := by decide +kernel
theorem dL_law_1094 : decode cL_law 1094 = .ok (.if_icmp .eq 28, 3) := by decide +kernel
theorem dL_law_1097 : decode cL_law 1097 = .ok (.iconst 0, 1) := by decide +kernel
theorem dL_law_1098 : decode cL_law 1098 = .ok (.ireturn, 1) := by decide +kernel
theorem dL_law_1099 : decode cL_law 1099 = .ok (.aload_n 1, 1) := by decide +kernel
theorem dL_law_1100 : decode cL_law 1100 = .ok (.aload_n 0, 1) := by decide +kernel
theorem dL_law_1101 : decode cL_law 1101 = .ok (.iload_n 3, 1) := by decide +kernel
theorem dL_law_1102 : decode cL_law 1102 = .ok (.iconst 1, 1) := by decide +kernel
theorem dL_law_1103 : decode cL_law 1103 = .ok (.iadd, 1) := by decide +kernel
theorem dL_law_1104 : decode cL_law 1104 = .ok (.iaload, 1) := by decide +kernel
theorem dL_law_1105 : decode cL_law 1105 = .ok (.invokevirtual 159, 3) := by decide +kernel
theorem dL_law_1108 : decode cL_law 1108 = .ok (.aload_n 2, 1) := by decide +kernel
theorem dL_law_1109 : decode cL_law 1109 = .ok (.aload_n 0, 1) := by decide +kernel
theorem dL_law_1110 : decode cL_law 1110 = .ok (.iload_n 3, 1) := by decide +kernel
theorem dL_law_1111 : decode cL_law 1111 = .ok (.iconst 1, 1) := by decide +kernel
theorem dL_law_1112 : decode cL_law 1112 = .ok (.iadd, 1) := by decide +kernel
theorem dL_law_1113 : decode cL_law 1113 = .ok (.iaload, 1) := by decide +kernel
theorem dL_law_1114 : decode cL_law 1114 = .ok (.invokevirtual 162, 3) := by decide +kernel
theorem dL_law_1117 : decode cL_law 1117 = .ok (.if_icmp .eq 5, 3) := by decide +kernel
theorem dL_law_1120 : decode cL_law 1120 = .ok (.iconst 0, 1) := by decide +kernel
theorem dL_law_1121 : decode cL_law 1121 = .ok (.ireturn, 1) := by decide +kernel
theorem dL_law_1122 : decode cL_law 1122 = .ok (.iinc 3 5, 3) := by decide +kernel
theorem dL_law_1125 : decode cL_law 1125 = .ok (.goto (-1107), 3) := by decide +kernel
theorem dL_law_1128 : decode cL_law 1128 = .ok (.iconst 1, 1) := by decide +kernel
theorem dL_law_1129 : decode cL_law 1129 = .ok (.ireturn, 1) := by decide +kernel
end
section
/-! THE FRAME. WW: 'from every heap that holds the world ws, the method goes on from pc to its end'. Cx: what holds all through a method's body. Ct: a contract. -/
-- the String constants: 0 "hK9;" 1 "b999;" 2 "l99;" 3 "r9;" 4 "n;" 5 "" 6 "newlpk"
def nJS : Nat := 7
def lenJS : List Nat := [4, 5, 4, 3, 2, 0, 6]
def bytJS : List (List Int32) := [[104, 75, 57, 59], [98, 57, 57, 57, 59], [108, 57, 57, 59], [114, 57, 59], [110, 59], [], [110, 101, 119, 108, 112, 107]]
def txJS : List String := ["hK9;", "b999;", "l99;", "r9;", "n;", "", "newlpk"]
def ixJS : List Nat := [36, 38, 40, 42, 44, 46, 81]
def nests : List (String × Nat × MethodName × String) := [(RX2, 9, yX5_isCell, RX5), (RX0, 46, yX5_isCell, RX5)]
def Sx (adK adV : Nat → Nat) (A : Nat → Prop) (U : State) (H : Heap) : Prop := vk_S nJS lenJS bytJS adK adV A U H ∧ (∀ i, i < nJS → vk_R "CoresAreWills$Text" (ixJS.getD i 0) (txJS.getD i "") (adK i) U) ∧ ∀ q ∈ nests, va_Nw (.methodLinkNest q.1 q.2.1 q.2.2.1 q.2.2.2) U
def Cx (p : Program) (s : State) (m : MethodId) (args : Array Value) (c : Code) (cc : ByteArray) (nL : Nat) (Ts : List Cond) (own : String) (D : va_G) (cI : ClassId) (adK adV : Nat → Nat) (A : Nat → Prop) : Prop :=
  p.tables.exec = Jvm.exec ∧ c.code = cc ∧ c.maxLocals = nL ∧ s.vm.findClass own = some m.cls ∧ (∀ w ∈ Ts, w.before args s = true) ∧ va_K D vwCl [(cI, .int)] s ∧ Sx adK adV A s s.heap ∧ (∀ q : Nat, s.heap.size ≤ q → A q)
def WW (p : Program) (l : Launch) (e : Env) (R : Room) (s : State) (m : MethodId) (args : Array Value) (below : List Frame) (meth : Method) (c : Code) (Q : State → Prop) (nL : Nat) (D : va_G) (A : Nat → Prop) (cells slots : Nat) (pc : Nat) (lv : List (Nat × Value)) (st : List Value) (ws : va_W) : Prop :=
  ∀ (H : Heap) (locs : List Loc) (ls : Array Slot), lv_has ls nL lv → va_P D vwCl ws H → va_D A ws → va_S A s.heap H locs → W p l e R s m args below meth c H locs cells slots Q (F0 m pc ls st)
-- checks and joins of the mirrored functions
def jn {α β : Type} (a : α) (k : α → β) : β := k a
def bn {α β : Type} (x : Option α) (k : α → Option β) : Option β := match x with | some a => k a | none => none
def ck {α : Type} (b : Bool) (k : Option α) : Option α := match b with | true => k | false => none
def inb (i : Int32) (n : Nat) : Bool := !(decide (i < 0) || decide (n ≤ i.toNatClampNeg))
def isb (v : Int32) : Bool := decide (v = 0) || decide (v = 1)
def nz (y : Int32) : Bool := !(decide (y = 0))
def nzl (y : Int64) : Bool := !(decide (y = 0))
def jrem (x y : Int32) : Int32 := x - x / y * y
def jreml (x y : Int64) : Int64 := x - x / y * y
def jshl (x y : Int32) : Int32 := x <<< (y &&& 31)
def jshr (x y : Int32) : Int32 := x >>> (y &&& 31)
def jushr (x y : Int32) : Int32 := (x.toUInt32 >>> (y.toUInt32 &&& Int32.toUInt32 31)).toInt32
def jmin (x y : Int32) : Int32 := if y < x then y else x
def jmax (x y : Int32) : Int32 := if x < y then y else x
def jabs (x : Int32) : Int32 := if 0 ≤ x then x else 0 - x
theorem ite_t {c : Prop} {i : Decidable c} {α : Type} {a b o : α} (hc : c) (h : @ite α c i a b = o) : a = o := by rw [if_pos hc] at h; exact h
theorem ite_f {c : Prop} {i : Decidable c} {α : Type} {a b o : α} (hc : ¬ c) (h : @ite α c i a b = o) : b = o := by rw [if_neg hc] at h; exact h
theorem jn_t {c : Prop} {i : Decidable c} {α β : Type} {a b : α} {k : α → β} {o : β} (hc : c) (h : jn (@ite α c i a b) k = o) : jn a k = o := by rw [if_pos hc] at h; exact h
theorem jn_f {c : Prop} {i : Decidable c} {α β : Type} {a b : α} {k : α → β} {o : β} (hc : ¬ c) (h : jn (@ite α c i a b) k = o) : jn b k = o := by rw [if_neg hc] at h; exact h
theorem bn_t {c : Prop} {i : Decidable c} {α β : Type} {a b : Option α} {k : α → Option β} {o : Option β} (hc : c) (h : bn (@ite (Option α) c i a b) k = o) : bn a k = o := by rw [if_pos hc] at h; exact h
theorem bn_f {c : Prop} {i : Decidable c} {α β : Type} {a b : Option α} {k : α → Option β} {o : Option β} (hc : ¬ c) (h : bn (@ite (Option α) c i a b) k = o) : bn b k = o := by rw [if_neg hc] at h; exact h
theorem bn_s {α β : Type} {x : Option α} {k : α → Option β} {o : β} (h : bn x k = some o) : ∃ a, x = some a ∧ k a = some o := by
  cases x with
  | none => cases h
  | some a => exact ⟨a, rfl, h⟩
/-- a call inside a region whose value is bound -/
theorem bn_b {α β γ : Type} {x : Option α} {k : α → Option β} {j : β → Option γ} {o : γ} (h : bn (bn x k) j = some o) : ∃ a, x = some a ∧ bn (k a) j = some o := by
  cases x with
  | none => cases h
  | some a => exact ⟨a, rfl, h⟩
theorem inb_in {i : Int32} {n : Nat} (h : inb i n = true) : vp_in i n := by
  intro q
  simp only [inb, Bool.not_eq_true', Bool.or_eq_false_iff, decide_eq_false_iff_not] at h
  exact q.elim h.1 h.2
theorem in_inb {i : Int32} {n : Nat} (h : vp_in i n) : inb i n = true := by
  simp only [inb, Bool.not_eq_true', Bool.or_eq_false_iff, decide_eq_false_iff_not]
  exact ⟨fun q => h (Or.inl q), fun q => h (Or.inr q)⟩
theorem ck_s {α : Type} {b : Bool} {k : Option α} {o : α} (h : ck b k = some o) : b = true ∧ k = some o := by
  cases b with
  | false => cases h
  | true => exact ⟨rfl, h⟩
theorem ck_b {α β : Type} {b : Bool} {k : Option α} {j : α → Option β} {o : β} (h : bn (ck b k) j = some o) : b = true ∧ bn k j = some o := by
  cases b with
  | false => cases h
  | true => exact ⟨rfl, h⟩
theorem ck_in {α : Type} {i : Int32} {n : Nat} {k : Option α} {o : α} (h : ck (inb i n) k = some o) : vp_in i n ∧ k = some o := ⟨inb_in (ck_s h).1, (ck_s h).2⟩
theorem ck_inb {α β : Type} {i : Int32} {n : Nat} {k : Option α} {j : α → Option β} {o : β} (h : bn (ck (inb i n) k) j = some o) : vp_in i n ∧ bn k j = some o := ⟨inb_in (ck_b h).1, (ck_b h).2⟩
theorem nz_ne {y : Int32} (h : nz y = true) : ¬ y = 0 := by simpa [nz] using h
theorem nzl_ne {y : Int64} (h : nzl y = true) : ¬ y = 0 := by simpa [nzl] using h
theorem isb_or {y : Int32} (h : isb y = true) : y = 0 ∨ y = 1 := by simpa [isb] using h
theorem ck_nz {α : Type} {y : Int32} {k : Option α} {o : α} (h : ck (nz y) k = some o) : ¬ y = 0 ∧ k = some o := ⟨nz_ne (ck_s h).1, (ck_s h).2⟩
theorem ck_nzl {α : Type} {y : Int64} {k : Option α} {o : α} (h : ck (nzl y) k = some o) : ¬ y = 0 ∧ k = some o := ⟨nzl_ne (ck_s h).1, (ck_s h).2⟩
theorem ck_isb {α : Type} {y : Int32} {k : Option α} {o : α} (h : ck (isb y) k = some o) : (y = 0 ∨ y = 1) ∧ k = some o := ⟨isb_or (ck_s h).1, (ck_s h).2⟩
theorem ne_toInt {x k : Int32} (h : ¬ x = k) : ¬ x.toInt = k.toInt := fun q => h (Int32.toInt_inj.mp q)
theorem Sx.moved {adK adV : Nat → Nat} {A : Nat → Prop} {u U : State} {H : Heap} (hW : u.WarmedH U.vm) (h : Sx adK adV A u H) : Sx adK adV A U H := ⟨h.1.moved hW.alike, fun i hi => (h.2.1 i hi).warm hW, fun q hq => va_Nw.warmM hW (h.2.2 q hq)⟩
theorem Sx.kept {adK adV : Nat → Nat} {A : Nat → Prop} {U : State} {H H1 : Heap} (h : Sx adK adV A U H) (hq : ∀ a : Nat, a < H.size → ¬ A a → H1[a]? = H[a]?) : Sx adK adV A U H1 := ⟨h.1.kept hq, h.2⟩
theorem Sx.narrow {adK adV : Nat → Nat} {A B : Nat → Prop} {U : State} {H : Heap} (h : Sx adK adV A U H) (hAB : ∀ q, B q → A q) : Sx adK adV B U H := ⟨h.1.narrow hAB, h.2⟩
theorem Sx.calling {adK adV : Nat → Nat} {A : Nat → Prop} {U : State} {g : JFrame} {mk : MethodId} {a : Array Value} (h : Sx adK adV A U U.heap) : Sx adK adV A (U.calling g mk a) (U.calling g mk a).heap := ⟨h.1.moved (U := U.calling g mk a) (Vm.Alike.refl U.vm), fun i hi => vk_R.same (u := U) (U := U.calling g mk a) rfl (h.2.1 i hi), fun q hq => va_Nw.same (u := U) (U := U.calling g mk a) rfl rfl (h.2.2 q hq)⟩
def Pq (D : va_G) (cI : ClassId) (adK adV : Nat → Nat) (wc : va_W) (sz : Nat) (U : State) : Prop := U.heap.size = sz ∧ va_P D vwCl wc U.heap ∧ va_K D vwCl [(cI, .int)] U ∧ va_D (fun _ => True) wc ∧ Sx adK adV (va_A wc sz) U U.heap
def Qq (D : va_G) (cI : ClassId) (A : Nat → Prop) (w1 : (Nat → Nat) → va_W) (rv : Option Value) : Array Value → State → Outcome → State → Prop := fun _ st oc t => (oc = .returned rv ∧ ∃ k : Nat → Nat, va_P D vwCl (w1 k) t.heap ∧ va_K D vwCl [(cI, .int)] t ∧ va_D A (w1 k)) ∧ va_F A st t
/-- A CONTRACT: called with As in a heap that holds wc, the method returns rv, and the heap holds w1 (of some new addresses k); nothing else that was there has changed -/
def Ct (l : Launch) (D : va_G) (cI : ClassId) (adK adV : Nat → Nat) (y : MethodName) (wsy : List Cond) (rm : Room) (mc ms : Nat) (As : List Value) (wc : va_W) (w1 : (Nat → Nat) → va_W) (rv : Option Value) : Prop :=
  ∀ sz : Nat, Met l y wsy rm (va_Pc As (Pq D cI adK adV wc sz)) (Qq D cI (va_A wc sz) w1 rv) mc ms (va_A wc sz)
theorem Pq.blind {D : va_G} {cI : ClassId} {adK adV : Nat → Nat} {wc : va_W} {sz : Nat} {As : List Value} : FrameBlind (va_Pc As (Pq D cI adK adV wc sz)) := by
  intro a U g mk h
  obtain ⟨h0, h1, h2, h3, h4, h5⟩ := h
  exact ⟨h0, h1, h2, va_K.moved (u := U) (U := U.calling g mk a) (Vm.Alike.refl U.vm) h3, h4, h5.calling⟩
section FR
variable {p : Program} {l : Launch} {e : Env} {R : Room} {s : State} {m : MethodId} {args : Array Value} {below : List Frame} {meth : Method} {c : Code} {Q : State → Prop} {cells slots : Nat}
variable {cc : ByteArray} {nL : Nat} {Ts : List Cond} {own : String} {D : va_G} {cI : ClassId} {adK adV : Nat → Nat} {A : Nat → Prop}
variable {pc : Nat} {lv : List (Nat × Value)} {st : List Value} {ws : va_W}
/-- a method's contract out of its walk -/
theorem Ct.of {y : MethodName} {rm : Room} {mc ms : Nat} {As : List Value} {wc : va_W} {w1 : (Nat → Nat) → va_W} {rv : Option Value} {ret : Option FieldType} (hy : plainName y.cls = true) (hn : (lg_sl As).length ≤ nL) (ho : own = y.cls)
    (body : ∀ (p : Program) (e : Env) (s : State) (m : MethodId) (args : Array Value) (below : List Frame) (meth : Method) (c : Code) (A : Nat → Prop), Cx p s m args c cc nL UU own D cI adK adV A → meth.sig.returnType = ret → meth.locks = false → meth.name = y.name → WW p l e (headSpec (wy y cc nL ret) rm).room s m args below meth c (MQ below (Qq D cI A w1 rv) args s mc ms A) nL D A 0 0 0 (lv_args 0 As) [] wc) :
    Ct l D cI adK adV y (wy y cc nL ret) rm mc ms As wc w1 rv := by
  intro sz
  refine Met.ofW (cc := cc) (maxL := nL) (ret := ret) hy rfl ?_
  intro p e s m args below meth c s₁ B hml hv
  obtain ⟨rfl, hsz, hP, hK, hD0, hSx⟩ := hv
  subst ho
  subst hsz
  have hA : ∀ q : Nat, s.heap.size ≤ q → va_A wc s.heap.size q := fun q h => Or.inr h
  have hl := lv_entry As hn
  rw [lg_entry_eq]
  exact body p e s m As.toArray below meth c (va_A wc s.heap.size) ⟨B.exec, B.bytes, hml, findClass_of_methodNamed B.named, fun w h => atoms_spec (ws := wy y cc nL ret) B.pre w (List.mem_cons_of_mem _ h), hK, hSx, hA⟩ B.returns B.notSynchronized (name_of_methodNamed B.named B.method).1 s.heap [] _ hl hP hD0.self va_S.rf

theorem s_iload_n (C : Cx p s m args c cc nL Ts own D cI adK adV A) {k : Fin 4} {x : Int32} (pc1 : Nat) (j : Nat) (hpc : pc + 1 = pc1) (hdg : decode cc pc = .ok (.iload_n k, 1)) (hj : lv[j]? = some ((k : Nat), .int x)) (kk : WW p l e R s m args below meth c Q nL D A cells slots pc1 lv (.int x :: st) ws) : WW p l e R s m args below meth c Q nL D A cells slots pc lv st ws := by
  subst hpc
  exact fun H locs ls hl hP hD hS => lv_iload_n C.1 C.2.1 hdg rfl (lv_at hl j hj) (kk H locs ls hl hP hD hS)
theorem s_iload (C : Cx p s m args c cc nL Ts own D cI adK adV A) {i : Nat} {x : Int32} (pc1 : Nat) (j : Nat) (hpc : pc + 2 = pc1) (hdg : decode cc pc = .ok (.iload i, 2)) (hj : lv[j]? = some (i, .int x)) (kk : WW p l e R s m args below meth c Q nL D A cells slots pc1 lv (.int x :: st) ws) : WW p l e R s m args below meth c Q nL D A cells slots pc lv st ws := by
  subst hpc
  exact fun H locs ls hl hP hD hS => lv_iload C.1 C.2.1 hdg (lv_at hl j hj) (kk H locs ls hl hP hD hS)
theorem s_lload_n (C : Cx p s m args c cc nL Ts own D cI adK adV A) {k : Fin 4} {x : Int64} (pc1 : Nat) (j : Nat) (hpc : pc + 1 = pc1) (hdg : decode cc pc = .ok (.lload_n k, 1)) (hj : lv[j]? = some ((k : Nat), .long x)) (kk : WW p l e R s m args below meth c Q nL D A cells slots pc1 lv (.long x :: st) ws) : WW p l e R s m args below meth c Q nL D A cells slots pc lv st ws := by
  subst hpc
  exact fun H locs ls hl hP hD hS => lv_lload_n C.1 C.2.1 hdg rfl (lv_at hl j hj) (kk H locs ls hl hP hD hS)
theorem s_lload (C : Cx p s m args c cc nL Ts own D cI adK adV A) {i : Nat} {x : Int64} (pc1 : Nat) (j : Nat) (hpc : pc + 2 = pc1) (hdg : decode cc pc = .ok (.lload i, 2)) (hj : lv[j]? = some (i, .long x)) (kk : WW p l e R s m args below meth c Q nL D A cells slots pc1 lv (.long x :: st) ws) : WW p l e R s m args below meth c Q nL D A cells slots pc lv st ws := by
  subst hpc
  exact fun H locs ls hl hP hD hS => lv_lload C.1 C.2.1 hdg (lv_at hl j hj) (kk H locs ls hl hP hD hS)
theorem s_aload_n (C : Cx p s m args c cc nL Ts own D cI adK adV A) {k : Fin 4} {x : Nat} (pc1 : Nat) (j : Nat) (hpc : pc + 1 = pc1) (hdg : decode cc pc = .ok (.aload_n k, 1)) (hj : lv[j]? = some ((k : Nat), .ref x)) (kk : WW p l e R s m args below meth c Q nL D A cells slots pc1 lv (.ref x :: st) ws) : WW p l e R s m args below meth c Q nL D A cells slots pc lv st ws := by
  subst hpc
  exact fun H locs ls hl hP hD hS => lv_aload_n C.1 C.2.1 hdg rfl (lv_at hl j hj) (kk H locs ls hl hP hD hS)
theorem s_aload (C : Cx p s m args c cc nL Ts own D cI adK adV A) {i : Nat} {x : Nat} (pc1 : Nat) (j : Nat) (hpc : pc + 2 = pc1) (hdg : decode cc pc = .ok (.aload i, 2)) (hj : lv[j]? = some (i, .ref x)) (kk : WW p l e R s m args below meth c Q nL D A cells slots pc1 lv (.ref x :: st) ws) : WW p l e R s m args below meth c Q nL D A cells slots pc lv st ws := by
  subst hpc
  exact fun H locs ls hl hP hD hS => lv_aload C.1 C.2.1 hdg (lv_at hl j hj) (kk H locs ls hl hP hD hS)
theorem s_iconst (C : Cx p s m args c cc nL Ts own D cI adK adV A) {n : Int} {v : Int32} (pc1 : Nat) (hpc : pc + 1 = pc1) (hdg : decode cc pc = .ok (.iconst n, 1)) (hv : Int32.ofInt n = v) (kk : WW p l e R s m args below meth c Q nL D A cells slots pc1 lv (.int v :: st) ws) : WW p l e R s m args below meth c Q nL D A cells slots pc lv st ws := by
  subst hpc
  exact fun H locs ls hl hP hD hS => lv_iconst C.1 C.2.1 hdg hv (kk H locs ls hl hP hD hS)
theorem s_bipush (C : Cx p s m args c cc nL Ts own D cI adK adV A) {n : Int} {v : Int32} (pc1 : Nat) (hpc : pc + 2 = pc1) (hdg : decode cc pc = .ok (.bipush n, 2)) (hv : (Int8.ofInt n).toInt32 = v) (kk : WW p l e R s m args below meth c Q nL D A cells slots pc1 lv (.int v :: st) ws) : WW p l e R s m args below meth c Q nL D A cells slots pc lv st ws := by
  subst hpc
  exact fun H locs ls hl hP hD hS => lv_bipush C.1 C.2.1 hdg hv (kk H locs ls hl hP hD hS)
theorem s_sipush (C : Cx p s m args c cc nL Ts own D cI adK adV A) {n : Int} {v : Int32} (pc1 : Nat) (hpc : pc + 3 = pc1) (hdg : decode cc pc = .ok (.sipush n, 3)) (hv : (Int16.ofInt n).toInt32 = v) (kk : WW p l e R s m args below meth c Q nL D A cells slots pc1 lv (.int v :: st) ws) : WW p l e R s m args below meth c Q nL D A cells slots pc lv st ws := by
  subst hpc
  exact fun H locs ls hl hP hD hS => lv_sipush C.1 C.2.1 hdg hv (kk H locs ls hl hP hD hS)
theorem s_lconst (C : Cx p s m args c cc nL Ts own D cI adK adV A) {n : Fin 2} {v : Int64} (pc1 : Nat) (hpc : pc + 1 = pc1) (hdg : decode cc pc = .ok (.lconst n, 1)) (hv : Int64.ofNat (n : Nat) = v) (kk : WW p l e R s m args below meth c Q nL D A cells slots pc1 lv (.long v :: st) ws) : WW p l e R s m args below meth c Q nL D A cells slots pc lv st ws := by
  subst hpc
  exact fun H locs ls hl hP hD hS => lv_lconst C.1 C.2.1 hdg hv (kk H locs ls hl hP hD hS)
theorem s_ldc (C : Cx p s m args c cc nL Ts own D cI adK adV A) {index : Nat} {v : Int32} (pc1 : Nat) (hpc : pc + 2 = pc1) (hdg : decode cc pc = .ok (.ldc index, 2)) (hv : Jvm.Cond.constant own index v ∈ Ts) (kk : WW p l e R s m args below meth c Q nL D A cells slots pc1 lv (.int v :: st) ws) : WW p l e R s m args below meth c Q nL D A cells slots pc lv st ws := by
  subst hpc
  exact fun H locs ls hl hP hD hS => lv_ldc C.1 C.2.1 C.2.2.2.1 (C.2.2.2.2.1 _ hv) hdg (kk H locs ls hl hP hD hS)
theorem s_ldc_w (C : Cx p s m args c cc nL Ts own D cI adK adV A) {index : Nat} {v : Int32} (pc1 : Nat) (hpc : pc + 3 = pc1) (hdg : decode cc pc = .ok (.ldc_w index, 3)) (hv : Jvm.Cond.constant own index v ∈ Ts) (kk : WW p l e R s m args below meth c Q nL D A cells slots pc1 lv (.int v :: st) ws) : WW p l e R s m args below meth c Q nL D A cells slots pc lv st ws := by
  subst hpc
  exact fun H locs ls hl hP hD hS => lv_ldcw C.1 C.2.1 C.2.2.2.1 (C.2.2.2.2.1 _ hv) hdg (kk H locs ls hl hP hD hS)
theorem s_ldc2_w (C : Cx p s m args c cc nL Ts own D cI adK adV A) {index : Nat} {v : Int64} (pc1 : Nat) (hpc : pc + 3 = pc1) (hdg : decode cc pc = .ok (.ldc2_w index, 3)) (hv : Jvm.Cond.constantLong own index v ∈ Ts) (kk : WW p l e R s m args below meth c Q nL D A cells slots pc1 lv (.long v :: st) ws) : WW p l e R s m args below meth c Q nL D A cells slots pc lv st ws := by
  subst hpc
  exact fun H locs ls hl hP hD hS => lv_ldc2 C.1 C.2.1 C.2.2.2.1 (C.2.2.2.2.1 _ hv) hdg (kk H locs ls hl hP hD hS)
theorem s_ldcS (C : Cx p s m args c cc nL Ts own D cI adK adV A) {index i : Nat} {tx : String} (pc1 : Nat) (hpc : pc + 2 = pc1) (hdg : decode cc pc = .ok (.ldc index, 2)) (ho : own = "CoresAreWills$Text") (hi : i < nJS) (hx : ixJS.getD i 0 = index) (kk : WW p l e R s m args below meth c Q nL D A cells slots pc1 lv (.ref (adK i) :: st) ws) : WW p l e R s m args below meth c Q nL D A cells slots pc lv st ws := by
  subst hpc
  subst ho
  subst hx
  exact fun H locs ls hl hP hD hS => va_ldcS C.1 C.2.1 C.2.2.2.1 (C.2.2.2.2.2.2.1.2.1 i hi) hdg (kk H locs ls hl hP hD hS)
theorem s_iadd (C : Cx p s m args c cc nL Ts own D cI adK adV A) {x y : Int32} (pc1 : Nat) (hpc : pc + 1 = pc1) (hdg : decode cc pc = .ok (.iadd, 1)) (kk : WW p l e R s m args below meth c Q nL D A cells slots pc1 lv (.int (x + y) :: st) ws) : WW p l e R s m args below meth c Q nL D A cells slots pc lv (.int y :: .int x :: st) ws := by
  subst hpc
  exact fun H locs ls hl hP hD hS => lv_iadd C.1 C.2.1 hdg (kk H locs ls hl hP hD hS)
theorem s_isub (C : Cx p s m args c cc nL Ts own D cI adK adV A) {x y : Int32} (pc1 : Nat) (hpc : pc + 1 = pc1) (hdg : decode cc pc = .ok (.isub, 1)) (kk : WW p l e R s m args below meth c Q nL D A cells slots pc1 lv (.int (x - y) :: st) ws) : WW p l e R s m args below meth c Q nL D A cells slots pc lv (.int y :: .int x :: st) ws := by
  subst hpc
  exact fun H locs ls hl hP hD hS => lv_isub C.1 C.2.1 hdg (kk H locs ls hl hP hD hS)
theorem s_imul (C : Cx p s m args c cc nL Ts own D cI adK adV A) {x y : Int32} (pc1 : Nat) (hpc : pc + 1 = pc1) (hdg : decode cc pc = .ok (.imul, 1)) (kk : WW p l e R s m args below meth c Q nL D A cells slots pc1 lv (.int (x * y) :: st) ws) : WW p l e R s m args below meth c Q nL D A cells slots pc lv (.int y :: .int x :: st) ws := by
  subst hpc
  exact fun H locs ls hl hP hD hS => lv_imul C.1 C.2.1 hdg (kk H locs ls hl hP hD hS)
theorem s_iand (C : Cx p s m args c cc nL Ts own D cI adK adV A) {x y : Int32} (pc1 : Nat) (hpc : pc + 1 = pc1) (hdg : decode cc pc = .ok (.iand, 1)) (kk : WW p l e R s m args below meth c Q nL D A cells slots pc1 lv (.int (x &&& y) :: st) ws) : WW p l e R s m args below meth c Q nL D A cells slots pc lv (.int y :: .int x :: st) ws := by
  subst hpc
  exact fun H locs ls hl hP hD hS => lv_iand C.1 C.2.1 hdg (kk H locs ls hl hP hD hS)
theorem s_ior (C : Cx p s m args c cc nL Ts own D cI adK adV A) {x y : Int32} (pc1 : Nat) (hpc : pc + 1 = pc1) (hdg : decode cc pc = .ok (.ior, 1)) (kk : WW p l e R s m args below meth c Q nL D A cells slots pc1 lv (.int (x ||| y) :: st) ws) : WW p l e R s m args below meth c Q nL D A cells slots pc lv (.int y :: .int x :: st) ws := by
  subst hpc
  exact fun H locs ls hl hP hD hS => lv_ior C.1 C.2.1 hdg (kk H locs ls hl hP hD hS)
theorem s_ixor (C : Cx p s m args c cc nL Ts own D cI adK adV A) {x y : Int32} (pc1 : Nat) (hpc : pc + 1 = pc1) (hdg : decode cc pc = .ok (.ixor, 1)) (kk : WW p l e R s m args below meth c Q nL D A cells slots pc1 lv (.int (x ^^^ y) :: st) ws) : WW p l e R s m args below meth c Q nL D A cells slots pc lv (.int y :: .int x :: st) ws := by
  subst hpc
  exact fun H locs ls hl hP hD hS => lv_ixor C.1 C.2.1 hdg (kk H locs ls hl hP hD hS)
theorem s_ishl (C : Cx p s m args c cc nL Ts own D cI adK adV A) {x y : Int32} (pc1 : Nat) (hpc : pc + 1 = pc1) (hdg : decode cc pc = .ok (.ishl, 1)) (kk : WW p l e R s m args below meth c Q nL D A cells slots pc1 lv (.int (jshl x y) :: st) ws) : WW p l e R s m args below meth c Q nL D A cells slots pc lv (.int y :: .int x :: st) ws := by
  subst hpc
  exact fun H locs ls hl hP hD hS => lv_ishl C.1 C.2.1 hdg (kk H locs ls hl hP hD hS)
theorem s_ishr (C : Cx p s m args c cc nL Ts own D cI adK adV A) {x y : Int32} (pc1 : Nat) (hpc : pc + 1 = pc1) (hdg : decode cc pc = .ok (.ishr, 1)) (kk : WW p l e R s m args below meth c Q nL D A cells slots pc1 lv (.int (jshr x y) :: st) ws) : WW p l e R s m args below meth c Q nL D A cells slots pc lv (.int y :: .int x :: st) ws := by
  subst hpc
  exact fun H locs ls hl hP hD hS => lv_ishr C.1 C.2.1 hdg (kk H locs ls hl hP hD hS)
theorem s_iushr (C : Cx p s m args c cc nL Ts own D cI adK adV A) {x y : Int32} (pc1 : Nat) (hpc : pc + 1 = pc1) (hdg : decode cc pc = .ok (.iushr, 1)) (kk : WW p l e R s m args below meth c Q nL D A cells slots pc1 lv (.int (jushr x y) :: st) ws) : WW p l e R s m args below meth c Q nL D A cells slots pc lv (.int y :: .int x :: st) ws := by
  subst hpc
  exact fun H locs ls hl hP hD hS => lv_iushr C.1 C.2.1 hdg rfl (kk H locs ls hl hP hD hS)
theorem s_ineg (C : Cx p s m args c cc nL Ts own D cI adK adV A) {x : Int32} (pc1 : Nat) (hpc : pc + 1 = pc1) (hdg : decode cc pc = .ok (.ineg, 1)) (kk : WW p l e R s m args below meth c Q nL D A cells slots pc1 lv (.int (-x) :: st) ws) : WW p l e R s m args below meth c Q nL D A cells slots pc lv (.int x :: st) ws := by
  subst hpc
  exact fun H locs ls hl hP hD hS => lv_ineg C.1 C.2.1 hdg (kk H locs ls hl hP hD hS)
theorem s_idiv (C : Cx p s m args c cc nL Ts own D cI adK adV A) {x y : Int32} (pc1 : Nat) (hpc : pc + 1 = pc1) (hdg : decode cc pc = .ok (.idiv, 1)) (hne : ¬ y = 0) (kk : WW p l e R s m args below meth c Q nL D A cells slots pc1 lv (.int (x / y) :: st) ws) : WW p l e R s m args below meth c Q nL D A cells slots pc lv (.int y :: .int x :: st) ws := by
  subst hpc
  exact fun H locs ls hl hP hD hS => lv_idiv C.1 C.2.1 hdg hne (kk H locs ls hl hP hD hS)
theorem s_irem (C : Cx p s m args c cc nL Ts own D cI adK adV A) {x y : Int32} (pc1 : Nat) (hpc : pc + 1 = pc1) (hdg : decode cc pc = .ok (.irem, 1)) (hne : ¬ y = 0) (kk : WW p l e R s m args below meth c Q nL D A cells slots pc1 lv (.int (jrem x y) :: st) ws) : WW p l e R s m args below meth c Q nL D A cells slots pc lv (.int y :: .int x :: st) ws := by
  subst hpc
  exact fun H locs ls hl hP hD hS => lv_irem C.1 C.2.1 hdg hne (kk H locs ls hl hP hD hS)
theorem s_ladd (C : Cx p s m args c cc nL Ts own D cI adK adV A) {x y : Int64} (pc1 : Nat) (hpc : pc + 1 = pc1) (hdg : decode cc pc = .ok (.ladd, 1)) (kk : WW p l e R s m args below meth c Q nL D A cells slots pc1 lv (.long (x + y) :: st) ws) : WW p l e R s m args below meth c Q nL D A cells slots pc lv (.long y :: .long x :: st) ws := by
  subst hpc
  exact fun H locs ls hl hP hD hS => lv_ladd C.1 C.2.1 hdg (kk H locs ls hl hP hD hS)
theorem s_lsub (C : Cx p s m args c cc nL Ts own D cI adK adV A) {x y : Int64} (pc1 : Nat) (hpc : pc + 1 = pc1) (hdg : decode cc pc = .ok (.lsub, 1)) (kk : WW p l e R s m args below meth c Q nL D A cells slots pc1 lv (.long (x - y) :: st) ws) : WW p l e R s m args below meth c Q nL D A cells slots pc lv (.long y :: .long x :: st) ws := by
  subst hpc
  exact fun H locs ls hl hP hD hS => lv_lsub C.1 C.2.1 hdg (kk H locs ls hl hP hD hS)
theorem s_lmul (C : Cx p s m args c cc nL Ts own D cI adK adV A) {x y : Int64} (pc1 : Nat) (hpc : pc + 1 = pc1) (hdg : decode cc pc = .ok (.lmul, 1)) (kk : WW p l e R s m args below meth c Q nL D A cells slots pc1 lv (.long (x * y) :: st) ws) : WW p l e R s m args below meth c Q nL D A cells slots pc lv (.long y :: .long x :: st) ws := by
  subst hpc
  exact fun H locs ls hl hP hD hS => lv_lmul C.1 C.2.1 hdg (kk H locs ls hl hP hD hS)
theorem s_ldiv (C : Cx p s m args c cc nL Ts own D cI adK adV A) {x y : Int64} (pc1 : Nat) (hpc : pc + 1 = pc1) (hdg : decode cc pc = .ok (.ldiv, 1)) (hne : ¬ y = 0) (kk : WW p l e R s m args below meth c Q nL D A cells slots pc1 lv (.long (x / y) :: st) ws) : WW p l e R s m args below meth c Q nL D A cells slots pc lv (.long y :: .long x :: st) ws := by
  subst hpc
  exact fun H locs ls hl hP hD hS => lv_ldiv C.1 C.2.1 hdg hne (kk H locs ls hl hP hD hS)
theorem s_lrem (C : Cx p s m args c cc nL Ts own D cI adK adV A) {x y : Int64} (pc1 : Nat) (hpc : pc + 1 = pc1) (hdg : decode cc pc = .ok (.lrem, 1)) (hne : ¬ y = 0) (kk : WW p l e R s m args below meth c Q nL D A cells slots pc1 lv (.long (jreml x y) :: st) ws) : WW p l e R s m args below meth c Q nL D A cells slots pc lv (.long y :: .long x :: st) ws := by
  subst hpc
  exact fun H locs ls hl hP hD hS => lv_lrem C.1 C.2.1 hdg hne (kk H locs ls hl hP hD hS)
theorem s_lcmp (C : Cx p s m args c cc nL Ts own D cI adK adV A) {x y : Int64} (pc1 : Nat) (hpc : pc + 1 = pc1) (hdg : decode cc pc = .ok (.lcmp, 1)) (kk : WW p l e R s m args below meth c Q nL D A cells slots pc1 lv (.int (lg_cmp x y) :: st) ws) : WW p l e R s m args below meth c Q nL D A cells slots pc lv (.long y :: .long x :: st) ws := by
  subst hpc
  exact fun H locs ls hl hP hD hS => W.lcmp C.1 C.2.1 hdg (kk H locs ls hl hP hD hS)
theorem s_i2l (C : Cx p s m args c cc nL Ts own D cI adK adV A) {x : Int32} (pc1 : Nat) (hpc : pc + 1 = pc1) (hdg : decode cc pc = .ok (.i2l, 1)) (kk : WW p l e R s m args below meth c Q nL D A cells slots pc1 lv (.long x.toInt64 :: st) ws) : WW p l e R s m args below meth c Q nL D A cells slots pc lv (.int x :: st) ws := by
  subst hpc
  exact fun H locs ls hl hP hD hS => lv_i2l C.1 C.2.1 hdg rfl (kk H locs ls hl hP hD hS)
theorem s_l2i (C : Cx p s m args c cc nL Ts own D cI adK adV A) {x : Int64} (pc1 : Nat) (hpc : pc + 1 = pc1) (hdg : decode cc pc = .ok (.l2i, 1)) (kk : WW p l e R s m args below meth c Q nL D A cells slots pc1 lv (.int x.toInt32 :: st) ws) : WW p l e R s m args below meth c Q nL D A cells slots pc lv (.long x :: st) ws := by
  subst hpc
  exact fun H locs ls hl hP hD hS => lv_l2i C.1 C.2.1 hdg rfl (kk H locs ls hl hP hD hS)
theorem s_i2c (C : Cx p s m args c cc nL Ts own D cI adK adV A) {x : Int32} (pc1 : Nat) (hpc : pc + 1 = pc1) (hdg : decode cc pc = .ok (.i2c, 1)) (kk : WW p l e R s m args below meth c Q nL D A cells slots pc1 lv (.int (x.toUInt32 % 65536).toInt32 :: st) ws) : WW p l e R s m args below meth c Q nL D A cells slots pc lv (.int x :: st) ws := by
  subst hpc
  exact fun H locs ls hl hP hD hS => lv_i2c C.1 C.2.1 hdg rfl (kk H locs ls hl hP hD hS)
theorem s_i2b (C : Cx p s m args c cc nL Ts own D cI adK adV A) {x : Int32} (pc1 : Nat) (hpc : pc + 1 = pc1) (hdg : decode cc pc = .ok (.i2b, 1)) (kk : WW p l e R s m args below meth c Q nL D A cells slots pc1 lv (.int x.toInt8.toInt32 :: st) ws) : WW p l e R s m args below meth c Q nL D A cells slots pc lv (.int x :: st) ws := by
  subst hpc
  exact fun H locs ls hl hP hD hS => lv_i2b C.1 C.2.1 hdg rfl (kk H locs ls hl hP hD hS)
theorem s_dup (C : Cx p s m args c cc nL Ts own D cI adK adV A) {v : Value} (pc1 : Nat) (hpc : pc + 1 = pc1) (hdg : decode cc pc = .ok (.dup, 1)) (hv : v.category = 1) (kk : WW p l e R s m args below meth c Q nL D A cells slots pc1 lv (v :: v :: st) ws) : WW p l e R s m args below meth c Q nL D A cells slots pc lv (v :: st) ws := by
  subst hpc
  exact fun H locs ls hl hP hD hS => lv_dup C.1 C.2.1 hdg hv (kk H locs ls hl hP hD hS)
theorem s_dup2 (C : Cx p s m args c cc nL Ts own D cI adK adV A) {v u : Value} (pc1 : Nat) (hpc : pc + 1 = pc1) (hdg : decode cc pc = .ok (.dup2, 1)) (hv : v.category = 1) (hu : u.category = 1) (kk : WW p l e R s m args below meth c Q nL D A cells slots pc1 lv (v :: u :: v :: u :: st) ws) : WW p l e R s m args below meth c Q nL D A cells slots pc lv (v :: u :: st) ws := by
  subst hpc
  exact fun H locs ls hl hP hD hS => lv_dup2_11 C.1 C.2.1 hdg hv hu (kk H locs ls hl hP hD hS)
theorem s_pop (C : Cx p s m args c cc nL Ts own D cI adK adV A) {v : Value} (pc1 : Nat) (hpc : pc + 1 = pc1) (hdg : decode cc pc = .ok (.pop, 1)) (hv : v.category = 1) (kk : WW p l e R s m args below meth c Q nL D A cells slots pc1 lv st ws) : WW p l e R s m args below meth c Q nL D A cells slots pc lv (v :: st) ws := by
  subst hpc
  exact fun H locs ls hl hP hD hS => lv_pop C.1 C.2.1 hdg hv (kk H locs ls hl hP hD hS)
theorem s_istore_n (C : Cx p s m args c cc nL Ts own D cI adK adV A) {k : Fin 4} {x : Int32} {lv1 : List (Nat × Value)} (pc1 i : Nat) (hpc : pc + 1 = pc1) (hdg : decode cc pc = .ok (.istore_n k, 1)) (hi : (k : Nat) = i) (hn : i < nL) (hl1 : (i, Value.int x) :: lv.filter (fun q => !(q.1 == i) && !(q.1 + 1 == i && q.2.category == 2)) = lv1) (kk : WW p l e R s m args below meth c Q nL D A cells slots pc1 lv1 st ws) : WW p l e R s m args below meth c Q nL D A cells slots pc lv (.int x :: st) ws := by
  subst hpc
  exact fun H locs ls hl hP hD hS => lv_istore_n C.1 C.2.1 hdg hi hl hn hl1 (fun ls1 hl1 => kk H locs ls1 hl1 hP hD hS)
theorem s_istore (C : Cx p s m args c cc nL Ts own D cI adK adV A) {x : Int32} {lv1 : List (Nat × Value)} (pc1 i : Nat) (hpc : pc + 2 = pc1) (hdg : decode cc pc = .ok (.istore i, 2)) (hn : i < nL) (hl1 : (i, Value.int x) :: lv.filter (fun q => !(q.1 == i) && !(q.1 + 1 == i && q.2.category == 2)) = lv1) (kk : WW p l e R s m args below meth c Q nL D A cells slots pc1 lv1 st ws) : WW p l e R s m args below meth c Q nL D A cells slots pc lv (.int x :: st) ws := by
  subst hpc
  exact fun H locs ls hl hP hD hS => lv_istore C.1 C.2.1 hdg hl hn hl1 (fun ls1 hl1 => kk H locs ls1 hl1 hP hD hS)
theorem s_astore_n (C : Cx p s m args c cc nL Ts own D cI adK adV A) {k : Fin 4} {x : Nat} {lv1 : List (Nat × Value)} (pc1 i : Nat) (hpc : pc + 1 = pc1) (hdg : decode cc pc = .ok (.astore_n k, 1)) (hi : (k : Nat) = i) (hn : i < nL) (hl1 : (i, Value.ref x) :: lv.filter (fun q => !(q.1 == i) && !(q.1 + 1 == i && q.2.category == 2)) = lv1) (kk : WW p l e R s m args below meth c Q nL D A cells slots pc1 lv1 st ws) : WW p l e R s m args below meth c Q nL D A cells slots pc lv (.ref x :: st) ws := by
  subst hpc
  exact fun H locs ls hl hP hD hS => lv_astore_n C.1 C.2.1 hdg hi hl hn hl1 (fun ls1 hl1 => kk H locs ls1 hl1 hP hD hS)
theorem s_astore (C : Cx p s m args c cc nL Ts own D cI adK adV A) {x : Nat} {lv1 : List (Nat × Value)} (pc1 i : Nat) (hpc : pc + 2 = pc1) (hdg : decode cc pc = .ok (.astore i, 2)) (hn : i < nL) (hl1 : (i, Value.ref x) :: lv.filter (fun q => !(q.1 == i) && !(q.1 + 1 == i && q.2.category == 2)) = lv1) (kk : WW p l e R s m args below meth c Q nL D A cells slots pc1 lv1 st ws) : WW p l e R s m args below meth c Q nL D A cells slots pc lv (.ref x :: st) ws := by
  subst hpc
  exact fun H locs ls hl hP hD hS => lv_astore C.1 C.2.1 hdg hl hn hl1 (fun ls1 hl1 => kk H locs ls1 hl1 hP hD hS)
theorem s_lstore_n (C : Cx p s m args c cc nL Ts own D cI adK adV A) {k : Fin 4} {x : Int64} {lv1 : List (Nat × Value)} (pc1 i : Nat) (hpc : pc + 1 = pc1) (hdg : decode cc pc = .ok (.lstore_n k, 1)) (hi : (k : Nat) = i) (hn : i + 1 < nL) (hl1 : (i, Value.long x) :: lv.filter (fun q => !(q.1 == i) && (!(q.1 == i + 1) && !(q.1 + 1 == i && q.2.category == 2))) = lv1) (kk : WW p l e R s m args below meth c Q nL D A cells slots pc1 lv1 st ws) : WW p l e R s m args below meth c Q nL D A cells slots pc lv (.long x :: st) ws := by
  subst hpc
  exact fun H locs ls hl hP hD hS => lv_lstore_n C.1 C.2.1 hdg hi hl hn hl1 (fun ls1 hl1 => kk H locs ls1 hl1 hP hD hS)
theorem s_lstore (C : Cx p s m args c cc nL Ts own D cI adK adV A) {x : Int64} {lv1 : List (Nat × Value)} (pc1 i : Nat) (hpc : pc + 2 = pc1) (hdg : decode cc pc = .ok (.lstore i, 2)) (hn : i + 1 < nL) (hl1 : (i, Value.long x) :: lv.filter (fun q => !(q.1 == i) && (!(q.1 == i + 1) && !(q.1 + 1 == i && q.2.category == 2))) = lv1) (kk : WW p l e R s m args below meth c Q nL D A cells slots pc1 lv1 st ws) : WW p l e R s m args below meth c Q nL D A cells slots pc lv (.long x :: st) ws := by
  subst hpc
  exact fun H locs ls hl hP hD hS => lv_lstore C.1 C.2.1 hdg hl hn hl1 (fun ls1 hl1 => kk H locs ls1 hl1 hP hD hS)
theorem s_iinc (C : Cx p s m args c cc nL Ts own D cI adK adV A) {n : Int} {x d : Int32} {lv1 : List (Nat × Value)} (pc1 i k : Nat) (hpc : pc + 3 = pc1) (hdg : decode cc pc = .ok (.iinc i n, 3)) (hk : lv[k]? = some (i, .int x)) (hd : Int32.ofInt n = d) (hn : i < nL) (hl1 : (i, Value.int (x + d)) :: lv.filter (fun q => !(q.1 == i) && !(q.1 + 1 == i && q.2.category == 2)) = lv1) (kk : WW p l e R s m args below meth c Q nL D A cells slots pc1 lv1 st ws) : WW p l e R s m args below meth c Q nL D A cells slots pc lv st ws := by
  subst hpc
  subst hd
  exact fun H locs ls hl hP hD hS => lv_iinc C.1 C.2.1 hdg hl hk rfl hn hl1 (fun ls1 hl1 => kk H locs ls1 hl1 hP hD hS)
-- CONDS
theorem s_goto (C : Cx p s m args c cc nL Ts own D cI adK adV A) {off : Int} (tgt : Nat) (hdg : decode cc pc = .ok (.goto off, 3)) (ht : (pc : Int) + off = (tgt : Int)) (kk : WW p l e R s m args below meth c Q nL D A cells slots tgt lv st ws) : WW p l e R s m args below meth c Q nL D A cells slots pc lv st ws := fun H locs ls hl hP hD hS => lv_goto C.1 C.2.1 hdg ht (kk H locs ls hl hP hD hS)
theorem s_if_eq (C : Cx p s m args c cc nL Ts own D cI adK adV A) {x : Int32} {off : Int} (tgt pc1 : Nat) (hpc : pc + 3 = pc1) (hdg : decode cc pc = .ok (.ifCond .eq off, 3)) (ht : (pc : Int) + off = (tgt : Int)) (kt : x = 0 → WW p l e R s m args below meth c Q nL D A cells slots tgt lv st ws) (kf : ¬ (x = 0) → WW p l e R s m args below meth c Q nL D A cells slots pc1 lv st ws) : WW p l e R s m args below meth c Q nL D A cells slots pc lv (.int x :: st) ws := by
  subst hpc
  exact fun H locs ls hl hP hD hS => lv_if_eq C.1 C.2.1 hdg ht (fun h => kt h H locs ls hl hP hD hS) (fun h => kf h H locs ls hl hP hD hS)
theorem s_icmp_eq (C : Cx p s m args c cc nL Ts own D cI adK adV A) {x y : Int32} {off : Int} (tgt pc1 : Nat) (hpc : pc + 3 = pc1) (hdg : decode cc pc = .ok (.if_icmp .eq off, 3)) (ht : (pc : Int) + off = (tgt : Int)) (kt : x = y → WW p l e R s m args below meth c Q nL D A cells slots tgt lv st ws) (kf : ¬ (x = y) → WW p l e R s m args below meth c Q nL D A cells slots pc1 lv st ws) : WW p l e R s m args below meth c Q nL D A cells slots pc lv (.int y :: .int x :: st) ws := by
  subst hpc
  exact fun H locs ls hl hP hD hS => lv_icmp_eq C.1 C.2.1 hdg ht (fun h => kt h H locs ls hl hP hD hS) (fun h => kf h H locs ls hl hP hD hS)
theorem s_if_ne (C : Cx p s m args c cc nL Ts own D cI adK adV A) {x : Int32} {off : Int} (tgt pc1 : Nat) (hpc : pc + 3 = pc1) (hdg : decode cc pc = .ok (.ifCond .ne off, 3)) (ht : (pc : Int) + off = (tgt : Int)) (kt : ¬ x = 0 → WW p l e R s m args below meth c Q nL D A cells slots tgt lv st ws) (kf : x = 0 → WW p l e R s m args below meth c Q nL D A cells slots pc1 lv st ws) : WW p l e R s m args below meth c Q nL D A cells slots pc lv (.int x :: st) ws := by
  subst hpc
  exact fun H locs ls hl hP hD hS => lv_if_ne C.1 C.2.1 hdg ht (fun h => kt h H locs ls hl hP hD hS) (fun h => kf h H locs ls hl hP hD hS)
theorem s_icmp_ne (C : Cx p s m args c cc nL Ts own D cI adK adV A) {x y : Int32} {off : Int} (tgt pc1 : Nat) (hpc : pc + 3 = pc1) (hdg : decode cc pc = .ok (.if_icmp .ne off, 3)) (ht : (pc : Int) + off = (tgt : Int)) (kt : ¬ x = y → WW p l e R s m args below meth c Q nL D A cells slots tgt lv st ws) (kf : x = y → WW p l e R s m args below meth c Q nL D A cells slots pc1 lv st ws) : WW p l e R s m args below meth c Q nL D A cells slots pc lv (.int y :: .int x :: st) ws := by
  subst hpc
  exact fun H locs ls hl hP hD hS => lv_icmp_ne C.1 C.2.1 hdg ht (fun h => kt h H locs ls hl hP hD hS) (fun h => kf h H locs ls hl hP hD hS)
theorem s_if_lt (C : Cx p s m args c cc nL Ts own D cI adK adV A) {x : Int32} {off : Int} (tgt pc1 : Nat) (hpc : pc + 3 = pc1) (hdg : decode cc pc = .ok (.ifCond .lt off, 3)) (ht : (pc : Int) + off = (tgt : Int)) (kt : x < 0 → WW p l e R s m args below meth c Q nL D A cells slots tgt lv st ws) (kf : ¬ (x < 0) → WW p l e R s m args below meth c Q nL D A cells slots pc1 lv st ws) : WW p l e R s m args below meth c Q nL D A cells slots pc lv (.int x :: st) ws := by
  subst hpc
  exact fun H locs ls hl hP hD hS => lv_if_lt C.1 C.2.1 hdg ht (fun h => kt h H locs ls hl hP hD hS) (fun h => kf h H locs ls hl hP hD hS)
theorem s_icmp_lt (C : Cx p s m args c cc nL Ts own D cI adK adV A) {x y : Int32} {off : Int} (tgt pc1 : Nat) (hpc : pc + 3 = pc1) (hdg : decode cc pc = .ok (.if_icmp .lt off, 3)) (ht : (pc : Int) + off = (tgt : Int)) (kt : x < y → WW p l e R s m args below meth c Q nL D A cells slots tgt lv st ws) (kf : ¬ (x < y) → WW p l e R s m args below meth c Q nL D A cells slots pc1 lv st ws) : WW p l e R s m args below meth c Q nL D A cells slots pc lv (.int y :: .int x :: st) ws := by
  subst hpc
  exact fun H locs ls hl hP hD hS => lv_icmp_lt C.1 C.2.1 hdg ht (fun h => kt h H locs ls hl hP hD hS) (fun h => kf h H locs ls hl hP hD hS)
theorem s_if_ge (C : Cx p s m args c cc nL Ts own D cI adK adV A) {x : Int32} {off : Int} (tgt pc1 : Nat) (hpc : pc + 3 = pc1) (hdg : decode cc pc = .ok (.ifCond .ge off, 3)) (ht : (pc : Int) + off = (tgt : Int)) (kt : 0 ≤ x → WW p l e R s m args below meth c Q nL D A cells slots tgt lv st ws) (kf : ¬ (0 ≤ x) → WW p l e R s m args below meth c Q nL D A cells slots pc1 lv st ws) : WW p l e R s m args below meth c Q nL D A cells slots pc lv (.int x :: st) ws := by
  subst hpc
  exact fun H locs ls hl hP hD hS => lv_if_ge C.1 C.2.1 hdg ht (fun h => kt h H locs ls hl hP hD hS) (fun h => kf h H locs ls hl hP hD hS)
theorem s_icmp_ge (C : Cx p s m args c cc nL Ts own D cI adK adV A) {x y : Int32} {off : Int} (tgt pc1 : Nat) (hpc : pc + 3 = pc1) (hdg : decode cc pc = .ok (.if_icmp .ge off, 3)) (ht : (pc : Int) + off = (tgt : Int)) (kt : y ≤ x → WW p l e R s m args below meth c Q nL D A cells slots tgt lv st ws) (kf : ¬ (y ≤ x) → WW p l e R s m args below meth c Q nL D A cells slots pc1 lv st ws) : WW p l e R s m args below meth c Q nL D A cells slots pc lv (.int y :: .int x :: st) ws := by
  subst hpc
  exact fun H locs ls hl hP hD hS => lv_icmp_ge C.1 C.2.1 hdg ht (fun h => kt h H locs ls hl hP hD hS) (fun h => kf h H locs ls hl hP hD hS)
theorem s_if_gt (C : Cx p s m args c cc nL Ts own D cI adK adV A) {x : Int32} {off : Int} (tgt pc1 : Nat) (hpc : pc + 3 = pc1) (hdg : decode cc pc = .ok (.ifCond .gt off, 3)) (ht : (pc : Int) + off = (tgt : Int)) (kt : 0 < x → WW p l e R s m args below meth c Q nL D A cells slots tgt lv st ws) (kf : ¬ (0 < x) → WW p l e R s m args below meth c Q nL D A cells slots pc1 lv st ws) : WW p l e R s m args below meth c Q nL D A cells slots pc lv (.int x :: st) ws := by
  subst hpc
  exact fun H locs ls hl hP hD hS => lv_if_gt C.1 C.2.1 hdg ht (fun h => kt h H locs ls hl hP hD hS) (fun h => kf h H locs ls hl hP hD hS)
theorem s_icmp_gt (C : Cx p s m args c cc nL Ts own D cI adK adV A) {x y : Int32} {off : Int} (tgt pc1 : Nat) (hpc : pc + 3 = pc1) (hdg : decode cc pc = .ok (.if_icmp .gt off, 3)) (ht : (pc : Int) + off = (tgt : Int)) (kt : y < x → WW p l e R s m args below meth c Q nL D A cells slots tgt lv st ws) (kf : ¬ (y < x) → WW p l e R s m args below meth c Q nL D A cells slots pc1 lv st ws) : WW p l e R s m args below meth c Q nL D A cells slots pc lv (.int y :: .int x :: st) ws := by
  subst hpc
  exact fun H locs ls hl hP hD hS => lv_icmp_gt C.1 C.2.1 hdg ht (fun h => kt h H locs ls hl hP hD hS) (fun h => kf h H locs ls hl hP hD hS)
theorem s_if_le (C : Cx p s m args c cc nL Ts own D cI adK adV A) {x : Int32} {off : Int} (tgt pc1 : Nat) (hpc : pc + 3 = pc1) (hdg : decode cc pc = .ok (.ifCond .le off, 3)) (ht : (pc : Int) + off = (tgt : Int)) (kt : x ≤ 0 → WW p l e R s m args below meth c Q nL D A cells slots tgt lv st ws) (kf : ¬ (x ≤ 0) → WW p l e R s m args below meth c Q nL D A cells slots pc1 lv st ws) : WW p l e R s m args below meth c Q nL D A cells slots pc lv (.int x :: st) ws := by
  subst hpc
  exact fun H locs ls hl hP hD hS => lv_if_le C.1 C.2.1 hdg ht (fun h => kt h H locs ls hl hP hD hS) (fun h => kf h H locs ls hl hP hD hS)
theorem s_icmp_le (C : Cx p s m args c cc nL Ts own D cI adK adV A) {x y : Int32} {off : Int} (tgt pc1 : Nat) (hpc : pc + 3 = pc1) (hdg : decode cc pc = .ok (.if_icmp .le off, 3)) (ht : (pc : Int) + off = (tgt : Int)) (kt : x ≤ y → WW p l e R s m args below meth c Q nL D A cells slots tgt lv st ws) (kf : ¬ (x ≤ y) → WW p l e R s m args below meth c Q nL D A cells slots pc1 lv st ws) : WW p l e R s m args below meth c Q nL D A cells slots pc lv (.int y :: .int x :: st) ws := by
  subst hpc
  exact fun H locs ls hl hP hD hS => lv_icmp_le C.1 C.2.1 hdg ht (fun h => kt h H locs ls hl hP hD hS) (fun h => kf h H locs ls hl hP hD hS)
theorem s_lookup (C : Cx p s m args c cc nL Ts own D cI adK adV A) {dflt : Int} {ps : Array (Int × Int)} {len : Nat} {x : Int32} {off : Int} (tgt : Nat) (hdg : decode cc pc = .ok (.lookupswitch dflt ps, len)) (hp : (ps.toList.zip (ps.toList.drop 1)).all (fun (a, next) => a.1 < next.1) = true) (ho : Op.lookupswitch.offset ps.toList dflt x.toInt = off) (ht : (pc : Int) + off = (tgt : Int)) (kk : WW p l e R s m args below meth c Q nL D A cells slots tgt lv st ws) : WW p l e R s m args below meth c Q nL D A cells slots pc lv (.int x :: st) ws := fun H locs ls hl hP hD hS => lv_lookup C.1 C.2.1 hdg hp ho ht (kk H locs ls hl hP hD hS)
theorem s_tableOut (C : Cx p s m args c cc nL Ts own D cI adK adV A) {dflt lo hi : Int} {offs : Array Int} {len : Nat} {x : Int32} (tgt : Nat) (hdg : decode cc pc = .ok (.tableswitch dflt lo hi offs, len)) (h : x.toInt < lo ∨ hi < x.toInt) (ht : (pc : Int) + dflt = (tgt : Int)) (kk : WW p l e R s m args below meth c Q nL D A cells slots tgt lv st ws) : WW p l e R s m args below meth c Q nL D A cells slots pc lv (.int x :: st) ws := fun H locs ls hl hP hD hS => lv_tableOut C.1 C.2.1 hdg h ht (kk H locs ls hl hP hD hS)
theorem s_tableIn (C : Cx p s m args c cc nL Ts own D cI adK adV A) {dflt lo hi : Int} {offs : Array Int} {len : Nat} {x : Int32} {off : Int} (tgt : Nat) (hdg : decode cc pc = .ok (.tableswitch dflt lo hi offs, len)) (h1 : ¬ x.toInt < lo) (h2 : ¬ hi < x.toInt) (ho : offs[(x.toInt - lo).toNat]? = some off) (ht : (pc : Int) + off = (tgt : Int)) (kk : WW p l e R s m args below meth c Q nL D A cells slots tgt lv st ws) : WW p l e R s m args below meth c Q nL D A cells slots pc lv (.int x :: st) ws := fun H locs ls hl hP hD hS => lv_tableIn C.1 C.2.1 hdg h1 h2 ho ht (kk H locs ls hl hP hD hS)
theorem s_lv {lv1 : List (Nat × Value)} (ks : List Nat) (h : lv_pick lv ks = lv1) (kk : WW p l e R s m args below meth c Q nL D A cells slots pc lv1 st ws) : WW p l e R s m args below meth c Q nL D A cells slots pc lv st ws := fun H locs ls hl hP hD hS => kk H locs ls (lv_sub hl ks h) hP hD hS
theorem s_ws {ws1 : va_W} (is : List Nat) (hn : va_nd is = true) (h : is.filterMap (fun i => ws[i]?) = ws1) (h2 : is.map (fun i => ws[i]?) = ws1.map some) (kk : WW p l e R s m args below meth c Q nL D A cells slots pc lv st ws1) : WW p l e R s m args below meth c Q nL D A cells slots pc lv st ws := fun H locs ls hl hP hD hS => kk H locs ls hl (hP.sub is h) (hD.sub is hn h2) hS
theorem s_get (C : Cx p s m args c cc nL Ts own D cI adK adV A) {ref C1 : String} {T : u_T} {N ci index a : Nat} {fs : List Value} {v : Value} (pc1 q0 k : Nat) (hin : ∀ w ∈ u_ws C1 T N, w ∈ Ts) (he : ws[q0]? = some (a, .inr (ci, fs))) (hc : vwCl[ci]? = some (C1, T, N)) (hk : k < N) (hlink : Cond.fieldLink own index ref (T k).2.1 (T k).2.2.1 ∈ Ts) (hsame : ref = (T k).1) (hv : fs[k]? = some v) (hpc : pc + 3 = pc1) (hdg : decode cc pc = .ok (.getfield index, 3)) (kk : WW p l e R s m args below meth c Q nL D A cells slots pc1 lv (v :: st) ws) : WW p l e R s m args below meth c Q nL D A cells slots pc lv (.ref a :: st) ws := by
  subst hpc
  subst hsame
  exact fun H locs ls hl hP hD hS => va_get C.1 C.2.1 C.2.2.2.2.1 hin C.2.2.2.1 C.2.2.2.2.2.1 hP q0 he hc k hk (C.2.2.2.2.1 _ hlink) (fun _ h => h) hv hdg (kk H locs ls hl hP hD hS)
theorem s_put (C : Cx p s m args c cc nL Ts own D cI adK adV A) {ref C1 : String} {T : u_T} {N ci index a : Nat} {fs : List Value} {v : Value} {ty : FieldType} {ws1 : va_W} (pc1 q0 k : Nat) (hin : ∀ w ∈ u_ws C1 T N, w ∈ Ts) (ty0 : Nat → FieldType) (hty : ∀ k, k < N → parseFieldDescriptor (T k).2.2.1 = some (ty0 k)) (hnm : ∀ a, a < N → ∀ b, b < N → a ≠ b → (T a).2.1 ≠ (T b).2.1) (he : ws[q0]? = some (a, .inr (ci, fs))) (hc : vwCl[ci]? = some (C1, T, N)) (hk : k < N) (hlink : Cond.fieldLink own index ref (T k).2.1 (T k).2.2.1 ∈ Ts) (hsame : ref = (T k).1) (hfin : (T k).2.2.2 = false) (hd : parseFieldDescriptor (T k).2.2.1 = some ty) (hnf : narrow ty v = v ∧ fits ty v = true) (hl : k < fs.length) (hws : ws.set q0 (a, .inr (ci, fs.set k v)) = ws1) (hpc : pc + 3 = pc1) (hdg : decode cc pc = .ok (.putfield index, 3)) (kk : WW p l e R s m args below meth c Q nL D A cells slots pc1 lv st ws1) : WW p l e R s m args below meth c Q nL D A cells slots pc lv (v :: .ref a :: st) ws := by
  subst hpc
  subst hsame
  subst hws
  exact fun H locs ls hl0 hP hD hS => va_put C.1 C.2.1 C.2.2.2.2.1 hin ty0 hty hnm C.2.2.2.1 C.2.2.2.2.2.1 hP hD hS q0 he hc k hk (C.2.2.2.2.1 _ hlink) (fun _ h => h) hfin hd hnf.1 hnf.2 hl hdg (fun H1 locs1 hP1 hD1 hS1 => kk H1 locs1 ls hl0 hP1 hD1 hS1)
theorem s_putF (C : Cx p s m args c cc nL Ts own D cI adK adV A) {ref C1 : String} {T : u_T} {N ci index a : Nat} {fs : List Value} {v : Value} {ty : FieldType} {ws1 : va_W} (pc1 q0 k : Nat) (hin : ∀ w ∈ u_ws C1 T N, w ∈ Ts) (ty0 : Nat → FieldType) (hty : ∀ k, k < N → parseFieldDescriptor (T k).2.2.1 = some (ty0 k)) (hnm : ∀ a, a < N → ∀ b, b < N → a ≠ b → (T a).2.1 ≠ (T b).2.1) (he : ws[q0]? = some (a, .inr (ci, fs))) (hc : vwCl[ci]? = some (C1, T, N)) (hk : k < N) (hlink : Cond.fieldLink own index ref (T k).2.1 (T k).2.2.1 ∈ Ts) (hsame : ref = (T k).1) (hfin : (T k).2.2.2 = true) (hin2 : meth.name = "<init>") (hdecl : (T k).1 = own) (hd : parseFieldDescriptor (T k).2.2.1 = some ty) (hnf : narrow ty v = v ∧ fits ty v = true) (hl : k < fs.length) (hws : ws.set q0 (a, .inr (ci, fs.set k v)) = ws1) (hpc : pc + 3 = pc1) (hdg : decode cc pc = .ok (.putfield index, 3)) (kk : WW p l e R s m args below meth c Q nL D A cells slots pc1 lv st ws1) : WW p l e R s m args below meth c Q nL D A cells slots pc lv (v :: .ref a :: st) ws := by
  subst hpc
  subst hsame
  subst hws
  exact fun H locs ls hl0 hP hD hS => va_putF C.1 C.2.1 C.2.2.2.2.1 hin ty0 hty hnm C.2.2.2.1 C.2.2.2.2.2.1 hP hD hS q0 he hc k hk (C.2.2.2.2.1 _ hlink) (fun _ h => h) hfin hin2 hdecl hd hnf.1 hnf.2 hl hdg (fun H1 locs1 hP1 hD1 hS1 => kk H1 locs1 ls hl0 hP1 hD1 hS1)
theorem s_iald (C : Cx p s m args c cc nL Ts own D cI adK adV A) {a n : Nat} {f : Nat → Int32} {i : Int32} (pc1 q0 : Nat) (ha : ws[q0]? = some (a, .inl (cI, n, .inl f))) (hin : vp_in i n) (hpc : pc + 1 = pc1) (hdg : decode cc pc = .ok (.iaload, 1)) (kk : WW p l e R s m args below meth c Q nL D A cells slots pc1 lv (.int (f i.toNatClampNeg) :: st) ws) : WW p l e R s m args below meth c Q nL D A cells slots pc lv (.int i :: .ref a :: st) ws := by
  subst hpc
  exact fun H locs ls hl hP hD hS => va_iald C.1 C.2.1 C.2.2.2.2.2.1 hP q0 0 ha rfl hin hdg (kk H locs ls hl hP hD hS)
theorem s_iast (C : Cx p s m args c cc nL Ts own D cI adK adV A) {a n : Nat} {f : Nat → Int32} {i x : Int32} {ws1 : va_W} (pc1 q0 : Nat) (ha : ws[q0]? = some (a, .inl (cI, n, .inl f))) (hin : vp_in i n) (hws : ws.set q0 (a, .inl (cI, n, .inl (upd f i.toNatClampNeg x))) = ws1) (hpc : pc + 1 = pc1) (hdg : decode cc pc = .ok (.iastore, 1)) (kk : WW p l e R s m args below meth c Q nL D A cells slots pc1 lv st ws1) : WW p l e R s m args below meth c Q nL D A cells slots pc lv (.int x :: .int i :: .ref a :: st) ws := by
  subst hpc
  subst hws
  exact fun H locs ls hl hP hD hS => va_iast C.1 C.2.1 C.2.2.2.2.2.1 hP hD hS q0 0 ha rfl hin hdg (fun H1 locs1 hP1 hD1 hS1 => kk H1 locs1 ls hl hP1 hD1 hS1)
theorem s_iret (C : Cx p s m args c cc nL Ts own D cI adK adV A) {v : Int32} {w1 : (Nat → Nat) → va_W} {rv : Option Value} (k0 : Nat → Nat) (hr : meth.sig.returnType = some .int) (hlk : meth.locks = false) (hrv : some (.int v) = rv) (hw : ws = w1 k0) (hdg : decode cc pc = .ok (.ireturn, 1)) : WW p l e R s m args below meth c (MQ below (Qq D cI A w1 rv) args s cells slots A) nL D A cells slots pc lv [.int v] ws := by
  subst hrv
  subst hw
  exact fun H locs ls hl hP hD hS => W.iret C.1 C.2.1 hr (fun t ht hW => ⟨⟨rfl, k0, by rw [ht]; exact hP, va_K.moved hW.alike C.2.2.2.2.2.1, hD⟩, hS.F ht⟩) hS.2.2 hdg hlk
theorem s_zret (C : Cx p s m args c cc nL Ts own D cI adK adV A) {v : Int32} {w1 : (Nat → Nat) → va_W} {rv : Option Value} (k0 : Nat → Nat) (hr : meth.sig.returnType = some .boolean) (hlk : meth.locks = false) (hb : v = 0 ∨ v = 1) (hrv : some (.int v) = rv) (hw : ws = w1 k0) (hdg : decode cc pc = .ok (.ireturn, 1)) : WW p l e R s m args below meth c (MQ below (Qq D cI A w1 rv) args s cells slots A) nL D A cells slots pc lv [.int v] ws := by
  subst hrv
  subst hw
  exact fun H locs ls hl hP hD hS => W.zret C.1 C.2.1 hr (by rcases hb with rfl | rfl <;> decide) (fun t ht hW => ⟨⟨rfl, k0, by rw [ht]; exact hP, va_K.moved hW.alike C.2.2.2.2.2.1, hD⟩, hS.F ht⟩) hS.2.2 hdg hlk
theorem s_cret (C : Cx p s m args c cc nL Ts own D cI adK adV A) {v : Int32} {w1 : (Nat → Nat) → va_W} {rv : Option Value} (k0 : Nat → Nat) (hr : meth.sig.returnType = some .char) (hlk : meth.locks = false) (hb : narrow .char (.int v) = .int v) (hrv : some (.int v) = rv) (hw : ws = w1 k0) (hdg : decode cc pc = .ok (.ireturn, 1)) : WW p l e R s m args below meth c (MQ below (Qq D cI A w1 rv) args s cells slots A) nL D A cells slots pc lv [.int v] ws := by
  subst hrv
  subst hw
  exact fun H locs ls hl hP hD hS => W.zret C.1 C.2.1 hr hb (fun t ht hW => ⟨⟨rfl, k0, by rw [ht]; exact hP, va_K.moved hW.alike C.2.2.2.2.2.1, hD⟩, hS.F ht⟩) hS.2.2 hdg hlk
theorem s_lret (C : Cx p s m args c cc nL Ts own D cI adK adV A) {v : Int64} {w1 : (Nat → Nat) → va_W} {rv : Option Value} (k0 : Nat → Nat) (hr : meth.sig.returnType = some .long) (hlk : meth.locks = false) (hrv : some (.long v) = rv) (hw : ws = w1 k0) (hdg : decode cc pc = .ok (.lreturn, 1)) : WW p l e R s m args below meth c (MQ below (Qq D cI A w1 rv) args s cells slots A) nL D A cells slots pc lv [.long v] ws := by
  subst hrv
  subst hw
  exact fun H locs ls hl hP hD hS => W.lret C.1 C.2.1 hr (fun t ht hW => ⟨⟨rfl, k0, by rw [ht]; exact hP, va_K.moved hW.alike C.2.2.2.2.2.1, hD⟩, hS.F ht⟩) hS.2.2 hdg hlk
theorem s_vret (C : Cx p s m args c cc nL Ts own D cI adK adV A)  {w1 : (Nat → Nat) → va_W} {rv : Option Value} (k0 : Nat → Nat) (hr : meth.sig.returnType = none) (hlk : meth.locks = false) (hrv : none = rv) (hw : ws = w1 k0) (hdg : decode cc pc = .ok (.return_, 1)) : WW p l e R s m args below meth c (MQ below (Qq D cI A w1 rv) args s cells slots A) nL D A cells slots pc lv [] ws := by
  subst hrv
  subst hw
  exact fun H locs ls hl hP hD hS => W.vret C.1 C.2.1 hr (fun t ht hW => ⟨⟨rfl, k0, by rw [ht]; exact hP, va_K.moved hW.alike C.2.2.2.2.2.1, hD⟩, hS.F ht⟩) hS.2.2 hdg hlk
theorem s_aret (C : Cx p s m args c cc nL Ts own D cI adK adV A) {a : Nat} {n : String} {w1 : (Nat → Nat) → va_W} {rv : Option Value} (k0 : Nat → Nat) (hr : meth.sig.returnType = some (.object n)) (hlk : meth.locks = false) (hrv : some (.ref a) = rv) (hw : ws = w1 k0) (hdg : decode cc pc = .ok (.areturn, 1)) : WW p l e R s m args below meth c (MQ below (Qq D cI A w1 rv) args s cells slots A) nL D A cells slots pc lv [.ref a] ws := by
  subst hrv
  subst hw
  exact fun H locs ls hl hP hD hS => W.aret C.1 C.2.1 hr (Or.inl ⟨_, rfl⟩) (Or.inr ⟨_, rfl⟩) (fun t ht hW => ⟨⟨rfl, k0, by rw [ht]; exact hP, va_K.moved hW.alike C.2.2.2.2.2.1, hD⟩, hS.F ht⟩) hS.2.2 hdg hlk
/-- behind a call: the callee's cells are changed, the rest is as it was -/
theorem s_back (C : Cx p s m args c cc nL Ts own D cI adK adV A) {wc wr : va_W} {w1 ws2 : (Nat → Nat) → va_W} {rv : Option Value} {mc ms : Nat} {st0 rest : List Value} {a : Array Value} {pc1 : Nat} (isC isR is2 : List Nat) (hC : isC.map (fun i => ws[i]?) = wc.map some) (hRr : isR.map (fun i => ws[i]?) = wr.map some) (hnd : va_nd isR = true) (hdis : ∀ i ∈ isR, i ∉ isC)
    (hn2 : va_nd is2 = true) (h2 : ∀ k, is2.filterMap (fun i => (wr ++ w1 k)[i]?) = ws2 k) (h3 : ∀ k, is2.map (fun i => (wr ++ w1 k)[i]?) = (ws2 k).map some) (hpc : pc + 3 = pc1)
    (hr : ∀ (H : Heap) (locs : List Loc) (ls : Array Slot), lv_has ls nL lv → va_P D vwCl ws H → va_D A ws → va_S A s.heap H locs → va_Run p l e R s m args below meth c H locs cells slots mc ms (F0 m pc ls st0) rest (Qq D cI (va_A wc H.size) w1 rv a) (va_A wc H.size))
    (kk : ∀ k : Nat → Nat, WW p l e R s m args below meth c Q nL D A (cells + mc) (slots + ms) pc1 lv (rv.toList ++ rest) (ws2 k)) : WW p l e R s m args below meth c Q nL D A cells slots pc lv st0 ws := by
  subst hpc
  intro H locs ls hl hP hD hS T hT X
  have hF := va_free hD hS C.2.2.2.2.2.2.2 isC hC
  obtain ⟨v, st₀, t, T', L, h0, X', hL, e1, e2, ⟨⟨hv, k, hP1, -, hD1⟩, hz, hk⟩, stp⟩ := hr H locs ls hl hP hD hS T hT X
  cases hv
  rw [h0] at hz hk
  rw [← e1] at hP1
  have hk1 : ∀ q : Nat, q < H.size → ¬ va_A wc H.size q → T'.heap[q]? = H[q]? := fun q h1 h2 => by rw [e1]; exact hk q h1 h2
  have hS1 : va_S A s.heap T'.heap (locs ++ L) := ⟨Nat.le_trans hS.1 (by rw [e1]; exact hz), fun q h1 h2 => by rw [hk1 q (Nat.lt_of_lt_of_le h1 hS.1) (fun z => h2 (hF q z))]; exact hS.2.1 q h1 h2, fun q hq => by
      rcases List.mem_append.mp hq with h | h
      · exact hS.2.2 q h
      · exact hF _ (hL q h)⟩
  obtain ⟨hP2, hD2⟩ := va_join (wr := wr) (w1 := w1 k) hP hD isC isR hC hRr hnd hdis hk1 hF hP1 hD1
  obtain ⟨t2, a1, b1⟩ := kk k T'.heap (locs ++ L) ls hl (hP2.sub is2 (h2 k)) (hD2.sub is2 hn2 (h3 k)) hS1 T' rfl X'
  exact ⟨t2, stp t2 a1, b1⟩
theorem va_nd_nil : va_nd [] = true := rfl
theorem va_free0 {q : Nat} {H0 H : Heap} {locs : List Loc} (hS : va_S A H0 H locs) (hA : ∀ q, H0.size ≤ q → A q) (h : va_A [] H.size q) : A q := by
  rcases h with ⟨k, e, h⟩ | h
  · simp at h
  · exact hA q (Nat.le_trans hS.1 h)
/-- behind a call that has no cells -/
theorem s_back0 (C : Cx p s m args c cc nL Ts own D cI adK adV A) {rv : Option Value} {st0 rest : List Value} {a : Array Value} {pc1 : Nat} (hpc : pc + 3 = pc1)
    (hr : ∀ (H : Heap) (locs : List Loc) (ls : Array Slot), lv_has ls nL lv → va_P D vwCl ws H → va_D A ws → va_S A s.heap H locs → va_Run p l e R s m args below meth c H locs cells slots 0 0 (F0 m pc ls st0) rest (Qq D cI (va_A [] H.size) (fun _ => []) rv a) (va_A [] H.size))
    (kk : WW p l e R s m args below meth c Q nL D A cells slots pc1 lv (rv.toList ++ rest) ws) : WW p l e R s m args below meth c Q nL D A cells slots pc lv st0 ws := by
  subst hpc
  intro H locs ls hl hP hD hS T hT X
  have hF : ∀ q, va_A [] H.size q → A q := fun q h => va_free0 hS C.2.2.2.2.2.2.2 h
  obtain ⟨v, st₀, t, T', L, h0, X', hL, e1, e2, ⟨⟨hv, k, -, -, -⟩, hz, hk⟩, stp⟩ := hr H locs ls hl hP hD hS T hT X
  cases hv
  rw [h0] at hz hk
  have hk1 : ∀ q : Nat, q < H.size → T'.heap[q]? = H[q]? := fun q h1 => by rw [e1]; exact hk q h1 (fun z => by rcases z with ⟨k, e, h⟩ | h; (simp at h); omega)
  have hS1 : va_S A s.heap T'.heap (locs ++ L) := ⟨Nat.le_trans hS.1 (by rw [e1]; exact hz), fun q h1 h2 => by rw [hk1 q (Nat.lt_of_lt_of_le h1 hS.1)]; exact hS.2.1 q h1 h2, fun q hq => by
      rcases List.mem_append.mp hq with h | h
      · exact hS.2.2 q h
      · exact hF _ (hL q h)⟩
  have hP2 : va_P D vwCl ws T'.heap := fun k q hq => (hP k q hq).kept (hk1 q.1 (hP k q hq).lt)
  obtain ⟨t2, a1, b1⟩ := kk T'.heap (locs ++ L) ls hl hP2 hD hS1 T' rfl X'
  exact ⟨t2, stp t2 a1, b1⟩

theorem s_pre (C : Cx p s m args c cc nL Ts own D cI adK adV A) {wc : va_W} {H : Heap} {locs : List Loc} (isC : List Nat) (hn : va_nd isC = true) (hC : isC.map (fun i => ws[i]?) = wc.map some) (hP : va_P D vwCl ws H) (hD : va_D A ws) (hS : va_S A s.heap H locs) (U : State) (hU : U.heap = H) (hW : s.WarmedH U.vm) : Pq D cI adK adV wc H.size U := by
  have hC2 : isC.filterMap (fun i => ws[i]?) = wc := by
    have h := congrArg (List.filterMap id) hC
    rw [List.filterMap_map, List.filterMap_map] at h
    simpa [Function.comp_def] using h
  have hF := va_free hD hS C.2.2.2.2.2.2.2 isC hC
  refine ⟨by rw [hU], by rw [hU]; exact hP.sub isC hC2, va_K.moved hW.alike C.2.2.2.2.2.1, (hD.sub isC hn hC).weaken (fun _ _ _ _ => trivial), ?_⟩
  rw [hU]
  exact ((C.2.2.2.2.2.2.1.kept hS.2.1).narrow hF).moved hW

theorem s_callV (C : Cx p s m args c cc nL Ts own D cI adK adV A) {y : MethodName} {C1 : String} {bytes : ByteArray} {maxL mc ms index ci q0 : Nat} {ret : Option FieldType} {wsy ws' : List Cond} {rm : Room} {As rest st0 : List Value} {b : Nat} {T : u_T} {N : Nat} {fs : List Value} {wc wr : va_W} {w1 ws2 : (Nat → Nat) → va_W} {rv : Option Value} (pc1 : Nat) (hM : Ct l D cI adK adV y wsy rm mc ms (.ref b :: As) wc w1 rv) (hG : GoodIn Ts (wsV own index C1 y wsy)) (hd : y.cls = C1 ∧ y.cls ≠ "java/lang/invoke/MethodHandle" ∧ y.cls ≠ "java/lang/invoke/VarHandle" ∧ (parseMethodDescriptor y.desc).map (fun d => d.parameters.length) = some As.length) (hw : wsy = Cond.code y bytes maxL ret :: ws') (hrm : rm.cells = mc ∧ rm.slots = ms) (hR : rm.frames + 1 ≤ R.frames ∧ 8 + (maxL + 11) + rm.locals ≤ R.locals) (hfit : cells + mc ≤ R.cells ∧ slots + ms ≤ R.slots)
    (hci : vwCl[ci]? = some (C1, T, N)) (hq0 : ws[q0]? = some (b, .inr (ci, fs))) (hst : As.reverse ++ .ref b :: rest = st0) (hrest : (rest.map fun v => v.category).sum ≤ 8) (isC isR is2 : List Nat) (hnC : va_nd isC = true) (hC : isC.map (fun i => ws[i]?) = wc.map some) (hRr : isR.map (fun i => ws[i]?) = wr.map some) (hnd : va_nd isR = true) (hdis : ∀ i ∈ isR, i ∉ isC)
    (hn2 : va_nd is2 = true) (h2 : ∀ k, is2.filterMap (fun i => (wr ++ w1 k)[i]?) = ws2 k) (h3 : ∀ k, is2.map (fun i => (wr ++ w1 k)[i]?) = (ws2 k).map some) (hpc : pc + 3 = pc1) (hdg : decode cc pc = .ok (.invokevirtual index, 3))
    (kk : ∀ k : Nat → Nat, WW p l e R s m args below meth c Q nL D A (cells + mc) (slots + ms) pc1 lv (rv.toList ++ rest) (ws2 k)) : WW p l e R s m args below meth c Q nL D A cells slots pc lv st0 ws := by
  subst hst
  refine s_back (a := (Value.ref b :: As).toArray) C isC isR is2 hC hRr hnd hdis hn2 h2 h3 hpc (fun H locs ls hl hP hD hS => ?_) kk
  exact va_runV (C := C1) ⟨C.1, C.2.1, C.2.2.1, C.2.2.2.1, C.2.2.2.2.1⟩ (hM H.size) (cwV As.length C.2.2.2.2.1 hG hw hrm.1 hrm.2 hd hR) ⟨Pq.blind, va_recv C.2.2.2.2.2.1 hP hci hq0, fun U hU hW => ⟨rfl, s_pre C isC hnC hC hP hD hS U hU hW⟩⟩ rfl rfl hl.1 rfl (lv_room hrest) hdg hfit

theorem s_callS (C : Cx p s m args c cc nL Ts own D cI adK adV A) {y : MethodName} {C1 : String} {bytes : ByteArray} {maxL mc ms index : Nat} {ret : Option FieldType} {wsy ws' : List Cond} {rm : Room} {As rest st0 : List Value} {wc wr : va_W} {w1 ws2 : (Nat → Nat) → va_W} {rv : Option Value} (pc1 : Nat) (hM : Ct l D cI adK adV y wsy rm mc ms As wc w1 rv) (hG : GoodIn Ts (va_wsS own index y wsy)) (hd : y.cls ≠ "java/lang/invoke/MethodHandle" ∧ y.cls ≠ "java/lang/invoke/VarHandle" ∧ (parseMethodDescriptor y.desc).map (fun d => d.parameters.length) = some As.length) (hw : wsy = Cond.code y bytes maxL ret :: ws') (hrm : rm.cells = mc ∧ rm.slots = ms) (hR : rm.frames + 1 ≤ R.frames ∧ 8 + (maxL + 11) + rm.locals ≤ R.locals) (hfit : cells + mc ≤ R.cells ∧ slots + ms ≤ R.slots)
    (hst : As.reverse ++ rest = st0) (hrest : (rest.map fun v => v.category).sum ≤ 8) (isC isR is2 : List Nat) (hnC : va_nd isC = true) (hC : isC.map (fun i => ws[i]?) = wc.map some) (hRr : isR.map (fun i => ws[i]?) = wr.map some) (hnd : va_nd isR = true) (hdis : ∀ i ∈ isR, i ∉ isC)
    (hn2 : va_nd is2 = true) (h2 : ∀ k, is2.filterMap (fun i => (wr ++ w1 k)[i]?) = ws2 k) (h3 : ∀ k, is2.map (fun i => (wr ++ w1 k)[i]?) = (ws2 k).map some) (hpc : pc + 3 = pc1) (hdg : decode cc pc = .ok (.invokestatic index, 3))
    (kk : ∀ k : Nat → Nat, WW p l e R s m args below meth c Q nL D A (cells + mc) (slots + ms) pc1 lv (rv.toList ++ rest) (ws2 k)) : WW p l e R s m args below meth c Q nL D A cells slots pc lv st0 ws := by
  subst hst
  refine s_back (a := As.toArray) C isC isR is2 hC hRr hnd hdis hn2 h2 h3 hpc (fun H locs ls hl hP hD hS => ?_) kk
  exact va_runS ⟨C.1, C.2.1, C.2.2.1, C.2.2.2.1, C.2.2.2.2.1⟩ (hM H.size) (va_cwS As.length C.2.2.2.2.1 hG hw hrm.1 hrm.2 hd hR) ⟨Pq.blind, fun U hU hW => ⟨rfl, s_pre C isC hnC hC hP hD hS U hU hW⟩⟩ rfl rfl hl.1 rfl (lv_room hrest) hdg hfit

theorem s_callI (C : Cx p s m args c cc nL Ts own D cI adK adV A) {y : MethodName} {C1 : String} {bytes : ByteArray} {maxL mc ms index : Nat} {ret : Option FieldType} {wsy ws' : List Cond} {rm : Room} {As rest st0 : List Value} {b : Nat} {wc wr : va_W} {w1 ws2 : (Nat → Nat) → va_W} {rv : Option Value} (pc1 : Nat) (hM : Ct l D cI adK adV y wsy rm mc ms (.ref b :: As) wc w1 rv) (hG : GoodIn Ts wsy) (hlink : Cond.methodLink own index y ∈ Ts) (hini : Cond.initialized y.cls ∈ Ts) (hinst : Cond.instanceMethod y ∈ Ts) (hnm : y.name = "<init>") (hret : ret = none) (hd : y.cls ≠ "java/lang/invoke/MethodHandle" ∧ y.cls ≠ "java/lang/invoke/VarHandle" ∧ (parseMethodDescriptor y.desc).map (fun d => d.parameters.length) = some As.length) (hw : wsy = Cond.code y bytes maxL ret :: ws') (hrm : rm.cells = mc ∧ rm.slots = ms) (hR : rm.frames + 1 ≤ R.frames ∧ 8 + (maxL + 11) + rm.locals ≤ R.locals) (hfit : cells + mc ≤ R.cells ∧ slots + ms ≤ R.slots)
    (hst : As.reverse ++ .ref b :: rest = st0) (hrest : (rest.map fun v => v.category).sum ≤ 8) (isC isR is2 : List Nat) (hnC : va_nd isC = true) (hC : isC.map (fun i => ws[i]?) = wc.map some) (hRr : isR.map (fun i => ws[i]?) = wr.map some) (hnd : va_nd isR = true) (hdis : ∀ i ∈ isR, i ∉ isC)
    (hn2 : va_nd is2 = true) (h2 : ∀ k, is2.filterMap (fun i => (wr ++ w1 k)[i]?) = ws2 k) (h3 : ∀ k, is2.map (fun i => (wr ++ w1 k)[i]?) = (ws2 k).map some) (hpc : pc + 3 = pc1) (hdg : decode cc pc = .ok (.invokespecial index, 3))
    (kk : ∀ k : Nat → Nat, WW p l e R s m args below meth c Q nL D A (cells + mc) (slots + ms) pc1 lv (rv.toList ++ rest) (ws2 k)) : WW p l e R s m args below meth c Q nL D A cells slots pc lv st0 ws := by
  subst hst
  refine s_back (a := (Value.ref b :: As).toArray) C isC isR is2 hC hRr hnd hdis hn2 h2 h3 hpc (fun H locs ls hl hP hD hS => ?_) kk
  exact va_runI ⟨C.1, C.2.1, C.2.2.1, C.2.2.2.1, C.2.2.2.2.1⟩ (hM H.size) (⟨callB_of As.length C.2.2.2.2.1 hG (by rw [hw, hret]) hrm.1 hrm.2 (C.2.2.2.2.1 _ hini) (C.2.2.2.2.1 _ hlink) hd hR, hnm, C.2.2.2.2.1 _ hinst⟩) ⟨Pq.blind, fun U hU hW => ⟨rfl, s_pre C isC hnC hC hP hD hS U hU hW⟩⟩ rfl rfl hl.1 rfl (lv_room hrest) hdg hfit

theorem s_callS0 (C : Cx p s m args c cc nL Ts own D cI adK adV A) {y : MethodName} {host : String} {bytes : ByteArray} {maxL index : Nat} {ret : Option FieldType} {wsy ws' : List Cond} {rm : Room} {As rest st0 : List Value} {rv : Option Value} (pc1 : Nat) (hM : Ct l D cI adK adV y wsy rm 0 0 As [] (fun _ => []) rv) (hG : GoodIn Ts (va_wsS own index y wsy)) (hd : y.cls ≠ "java/lang/invoke/MethodHandle" ∧ y.cls ≠ "java/lang/invoke/VarHandle" ∧ (parseMethodDescriptor y.desc).map (fun d => d.parameters.length) = some As.length) (hw : wsy = Cond.code y bytes maxL ret :: ws') (hrm : rm.cells = 0 ∧ rm.slots = 0) (hR : rm.frames + 1 ≤ R.frames ∧ 8 + (maxL + 11) + rm.locals ≤ R.locals) (hfit : cells + 0 ≤ R.cells ∧ slots + 0 ≤ R.slots)
    (hst : As.reverse ++ rest = st0) (hrest : (rest.map fun v => v.category).sum ≤ 8) (hpc : pc + 3 = pc1) (hdg : decode cc pc = .ok (.invokestatic index, 3)) (kk : WW p l e R s m args below meth c Q nL D A cells slots pc1 lv (rv.toList ++ rest) ws) : WW p l e R s m args below meth c Q nL D A cells slots pc lv st0 ws := by
  subst hst
  refine s_back0 (a := As.toArray) C hpc (fun H locs ls hl hP hD hS => ?_) kk
  exact va_runS ⟨C.1, C.2.1, C.2.2.1, C.2.2.2.1, C.2.2.2.2.1⟩ (hM H.size) (va_cwS As.length C.2.2.2.2.1 hG hw hrm.1 hrm.2 hd hR) ⟨Pq.blind, fun U hU hW => ⟨rfl, s_pre C [] rfl rfl hP hD hS U hU hW⟩⟩ rfl rfl hl.1 rfl (lv_room hrest) hdg hfit

theorem s_callN0 (C : Cx p s m args c cc nL Ts own D cI adK adV A) {y : MethodName} {host : String} {bytes : ByteArray} {maxL index : Nat} {ret : Option FieldType} {wsy ws' : List Cond} {rm : Room} {As rest st0 : List Value} {rv : Option Value} (pc1 : Nat) (hM : Ct l D cI adK adV y wsy rm 0 0 As [] (fun _ => []) rv) (hG : GoodIn Ts wsy) (hnest : (own, index, y, host) ∈ nests) (hini : Cond.initialized y.cls ∈ Ts) (hsta : Cond.static y ∈ Ts) (hd : y.cls ≠ "java/lang/invoke/MethodHandle" ∧ y.cls ≠ "java/lang/invoke/VarHandle" ∧ (parseMethodDescriptor y.desc).map (fun d => d.parameters.length) = some As.length) (hw : wsy = Cond.code y bytes maxL ret :: ws') (hrm : rm.cells = 0 ∧ rm.slots = 0) (hR : rm.frames + 1 ≤ R.frames ∧ 8 + (maxL + 11) + rm.locals ≤ R.locals) (hfit : cells + 0 ≤ R.cells ∧ slots + 0 ≤ R.slots)
    (hst : As.reverse ++ rest = st0) (hrest : (rest.map fun v => v.category).sum ≤ 8) (hpc : pc + 3 = pc1) (hdg : decode cc pc = .ok (.invokestatic index, 3)) (kk : WW p l e R s m args below meth c Q nL D A cells slots pc1 lv (rv.toList ++ rest) ws) : WW p l e R s m args below meth c Q nL D A cells slots pc lv st0 ws := by
  subst hst
  refine s_back0 (a := As.toArray) C hpc (fun H locs ls hl hP hD hS => ?_) kk
  exact va_runSN (host := host) ⟨C.1, C.2.1, C.2.2.1, C.2.2.2.1, C.2.2.2.2.1⟩ (hM H.size) (⟨va_cnB As.length C.2.2.2.2.1 hG hw hrm.1 hrm.2 (C.2.2.2.2.2.2.1.2.2 _ hnest) (C.2.2.2.2.1 _ hini) hd hR, C.2.2.2.2.1 _ hsta, trivial⟩) ⟨Pq.blind, fun U hU hW => ⟨rfl, s_pre C [] rfl rfl hP hD hS U hU hW⟩⟩ rfl rfl hl.1 rfl (lv_room hrest) hdg hfit

/-- behind a call whose cells are all that there are -/
theorem s_backW (C : Cx p s m args c cc nL Ts own D cI adK adV A) {w1 : (Nat → Nat) → va_W} {rv : Option Value} {mc ms : Nat} {st0 rest : List Value} {a : Array Value} {pc1 : Nat} (hpc : pc + 3 = pc1)
    (hr : ∀ (H : Heap) (locs : List Loc) (ls : Array Slot), lv_has ls nL lv → va_P D vwCl ws H → va_D A ws → va_S A s.heap H locs → va_Run p l e R s m args below meth c H locs cells slots mc ms (F0 m pc ls st0) rest (Qq D cI (va_A ws H.size) w1 rv a) (va_A ws H.size))
    (kk : ∀ k : Nat → Nat, WW p l e R s m args below meth c Q nL D A (cells + mc) (slots + ms) pc1 lv (rv.toList ++ rest) (w1 k)) : WW p l e R s m args below meth c Q nL D A cells slots pc lv st0 ws := by
  subst hpc
  intro H locs ls hl hP hD hS T hT X
  have hF : ∀ q, va_A ws H.size q → A q := fun q h => by
    rcases h with ⟨k, e, h⟩ | h
    · exact hD.2 k _ h
    · exact C.2.2.2.2.2.2.2 q (Nat.le_trans hS.1 h)
  obtain ⟨v, st₀, t, T', L, h0, X', hL, e1, e2, ⟨⟨hv, k, hP1, -, hD1⟩, hz, hk⟩, stp⟩ := hr H locs ls hl hP hD hS T hT X
  cases hv
  rw [h0] at hz hk
  rw [← e1] at hP1
  have hk1 : ∀ q : Nat, q < H.size → ¬ va_A ws H.size q → T'.heap[q]? = H[q]? := fun q h1 h2 => by rw [e1]; exact hk q h1 h2
  have hS1 : va_S A s.heap T'.heap (locs ++ L) := ⟨Nat.le_trans hS.1 (by rw [e1]; exact hz), fun q h1 h2 => by rw [hk1 q (Nat.lt_of_lt_of_le h1 hS.1) (fun z => h2 (hF q z))]; exact hS.2.1 q h1 h2, fun q hq => by
      rcases List.mem_append.mp hq with h | h
      · exact hS.2.2 q h
      · exact hF _ (hL q h)⟩
  obtain ⟨t2, a1, b1⟩ := kk k T'.heap (locs ++ L) ls hl hP1 (hD1.weaken (fun _ q _ h => hF _ h)) hS1 T' rfl X'
  exact ⟨t2, stp t2 a1, b1⟩
theorem s_preW (C : Cx p s m args c cc nL Ts own D cI adK adV A) {H : Heap} {locs : List Loc} (hP : va_P D vwCl ws H) (hD : va_D A ws) (hS : va_S A s.heap H locs) (U : State) (hU : U.heap = H) (hW : s.WarmedH U.vm) : Pq D cI adK adV ws H.size U := by
  have hF : ∀ q, va_A ws H.size q → A q := fun q h => by
    rcases h with ⟨k, e, h⟩ | h
    · exact hD.2 k _ h
    · exact C.2.2.2.2.2.2.2 q (Nat.le_trans hS.1 h)
  refine ⟨by rw [hU], by rw [hU]; exact hP, va_K.moved hW.alike C.2.2.2.2.2.1, hD.weaken (fun _ _ _ _ => trivial), ?_⟩
  rw [hU]
  exact ((C.2.2.2.2.2.2.1.kept hS.2.1).narrow hF).moved hW
theorem s_callW (C : Cx p s m args c cc nL Ts own D cI adK adV A) {y : MethodName} {C1 : String} {bytes : ByteArray} {maxL mc ms index ci q0 : Nat} {ret : Option FieldType} {wsy ws' : List Cond} {rm : Room} {As rest st0 : List Value} {b : Nat} {T : u_T} {N : Nat} {fs : List Value} {w1 : (Nat → Nat) → va_W} {rv : Option Value} (pc1 : Nat) (hM : Ct l D cI adK adV y wsy rm mc ms (.ref b :: As) ws w1 rv) (hG : GoodIn Ts (wsV own index C1 y wsy)) (hd : y.cls = C1 ∧ y.cls ≠ "java/lang/invoke/MethodHandle" ∧ y.cls ≠ "java/lang/invoke/VarHandle" ∧ (parseMethodDescriptor y.desc).map (fun d => d.parameters.length) = some As.length) (hw : wsy = Cond.code y bytes maxL ret :: ws') (hrm : rm.cells = mc ∧ rm.slots = ms) (hR : rm.frames + 1 ≤ R.frames ∧ 8 + (maxL + 11) + rm.locals ≤ R.locals) (hfit : cells + mc ≤ R.cells ∧ slots + ms ≤ R.slots)
    (hci : vwCl[ci]? = some (C1, T, N)) (hq0 : ws[q0]? = some (b, .inr (ci, fs))) (hst : As.reverse ++ .ref b :: rest = st0) (hrest : (rest.map fun v => v.category).sum ≤ 8) (hpc : pc + 3 = pc1) (hdg : decode cc pc = .ok (.invokevirtual index, 3))
    (kk : ∀ k : Nat → Nat, WW p l e R s m args below meth c Q nL D A (cells + mc) (slots + ms) pc1 lv (rv.toList ++ rest) (w1 k)) : WW p l e R s m args below meth c Q nL D A cells slots pc lv st0 ws := by
  subst hst
  refine s_backW (a := (Value.ref b :: As).toArray) C hpc (fun H locs ls hl hP hD hS => ?_) kk
  exact va_runV (C := C1) ⟨C.1, C.2.1, C.2.2.1, C.2.2.2.1, C.2.2.2.2.1⟩ (hM H.size) (cwV As.length C.2.2.2.2.1 hG hw hrm.1 hrm.2 hd hR) ⟨Pq.blind, va_recv C.2.2.2.2.2.1 hP hci hq0, fun U hU hW => ⟨rfl, s_preW C hP hD hS U hU hW⟩⟩ rfl rfl hl.1 rfl (lv_room hrest) hdg hfit
theorem s_mmax (C : Cx p s m args c cc nL Ts own D cI adK adV A) {index : Nat} {x y : Int32} (pc1 : Nat) (hlink : Cond.methodLink own index Lib.Math.max.name ∈ Ts) (hstat : Cond.static Lib.Math.max.name ∈ Ts) (hini : Cond.initialized "java/lang/Math" ∈ Ts) (hcode : Cond.code Lib.Math.max.name Lib.Math.max.code 2 (some .int) ∈ Ts) (hR : 1 ≤ R.frames ∧ (st.map fun v => v.category).sum + 13 ≤ R.locals ∧ cells ≤ R.cells ∧ slots ≤ R.slots) (hpc : pc + 3 = pc1) (hdg : decode cc pc = .ok (.invokestatic index, 3)) (kk : WW p l e R s m args below meth c Q nL D A cells slots pc1 lv (.int (jmax x y) :: st) ws) : WW p l e R s m args below meth c Q nL D A cells slots pc lv (.int y :: .int x :: st) ws := by
  subst hpc
  exact fun H locs ls hl hP hD hS => va_mmax C.1 C.2.1 (C.2.2.1.trans hl.1.symm) C.2.2.2.1 (C.2.2.2.2.1 _ hlink) (C.2.2.2.2.1 _ hstat) (C.2.2.2.2.1 _ hini) (C.2.2.2.2.1 _ hcode) hR.1 hR.2.1 hR.2.2.1 hR.2.2.2 hdg (kk H locs ls hl hP hD hS)
theorem s_mabs (C : Cx p s m args c cc nL Ts own D cI adK adV A) {index : Nat} {x : Int32} (pc1 : Nat) (hlink : Cond.methodLink own index Lib.Math.abs.name ∈ Ts) (hstat : Cond.static Lib.Math.abs.name ∈ Ts) (hini : Cond.initialized "java/lang/Math" ∈ Ts) (hcode : Cond.code Lib.Math.abs.name Lib.Math.abs.code 1 (some .int) ∈ Ts) (hR : 1 ≤ R.frames ∧ (st.map fun v => v.category).sum + 13 ≤ R.locals ∧ cells ≤ R.cells ∧ slots ≤ R.slots) (hpc : pc + 3 = pc1) (hdg : decode cc pc = .ok (.invokestatic index, 3)) (kk : WW p l e R s m args below meth c Q nL D A cells slots pc1 lv (.int (jabs x) :: st) ws) : WW p l e R s m args below meth c Q nL D A cells slots pc lv (.int x :: st) ws := by
  subst hpc
  exact fun H locs ls hl hP hD hS => va_mabs C.1 C.2.1 (C.2.2.1.trans hl.1.symm) C.2.2.2.1 (C.2.2.2.2.1 _ hlink) (C.2.2.2.2.1 _ hstat) (C.2.2.2.2.1 _ hini) (C.2.2.2.2.1 _ hcode) hR.1 (by first | exact hR.2.1 | (have h := hR.2.1; omega)) hR.2.2.1 hR.2.2.2 hdg (kk H locs ls hl hP hD hS)
theorem s_copyi (C : Cx p s m args c cc nL Ts own D cI adK adV A) {index a a0 : Nat} {n0 n1 : Nat} {f g : Nat → Int32} {sp dp n : Int32} {ws1 : va_W} (pc1 q0 q1 : Nat) (hlink : Cond.methodLink own index arraycopyName ∈ Ts) (hnat : Cond.native arraycopyName ∈ Ts) (hstat : Cond.static arraycopyName ∈ Ts) (hini : Cond.initialized "java/lang/System" ∈ Ts) (ha0 : ws[q0]? = some (a0, .inl (cI, n0, .inl f))) (ha1 : ws[q1]? = some (a, .inl (cI, n1, .inl g))) (h1 : ¬ sp < 0) (h2 : ¬ dp < 0) (h3 : ¬ n < 0) (h4 : sp.toNatClampNeg + n.toNatClampNeg ≤ n0) (h5 : dp.toNatClampNeg + n.toNatClampNeg ≤ n1) (hR : 1 ≤ R.frames ∧ (st.map fun v => v.category).sum + (nativeFrameWords "java/lang/System" "arraycopy" 5 + 11) ≤ R.locals) (hws : ws.set q1 (a, .inl (cI, n1, .inl (va_cpy f g sp.toNatClampNeg dp.toNatClampNeg n.toNatClampNeg))) = ws1) (hpc : pc + 3 = pc1) (hdg : decode cc pc = .ok (.invokestatic index, 3)) (kk : WW p l e R s m args below meth c Q nL D A cells slots pc1 lv st ws1) : WW p l e R s m args below meth c Q nL D A cells slots pc lv (.int n :: .int dp :: .ref a :: .int sp :: .ref a0 :: st) ws := by
  subst hpc
  subst hws
  exact fun H locs ls hl hP hD hS => va_copyi C.1 C.2.1 (C.2.2.1.trans hl.1.symm) C.2.2.2.1 (C.2.2.2.2.1 _ hlink) (C.2.2.2.2.1 _ hnat) (C.2.2.2.2.1 _ hstat) (C.2.2.2.2.1 _ hini) C.2.2.2.2.2.1 hP hD hS q0 q1 0 0 ha0 ha1 rfl rfl rfl h1 h2 h3 h4 h5 (fun _ _ => rfl) hR.1 hR.2 hdg (fun H1 locs1 hP1 hD1 hS1 => kk H1 locs1 ls hl hP1 hD1 hS1)
theorem s_mmin (C : Cx p s m args c cc nL Ts own D cI adK adV A) {index : Nat} {x y : Int32} (pc1 : Nat) (hlink : Cond.methodLink own index Lib.Math.min.name ∈ Ts) (hstat : Cond.static Lib.Math.min.name ∈ Ts) (hini : Cond.initialized "java/lang/Math" ∈ Ts) (hcode : Cond.code Lib.Math.min.name Lib.Math.min.code 2 (some .int) ∈ Ts) (hR : 1 ≤ R.frames ∧ (st.map fun v => v.category).sum + 13 ≤ R.locals ∧ cells ≤ R.cells ∧ slots ≤ R.slots) (hpc : pc + 3 = pc1) (hdg : decode cc pc = .ok (.invokestatic index, 3)) (kk : WW p l e R s m args below meth c Q nL D A cells slots pc1 lv (.int (jmin x y) :: st) ws) : WW p l e R s m args below meth c Q nL D A cells slots pc lv (.int y :: .int x :: st) ws := by
  subst hpc
  exact fun H locs ls hl hP hD hS => va_mmin C.1 C.2.1 (C.2.2.1.trans hl.1.symm) C.2.2.2.1 (C.2.2.2.2.1 _ hlink) (C.2.2.2.2.1 _ hstat) (C.2.2.2.2.1 _ hini) (C.2.2.2.2.1 _ hcode) hR.1 hR.2.1 hR.2.2.1 hR.2.2.2 hdg (kk H locs ls hl hP hD hS)
/-- a loop: by its fuel -/
theorem s_loop {α β : Type} {o : β} (F : Nat → α → Option β) (h : Nat) (lv1 : α → List (Nat × Value)) (ws1 : α → va_W) (N : Nat) (v0 : α) (hf : F N v0 = some o) (h0 : ∀ v, F 0 v = some o → False) (hs : ∀ (n : Nat) (ih : ∀ v, F n v = some o → WW p l e R s m args below meth c Q nL D A cells slots h (lv1 v) [] (ws1 v)) (v : α) (hf : F (n + 1) v = some o), WW p l e R s m args below meth c Q nL D A cells slots h (lv1 v) [] (ws1 v)) : WW p l e R s m args below meth c Q nL D A cells slots h (lv1 v0) [] (ws1 v0) := by
  have key : ∀ n v, F n v = some o → WW p l e R s m args below meth c Q nL D A cells slots h (lv1 v) [] (ws1 v) := by
    intro n
    induction n with
    | zero => intro v hf; exact (h0 v hf).elim
    | succ n ih => intro v hf; exact hs n ih v hf
  exact key N v0 hf
/-- what comes behind a loop, walked once -/
theorem s_kont {γ β : Type} {o : β} (G : (γ → Option β) → Prop) {k : γ → Option β} (J : Nat) (lv1 : γ → List (Nat × Value)) (st1 : γ → List Value) (ws1 : γ → va_W) (hf : G k) (h1 : ∀ v, k v = some o → WW p l e R s m args below meth c Q nL D A cells slots J (lv1 v) (st1 v) (ws1 v)) (h2 : ∀ (k : γ → Option β) (hk : ∀ v, k v = some o → WW p l e R s m args below meth c Q nL D A cells slots J (lv1 v) (st1 v) (ws1 v)) (hf : G k), WW p l e R s m args below meth c Q nL D A cells slots pc lv st ws) : WW p l e R s m args below meth c Q nL D A cells slots pc lv st ws := h2 k h1 hf
theorem s_jn {α β : Type} {x : α} {k : α → β} {o : β} (J : Nat) (lv1 : α → List (Nat × Value)) (st1 : α → List Value) (ws1 : α → va_W) (hf : jn x k = o) (h1 : ∀ v, k v = o → WW p l e R s m args below meth c Q nL D A cells slots J (lv1 v) (st1 v) (ws1 v)) (h2 : ∀ (hj : ∀ v, k v = o → WW p l e R s m args below meth c Q nL D A cells slots J (lv1 v) (st1 v) (ws1 v)) (hf : jn x k = o), WW p l e R s m args below meth c Q nL D A cells slots pc lv st ws) : WW p l e R s m args below meth c Q nL D A cells slots pc lv st ws := h2 h1 hf
theorem s_bn {α β : Type} {x : Option α} {k : α → Option β} {o : Option β} (J : Nat) (lv1 : α → List (Nat × Value)) (st1 : α → List Value) (ws1 : α → va_W) (hf : bn x k = o) (h1 : ∀ v, k v = o → WW p l e R s m args below meth c Q nL D A cells slots J (lv1 v) (st1 v) (ws1 v)) (h2 : ∀ (hj : ∀ v, k v = o → WW p l e R s m args below meth c Q nL D A cells slots J (lv1 v) (st1 v) (ws1 v)) (hf : bn x k = o), WW p l e R s m args below meth c Q nL D A cells slots pc lv st ws) : WW p l e R s m args below meth c Q nL D A cells slots pc lv st ws := h2 h1 hf
theorem jn_jn {α β γ : Type} {a : α} {k : α → β} {k2 : β → γ} {o : γ} (h : jn (jn a k) k2 = o) : jn a (fun v => jn (k v) k2) = o := h
theorem bn_jn {α β γ : Type} {a : α} {k : α → Option β} {k2 : β → Option γ} {o : Option γ} (h : bn (jn a k) k2 = o) : jn a (fun v => bn (k v) k2) = o := h
theorem bn_bn {α β γ : Type} {x : Option α} {k : α → Option β} {k2 : β → Option γ} {o : Option γ} (h : bn (bn x k) k2 = o) : bn x (fun v => bn (k v) k2) = o := by
  cases x with
  | none => exact h
  | some a => exact h
end FR
end
