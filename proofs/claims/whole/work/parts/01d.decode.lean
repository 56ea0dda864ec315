theorem dX5_count_128 : decode cX5_count 128 = .ok (.iload_n 1, 1) := by decide +kernel
theorem dX5_count_129 : decode cX5_count 129 = .ok (.bipush 11, 2) := by decide +kernel
theorem dX5_count_131 : decode cX5_count 131 = .ok (.if_icmp .lt 21, 3) := by decide +kernel
theorem dX5_count_134 : decode cX5_count 134 = .ok (.iload_n 1, 1) := by decide +kernel
theorem dX5_count_135 : decode cX5_count 135 = .ok (.bipush 16, 2) := by decide +kernel
theorem dX5_count_137 : decode cX5_count 137 = .ok (.if_icmp .gt 15, 3) := by decide +kernel
theorem dX5_count_140 : decode cX5_count 140 = .ok (.aload_n 0, 1) := by decide +kernel
theorem dX5_count_141 : decode cX5_count 141 = .ok (.getfield 47, 3) := by decide +kernel
theorem dX5_count_144 : decode cX5_count 144 = .ok (.iload_n 1, 1) := by decide +kernel
theorem dX5_count_145 : decode cX5_count 145 = .ok (.bipush 10, 2) := by decide +kernel
theorem dX5_count_147 : decode cX5_count 147 = .ok (.isub, 1) := by decide +kernel
theorem dX5_count_148 : decode cX5_count 148 = .ok (.iaload, 1) := by decide +kernel
theorem dX5_count_149 : decode cX5_count 149 = .ok (.goto 5, 3) := by decide +kernel
theorem dX5_count_152 : decode cX5_count 152 = .ok (.bipush (-9), 2) := by decide +kernel
theorem dX5_count_154 : decode cX5_count 154 = .ok (.ireturn, 1) := by decide +kernel
theorem dX5_refused_0 : decode cX5_refused 0 = .ok (.aload_n 0, 1) := by decide +kernel
theorem dX5_refused_1 : decode cX5_refused 1 = .ok (.getfield 47, 3) := by decide +kernel
theorem dX5_refused_4 : decode cX5_refused 4 = .ok (.iload_n 1, 1) := by decide +kernel
theorem dX5_refused_5 : decode cX5_refused 5 = .ok (.ineg, 1) := by decide +kernel
theorem dX5_refused_6 : decode cX5_refused 6 = .ok (.dup2, 1) := by decide +kernel
theorem dX5_refused_7 : decode cX5_refused 7 = .ok (.iaload, 1) := by decide +kernel
theorem dX5_refused_8 : decode cX5_refused 8 = .ok (.iconst 1, 1) := by decide +kernel
theorem dX5_refused_9 : decode cX5_refused 9 = .ok (.iadd, 1) := by decide +kernel
theorem dX5_refused_10 : decode cX5_refused 10 = .ok (.iastore, 1) := by decide +kernel
theorem dX5_refused_11 : decode cX5_refused 11 = .ok (.iload_n 1, 1) := by decide +kernel
theorem dX5_refused_12 : decode cX5_refused 12 = .ok (.ireturn, 1) := by decide +kernel
theorem dX5_isCell_0 : decode cX5_isCell 0 = .ok (.iload_n 0, 1) := by decide +kernel
theorem dX5_isCell_1 : decode cX5_isCell 1 = .ok (.ifCond .lt 13, 3) := by decide +kernel
theorem dX5_isCell_4 : decode cX5_isCell 4 = .ok (.iload_n 0, 1) := by decide +kernel
theorem dX5_isCell_5 : decode cX5_isCell 5 = .ok (.bipush 25, 2) := by decide +kernel
theorem dX5_isCell_7 : decode cX5_isCell 7 = .ok (.if_icmp .ge 7, 3) := by decide +kernel
theorem dX5_isCell_10 : decode cX5_isCell 10 = .ok (.iconst 1, 1) := by decide +kernel
theorem dX5_isCell_11 : decode cX5_isCell 11 = .ok (.goto 4, 3) := by decide +kernel
theorem dX5_isCell_14 : decode cX5_isCell 14 = .ok (.iconst 0, 1) := by decide +kernel
theorem dX5_isCell_15 : decode cX5_isCell 15 = .ok (.ireturn, 1) := by decide +kernel
theorem dX5_isTwofold_0 : decode cX5_isTwofold 0 = .ok (.iload_n 0, 1) := by decide +kernel
theorem dX5_isTwofold_1 : decode cX5_isTwofold 1 = .ok (.ifCond .eq 8, 3) := by decide +kernel
theorem dX5_isTwofold_4 : decode cX5_isTwofold 4 = .ok (.iload_n 0, 1) := by decide +kernel
theorem dX5_isTwofold_5 : decode cX5_isTwofold 5 = .ok (.iconst 1, 1) := by decide +kernel
theorem dX5_isTwofold_6 : decode cX5_isTwofold 6 = .ok (.if_icmp .ne 7, 3) := by decide +kernel
theorem dX5_isTwofold_9 : decode cX5_isTwofold 9 = .ok (.iconst 1, 1) := by decide +kernel
theorem dX5_isTwofold_10 : decode cX5_isTwofold 10 = .ok (.goto 4, 3) := by decide +kernel
theorem dX5_isTwofold_13 : decode cX5_isTwofold 13 = .ok (.iconst 0, 1) := by decide +kernel
theorem dX5_isTwofold_14 : decode cX5_isTwofold 14 = .ok (.ireturn, 1) := by decide +kernel
theorem dX5_isHeir_0 : decode cX5_isHeir 0 = .ok (.iload_n 1, 1) := by decide +kernel
theorem dX5_isHeir_1 : decode cX5_isHeir 1 = .ok (.ifCond .lt 18, 3) := by decide +kernel
theorem dX5_isHeir_4 : decode cX5_isHeir 4 = .ok (.iload_n 1, 1) := by decide +kernel
theorem dX5_isHeir_5 : decode cX5_isHeir 5 = .ok (.aload_n 0, 1) := by decide +kernel
theorem dX5_isHeir_6 : decode cX5_isHeir 6 = .ok (.getfield 10, 3) := by decide +kernel
theorem dX5_isHeir_9 : decode cX5_isHeir 9 = .ok (.getfield 217, 3) := by decide +kernel
theorem dX5_isHeir_12 : decode cX5_isHeir 12 = .ok (.if_icmp .ge 7, 3) := by decide +kernel
theorem dX5_isHeir_15 : decode cX5_isHeir 15 = .ok (.iconst 1, 1) := by decide +kernel
theorem dX5_isHeir_16 : decode cX5_isHeir 16 = .ok (.goto 4, 3) := by decide +kernel
theorem dX5_isHeir_19 : decode cX5_isHeir 19 = .ok (.iconst 0, 1) := by decide +kernel
theorem dX5_isHeir_20 : decode cX5_isHeir 20 = .ok (.ireturn, 1) := by decide +kernel
theorem dX5_areTwo_0 : decode cX5_areTwo 0 = .ok (.aload_n 0, 1) := by decide +kernel
theorem dX5_areTwo_1 : decode cX5_areTwo 1 = .ok (.iload_n 1, 1) := by decide +kernel
theorem dX5_areTwo_2 : decode cX5_areTwo 2 = .ok (.invokevirtual 93, 3) := by decide +kernel
theorem dX5_areTwo_5 : decode cX5_areTwo 5 = .ok (.ifCond .eq 20, 3) := by decide +kernel
theorem dX5_areTwo_8 : decode cX5_areTwo 8 = .ok (.aload_n 0, 1) := by decide +kernel
theorem dX5_areTwo_9 : decode cX5_areTwo 9 = .ok (.iload_n 2, 1) := by decide +kernel
theorem dX5_areTwo_10 : decode cX5_areTwo 10 = .ok (.invokevirtual 93, 3) := by decide +kernel
theorem dX5_areTwo_13 : decode cX5_areTwo 13 = .ok (.ifCond .eq 12, 3) := by decide +kernel
theorem dX5_areTwo_16 : decode cX5_areTwo 16 = .ok (.iload_n 1, 1) := by decide +kernel
theorem dX5_areTwo_17 : decode cX5_areTwo 17 = .ok (.iload_n 2, 1) := by decide +kernel
theorem dX5_areTwo_18 : decode cX5_areTwo 18 = .ok (.if_icmp .eq 7, 3) := by decide +kernel
theorem dX5_areTwo_21 : decode cX5_areTwo 21 = .ok (.iconst 1, 1) := by decide +kernel
theorem dX5_areTwo_22 : decode cX5_areTwo 22 = .ok (.goto 4, 3) := by decide +kernel
theorem dX5_areTwo_25 : decode cX5_areTwo 25 = .ok (.iconst 0, 1) := by decide +kernel
theorem dX5_areTwo_26 : decode cX5_areTwo 26 = .ok (.ireturn, 1) := by decide +kernel
theorem dX5_isLeft_0 : decode cX5_isLeft 0 = .ok (.aload_n 0, 1) := by decide +kernel
theorem dX5_isLeft_1 : decode cX5_isLeft 1 = .ok (.getfield 10, 3) := by decide +kernel
theorem dX5_isLeft_4 : decode cX5_isLeft 4 = .ok (.getfield 76, 3) := by decide +kernel
theorem dX5_isLeft_7 : decode cX5_isLeft 7 = .ok (.iconst 1, 1) := by decide +kernel
theorem dX5_isLeft_8 : decode cX5_isLeft 8 = .ok (.iload_n 1, 1) := by decide +kernel
theorem dX5_isLeft_9 : decode cX5_isLeft 9 = .ok (.ishl, 1) := by decide +kernel
theorem dX5_isLeft_10 : decode cX5_isLeft 10 = .ok (.iand, 1) := by decide +kernel
theorem dX5_isLeft_11 : decode cX5_isLeft 11 = .ok (.ifCond .eq 7, 3) := by decide +kernel
theorem dX5_isLeft_14 : decode cX5_isLeft 14 = .ok (.iconst 1, 1) := by decide +kernel
theorem dX5_isLeft_15 : decode cX5_isLeft 15 = .ok (.goto 4, 3) := by decide +kernel
theorem dX5_isLeft_18 : decode cX5_isLeft 18 = .ok (.iconst 0, 1) := by decide +kernel
theorem dX5_isLeft_19 : decode cX5_isLeft 19 = .ok (.ireturn, 1) := by decide +kernel
theorem dX5_shareOf_0 : decode cX5_shareOf 0 = .ok (.aload_n 0, 1) := by decide +kernel
theorem dX5_shareOf_1 : decode cX5_shareOf 1 = .ok (.getfield 25, 3) := by decide +kernel
theorem dX5_shareOf_4 : decode cX5_shareOf 4 = .ok (.iload_n 2, 1) := by decide +kernel
theorem dX5_shareOf_5 : decode cX5_shareOf 5 = .ok (.invokevirtual 134, 3) := by decide +kernel
theorem dX5_shareOf_8 : decode cX5_shareOf 8 = .ok (.aload_n 0, 1) := by decide +kernel
theorem dX5_shareOf_9 : decode cX5_shareOf 9 = .ok (.iload_n 1, 1) := by decide +kernel
theorem dX5_shareOf_10 : decode cX5_shareOf 10 = .ok (.invokevirtual 261, 3) := by decide +kernel
theorem dX5_shareOf_13 : decode cX5_shareOf 13 = .ok (.ireturn, 1) := by decide +kernel
theorem dX5_readShare_0 : decode cX5_readShare 0 = .ok (.aload_n 0, 1) := by decide +kernel
theorem dX5_readShare_1 : decode cX5_readShare 1 = .ok (.getfield 25, 3) := by decide +kernel
theorem dX5_readShare_4 : decode cX5_readShare 4 = .ok (.aload_n 0, 1) := by decide +kernel
theorem dX5_readShare_5 : decode cX5_readShare 5 = .ok (.getfield 10, 3) := by decide +kernel
theorem dX5_readShare_8 : decode cX5_readShare 8 = .ok (.getfield 96, 3) := by decide +kernel
theorem dX5_readShare_11 : decode cX5_readShare 11 = .ok (.iload_n 1, 1) := by decide +kernel
theorem dX5_readShare_12 : decode cX5_readShare 12 = .ok (.iaload, 1) := by decide +kernel
theorem dX5_readShare_13 : decode cX5_readShare 13 = .ok (.aload_n 0, 1) := by decide +kernel
theorem dX5_readShare_14 : decode cX5_readShare 14 = .ok (.getfield 10, 3) := by decide +kernel
theorem dX5_readShare_17 : decode cX5_readShare 17 = .ok (.getfield 99, 3) := by decide +kernel
theorem dX5_readShare_20 : decode cX5_readShare 20 = .ok (.iload_n 1, 1) := by decide +kernel
theorem dX5_readShare_21 : decode cX5_readShare 21 = .ok (.iaload, 1) := by decide +kernel
theorem dX5_readShare_22 : decode cX5_readShare 22 = .ok (.invokevirtual 264, 3) := by decide +kernel
theorem dX5_readShare_25 : decode cX5_readShare 25 = .ok (.ireturn, 1) := by decide +kernel
theorem dX5_sharesTogether_0 : decode cX5_sharesTogether 0 = .ok (.aload_n 0, 1) := by decide +kernel
theorem dX5_sharesTogether_1 : decode cX5_sharesTogether 1 = .ok (.getfield 25, 3) := by decide +kernel
theorem dX5_sharesTogether_4 : decode cX5_sharesTogether 4 = .ok (.iload_n 1, 1) := by decide +kernel
theorem dX5_sharesTogether_5 : decode cX5_sharesTogether 5 = .ok (.invokevirtual 134, 3) := by decide +kernel
theorem dX5_sharesTogether_8 : decode cX5_sharesTogether 8 = .ok (.iconst 0, 1) := by decide +kernel
theorem dX5_sharesTogether_9 : decode cX5_sharesTogether 9 = .ok (.istore_n 2, 1) := by decide +kernel
theorem dX5_sharesTogether_10 : decode cX5_sharesTogether 10 = .ok (.iconst 0, 1) := by decide +kernel
theorem dX5_sharesTogether_11 : decode cX5_sharesTogether 11 = .ok (.istore_n 3, 1) := by decide +kernel
theorem dX5_sharesTogether_12 : decode cX5_sharesTogether 12 = .ok (.iload_n 3, 1) := by decide +kernel
theorem dX5_sharesTogether_13 : decode cX5_sharesTogether 13 = .ok (.aload_n 0, 1) := by decide +kernel
theorem dX5_sharesTogether_14 : decode cX5_sharesTogether 14 = .ok (.getfield 10, 3) := by decide +kernel
theorem dX5_sharesTogether_17 : decode cX5_sharesTogether 17 = .ok (.getfield 217, 3) := by decide +kernel
theorem dX5_sharesTogether_20 : decode cX5_sharesTogether 20 = .ok (.if_icmp .ge 17, 3) := by decide +kernel
theorem dX5_sharesTogether_23 : decode cX5_sharesTogether 23 = .ok (.iload_n 2, 1) := by decide +kernel
theorem dX5_sharesTogether_24 : decode cX5_sharesTogether 24 = .ok (.aload_n 0, 1) := by decide +kernel
theorem dX5_sharesTogether_25 : decode cX5_sharesTogether 25 = .ok (.iload_n 3, 1) := by decide +kernel
theorem dX5_sharesTogether_26 : decode cX5_sharesTogether 26 = .ok (.invokevirtual 261, 3) := by decide +kernel
theorem dX5_sharesTogether_29 : decode cX5_sharesTogether 29 = .ok (.iadd, 1) := by decide +kernel
theorem dX5_sharesTogether_30 : decode cX5_sharesTogether 30 = .ok (.istore_n 2, 1) := by decide +kernel
theorem dX5_sharesTogether_31 : decode cX5_sharesTogether 31 = .ok (.iinc 3 1, 3) := by decide +kernel
theorem dX5_sharesTogether_34 : decode cX5_sharesTogether 34 = .ok (.goto (-22), 3) := by decide +kernel
theorem dX5_sharesTogether_37 : decode cX5_sharesTogether 37 = .ok (.iload_n 2, 1) := by decide +kernel
theorem dX5_sharesTogether_38 : decode cX5_sharesTogether 38 = .ok (.ireturn, 1) := by decide +kernel
theorem dX5_richest_0 : decode cX5_richest 0 = .ok (.aload_n 0, 1) := by decide +kernel
theorem dX5_richest_1 : decode cX5_richest 1 = .ok (.getfield 25, 3) := by decide +kernel
theorem dX5_richest_4 : decode cX5_richest 4 = .ok (.aload_n 0, 1) := by decide +kernel
theorem dX5_richest_5 : decode cX5_richest 5 = .ok (.getfield 10, 3) := by decide +kernel
theorem dX5_richest_8 : decode cX5_richest 8 = .ok (.getfield 76, 3) := by decide +kernel
theorem dX5_richest_11 : decode cX5_richest 11 = .ok (.invokevirtual 134, 3) := by decide +kernel
theorem dX5_richest_14 : decode cX5_richest 14 = .ok (.bipush (-9), 2) := by decide +kernel
theorem dX5_richest_16 : decode cX5_richest 16 = .ok (.istore_n 1, 1) := by decide +kernel
theorem dX5_richest_17 : decode cX5_richest 17 = .ok (.iconst (-1), 1) := by decide +kernel
theorem dX5_richest_18 : decode cX5_richest 18 = .ok (.istore_n 2, 1) := by decide +kernel
theorem dX5_richest_19 : decode cX5_richest 19 = .ok (.iconst 0, 1) := by decide +kernel
theorem dX5_richest_20 : decode cX5_richest 20 = .ok (.istore_n 3, 1) := by decide +kernel
theorem dX5_richest_21 : decode cX5_richest 21 = .ok (.iload_n 3, 1) := by decide +kernel
theorem dX5_richest_22 : decode cX5_richest 22 = .ok (.aload_n 0, 1) := by decide +kernel
theorem dX5_richest_23 : decode cX5_richest 23 = .ok (.getfield 10, 3) := by decide +kernel
theorem dX5_richest_26 : decode cX5_richest 26 = .ok (.getfield 217, 3) := by decide +kernel
theorem dX5_richest_29 : decode cX5_richest 29 = .ok (.if_icmp .ge 27, 3) := by decide +kernel
theorem dX5_richest_32 : decode cX5_richest 32 = .ok (.aload_n 0, 1) := by decide +kernel
theorem dX5_richest_33 : decode cX5_richest 33 = .ok (.iload_n 3, 1) := by decide +kernel
theorem dX5_richest_34 : decode cX5_richest 34 = .ok (.invokevirtual 261, 3) := by decide +kernel
theorem dX5_richest_37 : decode cX5_richest 37 = .ok (.istore 4, 2) := by decide +kernel
theorem dX5_richest_39 : decode cX5_richest 39 = .ok (.iload 4, 2) := by decide +kernel
theorem dX5_richest_41 : decode cX5_richest 41 = .ok (.iload_n 2, 1) := by decide +kernel
theorem dX5_richest_42 : decode cX5_richest 42 = .ok (.if_icmp .le 8, 3) := by decide +kernel
theorem dX5_richest_45 : decode cX5_richest 45 = .ok (.iload 4, 2) := by decide +kernel
theorem dX5_richest_47 : decode cX5_richest 47 = .ok (.istore_n 2, 1) := by decide +kernel
theorem dX5_richest_48 : decode cX5_richest 48 = .ok (.iload_n 3, 1) := by decide +kernel
theorem dX5_richest_49 : decode cX5_richest 49 = .ok (.istore_n 1, 1) := by decide +kernel
theorem dX5_richest_50 : decode cX5_richest 50 = .ok (.iinc 3 1, 3) := by decide +kernel
theorem dX5_richest_53 : decode cX5_richest 53 = .ok (.goto (-32), 3) := by decide +kernel
theorem dX5_richest_56 : decode cX5_richest 56 = .ok (.iload_n 1, 1) := by decide +kernel
theorem dX5_richest_57 : decode cX5_richest 57 = .ok (.ireturn, 1) := by decide +kernel
theorem dX5_changesNobody_0 : decode cX5_changesNobody 0 = .ok (.iconst 0, 1) := by decide +kernel
theorem dX5_changesNobody_1 : decode cX5_changesNobody 1 = .ok (.istore_n 2, 1) := by decide +kernel
theorem dX5_changesNobody_2 : decode cX5_changesNobody 2 = .ok (.iload_n 2, 1) := by decide +kernel
theorem dX5_changesNobody_3 : decode cX5_changesNobody 3 = .ok (.aload_n 0, 1) := by decide +kernel
theorem dX5_changesNobody_4 : decode cX5_changesNobody 4 = .ok (.getfield 10, 3) := by decide +kernel
theorem dX5_changesNobody_7 : decode cX5_changesNobody 7 = .ok (.getfield 217, 3) := by decide +kernel
theorem dX5_changesNobody_10 : decode cX5_changesNobody 10 = .ok (.if_icmp .ge 32, 3) := by decide +kernel
theorem dX5_changesNobody_13 : decode cX5_changesNobody 13 = .ok (.aload_n 0, 1) := by decide +kernel
theorem dX5_changesNobody_14 : decode cX5_changesNobody 14 = .ok (.iload_n 2, 1) := by decide +kernel
theorem dX5_changesNobody_15 : decode cX5_changesNobody 15 = .ok (.iload_n 1, 1) := by decide +kernel
theorem dX5_changesNobody_16 : decode cX5_changesNobody 16 = .ok (.invokevirtual 102, 3) := by decide +kernel
theorem dX5_changesNobody_19 : decode cX5_changesNobody 19 = .ok (.aload_n 0, 1) := by decide +kernel
theorem dX5_changesNobody_20 : decode cX5_changesNobody 20 = .ok (.iload_n 2, 1) := by decide +kernel
theorem dX5_changesNobody_21 : decode cX5_changesNobody 21 = .ok (.aload_n 0, 1) := by decide +kernel
theorem dX5_changesNobody_22 : decode cX5_changesNobody 22 = .ok (.getfield 10, 3) := by decide +kernel
theorem dX5_changesNobody_25 : decode cX5_changesNobody 25 = .ok (.getfield 76, 3) := by decide +kernel
theorem dX5_changesNobody_28 : decode cX5_changesNobody 28 = .ok (.invokevirtual 102, 3) := by decide +kernel
theorem dX5_changesNobody_31 : decode cX5_changesNobody 31 = .ok (.if_icmp .eq 5, 3) := by decide +kernel
theorem dX5_changesNobody_34 : decode cX5_changesNobody 34 = .ok (.iconst 0, 1) := by decide +kernel
theorem dX5_changesNobody_35 : decode cX5_changesNobody 35 = .ok (.ireturn, 1) := by decide +kernel
theorem dX5_changesNobody_36 : decode cX5_changesNobody 36 = .ok (.iinc 2 1, 3) := by decide +kernel
theorem dX5_changesNobody_39 : decode cX5_changesNobody 39 = .ok (.goto (-37), 3) := by decide +kernel
theorem dX5_changesNobody_42 : decode cX5_changesNobody 42 = .ok (.iconst 1, 1) := by decide +kernel
theorem dX5_changesNobody_43 : decode cX5_changesNobody 43 = .ok (.ireturn, 1) := by decide +kernel
theorem dX5_isSettled_0 : decode cX5_isSettled 0 = .ok (.aload_n 0, 1) := by decide +kernel
theorem dX5_isSettled_1 : decode cX5_isSettled 1 = .ok (.getfield 25, 3) := by decide +kernel
theorem dX5_isSettled_4 : decode cX5_isSettled 4 = .ok (.iload_n 1, 1) := by decide +kernel
theorem dX5_isSettled_5 : decode cX5_isSettled 5 = .ok (.invokevirtual 134, 3) := by decide +kernel
theorem dX5_isSettled_8 : decode cX5_isSettled 8 = .ok (.aload_n 0, 1) := by decide +kernel
theorem dX5_isSettled_9 : decode cX5_isSettled 9 = .ok (.getfield 25, 3) := by decide +kernel
theorem dX5_isSettled_12 : decode cX5_isSettled 12 = .ok (.invokevirtual 144, 3) := by decide +kernel
theorem dX5_isSettled_15 : decode cX5_isSettled 15 = .ok (.ifCond .ne 7, 3) := by decide +kernel
theorem dX5_isSettled_18 : decode cX5_isSettled 18 = .ok (.iconst 1, 1) := by decide +kernel
theorem dX5_isSettled_19 : decode cX5_isSettled 19 = .ok (.goto 4, 3) := by decide +kernel
theorem dX5_isSettled_22 : decode cX5_isSettled 22 = .ok (.iconst 0, 1) := by decide +kernel
theorem dX5_isSettled_23 : decode cX5_isSettled 23 = .ok (.ireturn, 1) := by decide +kernel
theorem dX5_bitesName_0 : decode cX5_bitesName 0 = .ok (.bipush 100, 2) := by decide +kernel
theorem dX5_bitesName_2 : decode cX5_bitesName 2 = .ok (.iload_n 0, 1) := by decide +kernel
theorem dX5_bitesName_3 : decode cX5_bitesName 3 = .ok (.bipush 25, 2) := by decide +kernel
theorem dX5_bitesName_5 : decode cX5_bitesName 5 = .ok (.idiv, 1) := by decide +kernel
theorem dX5_bitesName_6 : decode cX5_bitesName 6 = .ok (.imul, 1) := by decide +kernel
theorem dX5_bitesName_7 : decode cX5_bitesName 7 = .ok (.iload_n 0, 1) := by decide +kernel
theorem dX5_bitesName_8 : decode cX5_bitesName 8 = .ok (.bipush 25, 2) := by decide +kernel
theorem dX5_bitesName_10 : decode cX5_bitesName 10 = .ok (.irem, 1) := by decide +kernel
theorem dX5_bitesName_11 : decode cX5_bitesName 11 = .ok (.iadd, 1) := by decide +kernel
theorem dX5_bitesName_12 : decode cX5_bitesName 12 = .ok (.ireturn, 1) := by decide +kernel
theorem dX5_toldBite_0 : decode cX5_toldBite 0 = .ok (.iload_n 2, 1) := by decide +kernel
theorem dX5_toldBite_1 : decode cX5_toldBite 1 = .ok (.iconst (-1), 1) := by decide +kernel
theorem dX5_toldBite_2 : decode cX5_toldBite 2 = .ok (.if_icmp .ne 6, 3) := by decide +kernel
theorem dX5_toldBite_5 : decode cX5_toldBite 5 = .ok (.bipush (-9), 2) := by decide +kernel
theorem dX5_toldBite_7 : decode cX5_toldBite 7 = .ok (.ireturn, 1) := by decide +kernel
theorem dX5_toldBite_8 : decode cX5_toldBite 8 = .ok (.iload_n 3, 1) := by decide +kernel
theorem dX5_toldBite_9 : decode cX5_toldBite 9 = .ok (.ifCond .ne 10, 3) := by decide +kernel
theorem dX5_toldBite_12 : decode cX5_toldBite 12 = .ok (.iload_n 2, 1) := by decide +kernel
theorem dX5_toldBite_13 : decode cX5_toldBite 13 = .ok (.invokestatic 208, 3) := by decide +kernel
theorem dX5_toldBite_16 : decode cX5_toldBite 16 = .ok (.goto 19, 3) := by decide +kernel
theorem dX5_toldBite_19 : decode cX5_toldBite 19 = .ok (.aload_n 0, 1) := by decide +kernel
theorem dX5_toldBite_20 : decode cX5_toldBite 20 = .ok (.iload_n 1, 1) := by decide +kernel
theorem dX5_toldBite_21 : decode cX5_toldBite 21 = .ok (.iload_n 2, 1) := by decide +kernel
theorem dX5_toldBite_22 : decode cX5_toldBite 22 = .ok (.aload_n 0, 1) := by decide +kernel
theorem dX5_toldBite_23 : decode cX5_toldBite 23 = .ok (.getfield 10, 3) := by decide +kernel
theorem dX5_toldBite_26 : decode cX5_toldBite 26 = .ok (.getfield 76, 3) := by decide +kernel
theorem dX5_toldBite_29 : decode cX5_toldBite 29 = .ok (.invokestatic 159, 3) := by decide +kernel
theorem dX5_toldBite_32 : decode cX5_toldBite 32 = .ok (.invokevirtual 102, 3) := by decide +kernel
theorem dX5_toldBite_35 : decode cX5_toldBite 35 = .ok (.ireturn, 1) := by decide +kernel
theorem dX5_furthestBite_0 : decode cX5_furthestBite 0 = .ok (.iconst (-1), 1) := by decide +kernel
theorem dX5_furthestBite_1 : decode cX5_furthestBite 1 = .ok (.istore 4, 2) := by decide +kernel
theorem dX5_furthestBite_3 : decode cX5_furthestBite 3 = .ok (.iload_n 3, 1) := by decide +kernel
theorem dX5_furthestBite_4 : decode cX5_furthestBite 4 = .ok (.aload_n 0, 1) := by decide +kernel
theorem dX5_furthestBite_5 : decode cX5_furthestBite 5 = .ok (.iload_n 1, 1) := by decide +kernel
theorem dX5_furthestBite_6 : decode cX5_furthestBite 6 = .ok (.iload_n 2, 1) := by decide +kernel
theorem dX5_furthestBite_7 : decode cX5_furthestBite 7 = .ok (.invokevirtual 102, 3) := by decide +kernel
theorem dX5_furthestBite_10 : decode cX5_furthestBite 10 = .ok (.imul, 1) := by decide +kernel
theorem dX5_furthestBite_11 : decode cX5_furthestBite 11 = .ok (.istore 5, 2) := by decide +kernel
theorem dX5_furthestBite_13 : decode cX5_furthestBite 13 = .ok (.iconst 0, 1) := by decide +kernel
theorem dX5_furthestBite_14 : decode cX5_furthestBite 14 = .ok (.istore 6, 2) := by decide +kernel
theorem dX5_furthestBite_16 : decode cX5_furthestBite 16 = .ok (.iload 6, 2) := by decide +kernel
theorem dX5_furthestBite_18 : decode cX5_furthestBite 18 = .ok (.bipush 100, 2) := by decide +kernel
theorem dX5_furthestBite_20 : decode cX5_furthestBite 20 = .ok (.if_icmp .ge 52, 3) := by decide +kernel
theorem dX5_furthestBite_23 : decode cX5_furthestBite 23 = .ok (.iload 6, 2) := by decide +kernel
theorem dX5_furthestBite_25 : decode cX5_furthestBite 25 = .ok (.iload_n 2, 1) := by decide +kernel
theorem dX5_furthestBite_26 : decode cX5_furthestBite 26 = .ok (.invokestatic 159, 3) := by decide +kernel
theorem dX5_furthestBite_29 : decode cX5_furthestBite 29 = .ok (.istore 7, 2) := by decide +kernel
theorem dX5_furthestBite_31 : decode cX5_furthestBite 31 = .ok (.iload 7, 2) := by decide +kernel
theorem dX5_furthestBite_33 : decode cX5_furthestBite 33 = .ok (.iload_n 2, 1) := by decide +kernel
theorem dX5_furthestBite_34 : decode cX5_furthestBite 34 = .ok (.if_icmp .ne 6, 3) := by decide +kernel
theorem dX5_furthestBite_37 : decode cX5_furthestBite 37 = .ok (.goto 29, 3) := by decide +kernel
theorem dX5_furthestBite_40 : decode cX5_furthestBite 40 = .ok (.iload_n 3, 1) := by decide +kernel
theorem dX5_furthestBite_41 : decode cX5_furthestBite 41 = .ok (.aload_n 0, 1) := by decide +kernel
theorem dX5_furthestBite_42 : decode cX5_furthestBite 42 = .ok (.iload_n 1, 1) := by decide +kernel
theorem dX5_furthestBite_43 : decode cX5_furthestBite 43 = .ok (.iload 7, 2) := by decide +kernel
theorem dX5_furthestBite_45 : decode cX5_furthestBite 45 = .ok (.invokevirtual 102, 3) := by decide +kernel
theorem dX5_furthestBite_48 : decode cX5_furthestBite 48 = .ok (.imul, 1) := by decide +kernel
theorem dX5_furthestBite_49 : decode cX5_furthestBite 49 = .ok (.istore 8, 2) := by decide +kernel
theorem dX5_furthestBite_51 : decode cX5_furthestBite 51 = .ok (.iload 8, 2) := by decide +kernel
theorem dX5_furthestBite_53 : decode cX5_furthestBite 53 = .ok (.iload 5, 2) := by decide +kernel
theorem dX5_furthestBite_55 : decode cX5_furthestBite 55 = .ok (.if_icmp .le 11, 3) := by decide +kernel
theorem dX5_furthestBite_58 : decode cX5_furthestBite 58 = .ok (.iload 8, 2) := by decide +kernel
theorem dX5_furthestBite_60 : decode cX5_furthestBite 60 = .ok (.istore 5, 2) := by decide +kernel
theorem dX5_furthestBite_62 : decode cX5_furthestBite 62 = .ok (.iload 6, 2) := by decide +kernel
theorem dX5_furthestBite_64 : decode cX5_furthestBite 64 = .ok (.istore 4, 2) := by decide +kernel
theorem dX5_furthestBite_66 : decode cX5_furthestBite 66 = .ok (.iinc 6 1, 3) := by decide +kernel
theorem dX5_furthestBite_69 : decode cX5_furthestBite 69 = .ok (.goto (-53), 3) := by decide +kernel
theorem dX5_furthestBite_72 : decode cX5_furthestBite 72 = .ok (.iload 4, 2) := by decide +kernel
theorem dX5_furthestBite_74 : decode cX5_furthestBite 74 = .ok (.ireturn, 1) := by decide +kernel
theorem dX5_firstBiteTo_0 : decode cX5_firstBiteTo 0 = .ok (.iload 4, 2) := by decide +kernel
theorem dX5_firstBiteTo_2 : decode cX5_firstBiteTo 2 = .ok (.istore 5, 2) := by decide +kernel
theorem dX5_firstBiteTo_4 : decode cX5_firstBiteTo 4 = .ok (.iload 5, 2) := by decide +kernel
theorem dX5_firstBiteTo_6 : decode cX5_firstBiteTo 6 = .ok (.bipush 100, 2) := by decide +kernel
theorem dX5_firstBiteTo_8 : decode cX5_firstBiteTo 8 = .ok (.if_icmp .ge 37, 3) := by decide +kernel
theorem dX5_firstBiteTo_11 : decode cX5_firstBiteTo 11 = .ok (.iload 5, 2) := by decide +kernel
theorem dX5_firstBiteTo_13 : decode cX5_firstBiteTo 13 = .ok (.iload_n 3, 1) := by decide +kernel
theorem dX5_firstBiteTo_14 : decode cX5_firstBiteTo 14 = .ok (.invokestatic 159, 3) := by decide +kernel
theorem dX5_firstBiteTo_17 : decode cX5_firstBiteTo 17 = .ok (.istore 6, 2) := by decide +kernel
theorem dX5_firstBiteTo_19 : decode cX5_firstBiteTo 19 = .ok (.iload 6, 2) := by decide +kernel
theorem dX5_firstBiteTo_21 : decode cX5_firstBiteTo 21 = .ok (.iload_n 3, 1) := by decide +kernel
theorem dX5_firstBiteTo_22 : decode cX5_firstBiteTo 22 = .ok (.if_icmp .eq 17, 3) := by decide +kernel
theorem dX5_firstBiteTo_25 : decode cX5_firstBiteTo 25 = .ok (.aload_n 0, 1) := by decide +kernel
theorem dX5_firstBiteTo_26 : decode cX5_firstBiteTo 26 = .ok (.iload_n 1, 1) := by decide +kernel
theorem dX5_firstBiteTo_27 : decode cX5_firstBiteTo 27 = .ok (.iload 6, 2) := by decide +kernel
theorem dX5_firstBiteTo_29 : decode cX5_firstBiteTo 29 = .ok (.invokevirtual 102, 3) := by decide +kernel
theorem dX5_firstBiteTo_32 : decode cX5_firstBiteTo 32 = .ok (.iload_n 2, 1) := by decide +kernel
theorem dX5_firstBiteTo_33 : decode cX5_firstBiteTo 33 = .ok (.if_icmp .lt 6, 3) := by decide +kernel
theorem dX5_firstBiteTo_36 : decode cX5_firstBiteTo 36 = .ok (.iload 5, 2) := by decide +kernel
theorem dX5_firstBiteTo_38 : decode cX5_firstBiteTo 38 = .ok (.ireturn, 1) := by decide +kernel
theorem dX5_firstBiteTo_39 : decode cX5_firstBiteTo 39 = .ok (.iinc 5 1, 3) := by decide +kernel
theorem dX5_firstBiteTo_42 : decode cX5_firstBiteTo 42 = .ok (.goto (-38), 3) := by decide +kernel
theorem dX5_firstBiteTo_45 : decode cX5_firstBiteTo 45 = .ok (.iconst (-1), 1) := by decide +kernel
theorem dX5_firstBiteTo_46 : decode cX5_firstBiteTo 46 = .ok (.ireturn, 1) := by decide +kernel
theorem dX5_firstOfTwoBitesTo_0 : decode cX5_firstOfTwoBitesTo 0 = .ok (.iconst 0, 1) := by decide +kernel
theorem dX5_firstOfTwoBitesTo_1 : decode cX5_firstOfTwoBitesTo 1 = .ok (.istore_n 3, 1) := by decide +kernel
theorem dX5_firstOfTwoBitesTo_2 : decode cX5_firstOfTwoBitesTo 2 = .ok (.iload_n 3, 1) := by decide +kernel
theorem dX5_firstOfTwoBitesTo_3 : decode cX5_firstOfTwoBitesTo 3 = .ok (.bipush 100, 2) := by decide +kernel
theorem dX5_firstOfTwoBitesTo_5 : decode cX5_firstOfTwoBitesTo 5 = .ok (.if_icmp .ge 54, 3) := by decide +kernel
theorem dX5_firstOfTwoBitesTo_8 : decode cX5_firstOfTwoBitesTo 8 = .ok (.iload_n 3, 1) := by decide +kernel
theorem dX5_firstOfTwoBitesTo_9 : decode cX5_firstOfTwoBitesTo 9 = .ok (.aload_n 0, 1) := by decide +kernel
theorem dX5_firstOfTwoBitesTo_10 : decode cX5_firstOfTwoBitesTo 10 = .ok (.getfield 10, 3) := by decide +kernel
theorem dX5_firstOfTwoBitesTo_13 : decode cX5_firstOfTwoBitesTo 13 = .ok (.getfield 76, 3) := by decide +kernel
theorem dX5_firstOfTwoBitesTo_16 : decode cX5_firstOfTwoBitesTo 16 = .ok (.invokestatic 159, 3) := by decide +kernel
theorem dX5_firstOfTwoBitesTo_19 : decode cX5_firstOfTwoBitesTo 19 = .ok (.istore 4, 2) := by decide +kernel
theorem dX5_firstOfTwoBitesTo_21 : decode cX5_firstOfTwoBitesTo 21 = .ok (.iload 4, 2) := by decide +kernel
theorem dX5_firstOfTwoBitesTo_23 : decode cX5_firstOfTwoBitesTo 23 = .ok (.aload_n 0, 1) := by decide +kernel
theorem dX5_firstOfTwoBitesTo_24 : decode cX5_firstOfTwoBitesTo 24 = .ok (.getfield 10, 3) := by decide +kernel
theorem dX5_firstOfTwoBitesTo_27 : decode cX5_firstOfTwoBitesTo 27 = .ok (.getfield 76, 3) := by decide +kernel
theorem dX5_firstOfTwoBitesTo_30 : decode cX5_firstOfTwoBitesTo 30 = .ok (.if_icmp .ne 6, 3) := by decide +kernel
theorem dX5_firstOfTwoBitesTo_33 : decode cX5_firstOfTwoBitesTo 33 = .ok (.goto 20, 3) := by decide +kernel
theorem dX5_firstOfTwoBitesTo_36 : decode cX5_firstOfTwoBitesTo 36 = .ok (.aload_n 0, 1) := by decide +kernel
theorem dX5_firstOfTwoBitesTo_37 : decode cX5_firstOfTwoBitesTo 37 = .ok (.iload_n 1, 1) := by decide +kernel
theorem dX5_firstOfTwoBitesTo_38 : decode cX5_firstOfTwoBitesTo 38 = .ok (.iload_n 2, 1) := by decide +kernel
theorem dX5_firstOfTwoBitesTo_39 : decode cX5_firstOfTwoBitesTo 39 = .ok (.iload 4, 2) := by decide +kernel
theorem dX5_firstOfTwoBitesTo_41 : decode cX5_firstOfTwoBitesTo 41 = .ok (.iload_n 3, 1) := by decide +kernel
theorem dX5_firstOfTwoBitesTo_42 : decode cX5_firstOfTwoBitesTo 42 = .ok (.iconst 1, 1) := by decide +kernel
theorem dX5_firstOfTwoBitesTo_43 : decode cX5_firstOfTwoBitesTo 43 = .ok (.iadd, 1) := by decide +kernel
theorem dX5_firstOfTwoBitesTo_44 : decode cX5_firstOfTwoBitesTo 44 = .ok (.invokevirtual 204, 3) := by decide +kernel
theorem dX5_firstOfTwoBitesTo_47 : decode cX5_firstOfTwoBitesTo 47 = .ok (.iconst (-1), 1) := by decide +kernel
theorem dX5_firstOfTwoBitesTo_48 : decode cX5_firstOfTwoBitesTo 48 = .ok (.if_icmp .eq 5, 3) := by decide +kernel
theorem dX5_firstOfTwoBitesTo_51 : decode cX5_firstOfTwoBitesTo 51 = .ok (.iload_n 3, 1) := by decide +kernel
theorem dX5_firstOfTwoBitesTo_52 : decode cX5_firstOfTwoBitesTo 52 = .ok (.ireturn, 1) := by decide +kernel
theorem dX5_firstOfTwoBitesTo_53 : decode cX5_firstOfTwoBitesTo 53 = .ok (.iinc 3 1, 3) := by decide +kernel
theorem dX5_firstOfTwoBitesTo_56 : decode cX5_firstOfTwoBitesTo 56 = .ok (.goto (-54), 3) := by decide +kernel
theorem dX5_firstOfTwoBitesTo_59 : decode cX5_firstOfTwoBitesTo 59 = .ok (.iconst (-1), 1) := by decide +kernel
theorem dX5_firstOfTwoBitesTo_60 : decode cX5_firstOfTwoBitesTo 60 = .ok (.ireturn, 1) := by decide +kernel
theorem dX5_chosen_0 : decode cX5_chosen 0 = .ok (.iload_n 2, 1) := by decide +kernel
theorem dX5_chosen_1 : decode cX5_chosen 1 = .ok (.ifCond .ne 15, 3) := by decide +kernel
theorem dX5_chosen_4 : decode cX5_chosen 4 = .ok (.aload_n 0, 1) := by decide +kernel
theorem dX5_chosen_5 : decode cX5_chosen 5 = .ok (.iload_n 1, 1) := by decide +kernel
theorem dX5_chosen_6 : decode cX5_chosen 6 = .ok (.iload_n 3, 1) := by decide +kernel
theorem dX5_chosen_7 : decode cX5_chosen 7 = .ok (.iconst 1, 1) := by decide +kernel
theorem dX5_chosen_8 : decode cX5_chosen 8 = .ok (.invokevirtual 197, 3) := by decide +kernel
theorem dX5_chosen_11 : decode cX5_chosen 11 = .ok (.iload_n 3, 1) := by decide +kernel
theorem dX5_chosen_12 : decode cX5_chosen 12 = .ok (.invokestatic 159, 3) := by decide +kernel
theorem dX5_chosen_15 : decode cX5_chosen 15 = .ok (.ireturn, 1) := by decide +kernel
theorem dX5_chosen_16 : decode cX5_chosen 16 = .ok (.iload_n 3, 1) := by decide +kernel
theorem dX5_chosen_17 : decode cX5_chosen 17 = .ok (.iload_n 3, 1) := by decide +kernel
theorem dX5_chosen_18 : decode cX5_chosen 18 = .ok (.iconst 1, 1) := by decide +kernel
theorem dX5_chosen_19 : decode cX5_chosen 19 = .ok (.isub, 1) := by decide +kernel
theorem dX5_chosen_20 : decode cX5_chosen 20 = .ok (.iand, 1) := by decide +kernel
theorem dX5_chosen_21 : decode cX5_chosen 21 = .ok (.ireturn, 1) := by decide +kernel
theorem dX5_firstOfTwoThatSettle_0 : decode cX5_firstOfTwoThatSettle 0 = .ok (.iconst 0, 1) := by decide +kernel
theorem dX5_firstOfTwoThatSettle_1 : decode cX5_firstOfTwoThatSettle 1 = .ok (.istore_n 1, 1) := by decide +kernel
theorem dX5_firstOfTwoThatSettle_2 : decode cX5_firstOfTwoThatSettle 2 = .ok (.iload_n 1, 1) := by decide +kernel
theorem dX5_firstOfTwoThatSettle_3 : decode cX5_firstOfTwoThatSettle 3 = .ok (.bipush 25, 2) := by decide +kernel
theorem dX5_firstOfTwoThatSettle_5 : decode cX5_firstOfTwoThatSettle 5 = .ok (.if_icmp .ge 47, 3) := by decide +kernel
theorem dX5_firstOfTwoThatSettle_8 : decode cX5_firstOfTwoThatSettle 8 = .ok (.aload_n 0, 1) := by decide +kernel
theorem dX5_firstOfTwoThatSettle_9 : decode cX5_firstOfTwoThatSettle 9 = .ok (.iload_n 1, 1) := by decide +kernel
theorem dX5_firstOfTwoThatSettle_10 : decode cX5_firstOfTwoThatSettle 10 = .ok (.invokevirtual 109, 3) := by decide +kernel
theorem dX5_firstOfTwoThatSettle_13 : decode cX5_firstOfTwoThatSettle 13 = .ok (.ifCond .ne 6, 3) := by decide +kernel
theorem dX5_firstOfTwoThatSettle_16 : decode cX5_firstOfTwoThatSettle 16 = .ok (.goto 30, 3) := by decide +kernel
theorem dX5_firstOfTwoThatSettle_19 : decode cX5_firstOfTwoThatSettle 19 = .ok (.aload_n 0, 1) := by decide +kernel
theorem dX5_firstOfTwoThatSettle_20 : decode cX5_firstOfTwoThatSettle 20 = .ok (.aload_n 0, 1) := by decide +kernel
theorem dX5_firstOfTwoThatSettle_21 : decode cX5_firstOfTwoThatSettle 21 = .ok (.getfield 10, 3) := by decide +kernel
theorem dX5_firstOfTwoThatSettle_24 : decode cX5_firstOfTwoThatSettle 24 = .ok (.getfield 76, 3) := by decide +kernel
theorem dX5_firstOfTwoThatSettle_27 : decode cX5_firstOfTwoThatSettle 27 = .ok (.iconst 1, 1) := by decide +kernel
theorem dX5_firstOfTwoThatSettle_28 : decode cX5_firstOfTwoThatSettle 28 = .ok (.iload_n 1, 1) := by decide +kernel
theorem dX5_firstOfTwoThatSettle_29 : decode cX5_firstOfTwoThatSettle 29 = .ok (.ishl, 1) := by decide +kernel
theorem dX5_firstOfTwoThatSettle_30 : decode cX5_firstOfTwoThatSettle 30 = .ok (.iconst (-1), 1) := by decide +kernel
theorem dX5_firstOfTwoThatSettle_31 : decode cX5_firstOfTwoThatSettle 31 = .ok (.ixor, 1) := by decide +kernel
theorem dX5_firstOfTwoThatSettle_32 : decode cX5_firstOfTwoThatSettle 32 = .ok (.iand, 1) := by decide +kernel
theorem dX5_firstOfTwoThatSettle_33 : decode cX5_firstOfTwoThatSettle 33 = .ok (.iload_n 1, 1) := by decide +kernel
theorem dX5_firstOfTwoThatSettle_34 : decode cX5_firstOfTwoThatSettle 34 = .ok (.iconst 1, 1) := by decide +kernel
theorem dX5_firstOfTwoThatSettle_35 : decode cX5_firstOfTwoThatSettle 35 = .ok (.iadd, 1) := by decide +kernel
theorem dX5_firstOfTwoThatSettle_36 : decode cX5_firstOfTwoThatSettle 36 = .ok (.invokevirtual 182, 3) := by decide +kernel
theorem dX5_firstOfTwoThatSettle_39 : decode cX5_firstOfTwoThatSettle 39 = .ok (.bipush (-9), 2) := by decide +kernel
theorem dX5_firstOfTwoThatSettle_41 : decode cX5_firstOfTwoThatSettle 41 = .ok (.if_icmp .eq 5, 3) := by decide +kernel
theorem dX5_firstOfTwoThatSettle_44 : decode cX5_firstOfTwoThatSettle 44 = .ok (.iload_n 1, 1) := by decide +kernel
theorem dX5_firstOfTwoThatSettle_45 : decode cX5_firstOfTwoThatSettle 45 = .ok (.ireturn, 1) := by decide +kernel
theorem dX5_firstOfTwoThatSettle_46 : decode cX5_firstOfTwoThatSettle 46 = .ok (.iinc 1 1, 3) := by decide +kernel
theorem dX5_firstOfTwoThatSettle_49 : decode cX5_firstOfTwoThatSettle 49 = .ok (.goto (-47), 3) := by decide +kernel
theorem dX5_firstOfTwoThatSettle_52 : decode cX5_firstOfTwoThatSettle 52 = .ok (.bipush (-9), 2) := by decide +kernel
theorem dX5_firstOfTwoThatSettle_54 : decode cX5_firstOfTwoThatSettle 54 = .ok (.ireturn, 1) := by decide +kernel
theorem dX5_firstCellThatSettles_0 : decode cX5_firstCellThatSettles 0 = .ok (.iload_n 2, 1) := by decide +kernel
theorem dX5_firstCellThatSettles_1 : decode cX5_firstCellThatSettles 1 = .ok (.istore_n 3, 1) := by decide +kernel
theorem dX5_firstCellThatSettles_2 : decode cX5_firstCellThatSettles 2 = .ok (.iload_n 3, 1) := by decide +kernel
theorem dX5_firstCellThatSettles_3 : decode cX5_firstCellThatSettles 3 = .ok (.bipush 25, 2) := by decide +kernel
theorem dX5_firstCellThatSettles_5 : decode cX5_firstCellThatSettles 5 = .ok (.if_icmp .ge 36, 3) := by decide +kernel
theorem dX5_firstCellThatSettles_8 : decode cX5_firstCellThatSettles 8 = .ok (.iconst 1, 1) := by decide +kernel
theorem dX5_firstCellThatSettles_9 : decode cX5_firstCellThatSettles 9 = .ok (.iload_n 3, 1) := by decide +kernel
theorem dX5_firstCellThatSettles_10 : decode cX5_firstCellThatSettles 10 = .ok (.ishl, 1) := by decide +kernel
theorem dX5_firstCellThatSettles_11 : decode cX5_firstCellThatSettles 11 = .ok (.istore 4, 2) := by decide +kernel
theorem dX5_firstCellThatSettles_13 : decode cX5_firstCellThatSettles 13 = .ok (.iload_n 1, 1) := by decide +kernel
theorem dX5_firstCellThatSettles_14 : decode cX5_firstCellThatSettles 14 = .ok (.iload 4, 2) := by decide +kernel
theorem dX5_firstCellThatSettles_16 : decode cX5_firstCellThatSettles 16 = .ok (.iand, 1) := by decide +kernel
theorem dX5_firstCellThatSettles_17 : decode cX5_firstCellThatSettles 17 = .ok (.ifCond .eq 18, 3) := by decide +kernel
theorem dX5_firstCellThatSettles_20 : decode cX5_firstCellThatSettles 20 = .ok (.aload_n 0, 1) := by decide +kernel
theorem dX5_firstCellThatSettles_21 : decode cX5_firstCellThatSettles 21 = .ok (.iload_n 1, 1) := by decide +kernel
theorem dX5_firstCellThatSettles_22 : decode cX5_firstCellThatSettles 22 = .ok (.iload 4, 2) := by decide +kernel
theorem dX5_firstCellThatSettles_24 : decode cX5_firstCellThatSettles 24 = .ok (.iconst (-1), 1) := by decide +kernel
theorem dX5_firstCellThatSettles_25 : decode cX5_firstCellThatSettles 25 = .ok (.ixor, 1) := by decide +kernel
theorem dX5_firstCellThatSettles_26 : decode cX5_firstCellThatSettles 26 = .ok (.iand, 1) := by decide +kernel
theorem dX5_firstCellThatSettles_27 : decode cX5_firstCellThatSettles 27 = .ok (.invokevirtual 179, 3) := by decide +kernel
theorem dX5_firstCellThatSettles_30 : decode cX5_firstCellThatSettles 30 = .ok (.ifCond .eq 5, 3) := by decide +kernel
theorem dX5_firstCellThatSettles_33 : decode cX5_firstCellThatSettles 33 = .ok (.iload_n 3, 1) := by decide +kernel
theorem dX5_firstCellThatSettles_34 : decode cX5_firstCellThatSettles 34 = .ok (.ireturn, 1) := by decide +kernel
theorem dX5_firstCellThatSettles_35 : decode cX5_firstCellThatSettles 35 = .ok (.iinc 3 1, 3) := by decide +kernel
theorem dX5_firstCellThatSettles_38 : decode cX5_firstCellThatSettles 38 = .ok (.goto (-36), 3) := by decide +kernel
theorem dX5_firstCellThatSettles_41 : decode cX5_firstCellThatSettles 41 = .ok (.bipush (-9), 2) := by decide +kernel
theorem dX5_firstCellThatSettles_43 : decode cX5_firstCellThatSettles 43 = .ok (.ireturn, 1) := by decide +kernel
theorem dX5_bridgesOf_0 : decode cX5_bridgesOf 0 = .ok (.iload_n 0, 1) := by decide +kernel
theorem dX5_bridgesOf_1 : decode cX5_bridgesOf 1 = .ok (.invokestatic 188, 3) := by decide +kernel
theorem dX5_bridgesOf_4 : decode cX5_bridgesOf 4 = .ok (.istore_n 1, 1) := by decide +kernel
theorem dX5_bridgesOf_5 : decode cX5_bridgesOf 5 = .ok (.iconst 0, 1) := by decide +kernel
theorem dX5_bridgesOf_6 : decode cX5_bridgesOf 6 = .ok (.istore_n 2, 1) := by decide +kernel
theorem dX5_bridgesOf_7 : decode cX5_bridgesOf 7 = .ok (.iconst 0, 1) := by decide +kernel
theorem dX5_bridgesOf_8 : decode cX5_bridgesOf 8 = .ok (.istore_n 3, 1) := by decide +kernel
theorem dX5_bridgesOf_9 : decode cX5_bridgesOf 9 = .ok (.iload_n 3, 1) := by decide +kernel
theorem dX5_bridgesOf_10 : decode cX5_bridgesOf 10 = .ok (.bipush 25, 2) := by decide +kernel
theorem dX5_bridgesOf_12 : decode cX5_bridgesOf 12 = .ok (.if_icmp .ge 39, 3) := by decide +kernel
theorem dX5_bridgesOf_15 : decode cX5_bridgesOf 15 = .ok (.iconst 1, 1) := by decide +kernel
theorem dX5_bridgesOf_16 : decode cX5_bridgesOf 16 = .ok (.iload_n 3, 1) := by decide +kernel
theorem dX5_bridgesOf_17 : decode cX5_bridgesOf 17 = .ok (.ishl, 1) := by decide +kernel
theorem dX5_bridgesOf_18 : decode cX5_bridgesOf 18 = .ok (.istore 4, 2) := by decide +kernel
theorem dX5_bridgesOf_20 : decode cX5_bridgesOf 20 = .ok (.iload_n 0, 1) := by decide +kernel
theorem dX5_bridgesOf_21 : decode cX5_bridgesOf 21 = .ok (.iload 4, 2) := by decide +kernel
theorem dX5_bridgesOf_23 : decode cX5_bridgesOf 23 = .ok (.iand, 1) := by decide +kernel
theorem dX5_bridgesOf_24 : decode cX5_bridgesOf 24 = .ok (.ifCond .eq 21, 3) := by decide +kernel
theorem dX5_bridgesOf_27 : decode cX5_bridgesOf 27 = .ok (.iload_n 0, 1) := by decide +kernel
theorem dX5_bridgesOf_28 : decode cX5_bridgesOf 28 = .ok (.iload 4, 2) := by decide +kernel
theorem dX5_bridgesOf_30 : decode cX5_bridgesOf 30 = .ok (.iconst (-1), 1) := by decide +kernel
theorem dX5_bridgesOf_31 : decode cX5_bridgesOf 31 = .ok (.ixor, 1) := by decide +kernel
theorem dX5_bridgesOf_32 : decode cX5_bridgesOf 32 = .ok (.iand, 1) := by decide +kernel
theorem dX5_bridgesOf_33 : decode cX5_bridgesOf 33 = .ok (.invokestatic 188, 3) := by decide +kernel
theorem dX5_bridgesOf_36 : decode cX5_bridgesOf 36 = .ok (.iload_n 1, 1) := by decide +kernel
theorem dX5_bridgesOf_37 : decode cX5_bridgesOf 37 = .ok (.if_icmp .le 8, 3) := by decide +kernel
theorem dX5_bridgesOf_40 : decode cX5_bridgesOf 40 = .ok (.iload_n 2, 1) := by decide +kernel
theorem dX5_bridgesOf_41 : decode cX5_bridgesOf 41 = .ok (.iload 4, 2) := by decide +kernel
theorem dX5_bridgesOf_43 : decode cX5_bridgesOf 43 = .ok (.ior, 1) := by decide +kernel
theorem dX5_bridgesOf_44 : decode cX5_bridgesOf 44 = .ok (.istore_n 2, 1) := by decide +kernel
theorem dX5_bridgesOf_45 : decode cX5_bridgesOf 45 = .ok (.iinc 3 1, 3) := by decide +kernel
theorem dX5_bridgesOf_48 : decode cX5_bridgesOf 48 = .ok (.goto (-39), 3) := by decide +kernel
theorem dX5_bridgesOf_51 : decode cX5_bridgesOf 51 = .ok (.iload_n 2, 1) := by decide +kernel
theorem dX5_bridgesOf_52 : decode cX5_bridgesOf 52 = .ok (.ireturn, 1) := by decide +kernel
theorem dX5_singlesTo_0 : decode cX5_singlesTo 0 = .ok (.iconst 0, 1) := by decide +kernel
theorem dX5_singlesTo_1 : decode cX5_singlesTo 1 = .ok (.istore 5, 2) := by decide +kernel
theorem dX5_singlesTo_3 : decode cX5_singlesTo 3 = .ok (.iload 4, 2) := by decide +kernel
theorem dX5_singlesTo_5 : decode cX5_singlesTo 5 = .ok (.istore 6, 2) := by decide +kernel
theorem dX5_singlesTo_7 : decode cX5_singlesTo 7 = .ok (.iload 6, 2) := by decide +kernel
theorem dX5_singlesTo_9 : decode cX5_singlesTo 9 = .ok (.bipush 25, 2) := by decide +kernel
theorem dX5_singlesTo_11 : decode cX5_singlesTo 11 = .ok (.if_icmp .ge 40, 3) := by decide +kernel
theorem dX5_singlesTo_14 : decode cX5_singlesTo 14 = .ok (.iconst 1, 1) := by decide +kernel
theorem dX5_singlesTo_15 : decode cX5_singlesTo 15 = .ok (.iload 6, 2) := by decide +kernel
theorem dX5_singlesTo_17 : decode cX5_singlesTo 17 = .ok (.ishl, 1) := by decide +kernel
theorem dX5_singlesTo_18 : decode cX5_singlesTo 18 = .ok (.istore 7, 2) := by decide +kernel
theorem dX5_singlesTo_20 : decode cX5_singlesTo 20 = .ok (.iload_n 3, 1) := by decide +kernel
theorem dX5_singlesTo_21 : decode cX5_singlesTo 21 = .ok (.iload 7, 2) := by decide +kernel
theorem dX5_singlesTo_23 : decode cX5_singlesTo 23 = .ok (.iand, 1) := by decide +kernel
theorem dX5_singlesTo_24 : decode cX5_singlesTo 24 = .ok (.ifCond .eq 21, 3) := by decide +kernel
theorem dX5_singlesTo_27 : decode cX5_singlesTo 27 = .ok (.aload_n 0, 1) := by decide +kernel
theorem dX5_singlesTo_28 : decode cX5_singlesTo 28 = .ok (.iload_n 1, 1) := by decide +kernel
theorem dX5_singlesTo_29 : decode cX5_singlesTo 29 = .ok (.iload_n 3, 1) := by decide +kernel
theorem dX5_singlesTo_30 : decode cX5_singlesTo 30 = .ok (.iload 7, 2) := by decide +kernel
theorem dX5_singlesTo_32 : decode cX5_singlesTo 32 = .ok (.iconst (-1), 1) := by decide +kernel
theorem dX5_singlesTo_33 : decode cX5_singlesTo 33 = .ok (.ixor, 1) := by decide +kernel
theorem dX5_singlesTo_34 : decode cX5_singlesTo 34 = .ok (.iand, 1) := by decide +kernel
theorem dX5_singlesTo_35 : decode cX5_singlesTo 35 = .ok (.invokevirtual 102, 3) := by decide +kernel
theorem dX5_singlesTo_38 : decode cX5_singlesTo 38 = .ok (.iload_n 2, 1) := by decide +kernel
theorem dX5_singlesTo_39 : decode cX5_singlesTo 39 = .ok (.if_icmp .lt 6, 3) := by decide +kernel
theorem dX5_singlesTo_42 : decode cX5_singlesTo 42 = .ok (.iinc 5 1, 3) := by decide +kernel
theorem dX5_singlesTo_45 : decode cX5_singlesTo 45 = .ok (.iinc 6 1, 3) := by decide +kernel
theorem dX5_singlesTo_48 : decode cX5_singlesTo 48 = .ok (.goto (-41), 3) := by decide +kernel
theorem dX5_singlesTo_51 : decode cX5_singlesTo 51 = .ok (.iload 5, 2) := by decide +kernel
theorem dX5_singlesTo_53 : decode cX5_singlesTo 53 = .ok (.ireturn, 1) := by decide +kernel
theorem dX5_pairsTo_0 : decode cX5_pairsTo 0 = .ok (.iconst 0, 1) := by decide +kernel
theorem dX5_pairsTo_1 : decode cX5_pairsTo 1 = .ok (.istore_n 3, 1) := by decide +kernel
theorem dX5_pairsTo_2 : decode cX5_pairsTo 2 = .ok (.iconst 0, 1) := by decide +kernel
theorem dX5_pairsTo_3 : decode cX5_pairsTo 3 = .ok (.istore 4, 2) := by decide +kernel
theorem dX5_pairsTo_5 : decode cX5_pairsTo 5 = .ok (.iload 4, 2) := by decide +kernel
theorem dX5_pairsTo_7 : decode cX5_pairsTo 7 = .ok (.bipush 25, 2) := by decide +kernel
theorem dX5_pairsTo_9 : decode cX5_pairsTo 9 = .ok (.if_icmp .ge 53, 3) := by decide +kernel
theorem dX5_pairsTo_12 : decode cX5_pairsTo 12 = .ok (.iconst 1, 1) := by decide +kernel
theorem dX5_pairsTo_13 : decode cX5_pairsTo 13 = .ok (.iload 4, 2) := by decide +kernel
theorem dX5_pairsTo_15 : decode cX5_pairsTo 15 = .ok (.ishl, 1) := by decide +kernel
theorem dX5_pairsTo_16 : decode cX5_pairsTo 16 = .ok (.istore 5, 2) := by decide +kernel
theorem dX5_pairsTo_18 : decode cX5_pairsTo 18 = .ok (.aload_n 0, 1) := by decide +kernel
theorem dX5_pairsTo_19 : decode cX5_pairsTo 19 = .ok (.getfield 10, 3) := by decide +kernel
theorem dX5_pairsTo_22 : decode cX5_pairsTo 22 = .ok (.getfield 76, 3) := by decide +kernel
theorem dX5_pairsTo_25 : decode cX5_pairsTo 25 = .ok (.iload 5, 2) := by decide +kernel
theorem dX5_pairsTo_27 : decode cX5_pairsTo 27 = .ok (.iand, 1) := by decide +kernel
theorem dX5_pairsTo_28 : decode cX5_pairsTo 28 = .ok (.ifCond .eq 28, 3) := by decide +kernel
theorem dX5_pairsTo_31 : decode cX5_pairsTo 31 = .ok (.iload_n 3, 1) := by decide +kernel
theorem dX5_pairsTo_32 : decode cX5_pairsTo 32 = .ok (.aload_n 0, 1) := by decide +kernel
theorem dX5_pairsTo_33 : decode cX5_pairsTo 33 = .ok (.iload_n 1, 1) := by decide +kernel
theorem dX5_pairsTo_34 : decode cX5_pairsTo 34 = .ok (.iload_n 2, 1) := by decide +kernel
theorem dX5_pairsTo_35 : decode cX5_pairsTo 35 = .ok (.aload_n 0, 1) := by decide +kernel
theorem dX5_pairsTo_36 : decode cX5_pairsTo 36 = .ok (.getfield 10, 3) := by decide +kernel
theorem dX5_pairsTo_39 : decode cX5_pairsTo 39 = .ok (.getfield 76, 3) := by decide +kernel
theorem dX5_pairsTo_42 : decode cX5_pairsTo 42 = .ok (.iload 5, 2) := by decide +kernel
theorem dX5_pairsTo_44 : decode cX5_pairsTo 44 = .ok (.iconst (-1), 1) := by decide +kernel
theorem dX5_pairsTo_45 : decode cX5_pairsTo 45 = .ok (.ixor, 1) := by decide +kernel
theorem dX5_pairsTo_46 : decode cX5_pairsTo 46 = .ok (.iand, 1) := by decide +kernel
theorem dX5_pairsTo_47 : decode cX5_pairsTo 47 = .ok (.iload 4, 2) := by decide +kernel
theorem dX5_pairsTo_49 : decode cX5_pairsTo 49 = .ok (.iconst 1, 1) := by decide +kernel
theorem dX5_pairsTo_50 : decode cX5_pairsTo 50 = .ok (.iadd, 1) := by decide +kernel
theorem dX5_pairsTo_51 : decode cX5_pairsTo 51 = .ok (.invokevirtual 233, 3) := by decide +kernel
theorem dX5_pairsTo_54 : decode cX5_pairsTo 54 = .ok (.iadd, 1) := by decide +kernel
theorem dX5_pairsTo_55 : decode cX5_pairsTo 55 = .ok (.istore_n 3, 1) := by decide +kernel
theorem dX5_pairsTo_56 : decode cX5_pairsTo 56 = .ok (.iinc 4 1, 3) := by decide +kernel
theorem dX5_pairsTo_59 : decode cX5_pairsTo 59 = .ok (.goto (-54), 3) := by decide +kernel
theorem dX5_pairsTo_62 : decode cX5_pairsTo 62 = .ok (.iload_n 3, 1) := by decide +kernel
theorem dX5_pairsTo_63 : decode cX5_pairsTo 63 = .ok (.ireturn, 1) := by decide +kernel
theorem dX5_partOf_0 : decode cX5_partOf 0 = .ok (.iload_n 1, 1) := by decide +kernel
theorem dX5_partOf_1 : decode cX5_partOf 1 = .ok (.istore_n 3, 1) := by decide +kernel
theorem dX5_partOf_2 : decode cX5_partOf 2 = .ok (.iload_n 0, 1) := by decide +kernel
theorem dX5_partOf_3 : decode cX5_partOf 3 = .ok (.istore 4, 2) := by decide +kernel
theorem dX5_partOf_5 : decode cX5_partOf 5 = .ok (.iconst 0, 1) := by decide +kernel
theorem dX5_partOf_6 : decode cX5_partOf 6 = .ok (.istore 5, 2) := by decide +kernel
theorem dX5_partOf_8 : decode cX5_partOf 8 = .ok (.iload 5, 2) := by decide +kernel
theorem dX5_partOf_10 : decode cX5_partOf 10 = .ok (.bipush 64, 2) := by decide +kernel
theorem dX5_partOf_12 : decode cX5_partOf 12 = .ok (.if_icmp .ge 27, 3) := by decide +kernel
theorem dX5_partOf_15 : decode cX5_partOf 15 = .ok (.iload 4, 2) := by decide +kernel
theorem dX5_partOf_17 : decode cX5_partOf 17 = .ok (.ifCond .eq 22, 3) := by decide +kernel
theorem dX5_partOf_20 : decode cX5_partOf 20 = .ok (.iload_n 3, 1) := by decide +kernel
theorem dX5_partOf_21 : decode cX5_partOf 21 = .ok (.iload 4, 2) := by decide +kernel
theorem dX5_partOf_23 : decode cX5_partOf 23 = .ok (.irem, 1) := by decide +kernel
theorem dX5_partOf_24 : decode cX5_partOf 24 = .ok (.istore 6, 2) := by decide +kernel
theorem dX5_partOf_26 : decode cX5_partOf 26 = .ok (.iload 4, 2) := by decide +kernel
theorem dX5_partOf_28 : decode cX5_partOf 28 = .ok (.istore_n 3, 1) := by decide +kernel
theorem dX5_partOf_29 : decode cX5_partOf 29 = .ok (.iload 6, 2) := by decide +kernel
theorem dX5_partOf_31 : decode cX5_partOf 31 = .ok (.istore 4, 2) := by decide +kernel
theorem dX5_partOf_33 : decode cX5_partOf 33 = .ok (.iinc 5 1, 3) := by decide +kernel
theorem dX5_partOf_36 : decode cX5_partOf 36 = .ok (.goto (-28), 3) := by decide +kernel
theorem dX5_partOf_39 : decode cX5_partOf 39 = .ok (.iload_n 3, 1) := by decide +kernel
theorem dX5_partOf_40 : decode cX5_partOf 40 = .ok (.iconst 1, 1) := by decide +kernel
theorem dX5_partOf_41 : decode cX5_partOf 41 = .ok (.if_icmp .ge 6, 3) := by decide +kernel
theorem dX5_partOf_44 : decode cX5_partOf 44 = .ok (.iload_n 2, 1) := by decide +kernel
theorem dX5_partOf_45 : decode cX5_partOf 45 = .ok (.i2l, 1) := by decide +kernel
theorem dX5_partOf_46 : decode cX5_partOf 46 = .ok (.lreturn, 1) := by decide +kernel
theorem dX5_partOf_47 : decode cX5_partOf 47 = .ok (.iload_n 2, 1) := by decide +kernel
theorem dX5_partOf_48 : decode cX5_partOf 48 = .ok (.ifCond .ne 10, 3) := by decide +kernel
theorem dX5_partOf_51 : decode cX5_partOf 51 = .ok (.iload_n 0, 1) := by decide +kernel
theorem dX5_partOf_52 : decode cX5_partOf 52 = .ok (.iload_n 3, 1) := by decide +kernel
theorem dX5_partOf_53 : decode cX5_partOf 53 = .ok (.idiv, 1) := by decide +kernel
theorem dX5_partOf_54 : decode cX5_partOf 54 = .ok (.i2l, 1) := by decide +kernel
theorem dX5_partOf_55 : decode cX5_partOf 55 = .ok (.goto 7, 3) := by decide +kernel
theorem dX5_partOf_58 : decode cX5_partOf 58 = .ok (.iload_n 1, 1) := by decide +kernel
theorem dX5_partOf_59 : decode cX5_partOf 59 = .ok (.iload_n 3, 1) := by decide +kernel
theorem dX5_partOf_60 : decode cX5_partOf 60 = .ok (.idiv, 1) := by decide +kernel
theorem dX5_partOf_61 : decode cX5_partOf 61 = .ok (.i2l, 1) := by decide +kernel
theorem dX5_partOf_62 : decode cX5_partOf 62 = .ok (.lreturn, 1) := by decide +kernel
theorem dX5_fitsTold_0 : decode cX5_fitsTold 0 = .ok (.iconst 0, 1) := by decide +kernel
theorem dX5_fitsTold_1 : decode cX5_fitsTold 1 = .ok (.istore_n 3, 1) := by decide +kernel
theorem dX5_fitsTold_2 : decode cX5_fitsTold 2 = .ok (.iload_n 3, 1) := by decide +kernel
theorem dX5_fitsTold_3 : decode cX5_fitsTold 3 = .ok (.aload_n 0, 1) := by decide +kernel
theorem dX5_fitsTold_4 : decode cX5_fitsTold 4 = .ok (.getfield 245, 3) := by decide +kernel
theorem dX5_fitsTold_7 : decode cX5_fitsTold 7 = .ok (.if_icmp .ge 63, 3) := by decide +kernel
theorem dX5_fitsTold_10 : decode cX5_fitsTold 10 = .ok (.iload_n 3, 1) := by decide +kernel
theorem dX5_fitsTold_11 : decode cX5_fitsTold 11 = .ok (.ifCond .ne 7, 3) := by decide +kernel
theorem dX5_fitsTold_14 : decode cX5_fitsTold 14 = .ok (.iconst 0, 1) := by decide +kernel
theorem dX5_fitsTold_15 : decode cX5_fitsTold 15 = .ok (.goto 8, 3) := by decide +kernel
theorem dX5_fitsTold_18 : decode cX5_fitsTold 18 = .ok (.iconst 1, 1) := by decide +kernel
theorem dX5_fitsTold_19 : decode cX5_fitsTold 19 = .ok (.iload_n 3, 1) := by decide +kernel
theorem dX5_fitsTold_20 : decode cX5_fitsTold 20 = .ok (.iconst 1, 1) := by decide +kernel
theorem dX5_fitsTold_21 : decode cX5_fitsTold 21 = .ok (.isub, 1) := by decide +kernel
theorem dX5_fitsTold_22 : decode cX5_fitsTold 22 = .ok (.ishl, 1) := by decide +kernel
theorem dX5_fitsTold_23 : decode cX5_fitsTold 23 = .ok (.istore 4, 2) := by decide +kernel
theorem dX5_fitsTold_25 : decode cX5_fitsTold 25 = .ok (.aload_n 0, 1) := by decide +kernel
theorem dX5_fitsTold_26 : decode cX5_fitsTold 26 = .ok (.getfield 25, 3) := by decide +kernel
theorem dX5_fitsTold_29 : decode cX5_fitsTold 29 = .ok (.aload_n 0, 1) := by decide +kernel
theorem dX5_fitsTold_30 : decode cX5_fitsTold 30 = .ok (.getfield 10, 3) := by decide +kernel
theorem dX5_fitsTold_33 : decode cX5_fitsTold 33 = .ok (.getfield 76, 3) := by decide +kernel
theorem dX5_fitsTold_36 : decode cX5_fitsTold 36 = .ok (.iload 4, 2) := by decide +kernel
theorem dX5_fitsTold_38 : decode cX5_fitsTold 38 = .ok (.iconst (-1), 1) := by decide +kernel
theorem dX5_fitsTold_39 : decode cX5_fitsTold 39 = .ok (.ixor, 1) := by decide +kernel
theorem dX5_fitsTold_40 : decode cX5_fitsTold 40 = .ok (.iand, 1) := by decide +kernel
theorem dX5_fitsTold_41 : decode cX5_fitsTold 41 = .ok (.invokevirtual 134, 3) := by decide +kernel
theorem dX5_fitsTold_44 : decode cX5_fitsTold 44 = .ok (.aload_n 0, 1) := by decide +kernel
theorem dX5_fitsTold_45 : decode cX5_fitsTold 45 = .ok (.getfield 25, 3) := by decide +kernel
theorem dX5_fitsTold_48 : decode cX5_fitsTold 48 = .ok (.iload_n 1, 1) := by decide +kernel
theorem dX5_fitsTold_49 : decode cX5_fitsTold 49 = .ok (.iload_n 2, 1) := by decide +kernel
theorem dX5_fitsTold_50 : decode cX5_fitsTold 50 = .ok (.invokevirtual 264, 3) := by decide +kernel
theorem dX5_fitsTold_53 : decode cX5_fitsTold 53 = .ok (.aload_n 0, 1) := by decide +kernel
theorem dX5_fitsTold_54 : decode cX5_fitsTold 54 = .ok (.getfield 43, 3) := by decide +kernel
theorem dX5_fitsTold_57 : decode cX5_fitsTold 57 = .ok (.iload_n 3, 1) := by decide +kernel
theorem dX5_fitsTold_58 : decode cX5_fitsTold 58 = .ok (.iaload, 1) := by decide +kernel
theorem dX5_fitsTold_59 : decode cX5_fitsTold 59 = .ok (.if_icmp .eq 5, 3) := by decide +kernel
theorem dX5_fitsTold_62 : decode cX5_fitsTold 62 = .ok (.iconst 0, 1) := by decide +kernel
theorem dX5_fitsTold_63 : decode cX5_fitsTold 63 = .ok (.ireturn, 1) := by decide +kernel
theorem dX5_fitsTold_64 : decode cX5_fitsTold 64 = .ok (.iinc 3 1, 3) := by decide +kernel
theorem dX5_fitsTold_67 : decode cX5_fitsTold 67 = .ok (.goto (-65), 3) := by decide +kernel
theorem dX5_fitsTold_70 : decode cX5_fitsTold 70 = .ok (.iconst 1, 1) := by decide +kernel
theorem dX5_fitsTold_71 : decode cX5_fitsTold 71 = .ok (.ireturn, 1) := by decide +kernel
theorem dX5_firstWronglyTold_0 : decode cX5_firstWronglyTold 0 = .ok (.aload_n 0, 1) := by decide +kernel
theorem dX5_firstWronglyTold_1 : decode cX5_firstWronglyTold 1 = .ok (.getfield 25, 3) := by decide +kernel
theorem dX5_firstWronglyTold_4 : decode cX5_firstWronglyTold 4 = .ok (.aload_n 0, 1) := by decide +kernel
theorem dX5_firstWronglyTold_5 : decode cX5_firstWronglyTold 5 = .ok (.getfield 10, 3) := by decide +kernel
theorem dX5_firstWronglyTold_8 : decode cX5_firstWronglyTold 8 = .ok (.getfield 76, 3) := by decide +kernel
theorem dX5_firstWronglyTold_11 : decode cX5_firstWronglyTold 11 = .ok (.invokevirtual 134, 3) := by decide +kernel
theorem dX5_firstWronglyTold_14 : decode cX5_firstWronglyTold 14 = .ok (.iconst 0, 1) := by decide +kernel
theorem dX5_firstWronglyTold_15 : decode cX5_firstWronglyTold 15 = .ok (.istore_n 1, 1) := by decide +kernel
theorem dX5_firstWronglyTold_16 : decode cX5_firstWronglyTold 16 = .ok (.iload_n 1, 1) := by decide +kernel
theorem dX5_firstWronglyTold_17 : decode cX5_firstWronglyTold 17 = .ok (.aload_n 0, 1) := by decide +kernel
theorem dX5_firstWronglyTold_18 : decode cX5_firstWronglyTold 18 = .ok (.getfield 245, 3) := by decide +kernel
theorem dX5_firstWronglyTold_21 : decode cX5_firstWronglyTold 21 = .ok (.if_icmp .ge 36, 3) := by decide +kernel
theorem dX5_firstWronglyTold_24 : decode cX5_firstWronglyTold 24 = .ok (.iload_n 1, 1) := by decide +kernel
theorem dX5_firstWronglyTold_25 : decode cX5_firstWronglyTold 25 = .ok (.aload_n 0, 1) := by decide +kernel
theorem dX5_firstWronglyTold_26 : decode cX5_firstWronglyTold 26 = .ok (.getfield 10, 3) := by decide +kernel
theorem dX5_firstWronglyTold_29 : decode cX5_firstWronglyTold 29 = .ok (.getfield 217, 3) := by decide +kernel
theorem dX5_firstWronglyTold_32 : decode cX5_firstWronglyTold 32 = .ok (.if_icmp .ge 17, 3) := by decide +kernel
theorem dX5_firstWronglyTold_35 : decode cX5_firstWronglyTold 35 = .ok (.aload_n 0, 1) := by decide +kernel
theorem dX5_firstWronglyTold_36 : decode cX5_firstWronglyTold 36 = .ok (.iload_n 1, 1) := by decide +kernel
theorem dX5_firstWronglyTold_37 : decode cX5_firstWronglyTold 37 = .ok (.invokevirtual 261, 3) := by decide +kernel
theorem dX5_firstWronglyTold_40 : decode cX5_firstWronglyTold 40 = .ok (.aload_n 0, 1) := by decide +kernel
theorem dX5_firstWronglyTold_41 : decode cX5_firstWronglyTold 41 = .ok (.getfield 43, 3) := by decide +kernel
theorem dX5_firstWronglyTold_44 : decode cX5_firstWronglyTold 44 = .ok (.iload_n 1, 1) := by decide +kernel
theorem dX5_firstWronglyTold_45 : decode cX5_firstWronglyTold 45 = .ok (.iaload, 1) := by decide +kernel
theorem dX5_firstWronglyTold_46 : decode cX5_firstWronglyTold 46 = .ok (.if_icmp .eq 5, 3) := by decide +kernel
theorem dX5_firstWronglyTold_49 : decode cX5_firstWronglyTold 49 = .ok (.iload_n 1, 1) := by decide +kernel
theorem dX5_firstWronglyTold_50 : decode cX5_firstWronglyTold 50 = .ok (.ireturn, 1) := by decide +kernel
theorem dX5_firstWronglyTold_51 : decode cX5_firstWronglyTold 51 = .ok (.iinc 1 1, 3) := by decide +kernel
theorem dX5_firstWronglyTold_54 : decode cX5_firstWronglyTold 54 = .ok (.goto (-38), 3) := by decide +kernel
theorem dX5_firstWronglyTold_57 : decode cX5_firstWronglyTold 57 = .ok (.bipush (-9), 2) := by decide +kernel
theorem dX5_firstWronglyTold_59 : decode cX5_firstWronglyTold 59 = .ok (.ireturn, 1) := by decide +kernel
theorem dX5_nextSeed_0 : decode cX5_nextSeed 0 = .ok (.iload_n 0, 1) := by decide +kernel
theorem dX5_nextSeed_1 : decode cX5_nextSeed 1 = .ok (.ldc_w 267, 3) := by decide +kernel
theorem dX5_nextSeed_4 : decode cX5_nextSeed 4 = .ok (.imul, 1) := by decide +kernel
theorem dX5_nextSeed_5 : decode cX5_nextSeed 5 = .ok (.ldc_w 268, 3) := by decide +kernel
theorem dX5_nextSeed_8 : decode cX5_nextSeed 8 = .ok (.iadd, 1) := by decide +kernel
theorem dX5_nextSeed_9 : decode cX5_nextSeed 9 = .ok (.ireturn, 1) := by decide +kernel
theorem dX5_drawnFrom_0 : decode cX5_drawnFrom 0 = .ok (.iload_n 0, 1) := by decide +kernel
theorem dX5_drawnFrom_1 : decode cX5_drawnFrom 1 = .ok (.ldc_w 269, 3) := by decide +kernel
theorem dX5_drawnFrom_4 : decode cX5_drawnFrom 4 = .ok (.iand, 1) := by decide +kernel
theorem dX5_drawnFrom_5 : decode cX5_drawnFrom 5 = .ok (.sipush 256, 3) := by decide +kernel
theorem dX5_drawnFrom_8 : decode cX5_drawnFrom 8 = .ok (.idiv, 1) := by decide +kernel
theorem dX5_drawnFrom_9 : decode cX5_drawnFrom 9 = .ok (.ireturn, 1) := by decide +kernel
theorem dX5_trialOfText_0 : decode cX5_trialOfText 0 = .ok (.aload_n 0, 1) := by decide +kernel
theorem dX5_trialOfText_1 : decode cX5_trialOfText 1 = .ok (.getfield 39, 3) := by decide +kernel
theorem dX5_trialOfText_4 : decode cX5_trialOfText 4 = .ok (.invokevirtual 270, 3) := by decide +kernel
theorem dX5_trialOfText_7 : decode cX5_trialOfText 7 = .ok (.istore_n 1, 1) := by decide +kernel
theorem dX5_trialOfText_8 : decode cX5_trialOfText 8 = .ok (.iload_n 1, 1) := by decide +kernel
theorem dX5_trialOfText_9 : decode cX5_trialOfText 9 = .ok (.iconst (-1), 1) := by decide +kernel
theorem dX5_trialOfText_10 : decode cX5_trialOfText 10 = .ok (.if_icmp .eq 9, 3) := by decide +kernel
theorem dX5_trialOfText_13 : decode cX5_trialOfText 13 = .ok (.sipush (-1000), 3) := by decide +kernel
theorem dX5_trialOfText_16 : decode cX5_trialOfText 16 = .ok (.iload_n 1, 1) := by decide +kernel
theorem dX5_trialOfText_17 : decode cX5_trialOfText 17 = .ok (.isub, 1) := by decide +kernel
theorem dX5_trialOfText_18 : decode cX5_trialOfText 18 = .ok (.ireturn, 1) := by decide +kernel
theorem dX5_trialOfText_19 : decode cX5_trialOfText 19 = .ok (.aload_n 0, 1) := by decide +kernel
theorem dX5_trialOfText_20 : decode cX5_trialOfText 20 = .ok (.getfield 19, 3) := by decide +kernel
theorem dX5_trialOfText_23 : decode cX5_trialOfText 23 = .ok (.aload_n 0, 1) := by decide +kernel
theorem dX5_trialOfText_24 : decode cX5_trialOfText 24 = .ok (.getfield 10, 3) := by decide +kernel
theorem dX5_trialOfText_27 : decode cX5_trialOfText 27 = .ok (.invokevirtual 68, 3) := by decide +kernel
theorem dX5_trialOfText_30 : decode cX5_trialOfText 30 = .ok (.iconst 0, 1) := by decide +kernel
theorem dX5_trialOfText_31 : decode cX5_trialOfText 31 = .ok (.istore_n 2, 1) := by decide +kernel
theorem dX5_trialOfText_32 : decode cX5_trialOfText 32 = .ok (.iconst 0, 1) := by decide +kernel
theorem dX5_trialOfText_33 : decode cX5_trialOfText 33 = .ok (.istore_n 3, 1) := by decide +kernel
theorem dX5_trialOfText_34 : decode cX5_trialOfText 34 = .ok (.iload_n 3, 1) := by decide +kernel
theorem dX5_trialOfText_35 : decode cX5_trialOfText 35 = .ok (.aload_n 0, 1) := by decide +kernel
theorem dX5_trialOfText_36 : decode cX5_trialOfText 36 = .ok (.getfield 39, 3) := by decide +kernel
theorem dX5_trialOfText_39 : decode cX5_trialOfText 39 = .ok (.getfield 57, 3) := by decide +kernel
theorem dX5_trialOfText_42 : decode cX5_trialOfText 42 = .ok (.if_icmp .ge 48, 3) := by decide +kernel
theorem dX5_trialOfText_45 : decode cX5_trialOfText 45 = .ok (.aload_n 0, 1) := by decide +kernel
theorem dX5_trialOfText_46 : decode cX5_trialOfText 46 = .ok (.getfield 39, 3) := by decide +kernel
theorem dX5_trialOfText_49 : decode cX5_trialOfText 49 = .ok (.iload_n 3, 1) := by decide +kernel
theorem dX5_trialOfText_50 : decode cX5_trialOfText 50 = .ok (.aload_n 0, 1) := by decide +kernel
theorem dX5_trialOfText_51 : decode cX5_trialOfText 51 = .ok (.getfield 19, 3) := by decide +kernel
theorem dX5_trialOfText_54 : decode cX5_trialOfText 54 = .ok (.invokevirtual 273, 3) := by decide +kernel
theorem dX5_trialOfText_57 : decode cX5_trialOfText 57 = .ok (.ifCond .ne 9, 3) := by decide +kernel
theorem dX5_trialOfText_60 : decode cX5_trialOfText 60 = .ok (.sipush (-2000), 3) := by decide +kernel
theorem dX5_trialOfText_63 : decode cX5_trialOfText 63 = .ok (.iload_n 3, 1) := by decide +kernel
theorem dX5_trialOfText_64 : decode cX5_trialOfText 64 = .ok (.isub, 1) := by decide +kernel
theorem dX5_trialOfText_65 : decode cX5_trialOfText 65 = .ok (.ireturn, 1) := by decide +kernel
theorem dX5_trialOfText_66 : decode cX5_trialOfText 66 = .ok (.iinc 2 1, 3) := by decide +kernel
theorem dX5_trialOfText_69 : decode cX5_trialOfText 69 = .ok (.iload_n 3, 1) := by decide +kernel
theorem dX5_trialOfText_70 : decode cX5_trialOfText 70 = .ok (.iconst 1, 1) := by decide +kernel
theorem dX5_trialOfText_71 : decode cX5_trialOfText 71 = .ok (.aload_n 0, 1) := by decide +kernel
theorem dX5_trialOfText_72 : decode cX5_trialOfText 72 = .ok (.getfield 39, 3) := by decide +kernel
theorem dX5_trialOfText_75 : decode cX5_trialOfText 75 = .ok (.iload_n 3, 1) := by decide +kernel
theorem dX5_trialOfText_76 : decode cX5_trialOfText 76 = .ok (.invokevirtual 277, 3) := by decide +kernel
theorem dX5_trialOfText_79 : decode cX5_trialOfText 79 = .ok (.invokevirtual 281, 3) := by decide +kernel
theorem dX5_trialOfText_82 : decode cX5_trialOfText 82 = .ok (.invokestatic 239, 3) := by decide +kernel
theorem dX5_trialOfText_85 : decode cX5_trialOfText 85 = .ok (.iadd, 1) := by decide +kernel
theorem dX5_trialOfText_86 : decode cX5_trialOfText 86 = .ok (.istore_n 3, 1) := by decide +kernel
theorem dX5_trialOfText_87 : decode cX5_trialOfText 87 = .ok (.goto (-53), 3) := by decide +kernel
theorem dX5_trialOfText_90 : decode cX5_trialOfText 90 = .ok (.iload_n 2, 1) := by decide +kernel
theorem dX5_trialOfText_91 : decode cX5_trialOfText 91 = .ok (.ireturn, 1) := by decide +kernel
theorem dX6_init_0 : decode cX6_init 0 = .ok (.aload_n 0, 1) := by decide +kernel
theorem dX6_init_1 : decode cX6_init 1 = .ok (.invokespecial 1, 3) := by decide +kernel
theorem dX6_init_4 : decode cX6_init 4 = .ok (.aload_n 0, 1) := by decide +kernel
theorem dX6_init_5 : decode cX6_init 5 = .ok (.ldc 9, 2) := by decide +kernel
theorem dX6_init_7 : decode cX6_init 7 = .ok (.putfield 10, 3) := by decide +kernel
theorem dX6_init_10 : decode cX6_init 10 = .ok (.aload_n 0, 1) := by decide +kernel
theorem dX6_init_11 : decode cX6_init 11 = .ok (.iconst 5, 1) := by decide +kernel
theorem dX6_init_12 : decode cX6_init 12 = .ok (.newarray .int, 2) := by decide +kernel
theorem dX6_init_14 : decode cX6_init 14 = .ok (.putfield 14, 3) := by decide +kernel
theorem dX6_init_17 : decode cX6_init 17 = .ok (.aload_n 0, 1) := by decide +kernel
theorem dX6_init_18 : decode cX6_init 18 = .ok (.iconst 5, 1) := by decide +kernel
theorem dX6_init_19 : decode cX6_init 19 = .ok (.newarray .int, 2) := by decide +kernel
theorem dX6_init_21 : decode cX6_init 21 = .ok (.putfield 18, 3) := by decide +kernel
theorem dX6_init_24 : decode cX6_init 24 = .ok (.aload_n 0, 1) := by decide +kernel
theorem dX6_init_25 : decode cX6_init 25 = .ok (.iconst 5, 1) := by decide +kernel
theorem dX6_init_26 : decode cX6_init 26 = .ok (.newarray .int, 2) := by decide +kernel
theorem dX6_init_28 : decode cX6_init 28 = .ok (.putfield 21, 3) := by decide +kernel
theorem dX6_init_31 : decode cX6_init 31 = .ok (.aload_n 0, 1) := by decide +kernel
theorem dX6_init_32 : decode cX6_init 32 = .ok (.iconst 5, 1) := by decide +kernel
theorem dX6_init_33 : decode cX6_init 33 = .ok (.newarray .int, 2) := by decide +kernel
theorem dX6_init_35 : decode cX6_init 35 = .ok (.putfield 24, 3) := by decide +kernel
theorem dX6_init_38 : decode cX6_init 38 = .ok (.aload_n 0, 1) := by decide +kernel
theorem dX6_init_39 : decode cX6_init 39 = .ok (.iconst 5, 1) := by decide +kernel
theorem dX6_init_40 : decode cX6_init 40 = .ok (.newarray .int, 2) := by decide +kernel
theorem dX6_init_42 : decode cX6_init 42 = .ok (.putfield 27, 3) := by decide +kernel
theorem dX6_init_45 : decode cX6_init 45 = .ok (.aload_n 0, 1) := by decide +kernel
theorem dX6_init_46 : decode cX6_init 46 = .ok (.iconst 5, 1) := by decide +kernel
theorem dX6_init_47 : decode cX6_init 47 = .ok (.newarray .int, 2) := by decide +kernel
theorem dX6_init_49 : decode cX6_init 49 = .ok (.putfield 30, 3) := by decide +kernel
theorem dX6_init_52 : decode cX6_init 52 = .ok (.aload_n 0, 1) := by decide +kernel
theorem dX6_init_53 : decode cX6_init 53 = .ok (.bipush 96, 2) := by decide +kernel
theorem dX6_init_55 : decode cX6_init 55 = .ok (.newarray .int, 2) := by decide +kernel
theorem dX6_init_57 : decode cX6_init 57 = .ok (.putfield 33, 3) := by decide +kernel
theorem dX6_init_60 : decode cX6_init 60 = .ok (.aload_n 0, 1) := by decide +kernel
theorem dX6_init_61 : decode cX6_init 61 = .ok (.bipush 16, 2) := by decide +kernel
theorem dX6_init_63 : decode cX6_init 63 = .ok (.newarray .int, 2) := by decide +kernel
theorem dX6_init_65 : decode cX6_init 65 = .ok (.putfield 36, 3) := by decide +kernel
theorem dX6_init_68 : decode cX6_init 68 = .ok (.aload_n 0, 1) := by decide +kernel
theorem dX6_init_69 : decode cX6_init 69 = .ok (.bipush 7, 2) := by decide +kernel
theorem dX6_init_71 : decode cX6_init 71 = .ok (.newarray .int, 2) := by decide +kernel
theorem dX6_init_73 : decode cX6_init 73 = .ok (.putfield 39, 3) := by decide +kernel
theorem dX6_init_76 : decode cX6_init 76 = .ok (.aload_n 0, 1) := by decide +kernel
theorem dX6_init_77 : decode cX6_init 77 = .ok (.iconst 2, 1) := by decide +kernel
theorem dX6_init_78 : decode cX6_init 78 = .ok (.newarray .int, 2) := by decide +kernel
theorem dX6_init_80 : decode cX6_init 80 = .ok (.putfield 42, 3) := by decide +kernel
theorem dX6_init_83 : decode cX6_init 83 = .ok (.aload_n 0, 1) := by decide +kernel
theorem dX6_init_84 : decode cX6_init 84 = .ok (.sipush 3328, 3) := by decide +kernel
theorem dX6_init_87 : decode cX6_init 87 = .ok (.newarray .int, 2) := by decide +kernel
theorem dX6_init_89 : decode cX6_init 89 = .ok (.putfield 45, 3) := by decide +kernel
theorem dX6_init_92 : decode cX6_init 92 = .ok (.aload_n 0, 1) := by decide +kernel
theorem dX6_init_93 : decode cX6_init 93 = .ok (.sipush 3328, 3) := by decide +kernel
theorem dX6_init_96 : decode cX6_init 96 = .ok (.newarray .int, 2) := by decide +kernel
theorem dX6_init_98 : decode cX6_init 98 = .ok (.putfield 48, 3) := by decide +kernel
theorem dX6_init_101 : decode cX6_init 101 = .ok (.return_, 1) := by decide +kernel
theorem dX6_isIn_0 : decode cX6_isIn 0 = .ok (.iload_n 0, 1) := by decide +kernel
theorem dX6_isIn_1 : decode cX6_isIn 1 = .ok (.iload_n 1, 1) := by decide +kernel
theorem dX6_isIn_2 : decode cX6_isIn 2 = .ok (.if_icmp .lt 12, 3) := by decide +kernel
theorem dX6_isIn_5 : decode cX6_isIn 5 = .ok (.iload_n 0, 1) := by decide +kernel
theorem dX6_isIn_6 : decode cX6_isIn 6 = .ok (.iload_n 2, 1) := by decide +kernel
theorem dX6_isIn_7 : decode cX6_isIn 7 = .ok (.if_icmp .gt 7, 3) := by decide +kernel
theorem dX6_isIn_10 : decode cX6_isIn 10 = .ok (.iconst 1, 1) := by decide +kernel
theorem dX6_isIn_11 : decode cX6_isIn 11 = .ok (.goto 4, 3) := by decide +kernel
theorem dX6_isIn_14 : decode cX6_isIn 14 = .ok (.iconst 0, 1) := by decide +kernel
theorem dX6_isIn_15 : decode cX6_isIn 15 = .ok (.ireturn, 1) := by decide +kernel
theorem dX6_least_0 : decode cX6_least 0 = .ok (.iload_n 0, 1) := by decide +kernel
theorem dX6_least_1 : decode cX6_least 1 = .ok (.iload_n 1, 1) := by decide +kernel
theorem dX6_least_2 : decode cX6_least 2 = .ok (.if_icmp .ge 7, 3) := by decide +kernel
theorem dX6_least_5 : decode cX6_least 5 = .ok (.iload_n 0, 1) := by decide +kernel
theorem dX6_least_6 : decode cX6_least 6 = .ok (.goto 4, 3) := by decide +kernel
theorem dX6_least_9 : decode cX6_least 9 = .ok (.iload_n 1, 1) := by decide +kernel
theorem dX6_least_10 : decode cX6_least 10 = .ok (.ireturn, 1) := by decide +kernel
theorem dX6_no_0 : decode cX6_no 0 = .ok (.aload_n 0, 1) := by decide +kernel
theorem dX6_no_1 : decode cX6_no 1 = .ok (.getfield 39, 3) := by decide +kernel
theorem dX6_no_4 : decode cX6_no 4 = .ok (.iload_n 1, 1) := by decide +kernel
theorem dX6_no_5 : decode cX6_no 5 = .ok (.ineg, 1) := by decide +kernel
theorem dX6_no_6 : decode cX6_no 6 = .ok (.dup2, 1) := by decide +kernel
theorem dX6_no_7 : decode cX6_no 7 = .ok (.iaload, 1) := by decide +kernel
theorem dX6_no_8 : decode cX6_no 8 = .ok (.iconst 1, 1) := by decide +kernel
theorem dX6_no_9 : decode cX6_no 9 = .ok (.iadd, 1) := by decide +kernel
theorem dX6_no_10 : decode cX6_no 10 = .ok (.iastore, 1) := by decide +kernel
theorem dX6_no_11 : decode cX6_no 11 = .ok (.iload_n 1, 1) := by decide +kernel
theorem dX6_no_12 : decode cX6_no 12 = .ok (.ireturn, 1) := by decide +kernel
theorem dX6_noFar_0 : decode cX6_noFar 0 = .ok (.ldc 51, 2) := by decide +kernel
theorem dX6_noFar_2 : decode cX6_noFar 2 = .ok (.aload_n 0, 1) := by decide +kernel
theorem dX6_noFar_3 : decode cX6_noFar 3 = .ok (.iload_n 1, 1) := by decide +kernel
theorem dX6_noFar_4 : decode cX6_noFar 4 = .ok (.invokevirtual 52, 3) := by decide +kernel
theorem dX6_noFar_7 : decode cX6_noFar 7 = .ok (.isub, 1) := by decide +kernel
theorem dX6_noFar_8 : decode cX6_noFar 8 = .ok (.ireturn, 1) := by decide +kernel
theorem dX6_noWide_0 : decode cX6_noWide 0 = .ok (.ldc2_w 56, 3) := by decide +kernel
theorem dX6_noWide_3 : decode cX6_noWide 3 = .ok (.aload_n 0, 1) := by decide +kernel
theorem dX6_noWide_4 : decode cX6_noWide 4 = .ok (.iload_n 1, 1) := by decide +kernel
theorem dX6_noWide_5 : decode cX6_noWide 5 = .ok (.invokevirtual 52, 3) := by decide +kernel
theorem dX6_noWide_8 : decode cX6_noWide 8 = .ok (.i2l, 1) := by decide +kernel
theorem dX6_noWide_9 : decode cX6_noWide 9 = .ok (.lsub, 1) := by decide +kernel
theorem dX6_noWide_10 : decode cX6_noWide 10 = .ok (.lreturn, 1) := by decide +kernel
theorem dX6_isCell_0 : decode cX6_isCell 0 = .ok (.iload_n 0, 1) := by decide +kernel
theorem dX6_isCell_1 : decode cX6_isCell 1 = .ok (.iconst 0, 1) := by decide +kernel
theorem dX6_isCell_2 : decode cX6_isCell 2 = .ok (.bipush 24, 2) := by decide +kernel
theorem dX6_isCell_4 : decode cX6_isCell 4 = .ok (.invokestatic 58, 3) := by decide +kernel
theorem dX6_isCell_7 : decode cX6_isCell 7 = .ok (.ireturn, 1) := by decide +kernel
theorem dX6_isHeir_0 : decode cX6_isHeir 0 = .ok (.iload_n 1, 1) := by decide +kernel
theorem dX6_isHeir_1 : decode cX6_isHeir 1 = .ok (.iconst 0, 1) := by decide +kernel
theorem dX6_isHeir_2 : decode cX6_isHeir 2 = .ok (.aload_n 0, 1) := by decide +kernel
theorem dX6_isHeir_3 : decode cX6_isHeir 3 = .ok (.getfield 62, 3) := by decide +kernel
theorem dX6_isHeir_6 : decode cX6_isHeir 6 = .ok (.iconst 1, 1) := by decide +kernel
theorem dX6_isHeir_7 : decode cX6_isHeir 7 = .ok (.isub, 1) := by decide +kernel
theorem dX6_isHeir_8 : decode cX6_isHeir 8 = .ok (.invokestatic 58, 3) := by decide +kernel
theorem dX6_isHeir_11 : decode cX6_isHeir 11 = .ok (.ireturn, 1) := by decide +kernel
theorem dX6_has_0 : decode cX6_has 0 = .ok (.iload_n 0, 1) := by decide +kernel
theorem dX6_has_1 : decode cX6_has 1 = .ok (.iload_n 1, 1) := by decide +kernel
theorem dX6_has_2 : decode cX6_has 2 = .ok (.ishr, 1) := by decide +kernel
theorem dX6_has_3 : decode cX6_has 3 = .ok (.iconst 1, 1) := by decide +kernel
theorem dX6_has_4 : decode cX6_has 4 = .ok (.iand, 1) := by decide +kernel
theorem dX6_has_5 : decode cX6_has 5 = .ok (.iconst 1, 1) := by decide +kernel
theorem dX6_has_6 : decode cX6_has 6 = .ok (.if_icmp .ne 7, 3) := by decide +kernel
theorem dX6_has_9 : decode cX6_has 9 = .ok (.iconst 1, 1) := by decide +kernel
theorem dX6_has_10 : decode cX6_has 10 = .ok (.goto 4, 3) := by decide +kernel
theorem dX6_has_13 : decode cX6_has 13 = .ok (.iconst 0, 1) := by decide +kernel
theorem dX6_has_14 : decode cX6_has 14 = .ok (.ireturn, 1) := by decide +kernel
theorem dX6_bits_0 : decode cX6_bits 0 = .ok (.iconst 0, 1) := by decide +kernel
theorem dX6_bits_1 : decode cX6_bits 1 = .ok (.istore_n 1, 1) := by decide +kernel
theorem dX6_bits_2 : decode cX6_bits 2 = .ok (.iconst 0, 1) := by decide +kernel
theorem dX6_bits_3 : decode cX6_bits 3 = .ok (.istore_n 2, 1) := by decide +kernel
theorem dX6_bits_4 : decode cX6_bits 4 = .ok (.iload_n 2, 1) := by decide +kernel
theorem dX6_bits_5 : decode cX6_bits 5 = .ok (.bipush 25, 2) := by decide +kernel
theorem dX6_bits_7 : decode cX6_bits 7 = .ok (.if_icmp .ge 17, 3) := by decide +kernel
theorem dX6_bits_10 : decode cX6_bits 10 = .ok (.iload_n 1, 1) := by decide +kernel
theorem dX6_bits_11 : decode cX6_bits 11 = .ok (.iload_n 0, 1) := by decide +kernel
theorem dX6_bits_12 : decode cX6_bits 12 = .ok (.iload_n 2, 1) := by decide +kernel
theorem dX6_bits_13 : decode cX6_bits 13 = .ok (.ishr, 1) := by decide +kernel
theorem dX6_bits_14 : decode cX6_bits 14 = .ok (.iconst 1, 1) := by decide +kernel
theorem dX6_bits_15 : decode cX6_bits 15 = .ok (.iand, 1) := by decide +kernel
theorem dX6_bits_16 : decode cX6_bits 16 = .ok (.iadd, 1) := by decide +kernel
theorem dX6_bits_17 : decode cX6_bits 17 = .ok (.istore_n 1, 1) := by decide +kernel
theorem dX6_bits_18 : decode cX6_bits 18 = .ok (.iinc 2 1, 3) := by decide +kernel
theorem dX6_bits_21 : decode cX6_bits 21 = .ok (.goto (-17), 3) := by decide +kernel
theorem dX6_bits_24 : decode cX6_bits 24 = .ok (.iload_n 1, 1) := by decide +kernel
theorem dX6_bits_25 : decode cX6_bits 25 = .ok (.ireturn, 1) := by decide +kernel
theorem dX6_bite_0 : decode cX6_bite 0 = .ok (.iload_n 0, 1) := by decide +kernel
theorem dX6_bite_1 : decode cX6_bite 1 = .ok (.iconst 2, 1) := by decide +kernel
theorem dX6_bite_2 : decode cX6_bite 2 = .ok (.irem, 1) := by decide +kernel
theorem dX6_bite_3 : decode cX6_bite 3 = .ok (.iconst 1, 1) := by decide +kernel
theorem dX6_bite_4 : decode cX6_bite 4 = .ok (.if_icmp .ne 7, 3) := by decide +kernel
theorem dX6_bite_7 : decode cX6_bite 7 = .ok (.iconst 2, 1) := by decide +kernel
theorem dX6_bite_8 : decode cX6_bite 8 = .ok (.goto 4, 3) := by decide +kernel
theorem dX6_bite_11 : decode cX6_bite 11 = .ok (.iconst 1, 1) := by decide +kernel
theorem dX6_bite_12 : decode cX6_bite 12 = .ok (.istore_n 2, 1) := by decide +kernel
theorem dX6_bite_13 : decode cX6_bite 13 = .ok (.iload_n 0, 1) := by decide +kernel
theorem dX6_bite_14 : decode cX6_bite 14 = .ok (.iconst 2, 1) := by decide +kernel
theorem dX6_bite_15 : decode cX6_bite 15 = .ok (.if_icmp .lt 7, 3) := by decide +kernel
theorem dX6_bite_18 : decode cX6_bite 18 = .ok (.iconst 2, 1) := by decide +kernel
theorem dX6_bite_19 : decode cX6_bite 19 = .ok (.goto 4, 3) := by decide +kernel
theorem dX6_bite_22 : decode cX6_bite 22 = .ok (.iconst 1, 1) := by decide +kernel
theorem dX6_bite_23 : decode cX6_bite 23 = .ok (.istore_n 3, 1) := by decide +kernel
theorem dX6_bite_24 : decode cX6_bite 24 = .ok (.iload_n 1, 1) := by decide +kernel
theorem dX6_bite_25 : decode cX6_bite 25 = .ok (.iconst 5, 1) := by decide +kernel
theorem dX6_bite_26 : decode cX6_bite 26 = .ok (.irem, 1) := by decide +kernel
theorem dX6_bite_27 : decode cX6_bite 27 = .ok (.iload_n 2, 1) := by decide +kernel
theorem dX6_bite_28 : decode cX6_bite 28 = .ok (.iadd, 1) := by decide +kernel
theorem dX6_bite_29 : decode cX6_bite 29 = .ok (.iconst 5, 1) := by decide +kernel
theorem dX6_bite_30 : decode cX6_bite 30 = .ok (.if_icmp .gt 12, 3) := by decide +kernel
theorem dX6_bite_33 : decode cX6_bite 33 = .ok (.iload_n 1, 1) := by decide +kernel
theorem dX6_bite_34 : decode cX6_bite 34 = .ok (.iconst 5, 1) := by decide +kernel
theorem dX6_bite_35 : decode cX6_bite 35 = .ok (.idiv, 1) := by decide +kernel
theorem dX6_bite_36 : decode cX6_bite 36 = .ok (.iload_n 3, 1) := by decide +kernel
theorem dX6_bite_37 : decode cX6_bite 37 = .ok (.iadd, 1) := by decide +kernel
theorem dX6_bite_38 : decode cX6_bite 38 = .ok (.iconst 5, 1) := by decide +kernel
theorem dX6_bite_39 : decode cX6_bite 39 = .ok (.if_icmp .le 5, 3) := by decide +kernel
theorem dX6_bite_42 : decode cX6_bite 42 = .ok (.iconst 0, 1) := by decide +kernel
theorem dX6_bite_43 : decode cX6_bite 43 = .ok (.ireturn, 1) := by decide +kernel
theorem dX6_bite_44 : decode cX6_bite 44 = .ok (.iconst 1, 1) := by decide +kernel
theorem dX6_bite_45 : decode cX6_bite 45 = .ok (.iload_n 1, 1) := by decide +kernel
theorem dX6_bite_46 : decode cX6_bite 46 = .ok (.ishl, 1) := by decide +kernel
theorem dX6_bite_47 : decode cX6_bite 47 = .ok (.istore 4, 2) := by decide +kernel
theorem dX6_bite_49 : decode cX6_bite 49 = .ok (.iload_n 2, 1) := by decide +kernel
theorem dX6_bite_50 : decode cX6_bite 50 = .ok (.iconst 2, 1) := by decide +kernel
theorem dX6_bite_51 : decode cX6_bite 51 = .ok (.if_icmp .ne 13, 3) := by decide +kernel
theorem dX6_bite_54 : decode cX6_bite 54 = .ok (.iload 4, 2) := by decide +kernel
theorem dX6_bite_56 : decode cX6_bite 56 = .ok (.iconst 1, 1) := by decide +kernel
theorem dX6_bite_57 : decode cX6_bite 57 = .ok (.iload_n 1, 1) := by decide +kernel
theorem dX6_bite_58 : decode cX6_bite 58 = .ok (.iconst 1, 1) := by decide +kernel
theorem dX6_bite_59 : decode cX6_bite 59 = .ok (.iadd, 1) := by decide +kernel
theorem dX6_bite_60 : decode cX6_bite 60 = .ok (.ishl, 1) := by decide +kernel
theorem dX6_bite_61 : decode cX6_bite 61 = .ok (.ior, 1) := by decide +kernel
theorem dX6_bite_62 : decode cX6_bite 62 = .ok (.istore 4, 2) := by decide +kernel
theorem dX6_bite_64 : decode cX6_bite 64 = .ok (.iload_n 3, 1) := by decide +kernel
theorem dX6_bite_65 : decode cX6_bite 65 = .ok (.iconst 2, 1) := by decide +kernel
theorem dX6_bite_66 : decode cX6_bite 66 = .ok (.if_icmp .ne 13, 3) := by decide +kernel
theorem dX6_bite_69 : decode cX6_bite 69 = .ok (.iload 4, 2) := by decide +kernel
theorem dX6_bite_71 : decode cX6_bite 71 = .ok (.iload 4, 2) := by decide +kernel
theorem dX6_bite_73 : decode cX6_bite 73 = .ok (.iconst 5, 1) := by decide +kernel
theorem dX6_bite_74 : decode cX6_bite 74 = .ok (.ishl, 1) := by decide +kernel
theorem dX6_bite_75 : decode cX6_bite 75 = .ok (.ior, 1) := by decide +kernel
theorem dX6_bite_76 : decode cX6_bite 76 = .ok (.goto 5, 3) := by decide +kernel
theorem dX6_bite_79 : decode cX6_bite 79 = .ok (.iload 4, 2) := by decide +kernel
theorem dX6_bite_81 : decode cX6_bite 81 = .ok (.ireturn, 1) := by decide +kernel
theorem dX6_canBite_0 : decode cX6_canBite 0 = .ok (.iload_n 1, 1) := by decide +kernel
theorem dX6_canBite_1 : decode cX6_canBite 1 = .ok (.iload_n 2, 1) := by decide +kernel
theorem dX6_canBite_2 : decode cX6_canBite 2 = .ok (.invokestatic 65, 3) := by decide +kernel
theorem dX6_canBite_5 : decode cX6_canBite 5 = .ok (.ifCond .eq 19, 3) := by decide +kernel
theorem dX6_canBite_8 : decode cX6_canBite 8 = .ok (.iload_n 1, 1) := by decide +kernel
theorem dX6_canBite_9 : decode cX6_canBite 9 = .ok (.iload_n 2, 1) := by decide +kernel
theorem dX6_canBite_10 : decode cX6_canBite 10 = .ok (.invokestatic 65, 3) := by decide +kernel
theorem dX6_canBite_13 : decode cX6_canBite 13 = .ok (.iload_n 0, 1) := by decide +kernel
theorem dX6_canBite_14 : decode cX6_canBite 14 = .ok (.iconst (-1), 1) := by decide +kernel
theorem dX6_canBite_15 : decode cX6_canBite 15 = .ok (.ixor, 1) := by decide +kernel
theorem dX6_canBite_16 : decode cX6_canBite 16 = .ok (.iand, 1) := by decide +kernel
theorem dX6_canBite_17 : decode cX6_canBite 17 = .ok (.ifCond .ne 7, 3) := by decide +kernel
theorem dX6_canBite_20 : decode cX6_canBite 20 = .ok (.iconst 1, 1) := by decide +kernel
theorem dX6_canBite_21 : decode cX6_canBite 21 = .ok (.goto 4, 3) := by decide +kernel
theorem dX6_canBite_24 : decode cX6_canBite 24 = .ok (.iconst 0, 1) := by decide +kernel
theorem dX6_canBite_25 : decode cX6_canBite 25 = .ok (.ireturn, 1) := by decide +kernel
theorem dX6_besideOf_0 : decode cX6_besideOf 0 = .ok (.iconst 0, 1) := by decide +kernel
theorem dX6_besideOf_1 : decode cX6_besideOf 1 = .ok (.istore_n 1, 1) := by decide +kernel
theorem dX6_besideOf_2 : decode cX6_besideOf 2 = .ok (.iconst 0, 1) := by decide +kernel
theorem dX6_besideOf_3 : decode cX6_besideOf 3 = .ok (.istore_n 2, 1) := by decide +kernel
theorem dX6_besideOf_4 : decode cX6_besideOf 4 = .ok (.iload_n 2, 1) := by decide +kernel
theorem dX6_besideOf_5 : decode cX6_besideOf 5 = .ok (.iconst 5, 1) := by decide +kernel
theorem dX6_besideOf_6 : decode cX6_besideOf 6 = .ok (.if_icmp .ge 17, 3) := by decide +kernel
theorem dX6_besideOf_9 : decode cX6_besideOf 9 = .ok (.iload_n 1, 1) := by decide +kernel
theorem dX6_besideOf_10 : decode cX6_besideOf 10 = .ok (.iconst 1, 1) := by decide +kernel
theorem dX6_besideOf_11 : decode cX6_besideOf 11 = .ok (.iconst 5, 1) := by decide +kernel
theorem dX6_besideOf_12 : decode cX6_besideOf 12 = .ok (.iload_n 2, 1) := by decide +kernel
theorem dX6_besideOf_13 : decode cX6_besideOf 13 = .ok (.imul, 1) := by decide +kernel
theorem dX6_besideOf_14 : decode cX6_besideOf 14 = .ok (.ishl, 1) := by decide +kernel
theorem dX6_besideOf_15 : decode cX6_besideOf 15 = .ok (.ior, 1) := by decide +kernel
theorem dX6_besideOf_16 : decode cX6_besideOf 16 = .ok (.istore_n 1, 1) := by decide +kernel
theorem dX6_besideOf_17 : decode cX6_besideOf 17 = .ok (.iinc 2 1, 3) := by decide +kernel
theorem dX6_besideOf_20 : decode cX6_besideOf 20 = .ok (.goto (-16), 3) := by decide +kernel
theorem dX6_besideOf_23 : decode cX6_besideOf 23 = .ok (.iload_n 1, 1) := by decide +kernel
theorem dX6_besideOf_24 : decode cX6_besideOf 24 = .ok (.iconst 4, 1) := by decide +kernel
theorem dX6_besideOf_25 : decode cX6_besideOf 25 = .ok (.ishl, 1) := by decide +kernel
theorem dX6_besideOf_26 : decode cX6_besideOf 26 = .ok (.istore_n 2, 1) := by decide +kernel
theorem dX6_besideOf_27 : decode cX6_besideOf 27 = .ok (.iload_n 0, 1) := by decide +kernel
theorem dX6_besideOf_28 : decode cX6_besideOf 28 = .ok (.iconst 5, 1) := by decide +kernel
theorem dX6_besideOf_29 : decode cX6_besideOf 29 = .ok (.ishl, 1) := by decide +kernel
theorem dX6_besideOf_30 : decode cX6_besideOf 30 = .ok (.iload_n 0, 1) := by decide +kernel
theorem dX6_besideOf_31 : decode cX6_besideOf 31 = .ok (.iconst 5, 1) := by decide +kernel
theorem dX6_besideOf_32 : decode cX6_besideOf 32 = .ok (.ishr, 1) := by decide +kernel
theorem dX6_besideOf_33 : decode cX6_besideOf 33 = .ok (.ior, 1) := by decide +kernel
theorem dX6_besideOf_34 : decode cX6_besideOf 34 = .ok (.iload_n 0, 1) := by decide +kernel
theorem dX6_besideOf_35 : decode cX6_besideOf 35 = .ok (.iload_n 2, 1) := by decide +kernel
theorem dX6_besideOf_36 : decode cX6_besideOf 36 = .ok (.iconst (-1), 1) := by decide +kernel
theorem dX6_besideOf_37 : decode cX6_besideOf 37 = .ok (.ixor, 1) := by decide +kernel
theorem dX6_besideOf_38 : decode cX6_besideOf 38 = .ok (.iand, 1) := by decide +kernel
theorem dX6_besideOf_39 : decode cX6_besideOf 39 = .ok (.iconst 1, 1) := by decide +kernel
theorem dX6_besideOf_40 : decode cX6_besideOf 40 = .ok (.ishl, 1) := by decide +kernel
theorem dX6_besideOf_41 : decode cX6_besideOf 41 = .ok (.ior, 1) := by decide +kernel
theorem dX6_besideOf_42 : decode cX6_besideOf 42 = .ok (.iload_n 0, 1) := by decide +kernel
theorem dX6_besideOf_43 : decode cX6_besideOf 43 = .ok (.iload_n 1, 1) := by decide +kernel
theorem dX6_besideOf_44 : decode cX6_besideOf 44 = .ok (.iconst (-1), 1) := by decide +kernel
theorem dX6_besideOf_45 : decode cX6_besideOf 45 = .ok (.ixor, 1) := by decide +kernel
theorem dX6_besideOf_46 : decode cX6_besideOf 46 = .ok (.iand, 1) := by decide +kernel
theorem dX6_besideOf_47 : decode cX6_besideOf 47 = .ok (.iconst 1, 1) := by decide +kernel
theorem dX6_besideOf_48 : decode cX6_besideOf 48 = .ok (.ishr, 1) := by decide +kernel
theorem dX6_besideOf_49 : decode cX6_besideOf 49 = .ok (.ior, 1) := by decide +kernel
theorem dX6_besideOf_50 : decode cX6_besideOf 50 = .ok (.ldc 9, 2) := by decide +kernel
theorem dX6_besideOf_52 : decode cX6_besideOf 52 = .ok (.iand, 1) := by decide +kernel
theorem dX6_besideOf_53 : decode cX6_besideOf 53 = .ok (.ireturn, 1) := by decide +kernel
theorem dX6_heapOf_0 : decode cX6_heapOf 0 = .ok (.iconst 1, 1) := by decide +kernel
theorem dX6_heapOf_1 : decode cX6_heapOf 1 = .ok (.iload_n 1, 1) := by decide +kernel
theorem dX6_heapOf_2 : decode cX6_heapOf 2 = .ok (.ishl, 1) := by decide +kernel
theorem dX6_heapOf_3 : decode cX6_heapOf 3 = .ok (.iload_n 0, 1) := by decide +kernel
theorem dX6_heapOf_4 : decode cX6_heapOf 4 = .ok (.iand, 1) := by decide +kernel
theorem dX6_heapOf_5 : decode cX6_heapOf 5 = .ok (.istore_n 2, 1) := by decide +kernel
theorem dX6_heapOf_6 : decode cX6_heapOf 6 = .ok (.iload_n 2, 1) := by decide +kernel
theorem dX6_heapOf_7 : decode cX6_heapOf 7 = .ok (.istore_n 3, 1) := by decide +kernel
theorem dX6_heapOf_8 : decode cX6_heapOf 8 = .ok (.iload_n 3, 1) := by decide +kernel
theorem dX6_heapOf_9 : decode cX6_heapOf 9 = .ok (.ifCond .eq 21, 3) := by decide +kernel
theorem dX6_heapOf_12 : decode cX6_heapOf 12 = .ok (.iload_n 2, 1) := by decide +kernel
theorem dX6_heapOf_13 : decode cX6_heapOf 13 = .ok (.invokestatic 69, 3) := by decide +kernel
theorem dX6_heapOf_16 : decode cX6_heapOf 16 = .ok (.iload_n 0, 1) := by decide +kernel
theorem dX6_heapOf_17 : decode cX6_heapOf 17 = .ok (.iand, 1) := by decide +kernel
theorem dX6_heapOf_18 : decode cX6_heapOf 18 = .ok (.iload_n 2, 1) := by decide +kernel
theorem dX6_heapOf_19 : decode cX6_heapOf 19 = .ok (.iconst (-1), 1) := by decide +kernel
theorem dX6_heapOf_20 : decode cX6_heapOf 20 = .ok (.ixor, 1) := by decide +kernel
theorem dX6_heapOf_21 : decode cX6_heapOf 21 = .ok (.iand, 1) := by decide +kernel
theorem dX6_heapOf_22 : decode cX6_heapOf 22 = .ok (.istore_n 3, 1) := by decide +kernel
theorem dX6_heapOf_23 : decode cX6_heapOf 23 = .ok (.iload_n 2, 1) := by decide +kernel
theorem dX6_heapOf_24 : decode cX6_heapOf 24 = .ok (.iload_n 3, 1) := by decide +kernel
theorem dX6_heapOf_25 : decode cX6_heapOf 25 = .ok (.ior, 1) := by decide +kernel
theorem dX6_heapOf_26 : decode cX6_heapOf 26 = .ok (.istore_n 2, 1) := by decide +kernel
theorem dX6_heapOf_27 : decode cX6_heapOf 27 = .ok (.goto (-19), 3) := by decide +kernel
theorem dX6_heapOf_30 : decode cX6_heapOf 30 = .ok (.iload_n 2, 1) := by decide +kernel
theorem dX6_heapOf_31 : decode cX6_heapOf 31 = .ok (.ireturn, 1) := by decide +kernel
theorem dX6_leastOf_0 : decode cX6_leastOf 0 = .ok (.iconst 0, 1) := by decide +kernel
theorem dX6_leastOf_1 : decode cX6_leastOf 1 = .ok (.istore_n 1, 1) := by decide +kernel
theorem dX6_leastOf_2 : decode cX6_leastOf 2 = .ok (.iload_n 0, 1) := by decide +kernel
theorem dX6_leastOf_3 : decode cX6_leastOf 3 = .ok (.iload_n 1, 1) := by decide +kernel
theorem dX6_leastOf_4 : decode cX6_leastOf 4 = .ok (.invokestatic 72, 3) := by decide +kernel
theorem dX6_leastOf_7 : decode cX6_leastOf 7 = .ok (.ifCond .ne 9, 3) := by decide +kernel
theorem dX6_leastOf_10 : decode cX6_leastOf 10 = .ok (.iinc 1 1, 3) := by decide +kernel
theorem dX6_leastOf_13 : decode cX6_leastOf 13 = .ok (.goto (-11), 3) := by decide +kernel
theorem dX6_leastOf_16 : decode cX6_leastOf 16 = .ok (.iload_n 1, 1) := by decide +kernel
theorem dX6_leastOf_17 : decode cX6_leastOf 17 = .ok (.ireturn, 1) := by decide +kernel
theorem dX6_heaps_0 : decode cX6_heaps 0 = .ok (.iconst 0, 1) := by decide +kernel
theorem dX6_heaps_1 : decode cX6_heaps 1 = .ok (.istore_n 1, 1) := by decide +kernel
theorem dX6_heaps_2 : decode cX6_heaps 2 = .ok (.iload_n 0, 1) := by decide +kernel
theorem dX6_heaps_3 : decode cX6_heaps 3 = .ok (.istore_n 2, 1) := by decide +kernel
theorem dX6_heaps_4 : decode cX6_heaps 4 = .ok (.iload_n 2, 1) := by decide +kernel
theorem dX6_heaps_5 : decode cX6_heaps 5 = .ok (.ifCond .eq 22, 3) := by decide +kernel
theorem dX6_heaps_8 : decode cX6_heaps 8 = .ok (.iinc 1 1, 3) := by decide +kernel
theorem dX6_heaps_11 : decode cX6_heaps 11 = .ok (.iload_n 2, 1) := by decide +kernel
theorem dX6_heaps_12 : decode cX6_heaps 12 = .ok (.iload_n 0, 1) := by decide +kernel
theorem dX6_heaps_13 : decode cX6_heaps 13 = .ok (.iload_n 2, 1) := by decide +kernel
theorem dX6_heaps_14 : decode cX6_heaps 14 = .ok (.invokestatic 76, 3) := by decide +kernel
theorem dX6_heaps_17 : decode cX6_heaps 17 = .ok (.invokestatic 79, 3) := by decide +kernel
theorem dX6_heaps_20 : decode cX6_heaps 20 = .ok (.iconst (-1), 1) := by decide +kernel
theorem dX6_heaps_21 : decode cX6_heaps 21 = .ok (.ixor, 1) := by decide +kernel
theorem dX6_heaps_22 : decode cX6_heaps 22 = .ok (.iand, 1) := by decide +kernel
theorem dX6_heaps_23 : decode cX6_heaps 23 = .ok (.istore_n 2, 1) := by decide +kernel
theorem dX6_heaps_24 : decode cX6_heaps 24 = .ok (.goto (-20), 3) := by decide +kernel
theorem dX6_heaps_27 : decode cX6_heaps 27 = .ok (.iload_n 1, 1) := by decide +kernel
theorem dX6_heaps_28 : decode cX6_heaps 28 = .ok (.ireturn, 1) := by decide +kernel
theorem dX6_deed_0 : decode cX6_deed 0 = .ok (.iconst 0, 1) := by decide +kernel
theorem dX6_deed_1 : decode cX6_deed 1 = .ok (.istore_n 1, 1) := by decide +kernel
theorem dX6_deed_2 : decode cX6_deed 2 = .ok (.iconst 0, 1) := by decide +kernel
theorem dX6_deed_3 : decode cX6_deed 3 = .ok (.istore_n 2, 1) := by decide +kernel
theorem dX6_deed_4 : decode cX6_deed 4 = .ok (.iload_n 0, 1) := by decide +kernel
theorem dX6_deed_5 : decode cX6_deed 5 = .ok (.istore_n 3, 1) := by decide +kernel
theorem dX6_deed_6 : decode cX6_deed 6 = .ok (.iload_n 3, 1) := by decide +kernel
theorem dX6_deed_7 : decode cX6_deed 7 = .ok (.ifCond .eq 63, 3) := by decide +kernel
theorem dX6_deed_10 : decode cX6_deed 10 = .ok (.iload_n 0, 1) := by decide +kernel
theorem dX6_deed_11 : decode cX6_deed 11 = .ok (.iload_n 3, 1) := by decide +kernel
theorem dX6_deed_12 : decode cX6_deed 12 = .ok (.invokestatic 76, 3) := by decide +kernel
theorem dX6_deed_15 : decode cX6_deed 15 = .ok (.invokestatic 79, 3) := by decide +kernel
theorem dX6_deed_18 : decode cX6_deed 18 = .ok (.istore 4, 2) := by decide +kernel
theorem dX6_deed_20 : decode cX6_deed 20 = .ok (.iload 4, 2) := by decide +kernel
theorem dX6_deed_22 : decode cX6_deed 22 = .ok (.invokestatic 82, 3) := by decide +kernel
theorem dX6_deed_25 : decode cX6_deed 25 = .ok (.iload_n 1, 1) := by decide +kernel
theorem dX6_deed_26 : decode cX6_deed 26 = .ok (.invokestatic 82, 3) := by decide +kernel
theorem dX6_deed_29 : decode cX6_deed 29 = .ok (.if_icmp .ne 5, 3) := by decide +kernel
theorem dX6_deed_32 : decode cX6_deed 32 = .ok (.iconst 0, 1) := by decide +kernel
theorem dX6_deed_33 : decode cX6_deed 33 = .ok (.istore_n 2, 1) := by decide +kernel
theorem dX6_deed_34 : decode cX6_deed 34 = .ok (.iload 4, 2) := by decide +kernel
theorem dX6_deed_36 : decode cX6_deed 36 = .ok (.invokestatic 82, 3) := by decide +kernel
theorem dX6_deed_39 : decode cX6_deed 39 = .ok (.iload_n 1, 1) := by decide +kernel
theorem dX6_deed_40 : decode cX6_deed 40 = .ok (.invokestatic 82, 3) := by decide +kernel
theorem dX6_deed_43 : decode cX6_deed 43 = .ok (.if_icmp .gt 6, 3) := by decide +kernel
theorem dX6_deed_46 : decode cX6_deed 46 = .ok (.goto 8, 3) := by decide +kernel
theorem dX6_deed_49 : decode cX6_deed 49 = .ok (.iload 4, 2) := by decide +kernel
theorem dX6_deed_51 : decode cX6_deed 51 = .ok (.istore_n 1, 1) := by decide +kernel
theorem dX6_deed_52 : decode cX6_deed 52 = .ok (.iconst 1, 1) := by decide +kernel
theorem dX6_deed_53 : decode cX6_deed 53 = .ok (.istore_n 2, 1) := by decide +kernel
theorem dX6_deed_54 : decode cX6_deed 54 = .ok (.iload_n 3, 1) := by decide +kernel
theorem dX6_deed_55 : decode cX6_deed 55 = .ok (.iload_n 0, 1) := by decide +kernel
theorem dX6_deed_56 : decode cX6_deed 56 = .ok (.iload_n 3, 1) := by decide +kernel
theorem dX6_deed_57 : decode cX6_deed 57 = .ok (.invokestatic 76, 3) := by decide +kernel
theorem dX6_deed_60 : decode cX6_deed 60 = .ok (.invokestatic 79, 3) := by decide +kernel
theorem dX6_deed_63 : decode cX6_deed 63 = .ok (.iconst (-1), 1) := by decide +kernel
theorem dX6_deed_64 : decode cX6_deed 64 = .ok (.ixor, 1) := by decide +kernel
theorem dX6_deed_65 : decode cX6_deed 65 = .ok (.iand, 1) := by decide +kernel
theorem dX6_deed_66 : decode cX6_deed 66 = .ok (.istore_n 3, 1) := by decide +kernel
theorem dX6_deed_67 : decode cX6_deed 67 = .ok (.goto (-61), 3) := by decide +kernel
theorem dX6_deed_70 : decode cX6_deed 70 = .ok (.iload_n 2, 1) := by decide +kernel
theorem dX6_deed_71 : decode cX6_deed 71 = .ok (.ifCond .eq 7, 3) := by decide +kernel
theorem dX6_deed_74 : decode cX6_deed 74 = .ok (.iload_n 1, 1) := by decide +kernel
theorem dX6_deed_75 : decode cX6_deed 75 = .ok (.goto 4, 3) := by decide +kernel
theorem dX6_deed_78 : decode cX6_deed 78 = .ok (.iconst 0, 1) := by decide +kernel
theorem dX6_deed_79 : decode cX6_deed 79 = .ok (.ireturn, 1) := by decide +kernel
theorem dX6_most_0 : decode cX6_most 0 = .ok (.iload_n 0, 1) := by decide +kernel
theorem dX6_most_1 : decode cX6_most 1 = .ok (.iload_n 1, 1) := by decide +kernel
theorem dX6_most_2 : decode cX6_most 2 = .ok (.if_icmp .le 7, 3) := by decide +kernel
theorem dX6_most_5 : decode cX6_most 5 = .ok (.iload_n 0, 1) := by decide +kernel
theorem dX6_most_6 : decode cX6_most 6 = .ok (.goto 4, 3) := by decide +kernel
theorem dX6_most_9 : decode cX6_most 9 = .ok (.iload_n 1, 1) := by decide +kernel
theorem dX6_most_10 : decode cX6_most 10 = .ok (.ireturn, 1) := by decide +kernel
theorem dX6_shareBy_0 : decode cX6_shareBy 0 = .ok (.iload_n 0, 1) := by decide +kernel
theorem dX6_shareBy_1 : decode cX6_shareBy 1 = .ok (.invokestatic 85, 3) := by decide +kernel
theorem dX6_shareBy_4 : decode cX6_shareBy 4 = .ok (.istore_n 3, 1) := by decide +kernel
theorem dX6_shareBy_5 : decode cX6_shareBy 5 = .ok (.iload_n 3, 1) := by decide +kernel
theorem dX6_shareBy_6 : decode cX6_shareBy 6 = .ok (.ifCond .ne 14, 3) := by decide +kernel
theorem dX6_shareBy_9 : decode cX6_shareBy 9 = .ok (.iload_n 1, 1) := by decide +kernel
theorem dX6_shareBy_10 : decode cX6_shareBy 10 = .ok (.iconst 3, 1) := by decide +kernel
theorem dX6_shareBy_11 : decode cX6_shareBy 11 = .ok (.if_icmp .ne 7, 3) := by decide +kernel
theorem dX6_shareBy_14 : decode cX6_shareBy 14 = .ok (.iload_n 2, 1) := by decide +kernel
theorem dX6_shareBy_15 : decode cX6_shareBy 15 = .ok (.goto 4, 3) := by decide +kernel
theorem dX6_shareBy_18 : decode cX6_shareBy 18 = .ok (.iconst 0, 1) := by decide +kernel
theorem dX6_shareBy_19 : decode cX6_shareBy 19 = .ok (.ireturn, 1) := by decide +kernel
theorem dX6_shareBy_20 : decode cX6_shareBy 20 = .ok (.iconst 0, 1) := by decide +kernel
theorem dX6_shareBy_21 : decode cX6_shareBy 21 = .ok (.istore 4, 2) := by decide +kernel
theorem dX6_shareBy_23 : decode cX6_shareBy 23 = .ok (.iconst 0, 1) := by decide +kernel
theorem dX6_shareBy_24 : decode cX6_shareBy 24 = .ok (.istore 5, 2) := by decide +kernel
theorem dX6_shareBy_26 : decode cX6_shareBy 26 = .ok (.iload 5, 2) := by decide +kernel
theorem dX6_shareBy_28 : decode cX6_shareBy 28 = .ok (.iconst 5, 1) := by decide +kernel
theorem dX6_shareBy_29 : decode cX6_shareBy 29 = .ok (.if_icmp .ge 26, 3) := by decide +kernel
theorem dX6_shareBy_32 : decode cX6_shareBy 32 = .ok (.iload 4, 2) := by decide +kernel
theorem dX6_shareBy_34 : decode cX6_shareBy 34 = .ok (.iload_n 3, 1) := by decide +kernel
theorem dX6_shareBy_35 : decode cX6_shareBy 35 = .ok (.iconst 5, 1) := by decide +kernel
theorem dX6_shareBy_36 : decode cX6_shareBy 36 = .ok (.iload 5, 2) := by decide +kernel
theorem dX6_shareBy_38 : decode cX6_shareBy 38 = .ok (.imul, 1) := by decide +kernel
theorem dX6_shareBy_39 : decode cX6_shareBy 39 = .ok (.iload_n 2, 1) := by decide +kernel
theorem dX6_shareBy_40 : decode cX6_shareBy 40 = .ok (.iconst 5, 1) := by decide +kernel
theorem dX6_shareBy_41 : decode cX6_shareBy 41 = .ok (.irem, 1) := by decide +kernel
theorem dX6_shareBy_42 : decode cX6_shareBy 42 = .ok (.iadd, 1) := by decide +kernel
theorem dX6_shareBy_43 : decode cX6_shareBy 43 = .ok (.ishr, 1) := by decide +kernel
theorem dX6_shareBy_44 : decode cX6_shareBy 44 = .ok (.iconst 1, 1) := by decide +kernel
theorem dX6_shareBy_45 : decode cX6_shareBy 45 = .ok (.iand, 1) := by decide +kernel
theorem dX6_shareBy_46 : decode cX6_shareBy 46 = .ok (.iadd, 1) := by decide +kernel
theorem dX6_shareBy_47 : decode cX6_shareBy 47 = .ok (.istore 4, 2) := by decide +kernel
theorem dX6_shareBy_49 : decode cX6_shareBy 49 = .ok (.iinc 5 1, 3) := by decide +kernel
theorem dX6_shareBy_52 : decode cX6_shareBy 52 = .ok (.goto (-26), 3) := by decide +kernel
theorem dX6_shareBy_55 : decode cX6_shareBy 55 = .ok (.iload 4, 2) := by decide +kernel
theorem dX6_shareBy_57 : decode cX6_shareBy 57 = .ok (.iload_n 3, 1) := by decide +kernel
theorem dX6_shareBy_58 : decode cX6_shareBy 58 = .ok (.iconst 4, 1) := by decide +kernel
theorem dX6_shareBy_59 : decode cX6_shareBy 59 = .ok (.iand, 1) := by decide +kernel
theorem dX6_shareBy_60 : decode cX6_shareBy 60 = .ok (.ifCond .eq 7, 3) := by decide +kernel
theorem dX6_shareBy_63 : decode cX6_shareBy 63 = .ok (.iconst 5, 1) := by decide +kernel
theorem dX6_shareBy_64 : decode cX6_shareBy 64 = .ok (.goto 4, 3) := by decide +kernel
theorem dX6_shareBy_67 : decode cX6_shareBy 67 = .ok (.iconst 0, 1) := by decide +kernel
theorem dX6_shareBy_68 : decode cX6_shareBy 68 = .ok (.iadd, 1) := by decide +kernel
theorem dX6_shareBy_69 : decode cX6_shareBy 69 = .ok (.istore 5, 2) := by decide +kernel
theorem dX6_shareBy_71 : decode cX6_shareBy 71 = .ok (.iload 4, 2) := by decide +kernel
theorem dX6_shareBy_73 : decode cX6_shareBy 73 = .ok (.iconst 2, 1) := by decide +kernel
theorem dX6_shareBy_74 : decode cX6_shareBy 74 = .ok (.idiv, 1) := by decide +kernel
theorem dX6_shareBy_75 : decode cX6_shareBy 75 = .ok (.iconst 2, 1) := by decide +kernel
theorem dX6_shareBy_76 : decode cX6_shareBy 76 = .ok (.iload_n 3, 1) := by decide +kernel
theorem dX6_shareBy_77 : decode cX6_shareBy 77 = .ok (.sipush 14336, 3) := by decide +kernel
theorem dX6_shareBy_80 : decode cX6_shareBy 80 = .ok (.iand, 1) := by decide +kernel
theorem dX6_shareBy_81 : decode cX6_shareBy 81 = .ok (.invokestatic 82, 3) := by decide +kernel
theorem dX6_shareBy_84 : decode cX6_shareBy 84 = .ok (.imul, 1) := by decide +kernel
theorem dX6_shareBy_85 : decode cX6_shareBy 85 = .ok (.iadd, 1) := by decide +kernel
theorem dX6_shareBy_86 : decode cX6_shareBy 86 = .ok (.istore 6, 2) := by decide +kernel
theorem dX6_shareBy_88 : decode cX6_shareBy 88 = .ok (.iload_n 1, 1) := by decide +kernel
theorem dX6_shareBy_89 : decode cX6_shareBy 89 = .ok (.tableswitch 70 1 5 #[35, 38, 41, 46, 60], 35) := by decide +kernel
theorem dX6_shareBy_124 : decode cX6_shareBy 124 = .ok (.iload 5, 2) := by decide +kernel
theorem dX6_shareBy_126 : decode cX6_shareBy 126 = .ok (.ireturn, 1) := by decide +kernel
theorem dX6_shareBy_127 : decode cX6_shareBy 127 = .ok (.iload 6, 2) := by decide +kernel
theorem dX6_shareBy_129 : decode cX6_shareBy 129 = .ok (.ireturn, 1) := by decide +kernel
theorem dX6_shareBy_130 : decode cX6_shareBy 130 = .ok (.iload 5, 2) := by decide +kernel
theorem dX6_shareBy_132 : decode cX6_shareBy 132 = .ok (.iconst 3, 1) := by decide +kernel
theorem dX6_shareBy_133 : decode cX6_shareBy 133 = .ok (.idiv, 1) := by decide +kernel
theorem dX6_shareBy_134 : decode cX6_shareBy 134 = .ok (.ireturn, 1) := by decide +kernel
theorem dX6_shareBy_135 : decode cX6_shareBy 135 = .ok (.iconst 0, 1) := by decide +kernel
theorem dX6_shareBy_136 : decode cX6_shareBy 136 = .ok (.bipush 25, 2) := by decide +kernel
theorem dX6_shareBy_138 : decode cX6_shareBy 138 = .ok (.iload_n 0, 1) := by decide +kernel
theorem dX6_shareBy_139 : decode cX6_shareBy 139 = .ok (.invokestatic 82, 3) := by decide +kernel
theorem dX6_shareBy_142 : decode cX6_shareBy 142 = .ok (.isub, 1) := by decide +kernel
theorem dX6_shareBy_143 : decode cX6_shareBy 143 = .ok (.iload_n 2, 1) := by decide +kernel
theorem dX6_shareBy_144 : decode cX6_shareBy 144 = .ok (.isub, 1) := by decide +kernel
theorem dX6_shareBy_145 : decode cX6_shareBy 145 = .ok (.invokestatic 88, 3) := by decide +kernel
theorem dX6_shareBy_148 : decode cX6_shareBy 148 = .ok (.ireturn, 1) := by decide +kernel
theorem dX6_shareBy_149 : decode cX6_shareBy 149 = .ok (.iload 6, 2) := by decide +kernel
theorem dX6_shareBy_151 : decode cX6_shareBy 151 = .ok (.iload_n 0, 1) := by decide +kernel
theorem dX6_shareBy_152 : decode cX6_shareBy 152 = .ok (.invokestatic 91, 3) := by decide +kernel
theorem dX6_shareBy_155 : decode cX6_shareBy 155 = .ok (.iadd, 1) := by decide +kernel
theorem dX6_shareBy_156 : decode cX6_shareBy 156 = .ok (.iconst 1, 1) := by decide +kernel
theorem dX6_shareBy_157 : decode cX6_shareBy 157 = .ok (.isub, 1) := by decide +kernel
theorem dX6_shareBy_158 : decode cX6_shareBy 158 = .ok (.ireturn, 1) := by decide +kernel
theorem dX6_shareBy_159 : decode cX6_shareBy 159 = .ok (.iload 4, 2) := by decide +kernel
theorem dX6_shareBy_161 : decode cX6_shareBy 161 = .ok (.ireturn, 1) := by decide +kernel
theorem dX6_shareOf_0 : decode cX6_shareOf 0 = .ok (.iload_n 1, 1) := by decide +kernel
theorem dX6_shareOf_1 : decode cX6_shareOf 1 = .ok (.aload_n 0, 1) := by decide +kernel
theorem dX6_shareOf_2 : decode cX6_shareOf 2 = .ok (.getfield 14, 3) := by decide +kernel
theorem dX6_shareOf_5 : decode cX6_shareOf 5 = .ok (.iload_n 2, 1) := by decide +kernel
theorem dX6_shareOf_6 : decode cX6_shareOf 6 = .ok (.iaload, 1) := by decide +kernel
theorem dX6_shareOf_7 : decode cX6_shareOf 7 = .ok (.aload_n 0, 1) := by decide +kernel
theorem dX6_shareOf_8 : decode cX6_shareOf 8 = .ok (.getfield 18, 3) := by decide +kernel
theorem dX6_shareOf_11 : decode cX6_shareOf 11 = .ok (.iload_n 2, 1) := by decide +kernel
theorem dX6_shareOf_12 : decode cX6_shareOf 12 = .ok (.iaload, 1) := by decide +kernel
theorem dX6_shareOf_13 : decode cX6_shareOf 13 = .ok (.invokestatic 94, 3) := by decide +kernel
theorem dX6_shareOf_16 : decode cX6_shareOf 16 = .ok (.ireturn, 1) := by decide +kernel
theorem dX6_sharesOf_0 : decode cX6_sharesOf 0 = .ok (.iconst 0, 1) := by decide +kernel
theorem dX6_sharesOf_1 : decode cX6_sharesOf 1 = .ok (.istore_n 2, 1) := by decide +kernel
theorem dX6_sharesOf_2 : decode cX6_sharesOf 2 = .ok (.iconst 0, 1) := by decide +kernel
theorem dX6_sharesOf_3 : decode cX6_sharesOf 3 = .ok (.istore_n 3, 1) := by decide +kernel
theorem dX6_sharesOf_4 : decode cX6_sharesOf 4 = .ok (.iload_n 3, 1) := by decide +kernel
theorem dX6_sharesOf_5 : decode cX6_sharesOf 5 = .ok (.aload_n 0, 1) := by decide +kernel
theorem dX6_sharesOf_6 : decode cX6_sharesOf 6 = .ok (.getfield 62, 3) := by decide +kernel
theorem dX6_sharesOf_9 : decode cX6_sharesOf 9 = .ok (.if_icmp .ge 18, 3) := by decide +kernel
theorem dX6_sharesOf_12 : decode cX6_sharesOf 12 = .ok (.iload_n 2, 1) := by decide +kernel
theorem dX6_sharesOf_13 : decode cX6_sharesOf 13 = .ok (.aload_n 0, 1) := by decide +kernel
theorem dX6_sharesOf_14 : decode cX6_sharesOf 14 = .ok (.iload_n 1, 1) := by decide +kernel
theorem dX6_sharesOf_15 : decode cX6_sharesOf 15 = .ok (.iload_n 3, 1) := by decide +kernel
theorem dX6_sharesOf_16 : decode cX6_sharesOf 16 = .ok (.invokevirtual 98, 3) := by decide +kernel
theorem dX6_sharesOf_19 : decode cX6_sharesOf 19 = .ok (.iadd, 1) := by decide +kernel
theorem dX6_sharesOf_20 : decode cX6_sharesOf 20 = .ok (.istore_n 2, 1) := by decide +kernel
theorem dX6_sharesOf_21 : decode cX6_sharesOf 21 = .ok (.iinc 3 1, 3) := by decide +kernel
theorem dX6_sharesOf_24 : decode cX6_sharesOf 24 = .ok (.goto (-20), 3) := by decide +kernel
theorem dX6_sharesOf_27 : decode cX6_sharesOf 27 = .ok (.iload_n 2, 1) := by decide +kernel
theorem dX6_sharesOf_28 : decode cX6_sharesOf 28 = .ok (.ireturn, 1) := by decide +kernel
theorem dX6_turned_0 : decode cX6_turned 0 = .ok (.iconst 0, 1) := by decide +kernel
theorem dX6_turned_1 : decode cX6_turned 1 = .ok (.istore_n 1, 1) := by decide +kernel
theorem dX6_turned_2 : decode cX6_turned 2 = .ok (.iconst 0, 1) := by decide +kernel
theorem dX6_turned_3 : decode cX6_turned 3 = .ok (.istore_n 2, 1) := by decide +kernel
theorem dX6_turned_4 : decode cX6_turned 4 = .ok (.iload_n 2, 1) := by decide +kernel
theorem dX6_turned_5 : decode cX6_turned 5 = .ok (.bipush 25, 2) := by decide +kernel
theorem dX6_turned_7 : decode cX6_turned 7 = .ok (.if_icmp .ge 31, 3) := by decide +kernel
theorem dX6_turned_10 : decode cX6_turned 10 = .ok (.iload_n 1, 1) := by decide +kernel
theorem dX6_turned_11 : decode cX6_turned 11 = .ok (.iload_n 0, 1) := by decide +kernel
theorem dX6_turned_12 : decode cX6_turned 12 = .ok (.iload_n 2, 1) := by decide +kernel
theorem dX6_turned_13 : decode cX6_turned 13 = .ok (.ishr, 1) := by decide +kernel
theorem dX6_turned_14 : decode cX6_turned 14 = .ok (.iconst 1, 1) := by decide +kernel
theorem dX6_turned_15 : decode cX6_turned 15 = .ok (.iand, 1) := by decide +kernel
theorem dX6_turned_16 : decode cX6_turned 16 = .ok (.iconst 5, 1) := by decide +kernel
theorem dX6_turned_17 : decode cX6_turned 17 = .ok (.iload_n 2, 1) := by decide +kernel
theorem dX6_turned_18 : decode cX6_turned 18 = .ok (.iconst 5, 1) := by decide +kernel
theorem dX6_turned_19 : decode cX6_turned 19 = .ok (.irem, 1) := by decide +kernel
theorem dX6_turned_20 : decode cX6_turned 20 = .ok (.imul, 1) := by decide +kernel
theorem dX6_turned_21 : decode cX6_turned 21 = .ok (.iconst 5, 1) := by decide +kernel
theorem dX6_turned_22 : decode cX6_turned 22 = .ok (.iadd, 1) := by decide +kernel
theorem dX6_turned_23 : decode cX6_turned 23 = .ok (.iconst 1, 1) := by decide +kernel
theorem dX6_turned_24 : decode cX6_turned 24 = .ok (.isub, 1) := by decide +kernel
theorem dX6_turned_25 : decode cX6_turned 25 = .ok (.iload_n 2, 1) := by decide +kernel
theorem dX6_turned_26 : decode cX6_turned 26 = .ok (.iconst 5, 1) := by decide +kernel
theorem dX6_turned_27 : decode cX6_turned 27 = .ok (.idiv, 1) := by decide +kernel
theorem dX6_turned_28 : decode cX6_turned 28 = .ok (.isub, 1) := by decide +kernel
theorem dX6_turned_29 : decode cX6_turned 29 = .ok (.ishl, 1) := by decide +kernel
theorem dX6_turned_30 : decode cX6_turned 30 = .ok (.ior, 1) := by decide +kernel
theorem dX6_turned_31 : decode cX6_turned 31 = .ok (.istore_n 1, 1) := by decide +kernel
theorem dX6_turned_32 : decode cX6_turned 32 = .ok (.iinc 2 1, 3) := by decide +kernel
theorem dX6_turned_35 : decode cX6_turned 35 = .ok (.goto (-31), 3) := by decide +kernel
theorem dX6_turned_38 : decode cX6_turned 38 = .ok (.iload_n 1, 1) := by decide +kernel
theorem dX6_turned_39 : decode cX6_turned 39 = .ok (.ireturn, 1) := by decide +kernel
theorem dX6_turnedBy_0 : decode cX6_turnedBy 0 = .ok (.iload_n 0, 1) := by decide +kernel
theorem dX6_turnedBy_1 : decode cX6_turnedBy 1 = .ok (.istore_n 2, 1) := by decide +kernel
theorem dX6_turnedBy_2 : decode cX6_turnedBy 2 = .ok (.iconst 0, 1) := by decide +kernel
theorem dX6_turnedBy_3 : decode cX6_turnedBy 3 = .ok (.istore_n 3, 1) := by decide +kernel
theorem dX6_turnedBy_4 : decode cX6_turnedBy 4 = .ok (.iload_n 3, 1) := by decide +kernel
theorem dX6_turnedBy_5 : decode cX6_turnedBy 5 = .ok (.iload_n 1, 1) := by decide +kernel
theorem dX6_turnedBy_6 : decode cX6_turnedBy 6 = .ok (.if_icmp .ge 14, 3) := by decide +kernel
theorem dX6_turnedBy_9 : decode cX6_turnedBy 9 = .ok (.iload_n 2, 1) := by decide +kernel
theorem dX6_turnedBy_10 : decode cX6_turnedBy 10 = .ok (.invokestatic 101, 3) := by decide +kernel
theorem dX6_turnedBy_13 : decode cX6_turnedBy 13 = .ok (.istore_n 2, 1) := by decide +kernel
theorem dX6_turnedBy_14 : decode cX6_turnedBy 14 = .ok (.iinc 3 1, 3) := by decide +kernel
theorem dX6_turnedBy_17 : decode cX6_turnedBy 17 = .ok (.goto (-13), 3) := by decide +kernel
theorem dX6_turnedBy_20 : decode cX6_turnedBy 20 = .ok (.iload_n 2, 1) := by decide +kernel
theorem dX6_turnedBy_21 : decode cX6_turnedBy 21 = .ok (.ireturn, 1) := by decide +kernel
theorem dX6_letter_0 : decode cX6_letter 0 = .ok (.iload_n 1, 1) := by decide +kernel
theorem dX6_letter_1 : decode cX6_letter 1 = .ok (.ifCond .ge 10, 3) := by decide +kernel
theorem dX6_letter_4 : decode cX6_letter 4 = .ok (.aload_n 0, 1) := by decide +kernel
theorem dX6_letter_5 : decode cX6_letter 5 = .ok (.bipush (-4), 2) := by decide +kernel
theorem dX6_letter_7 : decode cX6_letter 7 = .ok (.invokevirtual 52, 3) := by decide +kernel
theorem dX6_letter_10 : decode cX6_letter 10 = .ok (.ireturn, 1) := by decide +kernel
theorem dX6_letter_11 : decode cX6_letter 11 = .ok (.iload_n 1, 1) := by decide +kernel
theorem dX6_letter_12 : decode cX6_letter 12 = .ok (.sipush 255, 3) := by decide +kernel
theorem dX6_letter_15 : decode cX6_letter 15 = .ok (.if_icmp .gt 12, 3) := by decide +kernel
theorem dX6_letter_18 : decode cX6_letter 18 = .ok (.aload_n 0, 1) := by decide +kernel
theorem dX6_letter_19 : decode cX6_letter 19 = .ok (.getfield 104, 3) := by decide +kernel
theorem dX6_letter_22 : decode cX6_letter 22 = .ok (.bipush 96, 2) := by decide +kernel
theorem dX6_letter_24 : decode cX6_letter 24 = .ok (.if_icmp .ne 10, 3) := by decide +kernel
theorem dX6_letter_27 : decode cX6_letter 27 = .ok (.aload_n 0, 1) := by decide +kernel
theorem dX6_letter_28 : decode cX6_letter 28 = .ok (.bipush (-6), 2) := by decide +kernel
theorem dX6_letter_30 : decode cX6_letter 30 = .ok (.invokevirtual 52, 3) := by decide +kernel
theorem dX6_letter_33 : decode cX6_letter 33 = .ok (.ireturn, 1) := by decide +kernel
theorem dX6_letter_34 : decode cX6_letter 34 = .ok (.aload_n 0, 1) := by decide +kernel
theorem dX6_letter_35 : decode cX6_letter 35 = .ok (.getfield 33, 3) := by decide +kernel
theorem dX6_letter_38 : decode cX6_letter 38 = .ok (.aload_n 0, 1) := by decide +kernel
theorem dX6_letter_39 : decode cX6_letter 39 = .ok (.getfield 104, 3) := by decide +kernel
theorem dX6_letter_42 : decode cX6_letter 42 = .ok (.iload_n 1, 1) := by decide +kernel
theorem dX6_letter_43 : decode cX6_letter 43 = .ok (.iastore, 1) := by decide +kernel
theorem dX6_letter_44 : decode cX6_letter 44 = .ok (.aload_n 0, 1) := by decide +kernel
theorem dX6_letter_45 : decode cX6_letter 45 = .ok (.dup, 1) := by decide +kernel
theorem dX6_letter_46 : decode cX6_letter 46 = .ok (.getfield 104, 3) := by decide +kernel
theorem dX6_letter_49 : decode cX6_letter 49 = .ok (.iconst 1, 1) := by decide +kernel
theorem dX6_letter_50 : decode cX6_letter 50 = .ok (.iadd, 1) := by decide +kernel
theorem dX6_letter_51 : decode cX6_letter 51 = .ok (.putfield 104, 3) := by decide +kernel
theorem dX6_letter_54 : decode cX6_letter 54 = .ok (.aload_n 0, 1) := by decide +kernel
theorem dX6_letter_55 : decode cX6_letter 55 = .ok (.getfield 104, 3) := by decide +kernel
theorem dX6_letter_58 : decode cX6_letter 58 = .ok (.ireturn, 1) := by decide +kernel
theorem dX6_here_0 : decode cX6_here 0 = .ok (.aload_n 0, 1) := by decide +kernel
theorem dX6_here_1 : decode cX6_here 1 = .ok (.getfield 107, 3) := by decide +kernel
theorem dX6_here_4 : decode cX6_here 4 = .ok (.aload_n 0, 1) := by decide +kernel
theorem dX6_here_5 : decode cX6_here 5 = .ok (.getfield 104, 3) := by decide +kernel
theorem dX6_here_8 : decode cX6_here 8 = .ok (.if_icmp .ge 15, 3) := by decide +kernel
theorem dX6_here_11 : decode cX6_here 11 = .ok (.aload_n 0, 1) := by decide +kernel
theorem dX6_here_12 : decode cX6_here 12 = .ok (.getfield 33, 3) := by decide +kernel
theorem dX6_here_15 : decode cX6_here 15 = .ok (.aload_n 0, 1) := by decide +kernel
theorem dX6_here_16 : decode cX6_here 16 = .ok (.getfield 107, 3) := by decide +kernel
theorem dX6_here_19 : decode cX6_here 19 = .ok (.iaload, 1) := by decide +kernel
theorem dX6_here_20 : decode cX6_here 20 = .ok (.goto 4, 3) := by decide +kernel
theorem dX6_here_23 : decode cX6_here 23 = .ok (.iconst (-1), 1) := by decide +kernel
theorem dX6_here_24 : decode cX6_here 24 = .ok (.ireturn, 1) := by decide +kernel
theorem dX6_readsNumber_0 : decode cX6_readsNumber 0 = .ok (.aload_n 0, 1) := by decide +kernel
theorem dX6_readsNumber_1 : decode cX6_readsNumber 1 = .ok (.getfield 42, 3) := by decide +kernel
theorem dX6_readsNumber_4 : decode cX6_readsNumber 4 = .ok (.iload_n 1, 1) := by decide +kernel
theorem dX6_readsNumber_5 : decode cX6_readsNumber 5 = .ok (.iconst 0, 1) := by decide +kernel
theorem dX6_readsNumber_6 : decode cX6_readsNumber 6 = .ok (.iastore, 1) := by decide +kernel
theorem dX6_readsNumber_7 : decode cX6_readsNumber 7 = .ok (.iconst 0, 1) := by decide +kernel
theorem dX6_readsNumber_8 : decode cX6_readsNumber 8 = .ok (.istore_n 3, 1) := by decide +kernel
theorem dX6_readsNumber_9 : decode cX6_readsNumber 9 = .ok (.iload_n 3, 1) := by decide +kernel
theorem dX6_readsNumber_10 : decode cX6_readsNumber 10 = .ok (.iload_n 2, 1) := by decide +kernel
theorem dX6_readsNumber_11 : decode cX6_readsNumber 11 = .ok (.if_icmp .ge 58, 3) := by decide +kernel
theorem dX6_readsNumber_14 : decode cX6_readsNumber 14 = .ok (.aload_n 0, 1) := by decide +kernel
theorem dX6_readsNumber_15 : decode cX6_readsNumber 15 = .ok (.invokevirtual 110, 3) := by decide +kernel
theorem dX6_readsNumber_18 : decode cX6_readsNumber 18 = .ok (.bipush 48, 2) := by decide +kernel
theorem dX6_readsNumber_20 : decode cX6_readsNumber 20 = .ok (.bipush 57, 2) := by decide +kernel
theorem dX6_readsNumber_22 : decode cX6_readsNumber 22 = .ok (.invokestatic 58, 3) := by decide +kernel
theorem dX6_readsNumber_25 : decode cX6_readsNumber 25 = .ok (.ifCond .ne 5, 3) := by decide +kernel
theorem dX6_readsNumber_28 : decode cX6_readsNumber 28 = .ok (.iconst 0, 1) := by decide +kernel
theorem dX6_readsNumber_29 : decode cX6_readsNumber 29 = .ok (.ireturn, 1) := by decide +kernel
theorem dX6_readsNumber_30 : decode cX6_readsNumber 30 = .ok (.aload_n 0, 1) := by decide +kernel
theorem dX6_readsNumber_31 : decode cX6_readsNumber 31 = .ok (.getfield 42, 3) := by decide +kernel
theorem dX6_readsNumber_34 : decode cX6_readsNumber 34 = .ok (.iload_n 1, 1) := by decide +kernel
theorem dX6_readsNumber_35 : decode cX6_readsNumber 35 = .ok (.bipush 10, 2) := by decide +kernel
theorem dX6_readsNumber_37 : decode cX6_readsNumber 37 = .ok (.aload_n 0, 1) := by decide +kernel
theorem dX6_readsNumber_38 : decode cX6_readsNumber 38 = .ok (.getfield 42, 3) := by decide +kernel
theorem dX6_readsNumber_41 : decode cX6_readsNumber 41 = .ok (.iload_n 1, 1) := by decide +kernel
theorem dX6_readsNumber_42 : decode cX6_readsNumber 42 = .ok (.iaload, 1) := by decide +kernel
theorem dX6_readsNumber_43 : decode cX6_readsNumber 43 = .ok (.imul, 1) := by decide +kernel
theorem dX6_readsNumber_44 : decode cX6_readsNumber 44 = .ok (.aload_n 0, 1) := by decide +kernel
theorem dX6_readsNumber_45 : decode cX6_readsNumber 45 = .ok (.invokevirtual 110, 3) := by decide +kernel
theorem dX6_readsNumber_48 : decode cX6_readsNumber 48 = .ok (.iadd, 1) := by decide +kernel
theorem dX6_readsNumber_49 : decode cX6_readsNumber 49 = .ok (.bipush 48, 2) := by decide +kernel
theorem dX6_readsNumber_51 : decode cX6_readsNumber 51 = .ok (.isub, 1) := by decide +kernel
theorem dX6_readsNumber_52 : decode cX6_readsNumber 52 = .ok (.iastore, 1) := by decide +kernel
theorem dX6_readsNumber_53 : decode cX6_readsNumber 53 = .ok (.aload_n 0, 1) := by decide +kernel
theorem dX6_readsNumber_54 : decode cX6_readsNumber 54 = .ok (.dup, 1) := by decide +kernel
theorem dX6_readsNumber_55 : decode cX6_readsNumber 55 = .ok (.getfield 107, 3) := by decide +kernel
theorem dX6_readsNumber_58 : decode cX6_readsNumber 58 = .ok (.iconst 1, 1) := by decide +kernel
theorem dX6_readsNumber_59 : decode cX6_readsNumber 59 = .ok (.iadd, 1) := by decide +kernel
theorem dX6_readsNumber_60 : decode cX6_readsNumber 60 = .ok (.putfield 107, 3) := by decide +kernel
theorem dX6_readsNumber_63 : decode cX6_readsNumber 63 = .ok (.iinc 3 1, 3) := by decide +kernel
theorem dX6_readsNumber_66 : decode cX6_readsNumber 66 = .ok (.goto (-57), 3) := by decide +kernel
theorem dX6_readsNumber_69 : decode cX6_readsNumber 69 = .ok (.iconst 1, 1) := by decide +kernel
theorem dX6_readsNumber_70 : decode cX6_readsNumber 70 = .ok (.ireturn, 1) := by decide +kernel
theorem dX6_kindBy_0 : decode cX6_kindBy 0 = .ok (.iload_n 0, 1) := by decide +kernel
theorem dX6_kindBy_1 : decode cX6_kindBy 1 = .ok (.tableswitch 103 101 119 #[93, 103, 103, 103, 103, 103, 101, 97, 103, 91, 103, 99, 103, 103, 103, 103, 103, 103, 95], 91) := by decide +kernel
theorem dX6_kindBy_92 : decode cX6_kindBy 92 = .ok (.iconst 0, 1) := by decide +kernel
theorem dX6_kindBy_93 : decode cX6_kindBy 93 = .ok (.ireturn, 1) := by decide +kernel
theorem dX6_kindBy_94 : decode cX6_kindBy 94 = .ok (.iconst 1, 1) := by decide +kernel
theorem dX6_kindBy_95 : decode cX6_kindBy 95 = .ok (.ireturn, 1) := by decide +kernel
theorem dX6_kindBy_96 : decode cX6_kindBy 96 = .ok (.iconst 2, 1) := by decide +kernel
theorem dX6_kindBy_97 : decode cX6_kindBy 97 = .ok (.ireturn, 1) := by decide +kernel
theorem dX6_kindBy_98 : decode cX6_kindBy 98 = .ok (.iconst 3, 1) := by decide +kernel
theorem dX6_kindBy_99 : decode cX6_kindBy 99 = .ok (.ireturn, 1) := by decide +kernel
theorem dX6_kindBy_100 : decode cX6_kindBy 100 = .ok (.iconst 4, 1) := by decide +kernel
theorem dX6_kindBy_101 : decode cX6_kindBy 101 = .ok (.ireturn, 1) := by decide +kernel
theorem dX6_kindBy_102 : decode cX6_kindBy 102 = .ok (.iconst 5, 1) := by decide +kernel
theorem dX6_kindBy_103 : decode cX6_kindBy 103 = .ok (.ireturn, 1) := by decide +kernel
theorem dX6_kindBy_104 : decode cX6_kindBy 104 = .ok (.bipush (-9), 2) := by decide +kernel
theorem dX6_kindBy_106 : decode cX6_kindBy 106 = .ok (.ireturn, 1) := by decide +kernel
theorem dX6_readsKind_0 : decode cX6_readsKind 0 = .ok (.aload_n 0, 1) := by decide +kernel
theorem dX6_readsKind_1 : decode cX6_readsKind 1 = .ok (.getfield 42, 3) := by decide +kernel
theorem dX6_readsKind_4 : decode cX6_readsKind 4 = .ok (.iconst 0, 1) := by decide +kernel
theorem dX6_readsKind_5 : decode cX6_readsKind 5 = .ok (.aload_n 0, 1) := by decide +kernel
theorem dX6_readsKind_6 : decode cX6_readsKind 6 = .ok (.invokevirtual 110, 3) := by decide +kernel
theorem dX6_readsKind_9 : decode cX6_readsKind 9 = .ok (.invokestatic 114, 3) := by decide +kernel
theorem dX6_readsKind_12 : decode cX6_readsKind 12 = .ok (.iastore, 1) := by decide +kernel
theorem dX6_readsKind_13 : decode cX6_readsKind 13 = .ok (.aload_n 0, 1) := by decide +kernel
theorem dX6_readsKind_14 : decode cX6_readsKind 14 = .ok (.dup, 1) := by decide +kernel
theorem dX6_readsKind_15 : decode cX6_readsKind 15 = .ok (.getfield 107, 3) := by decide +kernel
theorem dX6_readsKind_18 : decode cX6_readsKind 18 = .ok (.aload_n 0, 1) := by decide +kernel
theorem dX6_readsKind_19 : decode cX6_readsKind 19 = .ok (.getfield 42, 3) := by decide +kernel
theorem dX6_readsKind_22 : decode cX6_readsKind 22 = .ok (.iconst 0, 1) := by decide +kernel
theorem dX6_readsKind_23 : decode cX6_readsKind 23 = .ok (.iaload, 1) := by decide +kernel
theorem dX6_readsKind_24 : decode cX6_readsKind 24 = .ok (.ifCond .ge 7, 3) := by decide +kernel
theorem dX6_readsKind_27 : decode cX6_readsKind 27 = .ok (.iconst 0, 1) := by decide +kernel
theorem dX6_readsKind_28 : decode cX6_readsKind 28 = .ok (.goto 4, 3) := by decide +kernel
theorem dX6_readsKind_31 : decode cX6_readsKind 31 = .ok (.iconst 1, 1) := by decide +kernel
theorem dX6_readsKind_32 : decode cX6_readsKind 32 = .ok (.iadd, 1) := by decide +kernel
theorem dX6_readsKind_33 : decode cX6_readsKind 33 = .ok (.putfield 107, 3) := by decide +kernel
theorem dX6_readsKind_36 : decode cX6_readsKind 36 = .ok (.aload_n 0, 1) := by decide +kernel
theorem dX6_readsKind_37 : decode cX6_readsKind 37 = .ok (.getfield 42, 3) := by decide +kernel
theorem dX6_readsKind_40 : decode cX6_readsKind 40 = .ok (.iconst 0, 1) := by decide +kernel
theorem dX6_readsKind_41 : decode cX6_readsKind 41 = .ok (.iaload, 1) := by decide +kernel
theorem dX6_readsKind_42 : decode cX6_readsKind 42 = .ok (.ifCond .lt 7, 3) := by decide +kernel
theorem dX6_readsKind_45 : decode cX6_readsKind 45 = .ok (.iconst 1, 1) := by decide +kernel
theorem dX6_readsKind_46 : decode cX6_readsKind 46 = .ok (.goto 4, 3) := by decide +kernel
theorem dX6_readsKind_49 : decode cX6_readsKind 49 = .ok (.iconst 0, 1) := by decide +kernel
theorem dX6_readsKind_50 : decode cX6_readsKind 50 = .ok (.ireturn, 1) := by decide +kernel
theorem dX6_readsStatement_0 : decode cX6_readsStatement 0 = .ok (.aload_n 0, 1) := by decide +kernel
theorem dX6_readsStatement_1 : decode cX6_readsStatement 1 = .ok (.invokevirtual 110, 3) := by decide +kernel
theorem dX6_readsStatement_4 : decode cX6_readsStatement 4 = .ok (.istore_n 1, 1) := by decide +kernel
theorem dX6_readsStatement_5 : decode cX6_readsStatement 5 = .ok (.aload_n 0, 1) := by decide +kernel
theorem dX6_readsStatement_6 : decode cX6_readsStatement 6 = .ok (.dup, 1) := by decide +kernel
theorem dX6_readsStatement_7 : decode cX6_readsStatement 7 = .ok (.getfield 107, 3) := by decide +kernel
theorem dX6_readsStatement_10 : decode cX6_readsStatement 10 = .ok (.iconst 1, 1) := by decide +kernel
theorem dX6_readsStatement_11 : decode cX6_readsStatement 11 = .ok (.iadd, 1) := by decide +kernel
theorem dX6_readsStatement_12 : decode cX6_readsStatement 12 = .ok (.putfield 107, 3) := by decide +kernel
theorem dX6_readsStatement_15 : decode cX6_readsStatement 15 = .ok (.iload_n 1, 1) := by decide +kernel
theorem dX6_readsStatement_16 : decode cX6_readsStatement 16 = .ok (.lookupswitch 129 #[(98, 77), (104, 52), (108, 104), (110, 124), (114, 114)], 52) := by decide +kernel
theorem dX6_readsStatement_68 : decode cX6_readsStatement 68 = .ok (.aload_n 0, 1) := by decide +kernel
theorem dX6_readsStatement_69 : decode cX6_readsStatement 69 = .ok (.invokevirtual 117, 3) := by decide +kernel
theorem dX6_readsStatement_72 : decode cX6_readsStatement 72 = .ok (.ifCond .eq 16, 3) := by decide +kernel
theorem dX6_readsStatement_75 : decode cX6_readsStatement 75 = .ok (.aload_n 0, 1) := by decide +kernel
theorem dX6_readsStatement_76 : decode cX6_readsStatement 76 = .ok (.iconst 1, 1) := by decide +kernel
theorem dX6_readsStatement_77 : decode cX6_readsStatement 77 = .ok (.iconst 1, 1) := by decide +kernel
theorem dX6_readsStatement_78 : decode cX6_readsStatement 78 = .ok (.invokevirtual 121, 3) := by decide +kernel
theorem dX6_readsStatement_81 : decode cX6_readsStatement 81 = .ok (.ifCond .eq 7, 3) := by decide +kernel
theorem dX6_readsStatement_84 : decode cX6_readsStatement 84 = .ok (.iconst 1, 1) := by decide +kernel
theorem dX6_readsStatement_85 : decode cX6_readsStatement 85 = .ok (.goto 4, 3) := by decide +kernel
theorem dX6_readsStatement_88 : decode cX6_readsStatement 88 = .ok (.iconst 0, 1) := by decide +kernel
theorem dX6_readsStatement_89 : decode cX6_readsStatement 89 = .ok (.istore_n 2, 1) := by decide +kernel
theorem dX6_readsStatement_90 : decode cX6_readsStatement 90 = .ok (.goto 67, 3) := by decide +kernel
theorem dX6_readsStatement_93 : decode cX6_readsStatement 93 = .ok (.aload_n 0, 1) := by decide +kernel
theorem dX6_readsStatement_94 : decode cX6_readsStatement 94 = .ok (.iconst 0, 1) := by decide +kernel
theorem dX6_readsStatement_95 : decode cX6_readsStatement 95 = .ok (.iconst 1, 1) := by decide +kernel
theorem dX6_readsStatement_96 : decode cX6_readsStatement 96 = .ok (.invokevirtual 121, 3) := by decide +kernel
theorem dX6_readsStatement_99 : decode cX6_readsStatement 99 = .ok (.ifCond .eq 16, 3) := by decide +kernel
theorem dX6_readsStatement_102 : decode cX6_readsStatement 102 = .ok (.aload_n 0, 1) := by decide +kernel
theorem dX6_readsStatement_103 : decode cX6_readsStatement 103 = .ok (.iconst 1, 1) := by decide +kernel
theorem dX6_readsStatement_104 : decode cX6_readsStatement 104 = .ok (.iconst 2, 1) := by decide +kernel
theorem dX6_readsStatement_105 : decode cX6_readsStatement 105 = .ok (.invokevirtual 121, 3) := by decide +kernel
theorem dX6_readsStatement_108 : decode cX6_readsStatement 108 = .ok (.ifCond .eq 7, 3) := by decide +kernel
theorem dX6_readsStatement_111 : decode cX6_readsStatement 111 = .ok (.iconst 1, 1) := by decide +kernel
theorem dX6_readsStatement_112 : decode cX6_readsStatement 112 = .ok (.goto 4, 3) := by decide +kernel
theorem dX6_readsStatement_115 : decode cX6_readsStatement 115 = .ok (.iconst 0, 1) := by decide +kernel
theorem dX6_readsStatement_116 : decode cX6_readsStatement 116 = .ok (.istore_n 2, 1) := by decide +kernel
theorem dX6_readsStatement_117 : decode cX6_readsStatement 117 = .ok (.goto 40, 3) := by decide +kernel
theorem dX6_readsStatement_120 : decode cX6_readsStatement 120 = .ok (.aload_n 0, 1) := by decide +kernel
theorem dX6_readsStatement_121 : decode cX6_readsStatement 121 = .ok (.iconst 0, 1) := by decide +kernel
theorem dX6_readsStatement_122 : decode cX6_readsStatement 122 = .ok (.iconst 2, 1) := by decide +kernel
theorem dX6_readsStatement_123 : decode cX6_readsStatement 123 = .ok (.invokevirtual 121, 3) := by decide +kernel
theorem dX6_readsStatement_126 : decode cX6_readsStatement 126 = .ok (.istore_n 2, 1) := by decide +kernel
theorem dX6_readsStatement_127 : decode cX6_readsStatement 127 = .ok (.goto 30, 3) := by decide +kernel
theorem dX6_readsStatement_130 : decode cX6_readsStatement 130 = .ok (.aload_n 0, 1) := by decide +kernel
theorem dX6_readsStatement_131 : decode cX6_readsStatement 131 = .ok (.iconst 0, 1) := by decide +kernel
theorem dX6_readsStatement_132 : decode cX6_readsStatement 132 = .ok (.iconst 1, 1) := by decide +kernel
theorem dX6_readsStatement_133 : decode cX6_readsStatement 133 = .ok (.invokevirtual 121, 3) := by decide +kernel
theorem dX6_readsStatement_136 : decode cX6_readsStatement 136 = .ok (.istore_n 2, 1) := by decide +kernel
theorem dX6_readsStatement_137 : decode cX6_readsStatement 137 = .ok (.goto 20, 3) := by decide +kernel
theorem dX6_readsStatement_140 : decode cX6_readsStatement 140 = .ok (.iconst 1, 1) := by decide +kernel
theorem dX6_readsStatement_141 : decode cX6_readsStatement 141 = .ok (.istore_n 2, 1) := by decide +kernel
theorem dX6_readsStatement_142 : decode cX6_readsStatement 142 = .ok (.goto 15, 3) := by decide +kernel
theorem dX6_readsStatement_145 : decode cX6_readsStatement 145 = .ok (.aload_n 0, 1) := by decide +kernel
theorem dX6_readsStatement_146 : decode cX6_readsStatement 146 = .ok (.dup, 1) := by decide +kernel
theorem dX6_readsStatement_147 : decode cX6_readsStatement 147 = .ok (.getfield 107, 3) := by decide +kernel
theorem dX6_readsStatement_150 : decode cX6_readsStatement 150 = .ok (.iconst 1, 1) := by decide +kernel
theorem dX6_readsStatement_151 : decode cX6_readsStatement 151 = .ok (.isub, 1) := by decide +kernel
theorem dX6_readsStatement_152 : decode cX6_readsStatement 152 = .ok (.putfield 107, 3) := by decide +kernel
theorem dX6_readsStatement_155 : decode cX6_readsStatement 155 = .ok (.iconst 0, 1) := by decide +kernel
theorem dX6_readsStatement_156 : decode cX6_readsStatement 156 = .ok (.ireturn, 1) := by decide +kernel
theorem dX6_readsStatement_157 : decode cX6_readsStatement 157 = .ok (.iload_n 2, 1) := by decide +kernel
theorem dX6_readsStatement_158 : decode cX6_readsStatement 158 = .ok (.ifCond .eq 12, 3) := by decide +kernel
theorem dX6_readsStatement_161 : decode cX6_readsStatement 161 = .ok (.aload_n 0, 1) := by decide +kernel
theorem dX6_readsStatement_162 : decode cX6_readsStatement 162 = .ok (.invokevirtual 110, 3) := by decide +kernel
theorem dX6_readsStatement_165 : decode cX6_readsStatement 165 = .ok (.bipush 59, 2) := by decide +kernel
theorem dX6_readsStatement_167 : decode cX6_readsStatement 167 = .ok (.if_icmp .eq 5, 3) := by decide +kernel
theorem dX6_readsStatement_170 : decode cX6_readsStatement 170 = .ok (.iconst 0, 1) := by decide +kernel
theorem dX6_readsStatement_171 : decode cX6_readsStatement 171 = .ok (.ireturn, 1) := by decide +kernel
theorem dX6_readsStatement_172 : decode cX6_readsStatement 172 = .ok (.aload_n 0, 1) := by decide +kernel
theorem dX6_readsStatement_173 : decode cX6_readsStatement 173 = .ok (.dup, 1) := by decide +kernel
theorem dX6_readsStatement_174 : decode cX6_readsStatement 174 = .ok (.getfield 107, 3) := by decide +kernel
theorem dX6_readsStatement_177 : decode cX6_readsStatement 177 = .ok (.iconst 1, 1) := by decide +kernel
theorem dX6_readsStatement_178 : decode cX6_readsStatement 178 = .ok (.iadd, 1) := by decide +kernel
theorem dX6_readsStatement_179 : decode cX6_readsStatement 179 = .ok (.putfield 107, 3) := by decide +kernel
theorem dX6_readsStatement_182 : decode cX6_readsStatement 182 = .ok (.iconst 1, 1) := by decide +kernel
theorem dX6_readsStatement_183 : decode cX6_readsStatement 183 = .ok (.ireturn, 1) := by decide +kernel
theorem dX6_bitesOff_0 : decode cX6_bitesOff 0 = .ok (.aload_n 0, 1) := by decide +kernel
theorem dX6_bitesOff_1 : decode cX6_bitesOff 1 = .ok (.dup, 1) := by decide +kernel
theorem dX6_bitesOff_2 : decode cX6_bitesOff 2 = .ok (.getfield 10, 3) := by decide +kernel
theorem dX6_bitesOff_5 : decode cX6_bitesOff 5 = .ok (.iload_n 1, 1) := by decide +kernel
theorem dX6_bitesOff_6 : decode cX6_bitesOff 6 = .ok (.iconst (-1), 1) := by decide +kernel
theorem dX6_bitesOff_7 : decode cX6_bitesOff 7 = .ok (.ixor, 1) := by decide +kernel
theorem dX6_bitesOff_8 : decode cX6_bitesOff 8 = .ok (.iand, 1) := by decide +kernel
theorem dX6_bitesOff_9 : decode cX6_bitesOff 9 = .ok (.putfield 10, 3) := by decide +kernel
theorem dX6_bitesOff_12 : decode cX6_bitesOff 12 = .ok (.aload_n 0, 1) := by decide +kernel
theorem dX6_bitesOff_13 : decode cX6_bitesOff 13 = .ok (.sipush 999, 3) := by decide +kernel
theorem dX6_bitesOff_16 : decode cX6_bitesOff 16 = .ok (.aload_n 0, 1) := by decide +kernel
theorem dX6_bitesOff_17 : decode cX6_bitesOff 17 = .ok (.getfield 124, 3) := by decide +kernel
theorem dX6_bitesOff_20 : decode cX6_bitesOff 20 = .ok (.iconst 1, 1) := by decide +kernel
theorem dX6_bitesOff_21 : decode cX6_bitesOff 21 = .ok (.iadd, 1) := by decide +kernel
theorem dX6_bitesOff_22 : decode cX6_bitesOff 22 = .ok (.invokestatic 127, 3) := by decide +kernel
theorem dX6_bitesOff_25 : decode cX6_bitesOff 25 = .ok (.putfield 124, 3) := by decide +kernel
theorem dX6_bitesOff_28 : decode cX6_bitesOff 28 = .ok (.return_, 1) := by decide +kernel
theorem dX6_allAgain_0 : decode cX6_allAgain 0 = .ok (.aload_n 0, 1) := by decide +kernel
theorem dX6_allAgain_1 : decode cX6_allAgain 1 = .ok (.ldc 9, 2) := by decide +kernel
theorem dX6_allAgain_3 : decode cX6_allAgain 3 = .ok (.putfield 10, 3) := by decide +kernel
theorem dX6_allAgain_6 : decode cX6_allAgain 6 = .ok (.aload_n 0, 1) := by decide +kernel
theorem dX6_allAgain_7 : decode cX6_allAgain 7 = .ok (.iconst 0, 1) := by decide +kernel
theorem dX6_allAgain_8 : decode cX6_allAgain 8 = .ok (.putfield 124, 3) := by decide +kernel
theorem dX6_allAgain_11 : decode cX6_allAgain 11 = .ok (.return_, 1) := by decide +kernel
theorem dX6_isDone_0 : decode cX6_isDone 0 = .ok (.aload_n 0, 1) := by decide +kernel
theorem dX6_isDone_1 : decode cX6_isDone 1 = .ok (.getfield 42, 3) := by decide +kernel
theorem dX6_isDone_4 : decode cX6_isDone 4 = .ok (.iconst 0, 1) := by decide +kernel
theorem dX6_isDone_5 : decode cX6_isDone 5 = .ok (.iaload, 1) := by decide +kernel
theorem dX6_isDone_6 : decode cX6_isDone 6 = .ok (.istore_n 2, 1) := by decide +kernel
theorem dX6_isDone_7 : decode cX6_isDone 7 = .ok (.aload_n 0, 1) := by decide +kernel
theorem dX6_isDone_8 : decode cX6_isDone 8 = .ok (.getfield 42, 3) := by decide +kernel
theorem dX6_isDone_11 : decode cX6_isDone 11 = .ok (.iconst 1, 1) := by decide +kernel
theorem dX6_isDone_12 : decode cX6_isDone 12 = .ok (.iaload, 1) := by decide +kernel
theorem dX6_isDone_13 : decode cX6_isDone 13 = .ok (.istore_n 3, 1) := by decide +kernel
theorem dX6_isDone_14 : decode cX6_isDone 14 = .ok (.iload_n 1, 1) := by decide +kernel
theorem dX6_isDone_15 : decode cX6_isDone 15 = .ok (.lookupswitch 168 #[(98, 83), (104, 41), (108, 120), (114, 143)], 41) := by decide +kernel
theorem dX6_isDone_56 : decode cX6_isDone 56 = .ok (.aload_n 0, 1) := by decide +kernel
theorem dX6_isDone_57 : decode cX6_isDone 57 = .ok (.getfield 62, 3) := by decide +kernel
theorem dX6_isDone_60 : decode cX6_isDone 60 = .ok (.iconst 5, 1) := by decide +kernel
theorem dX6_isDone_61 : decode cX6_isDone 61 = .ok (.if_icmp .ne 5, 3) := by decide +kernel
theorem dX6_isDone_64 : decode cX6_isDone 64 = .ok (.iconst 0, 1) := by decide +kernel
theorem dX6_isDone_65 : decode cX6_isDone 65 = .ok (.ireturn, 1) := by decide +kernel
theorem dX6_isDone_66 : decode cX6_isDone 66 = .ok (.aload_n 0, 1) := by decide +kernel
theorem dX6_isDone_67 : decode cX6_isDone 67 = .ok (.getfield 14, 3) := by decide +kernel
theorem dX6_isDone_70 : decode cX6_isDone 70 = .ok (.aload_n 0, 1) := by decide +kernel
theorem dX6_isDone_71 : decode cX6_isDone 71 = .ok (.getfield 62, 3) := by decide +kernel
theorem dX6_isDone_74 : decode cX6_isDone 74 = .ok (.iload_n 2, 1) := by decide +kernel
theorem dX6_isDone_75 : decode cX6_isDone 75 = .ok (.iastore, 1) := by decide +kernel
theorem dX6_isDone_76 : decode cX6_isDone 76 = .ok (.aload_n 0, 1) := by decide +kernel
theorem dX6_isDone_77 : decode cX6_isDone 77 = .ok (.getfield 18, 3) := by decide +kernel
theorem dX6_isDone_80 : decode cX6_isDone 80 = .ok (.aload_n 0, 1) := by decide +kernel
theorem dX6_isDone_81 : decode cX6_isDone 81 = .ok (.getfield 62, 3) := by decide +kernel
theorem dX6_isDone_84 : decode cX6_isDone 84 = .ok (.iload_n 3, 1) := by decide +kernel
theorem dX6_isDone_85 : decode cX6_isDone 85 = .ok (.iastore, 1) := by decide +kernel
theorem dX6_isDone_86 : decode cX6_isDone 86 = .ok (.aload_n 0, 1) := by decide +kernel
theorem dX6_isDone_87 : decode cX6_isDone 87 = .ok (.dup, 1) := by decide +kernel
theorem dX6_isDone_88 : decode cX6_isDone 88 = .ok (.getfield 62, 3) := by decide +kernel
theorem dX6_isDone_91 : decode cX6_isDone 91 = .ok (.iconst 1, 1) := by decide +kernel
theorem dX6_isDone_92 : decode cX6_isDone 92 = .ok (.iadd, 1) := by decide +kernel
theorem dX6_isDone_93 : decode cX6_isDone 93 = .ok (.putfield 62, 3) := by decide +kernel
theorem dX6_isDone_96 : decode cX6_isDone 96 = .ok (.iconst 1, 1) := by decide +kernel
theorem dX6_isDone_97 : decode cX6_isDone 97 = .ok (.ireturn, 1) := by decide +kernel
theorem dX6_isDone_98 : decode cX6_isDone 98 = .ok (.iload_n 2, 1) := by decide +kernel
theorem dX6_isDone_99 : decode cX6_isDone 99 = .ok (.iconst 4, 1) := by decide +kernel
theorem dX6_isDone_100 : decode cX6_isDone 100 = .ok (.if_icmp .ge 22, 3) := by decide +kernel
theorem dX6_isDone_103 : decode cX6_isDone 103 = .ok (.iload_n 3, 1) := by decide +kernel
theorem dX6_isDone_104 : decode cX6_isDone 104 = .ok (.invokestatic 130, 3) := by decide +kernel
theorem dX6_isDone_107 : decode cX6_isDone 107 = .ok (.ifCond .eq 15, 3) := by decide +kernel
theorem dX6_isDone_110 : decode cX6_isDone 110 = .ok (.aload_n 0, 1) := by decide +kernel
theorem dX6_isDone_111 : decode cX6_isDone 111 = .ok (.getfield 10, 3) := by decide +kernel
theorem dX6_isDone_114 : decode cX6_isDone 114 = .ok (.iload_n 2, 1) := by decide +kernel
theorem dX6_isDone_115 : decode cX6_isDone 115 = .ok (.iload_n 3, 1) := by decide +kernel
theorem dX6_isDone_116 : decode cX6_isDone 116 = .ok (.invokestatic 134, 3) := by decide +kernel
theorem dX6_isDone_119 : decode cX6_isDone 119 = .ok (.ifCond .ne 5, 3) := by decide +kernel
theorem dX6_isDone_122 : decode cX6_isDone 122 = .ok (.iconst 0, 1) := by decide +kernel
theorem dX6_isDone_123 : decode cX6_isDone 123 = .ok (.ireturn, 1) := by decide +kernel
theorem dX6_isDone_124 : decode cX6_isDone 124 = .ok (.aload_n 0, 1) := by decide +kernel
theorem dX6_isDone_125 : decode cX6_isDone 125 = .ok (.iload_n 2, 1) := by decide +kernel
theorem dX6_isDone_126 : decode cX6_isDone 126 = .ok (.iload_n 3, 1) := by decide +kernel
theorem dX6_isDone_127 : decode cX6_isDone 127 = .ok (.invokestatic 65, 3) := by decide +kernel
theorem dX6_isDone_130 : decode cX6_isDone 130 = .ok (.invokevirtual 137, 3) := by decide +kernel
theorem dX6_isDone_133 : decode cX6_isDone 133 = .ok (.iconst 1, 1) := by decide +kernel
theorem dX6_isDone_134 : decode cX6_isDone 134 = .ok (.ireturn, 1) := by decide +kernel
theorem dX6_isDone_135 : decode cX6_isDone 135 = .ok (.iload_n 2, 1) := by decide +kernel
theorem dX6_isDone_136 : decode cX6_isDone 136 = .ok (.invokestatic 130, 3) := by decide +kernel
theorem dX6_isDone_139 : decode cX6_isDone 139 = .ok (.ifCond .ne 5, 3) := by decide +kernel
theorem dX6_isDone_142 : decode cX6_isDone 142 = .ok (.iconst 0, 1) := by decide +kernel
theorem dX6_isDone_143 : decode cX6_isDone 143 = .ok (.ireturn, 1) := by decide +kernel
theorem dX6_isDone_144 : decode cX6_isDone 144 = .ok (.aload_n 0, 1) := by decide +kernel
theorem dX6_isDone_145 : decode cX6_isDone 145 = .ok (.dup, 1) := by decide +kernel
theorem dX6_isDone_146 : decode cX6_isDone 146 = .ok (.getfield 10, 3) := by decide +kernel
theorem dX6_isDone_149 : decode cX6_isDone 149 = .ok (.iconst 1, 1) := by decide +kernel
theorem dX6_isDone_150 : decode cX6_isDone 150 = .ok (.iload_n 2, 1) := by decide +kernel
theorem dX6_isDone_151 : decode cX6_isDone 151 = .ok (.ishl, 1) := by decide +kernel
theorem dX6_isDone_152 : decode cX6_isDone 152 = .ok (.ior, 1) := by decide +kernel
theorem dX6_isDone_153 : decode cX6_isDone 153 = .ok (.putfield 10, 3) := by decide +kernel
theorem dX6_isDone_156 : decode cX6_isDone 156 = .ok (.iconst 1, 1) := by decide +kernel
theorem dX6_isDone_157 : decode cX6_isDone 157 = .ok (.ireturn, 1) := by decide +kernel
theorem dX6_isDone_158 : decode cX6_isDone 158 = .ok (.iload_n 2, 1) := by decide +kernel
theorem dX6_isDone_159 : decode cX6_isDone 159 = .ok (.iconst 1, 1) := by decide +kernel
theorem dX6_isDone_160 : decode cX6_isDone 160 = .ok (.iconst 3, 1) := by decide +kernel
theorem dX6_isDone_161 : decode cX6_isDone 161 = .ok (.invokestatic 58, 3) := by decide +kernel
theorem dX6_isDone_164 : decode cX6_isDone 164 = .ok (.ifCond .ne 5, 3) := by decide +kernel
theorem dX6_isDone_167 : decode cX6_isDone 167 = .ok (.iconst 0, 1) := by decide +kernel
theorem dX6_isDone_168 : decode cX6_isDone 168 = .ok (.ireturn, 1) := by decide +kernel
theorem dX6_isDone_169 : decode cX6_isDone 169 = .ok (.aload_n 0, 1) := by decide +kernel
theorem dX6_isDone_170 : decode cX6_isDone 170 = .ok (.aload_n 0, 1) := by decide +kernel
theorem dX6_isDone_171 : decode cX6_isDone 171 = .ok (.getfield 10, 3) := by decide +kernel
theorem dX6_isDone_174 : decode cX6_isDone 174 = .ok (.iload_n 2, 1) := by decide +kernel
theorem dX6_isDone_175 : decode cX6_isDone 175 = .ok (.invokestatic 141, 3) := by decide +kernel
theorem dX6_isDone_178 : decode cX6_isDone 178 = .ok (.putfield 10, 3) := by decide +kernel
theorem dX6_isDone_181 : decode cX6_isDone 181 = .ok (.iconst 1, 1) := by decide +kernel
theorem dX6_isDone_182 : decode cX6_isDone 182 = .ok (.ireturn, 1) := by decide +kernel
theorem dX6_isDone_183 : decode cX6_isDone 183 = .ok (.aload_n 0, 1) := by decide +kernel
theorem dX6_isDone_184 : decode cX6_isDone 184 = .ok (.invokevirtual 144, 3) := by decide +kernel
theorem dX6_isDone_187 : decode cX6_isDone 187 = .ok (.iconst 1, 1) := by decide +kernel
theorem dX6_isDone_188 : decode cX6_isDone 188 = .ok (.ireturn, 1) := by decide +kernel
theorem dX6_lays_0 : decode cX6_lays 0 = .ok (.aload_n 0, 1) := by decide +kernel
theorem dX6_lays_1 : decode cX6_lays 1 = .ok (.aload_n 0, 1) := by decide +kernel
theorem dX6_lays_2 : decode cX6_lays 2 = .ok (.getfield 10, 3) := by decide +kernel
theorem dX6_lays_5 : decode cX6_lays 5 = .ok (.putfield 147, 3) := by decide +kernel
theorem dX6_lays_8 : decode cX6_lays 8 = .ok (.aload_n 0, 1) := by decide +kernel
theorem dX6_lays_9 : decode cX6_lays 9 = .ok (.aload_n 0, 1) := by decide +kernel
theorem dX6_lays_10 : decode cX6_lays 10 = .ok (.getfield 124, 3) := by decide +kernel
theorem dX6_lays_13 : decode cX6_lays 13 = .ok (.putfield 150, 3) := by decide +kernel
theorem dX6_lays_16 : decode cX6_lays 16 = .ok (.aload_n 0, 1) := by decide +kernel
theorem dX6_lays_17 : decode cX6_lays 17 = .ok (.aload_n 0, 1) := by decide +kernel
theorem dX6_lays_18 : decode cX6_lays 18 = .ok (.getfield 62, 3) := by decide +kernel
theorem dX6_lays_21 : decode cX6_lays 21 = .ok (.putfield 153, 3) := by decide +kernel
theorem dX6_lays_24 : decode cX6_lays 24 = .ok (.iconst 0, 1) := by decide +kernel
theorem dX6_lays_25 : decode cX6_lays 25 = .ok (.istore_n 1, 1) := by decide +kernel
theorem dX6_lays_26 : decode cX6_lays 26 = .ok (.iload_n 1, 1) := by decide +kernel
theorem dX6_lays_27 : decode cX6_lays 27 = .ok (.iconst 5, 1) := by decide +kernel
theorem dX6_lays_28 : decode cX6_lays 28 = .ok (.if_icmp .ge 33, 3) := by decide +kernel
theorem dX6_lays_31 : decode cX6_lays 31 = .ok (.aload_n 0, 1) := by decide +kernel
theorem dX6_lays_32 : decode cX6_lays 32 = .ok (.getfield 27, 3) := by decide +kernel
theorem dX6_lays_35 : decode cX6_lays 35 = .ok (.iload_n 1, 1) := by decide +kernel
theorem dX6_lays_36 : decode cX6_lays 36 = .ok (.aload_n 0, 1) := by decide +kernel
theorem dX6_lays_37 : decode cX6_lays 37 = .ok (.getfield 14, 3) := by decide +kernel
theorem dX6_lays_40 : decode cX6_lays 40 = .ok (.iload_n 1, 1) := by decide +kernel
theorem dX6_lays_41 : decode cX6_lays 41 = .ok (.iaload, 1) := by decide +kernel
theorem dX6_lays_42 : decode cX6_lays 42 = .ok (.iastore, 1) := by decide +kernel
theorem dX6_lays_43 : decode cX6_lays 43 = .ok (.aload_n 0, 1) := by decide +kernel
theorem dX6_lays_44 : decode cX6_lays 44 = .ok (.getfield 30, 3) := by decide +kernel
theorem dX6_lays_47 : decode cX6_lays 47 = .ok (.iload_n 1, 1) := by decide +kernel
theorem dX6_lays_48 : decode cX6_lays 48 = .ok (.aload_n 0, 1) := by decide +kernel
theorem dX6_lays_49 : decode cX6_lays 49 = .ok (.getfield 18, 3) := by decide +kernel
theorem dX6_lays_52 : decode cX6_lays 52 = .ok (.iload_n 1, 1) := by decide +kernel
theorem dX6_lays_53 : decode cX6_lays 53 = .ok (.iaload, 1) := by decide +kernel
theorem dX6_lays_54 : decode cX6_lays 54 = .ok (.iastore, 1) := by decide +kernel
theorem dX6_lays_55 : decode cX6_lays 55 = .ok (.iinc 1 1, 3) := by decide +kernel
theorem dX6_lays_58 : decode cX6_lays 58 = .ok (.goto (-32), 3) := by decide +kernel
theorem dX6_lays_61 : decode cX6_lays 61 = .ok (.return_, 1) := by decide +kernel
theorem dX6_laysBack_0 : decode cX6_laysBack 0 = .ok (.aload_n 0, 1) := by decide +kernel
theorem dX6_laysBack_1 : decode cX6_laysBack 1 = .ok (.aload_n 0, 1) := by decide +kernel
theorem dX6_laysBack_2 : decode cX6_laysBack 2 = .ok (.getfield 147, 3) := by decide +kernel
theorem dX6_laysBack_5 : decode cX6_laysBack 5 = .ok (.putfield 10, 3) := by decide +kernel
theorem dX6_laysBack_8 : decode cX6_laysBack 8 = .ok (.aload_n 0, 1) := by decide +kernel
theorem dX6_laysBack_9 : decode cX6_laysBack 9 = .ok (.aload_n 0, 1) := by decide +kernel
theorem dX6_laysBack_10 : decode cX6_laysBack 10 = .ok (.getfield 150, 3) := by decide +kernel
theorem dX6_laysBack_13 : decode cX6_laysBack 13 = .ok (.putfield 124, 3) := by decide +kernel
theorem dX6_laysBack_16 : decode cX6_laysBack 16 = .ok (.aload_n 0, 1) := by decide +kernel
theorem dX6_laysBack_17 : decode cX6_laysBack 17 = .ok (.aload_n 0, 1) := by decide +kernel
theorem dX6_laysBack_18 : decode cX6_laysBack 18 = .ok (.getfield 153, 3) := by decide +kernel
theorem dX6_laysBack_21 : decode cX6_laysBack 21 = .ok (.putfield 62, 3) := by decide +kernel
theorem dX6_laysBack_24 : decode cX6_laysBack 24 = .ok (.iconst 0, 1) := by decide +kernel
theorem dX6_laysBack_25 : decode cX6_laysBack 25 = .ok (.istore_n 1, 1) := by decide +kernel
theorem dX6_laysBack_26 : decode cX6_laysBack 26 = .ok (.iload_n 1, 1) := by decide +kernel
theorem dX6_laysBack_27 : decode cX6_laysBack 27 = .ok (.iconst 5, 1) := by decide +kernel
theorem dX6_laysBack_28 : decode cX6_laysBack 28 = .ok (.if_icmp .ge 33, 3) := by decide +kernel
theorem dX6_laysBack_31 : decode cX6_laysBack 31 = .ok (.aload_n 0, 1) := by decide +kernel
theorem dX6_laysBack_32 : decode cX6_laysBack 32 = .ok (.getfield 14, 3) := by decide +kernel
theorem dX6_laysBack_35 : decode cX6_laysBack 35 = .ok (.iload_n 1, 1) := by decide +kernel
theorem dX6_laysBack_36 : decode cX6_laysBack 36 = .ok (.aload_n 0, 1) := by decide +kernel
theorem dX6_laysBack_37 : decode cX6_laysBack 37 = .ok (.getfield 27, 3) := by decide +kernel
theorem dX6_laysBack_40 : decode cX6_laysBack 40 = .ok (.iload_n 1, 1) := by decide +kernel
theorem dX6_laysBack_41 : decode cX6_laysBack 41 = .ok (.iaload, 1) := by decide +kernel
theorem dX6_laysBack_42 : decode cX6_laysBack 42 = .ok (.iastore, 1) := by decide +kernel
theorem dX6_laysBack_43 : decode cX6_laysBack 43 = .ok (.aload_n 0, 1) := by decide +kernel
theorem dX6_laysBack_44 : decode cX6_laysBack 44 = .ok (.getfield 18, 3) := by decide +kernel
theorem dX6_laysBack_47 : decode cX6_laysBack 47 = .ok (.iload_n 1, 1) := by decide +kernel
theorem dX6_laysBack_48 : decode cX6_laysBack 48 = .ok (.aload_n 0, 1) := by decide +kernel
theorem dX6_laysBack_49 : decode cX6_laysBack 49 = .ok (.getfield 30, 3) := by decide +kernel
theorem dX6_laysBack_52 : decode cX6_laysBack 52 = .ok (.iload_n 1, 1) := by decide +kernel
theorem dX6_laysBack_53 : decode cX6_laysBack 53 = .ok (.iaload, 1) := by decide +kernel
theorem dX6_laysBack_54 : decode cX6_laysBack 54 = .ok (.iastore, 1) := by decide +kernel
theorem dX6_laysBack_55 : decode cX6_laysBack 55 = .ok (.iinc 1 1, 3) := by decide +kernel
theorem dX6_laysBack_58 : decode cX6_laysBack 58 = .ok (.goto (-32), 3) := by decide +kernel
theorem dX6_laysBack_61 : decode cX6_laysBack 61 = .ok (.return_, 1) := by decide +kernel
theorem dX6_core_0 : decode cX6_core 0 = .ok (.aload_n 0, 1) := by decide +kernel
theorem dX6_core_1 : decode cX6_core 1 = .ok (.iconst 0, 1) := by decide +kernel
theorem dX6_core_2 : decode cX6_core 2 = .ok (.putfield 107, 3) := by decide +kernel
theorem dX6_core_5 : decode cX6_core 5 = .ok (.iconst 0, 1) := by decide +kernel
theorem dX6_core_6 : decode cX6_core 6 = .ok (.istore_n 1, 1) := by decide +kernel
theorem dX6_core_7 : decode cX6_core 7 = .ok (.bipush (-9), 2) := by decide +kernel
theorem dX6_core_9 : decode cX6_core 9 = .ok (.istore_n 2, 1) := by decide +kernel
theorem dX6_core_10 : decode cX6_core 10 = .ok (.aload_n 0, 1) := by decide +kernel
theorem dX6_core_11 : decode cX6_core 11 = .ok (.invokevirtual 156, 3) := by decide +kernel
theorem dX6_core_14 : decode cX6_core 14 = .ok (.ifCond .ne 12, 3) := by decide +kernel
theorem dX6_core_17 : decode cX6_core 17 = .ok (.sipush (-1000), 3) := by decide +kernel
theorem dX6_core_20 : decode cX6_core 20 = .ok (.aload_n 0, 1) := by decide +kernel
theorem dX6_core_21 : decode cX6_core 21 = .ok (.getfield 107, 3) := by decide +kernel
theorem dX6_core_24 : decode cX6_core 24 = .ok (.isub, 1) := by decide +kernel
theorem dX6_core_25 : decode cX6_core 25 = .ok (.istore_n 2, 1) := by decide +kernel
theorem dX6_core_26 : decode cX6_core 26 = .ok (.iinc 1 1, 3) := by decide +kernel
theorem dX6_core_29 : decode cX6_core 29 = .ok (.iload_n 2, 1) := by decide +kernel
theorem dX6_core_30 : decode cX6_core 30 = .ok (.bipush (-9), 2) := by decide +kernel
theorem dX6_core_32 : decode cX6_core 32 = .ok (.if_icmp .ne 14, 3) := by decide +kernel
theorem dX6_core_35 : decode cX6_core 35 = .ok (.aload_n 0, 1) := by decide +kernel
theorem dX6_core_36 : decode cX6_core 36 = .ok (.getfield 107, 3) := by decide +kernel
theorem dX6_core_39 : decode cX6_core 39 = .ok (.aload_n 0, 1) := by decide +kernel
theorem dX6_core_40 : decode cX6_core 40 = .ok (.getfield 104, 3) := by decide +kernel
theorem dX6_core_43 : decode cX6_core 43 = .ok (.if_icmp .lt (-33), 3) := by decide +kernel
theorem dX6_core_46 : decode cX6_core 46 = .ok (.aload_n 0, 1) := by decide +kernel
theorem dX6_core_47 : decode cX6_core 47 = .ok (.invokevirtual 159, 3) := by decide +kernel
theorem dX6_core_50 : decode cX6_core 50 = .ok (.aload_n 0, 1) := by decide +kernel
theorem dX6_core_51 : decode cX6_core 51 = .ok (.iconst 0, 1) := by decide +kernel
theorem dX6_core_52 : decode cX6_core 52 = .ok (.putfield 107, 3) := by decide +kernel
theorem dX6_core_55 : decode cX6_core 55 = .ok (.iload_n 2, 1) := by decide +kernel
theorem dX6_core_56 : decode cX6_core 56 = .ok (.bipush (-9), 2) := by decide +kernel
theorem dX6_core_58 : decode cX6_core 58 = .ok (.if_icmp .ne 56, 3) := by decide +kernel
theorem dX6_core_61 : decode cX6_core 61 = .ok (.aload_n 0, 1) := by decide +kernel
theorem dX6_core_62 : decode cX6_core 62 = .ok (.getfield 107, 3) := by decide +kernel
theorem dX6_core_65 : decode cX6_core 65 = .ok (.aload_n 0, 1) := by decide +kernel
theorem dX6_core_66 : decode cX6_core 66 = .ok (.getfield 104, 3) := by decide +kernel
theorem dX6_core_69 : decode cX6_core 69 = .ok (.if_icmp .ge 45, 3) := by decide +kernel
theorem dX6_core_72 : decode cX6_core 72 = .ok (.aload_n 0, 1) := by decide +kernel
theorem dX6_core_73 : decode cX6_core 73 = .ok (.getfield 107, 3) := by decide +kernel
theorem dX6_core_76 : decode cX6_core 76 = .ok (.istore_n 3, 1) := by decide +kernel
theorem dX6_core_77 : decode cX6_core 77 = .ok (.aload_n 0, 1) := by decide +kernel
theorem dX6_core_78 : decode cX6_core 78 = .ok (.invokevirtual 110, 3) := by decide +kernel
theorem dX6_core_81 : decode cX6_core 81 = .ok (.istore 4, 2) := by decide +kernel
theorem dX6_core_83 : decode cX6_core 83 = .ok (.aload_n 0, 1) := by decide +kernel
theorem dX6_core_84 : decode cX6_core 84 = .ok (.invokevirtual 156, 3) := by decide +kernel
theorem dX6_core_87 : decode cX6_core 87 = .ok (.istore 5, 2) := by decide +kernel
theorem dX6_core_89 : decode cX6_core 89 = .ok (.aload_n 0, 1) := by decide +kernel
theorem dX6_core_90 : decode cX6_core 90 = .ok (.iload 4, 2) := by decide +kernel
theorem dX6_core_92 : decode cX6_core 92 = .ok (.invokevirtual 162, 3) := by decide +kernel
theorem dX6_core_95 : decode cX6_core 95 = .ok (.ifCond .eq 6, 3) := by decide +kernel
theorem dX6_core_98 : decode cX6_core 98 = .ok (.goto (-43), 3) := by decide +kernel
theorem dX6_core_101 : decode cX6_core 101 = .ok (.sipush (-2000), 3) := by decide +kernel
theorem dX6_core_104 : decode cX6_core 104 = .ok (.iload_n 3, 1) := by decide +kernel
theorem dX6_core_105 : decode cX6_core 105 = .ok (.isub, 1) := by decide +kernel
theorem dX6_core_106 : decode cX6_core 106 = .ok (.istore_n 2, 1) := by decide +kernel
theorem dX6_core_107 : decode cX6_core 107 = .ok (.aload_n 0, 1) := by decide +kernel
theorem dX6_core_108 : decode cX6_core 108 = .ok (.invokevirtual 165, 3) := by decide +kernel
theorem dX6_core_111 : decode cX6_core 111 = .ok (.goto (-56), 3) := by decide +kernel
theorem dX6_core_114 : decode cX6_core 114 = .ok (.aload_n 0, 1) := by decide +kernel
theorem dX6_core_115 : decode cX6_core 115 = .ok (.iconst 0, 1) := by decide +kernel
theorem dX6_core_116 : decode cX6_core 116 = .ok (.putfield 104, 3) := by decide +kernel
theorem dX6_core_119 : decode cX6_core 119 = .ok (.iload_n 2, 1) := by decide +kernel
theorem dX6_core_120 : decode cX6_core 120 = .ok (.bipush (-9), 2) := by decide +kernel
theorem dX6_core_122 : decode cX6_core 122 = .ok (.if_icmp .ne 7, 3) := by decide +kernel
theorem dX6_core_125 : decode cX6_core 125 = .ok (.iload_n 1, 1) := by decide +kernel
theorem dX6_core_126 : decode cX6_core 126 = .ok (.goto 4, 3) := by decide +kernel
theorem dX6_core_129 : decode cX6_core 129 = .ok (.iload_n 2, 1) := by decide +kernel
theorem dX6_core_130 : decode cX6_core 130 = .ok (.ireturn, 1) := by decide +kernel
theorem dX6_cell_0 : decode cX6_cell 0 = .ok (.iload_n 1, 1) := by decide +kernel
theorem dX6_cell_1 : decode cX6_cell 1 = .ok (.invokestatic 130, 3) := by decide +kernel
theorem dX6_cell_4 : decode cX6_cell 4 = .ok (.ifCond .ne 9, 3) := by decide +kernel
theorem dX6_cell_7 : decode cX6_cell 7 = .ok (.aload_n 0, 1) := by decide +kernel
theorem dX6_cell_8 : decode cX6_cell 8 = .ok (.iconst (-1), 1) := by decide +kernel
theorem dX6_cell_9 : decode cX6_cell 9 = .ok (.invokevirtual 52, 3) := by decide +kernel
theorem dX6_cell_12 : decode cX6_cell 12 = .ok (.ireturn, 1) := by decide +kernel
theorem dX6_cell_13 : decode cX6_cell 13 = .ok (.iload_n 2, 1) := by decide +kernel
theorem dX6_cell_14 : decode cX6_cell 14 = .ok (.tableswitch 62 0 2 #[26, 35, 50], 26) := by decide +kernel
theorem dX6_cell_40 : decode cX6_cell 40 = .ok (.aload_n 0, 1) := by decide +kernel
theorem dX6_cell_41 : decode cX6_cell 41 = .ok (.getfield 10, 3) := by decide +kernel
theorem dX6_cell_44 : decode cX6_cell 44 = .ok (.iload_n 1, 1) := by decide +kernel
theorem dX6_cell_45 : decode cX6_cell 45 = .ok (.ishr, 1) := by decide +kernel
theorem dX6_cell_46 : decode cX6_cell 46 = .ok (.iconst 1, 1) := by decide +kernel
theorem dX6_cell_47 : decode cX6_cell 47 = .ok (.iand, 1) := by decide +kernel
theorem dX6_cell_48 : decode cX6_cell 48 = .ok (.ireturn, 1) := by decide +kernel
theorem dX6_cell_49 : decode cX6_cell 49 = .ok (.iconst 1, 1) := by decide +kernel
theorem dX6_cell_50 : decode cX6_cell 50 = .ok (.iload_n 1, 1) := by decide +kernel
theorem dX6_cell_51 : decode cX6_cell 51 = .ok (.ishl, 1) := by decide +kernel
theorem dX6_cell_52 : decode cX6_cell 52 = .ok (.invokestatic 69, 3) := by decide +kernel
theorem dX6_cell_55 : decode cX6_cell 55 = .ok (.aload_n 0, 1) := by decide +kernel
theorem dX6_cell_56 : decode cX6_cell 56 = .ok (.getfield 10, 3) := by decide +kernel
theorem dX6_cell_59 : decode cX6_cell 59 = .ok (.iand, 1) := by decide +kernel
theorem dX6_cell_60 : decode cX6_cell 60 = .ok (.invokestatic 82, 3) := by decide +kernel
theorem dX6_cell_63 : decode cX6_cell 63 = .ok (.ireturn, 1) := by decide +kernel
theorem dX6_cell_64 : decode cX6_cell 64 = .ok (.aload_n 0, 1) := by decide +kernel
theorem dX6_cell_65 : decode cX6_cell 65 = .ok (.getfield 10, 3) := by decide +kernel
theorem dX6_cell_68 : decode cX6_cell 68 = .ok (.iload_n 1, 1) := by decide +kernel
theorem dX6_cell_69 : decode cX6_cell 69 = .ok (.invokestatic 79, 3) := by decide +kernel
theorem dX6_cell_72 : decode cX6_cell 72 = .ok (.invokestatic 82, 3) := by decide +kernel
theorem dX6_cell_75 : decode cX6_cell 75 = .ok (.ireturn, 1) := by decide +kernel
theorem dX6_cell_76 : decode cX6_cell 76 = .ok (.aload_n 0, 1) := by decide +kernel
theorem dX6_cell_77 : decode cX6_cell 77 = .ok (.bipush (-2), 2) := by decide +kernel
theorem dX6_cell_79 : decode cX6_cell 79 = .ok (.invokevirtual 52, 3) := by decide +kernel
theorem dX6_cell_82 : decode cX6_cell 82 = .ok (.ireturn, 1) := by decide +kernel
theorem dX6_heir_0 : decode cX6_heir 0 = .ok (.aload_n 0, 1) := by decide +kernel
theorem dX6_heir_1 : decode cX6_heir 1 = .ok (.iload_n 1, 1) := by decide +kernel
theorem dX6_heir_2 : decode cX6_heir 2 = .ok (.invokevirtual 168, 3) := by decide +kernel
theorem dX6_heir_5 : decode cX6_heir 5 = .ok (.ifCond .ne 9, 3) := by decide +kernel
theorem dX6_heir_8 : decode cX6_heir 8 = .ok (.aload_n 0, 1) := by decide +kernel
theorem dX6_heir_9 : decode cX6_heir 9 = .ok (.iconst (-1), 1) := by decide +kernel
theorem dX6_heir_10 : decode cX6_heir 10 = .ok (.invokevirtual 52, 3) := by decide +kernel
theorem dX6_heir_13 : decode cX6_heir 13 = .ok (.ireturn, 1) := by decide +kernel
theorem dX6_heir_14 : decode cX6_heir 14 = .ok (.iload_n 2, 1) := by decide +kernel
theorem dX6_heir_15 : decode cX6_heir 15 = .ok (.ifCond .ne 12, 3) := by decide +kernel
theorem dX6_heir_18 : decode cX6_heir 18 = .ok (.aload_n 0, 1) := by decide +kernel
theorem dX6_heir_19 : decode cX6_heir 19 = .ok (.getfield 14, 3) := by decide +kernel
theorem dX6_heir_22 : decode cX6_heir 22 = .ok (.iload_n 1, 1) := by decide +kernel
theorem dX6_heir_23 : decode cX6_heir 23 = .ok (.iaload, 1) := by decide +kernel
theorem dX6_heir_24 : decode cX6_heir 24 = .ok (.goto 40, 3) := by decide +kernel
theorem dX6_heir_27 : decode cX6_heir 27 = .ok (.iload_n 2, 1) := by decide +kernel
theorem dX6_heir_28 : decode cX6_heir 28 = .ok (.iconst 1, 1) := by decide +kernel
theorem dX6_heir_29 : decode cX6_heir 29 = .ok (.if_icmp .ne 12, 3) := by decide +kernel
theorem dX6_heir_32 : decode cX6_heir 32 = .ok (.aload_n 0, 1) := by decide +kernel
theorem dX6_heir_33 : decode cX6_heir 33 = .ok (.getfield 18, 3) := by decide +kernel
theorem dX6_heir_36 : decode cX6_heir 36 = .ok (.iload_n 1, 1) := by decide +kernel
theorem dX6_heir_37 : decode cX6_heir 37 = .ok (.iaload, 1) := by decide +kernel
theorem dX6_heir_38 : decode cX6_heir 38 = .ok (.goto 26, 3) := by decide +kernel
theorem dX6_heir_41 : decode cX6_heir 41 = .ok (.iload_n 2, 1) := by decide +kernel
theorem dX6_heir_42 : decode cX6_heir 42 = .ok (.iconst 2, 1) := by decide +kernel
theorem dX6_heir_43 : decode cX6_heir 43 = .ok (.if_icmp .ne 15, 3) := by decide +kernel
theorem dX6_heir_46 : decode cX6_heir 46 = .ok (.aload_n 0, 1) := by decide +kernel
theorem dX6_heir_47 : decode cX6_heir 47 = .ok (.aload_n 0, 1) := by decide +kernel
theorem dX6_heir_48 : decode cX6_heir 48 = .ok (.getfield 10, 3) := by decide +kernel
theorem dX6_heir_51 : decode cX6_heir 51 = .ok (.iload_n 1, 1) := by decide +kernel
theorem dX6_heir_52 : decode cX6_heir 52 = .ok (.invokevirtual 98, 3) := by decide +kernel
theorem dX6_heir_55 : decode cX6_heir 55 = .ok (.goto 9, 3) := by decide +kernel
theorem dX6_heir_58 : decode cX6_heir 58 = .ok (.aload_n 0, 1) := by decide +kernel
theorem dX6_heir_59 : decode cX6_heir 59 = .ok (.bipush (-2), 2) := by decide +kernel
theorem dX6_heir_61 : decode cX6_heir 61 = .ok (.invokevirtual 52, 3) := by decide +kernel
theorem dX6_heir_64 : decode cX6_heir 64 = .ok (.ireturn, 1) := by decide +kernel
theorem dX6_bites_0 : decode cX6_bites 0 = .ok (.iload_n 1, 1) := by decide +kernel
theorem dX6_bites_1 : decode cX6_bites 1 = .ok (.iconst 0, 1) := by decide +kernel
theorem dX6_bites_2 : decode cX6_bites 2 = .ok (.iconst 3, 1) := by decide +kernel
theorem dX6_bites_3 : decode cX6_bites 3 = .ok (.invokestatic 58, 3) := by decide +kernel
theorem dX6_bites_6 : decode cX6_bites 6 = .ok (.ifCond .ne 10, 3) := by decide +kernel
theorem dX6_bites_9 : decode cX6_bites 9 = .ok (.aload_n 0, 1) := by decide +kernel
theorem dX6_bites_10 : decode cX6_bites 10 = .ok (.bipush (-2), 2) := by decide +kernel
theorem dX6_bites_12 : decode cX6_bites 12 = .ok (.invokevirtual 52, 3) := by decide +kernel
theorem dX6_bites_15 : decode cX6_bites 15 = .ok (.ireturn, 1) := by decide +kernel
theorem dX6_bites_16 : decode cX6_bites 16 = .ok (.iload_n 2, 1) := by decide +kernel
theorem dX6_bites_17 : decode cX6_bites 17 = .ok (.invokestatic 130, 3) := by decide +kernel
theorem dX6_bites_20 : decode cX6_bites 20 = .ok (.ifCond .ne 9, 3) := by decide +kernel
theorem dX6_bites_23 : decode cX6_bites 23 = .ok (.aload_n 0, 1) := by decide +kernel
theorem dX6_bites_24 : decode cX6_bites 24 = .ok (.iconst (-1), 1) := by decide +kernel
theorem dX6_bites_25 : decode cX6_bites 25 = .ok (.invokevirtual 52, 3) := by decide +kernel
theorem dX6_bites_28 : decode cX6_bites 28 = .ok (.ireturn, 1) := by decide +kernel
theorem dX6_bites_29 : decode cX6_bites 29 = .ok (.aload_n 0, 1) := by decide +kernel
theorem dX6_bites_30 : decode cX6_bites 30 = .ok (.getfield 10, 3) := by decide +kernel
theorem dX6_bites_33 : decode cX6_bites 33 = .ok (.iload_n 1, 1) := by decide +kernel
theorem dX6_bites_34 : decode cX6_bites 34 = .ok (.iload_n 2, 1) := by decide +kernel
theorem dX6_bites_35 : decode cX6_bites 35 = .ok (.invokestatic 134, 3) := by decide +kernel
theorem dX6_bites_38 : decode cX6_bites 38 = .ok (.ifCond .ne 10, 3) := by decide +kernel
theorem dX6_bites_41 : decode cX6_bites 41 = .ok (.aload_n 0, 1) := by decide +kernel
theorem dX6_bites_42 : decode cX6_bites 42 = .ok (.bipush (-3), 2) := by decide +kernel
theorem dX6_bites_44 : decode cX6_bites 44 = .ok (.invokevirtual 52, 3) := by decide +kernel
theorem dX6_bites_47 : decode cX6_bites 47 = .ok (.ireturn, 1) := by decide +kernel
theorem dX6_bites_48 : decode cX6_bites 48 = .ok (.aload_n 0, 1) := by decide +kernel
theorem dX6_bites_49 : decode cX6_bites 49 = .ok (.iload_n 1, 1) := by decide +kernel
theorem dX6_bites_50 : decode cX6_bites 50 = .ok (.iload_n 2, 1) := by decide +kernel
theorem dX6_bites_51 : decode cX6_bites 51 = .ok (.invokestatic 65, 3) := by decide +kernel
theorem dX6_bites_54 : decode cX6_bites 54 = .ok (.invokevirtual 137, 3) := by decide +kernel
theorem dX6_bites_57 : decode cX6_bites 57 = .ok (.aload_n 0, 1) := by decide +kernel
theorem dX6_bites_58 : decode cX6_bites 58 = .ok (.getfield 10, 3) := by decide +kernel
theorem dX6_bites_61 : decode cX6_bites 61 = .ok (.invokestatic 82, 3) := by decide +kernel
theorem dX6_bites_64 : decode cX6_bites 64 = .ok (.ireturn, 1) := by decide +kernel
theorem dX6_heals_0 : decode cX6_heals 0 = .ok (.iload_n 1, 1) := by decide +kernel
theorem dX6_heals_1 : decode cX6_heals 1 = .ok (.invokestatic 130, 3) := by decide +kernel
theorem dX6_heals_4 : decode cX6_heals 4 = .ok (.ifCond .ne 9, 3) := by decide +kernel
theorem dX6_heals_7 : decode cX6_heals 7 = .ok (.aload_n 0, 1) := by decide +kernel
theorem dX6_heals_8 : decode cX6_heals 8 = .ok (.iconst (-1), 1) := by decide +kernel
theorem dX6_heals_9 : decode cX6_heals 9 = .ok (.invokevirtual 52, 3) := by decide +kernel
theorem dX6_heals_12 : decode cX6_heals 12 = .ok (.ireturn, 1) := by decide +kernel
theorem dX6_heals_13 : decode cX6_heals 13 = .ok (.aload_n 0, 1) := by decide +kernel
theorem dX6_heals_14 : decode cX6_heals 14 = .ok (.getfield 10, 3) := by decide +kernel
theorem dX6_heals_17 : decode cX6_heals 17 = .ok (.iload_n 1, 1) := by decide +kernel
theorem dX6_heals_18 : decode cX6_heals 18 = .ok (.invokestatic 72, 3) := by decide +kernel
theorem dX6_heals_21 : decode cX6_heals 21 = .ok (.ifCond .eq 10, 3) := by decide +kernel
theorem dX6_heals_24 : decode cX6_heals 24 = .ok (.aload_n 0, 1) := by decide +kernel
theorem dX6_heals_25 : decode cX6_heals 25 = .ok (.bipush (-3), 2) := by decide +kernel
theorem dX6_heals_27 : decode cX6_heals 27 = .ok (.invokevirtual 52, 3) := by decide +kernel
theorem dX6_heals_30 : decode cX6_heals 30 = .ok (.ireturn, 1) := by decide +kernel
theorem dX6_heals_31 : decode cX6_heals 31 = .ok (.aload_n 0, 1) := by decide +kernel
theorem dX6_heals_32 : decode cX6_heals 32 = .ok (.dup, 1) := by decide +kernel
theorem dX6_heals_33 : decode cX6_heals 33 = .ok (.getfield 10, 3) := by decide +kernel
theorem dX6_heals_36 : decode cX6_heals 36 = .ok (.iconst 1, 1) := by decide +kernel
theorem dX6_heals_37 : decode cX6_heals 37 = .ok (.iload_n 1, 1) := by decide +kernel
theorem dX6_heals_38 : decode cX6_heals 38 = .ok (.ishl, 1) := by decide +kernel
theorem dX6_heals_39 : decode cX6_heals 39 = .ok (.ior, 1) := by decide +kernel
theorem dX6_heals_40 : decode cX6_heals 40 = .ok (.putfield 10, 3) := by decide +kernel
theorem dX6_heals_43 : decode cX6_heals 43 = .ok (.aload_n 0, 1) := by decide +kernel
theorem dX6_heals_44 : decode cX6_heals 44 = .ok (.getfield 10, 3) := by decide +kernel
theorem dX6_heals_47 : decode cX6_heals 47 = .ok (.invokestatic 82, 3) := by decide +kernel
theorem dX6_heals_50 : decode cX6_heals 50 = .ok (.ireturn, 1) := by decide +kernel
theorem dX6_rolls_0 : decode cX6_rolls 0 = .ok (.iload_n 1, 1) := by decide +kernel
theorem dX6_rolls_1 : decode cX6_rolls 1 = .ok (.iconst 1, 1) := by decide +kernel
theorem dX6_rolls_2 : decode cX6_rolls 2 = .ok (.if_icmp .ge 10, 3) := by decide +kernel
theorem dX6_rolls_5 : decode cX6_rolls 5 = .ok (.aload_n 0, 1) := by decide +kernel
theorem dX6_rolls_6 : decode cX6_rolls 6 = .ok (.bipush (-4), 2) := by decide +kernel
theorem dX6_rolls_8 : decode cX6_rolls 8 = .ok (.invokevirtual 52, 3) := by decide +kernel
theorem dX6_rolls_11 : decode cX6_rolls 11 = .ok (.ireturn, 1) := by decide +kernel
theorem dX6_rolls_12 : decode cX6_rolls 12 = .ok (.iload_n 1, 1) := by decide +kernel
theorem dX6_rolls_13 : decode cX6_rolls 13 = .ok (.iconst 3, 1) := by decide +kernel
theorem dX6_rolls_14 : decode cX6_rolls 14 = .ok (.if_icmp .le 10, 3) := by decide +kernel
theorem dX6_rolls_17 : decode cX6_rolls 17 = .ok (.aload_n 0, 1) := by decide +kernel
theorem dX6_rolls_18 : decode cX6_rolls 18 = .ok (.bipush (-6), 2) := by decide +kernel
theorem dX6_rolls_20 : decode cX6_rolls 20 = .ok (.invokevirtual 52, 3) := by decide +kernel
theorem dX6_rolls_23 : decode cX6_rolls 23 = .ok (.ireturn, 1) := by decide +kernel
theorem dX6_rolls_24 : decode cX6_rolls 24 = .ok (.aload_n 0, 1) := by decide +kernel
theorem dX6_rolls_25 : decode cX6_rolls 25 = .ok (.aload_n 0, 1) := by decide +kernel
theorem dX6_rolls_26 : decode cX6_rolls 26 = .ok (.getfield 10, 3) := by decide +kernel
theorem dX6_rolls_29 : decode cX6_rolls 29 = .ok (.iload_n 1, 1) := by decide +kernel
theorem dX6_rolls_30 : decode cX6_rolls 30 = .ok (.invokestatic 141, 3) := by decide +kernel
theorem dX6_rolls_33 : decode cX6_rolls 33 = .ok (.putfield 10, 3) := by decide +kernel
theorem dX6_rolls_36 : decode cX6_rolls 36 = .ok (.aload_n 0, 1) := by decide +kernel
theorem dX6_rolls_37 : decode cX6_rolls 37 = .ok (.getfield 10, 3) := by decide +kernel
theorem dX6_rolls_40 : decode cX6_rolls 40 = .ok (.invokestatic 82, 3) := by decide +kernel
theorem dX6_rolls_43 : decode cX6_rolls 43 = .ok (.ireturn, 1) := by decide +kernel
theorem dX6_wrongBy_0 : decode cX6_wrongBy 0 = .ok (.iload_n 0, 1) := by decide +kernel
theorem dX6_wrongBy_1 : decode cX6_wrongBy 1 = .ok (.ifCond .ge 8, 3) := by decide +kernel
theorem dX6_wrongBy_4 : decode cX6_wrongBy 4 = .ok (.bipush (-4), 2) := by decide +kernel
theorem dX6_wrongBy_6 : decode cX6_wrongBy 6 = .ok (.goto 14, 3) := by decide +kernel
theorem dX6_wrongBy_9 : decode cX6_wrongBy 9 = .ok (.iload_n 0, 1) := by decide +kernel
theorem dX6_wrongBy_10 : decode cX6_wrongBy 10 = .ok (.iload_n 1, 1) := by decide +kernel
theorem dX6_wrongBy_11 : decode cX6_wrongBy 11 = .ok (.if_icmp .le 8, 3) := by decide +kernel
theorem dX6_wrongBy_14 : decode cX6_wrongBy 14 = .ok (.bipush (-6), 2) := by decide +kernel
theorem dX6_wrongBy_16 : decode cX6_wrongBy 16 = .ok (.goto 4, 3) := by decide +kernel
theorem dX6_wrongBy_19 : decode cX6_wrongBy 19 = .ok (.iconst 0, 1) := by decide +kernel
theorem dX6_wrongBy_20 : decode cX6_wrongBy 20 = .ok (.ireturn, 1) := by decide +kernel
theorem dX6_turn_0 : decode cX6_turn 0 = .ok (.aload_n 0, 1) := by decide +kernel
theorem dX6_turn_1 : decode cX6_turn 1 = .ok (.iload_n 1, 1) := by decide +kernel
theorem dX6_turn_2 : decode cX6_turn 2 = .ok (.invokevirtual 168, 3) := by decide +kernel
theorem dX6_turn_5 : decode cX6_turn 5 = .ok (.ifCond .ne 7, 3) := by decide +kernel
theorem dX6_turn_8 : decode cX6_turn 8 = .ok (.iconst (-1), 1) := by decide +kernel
theorem dX6_turn_9 : decode cX6_turn 9 = .ok (.goto 23, 3) := by decide +kernel
theorem dX6_turn_12 : decode cX6_turn 12 = .ok (.iload_n 2, 1) := by decide +kernel
theorem dX6_turn_13 : decode cX6_turn 13 = .ok (.iconst 0, 1) := by decide +kernel
theorem dX6_turn_14 : decode cX6_turn 14 = .ok (.iconst 5, 1) := by decide +kernel
theorem dX6_turn_15 : decode cX6_turn 15 = .ok (.invokestatic 58, 3) := by decide +kernel
theorem dX6_turn_18 : decode cX6_turn 18 = .ok (.ifCond .ne 8, 3) := by decide +kernel
theorem dX6_turn_21 : decode cX6_turn 21 = .ok (.bipush (-2), 2) := by decide +kernel
theorem dX6_turn_23 : decode cX6_turn 23 = .ok (.goto 9, 3) := by decide +kernel
theorem dX6_turn_26 : decode cX6_turn 26 = .ok (.iload_n 3, 1) := by decide +kernel
theorem dX6_turn_27 : decode cX6_turn 27 = .ok (.bipush 9, 2) := by decide +kernel
theorem dX6_turn_29 : decode cX6_turn 29 = .ok (.invokestatic 171, 3) := by decide +kernel
theorem dX6_turn_32 : decode cX6_turn 32 = .ok (.istore 4, 2) := by decide +kernel
theorem dX6_turn_34 : decode cX6_turn 34 = .ok (.iload 4, 2) := by decide +kernel
theorem dX6_turn_36 : decode cX6_turn 36 = .ok (.ifCond .eq 10, 3) := by decide +kernel
theorem dX6_turn_39 : decode cX6_turn 39 = .ok (.aload_n 0, 1) := by decide +kernel
theorem dX6_turn_40 : decode cX6_turn 40 = .ok (.iload 4, 2) := by decide +kernel
theorem dX6_turn_42 : decode cX6_turn 42 = .ok (.invokevirtual 52, 3) := by decide +kernel
theorem dX6_turn_45 : decode cX6_turn 45 = .ok (.ireturn, 1) := by decide +kernel
theorem dX6_turn_46 : decode cX6_turn 46 = .ok (.bipush 10, 2) := by decide +kernel
theorem dX6_turn_48 : decode cX6_turn 48 = .ok (.aload_n 0, 1) := by decide +kernel
theorem dX6_turn_49 : decode cX6_turn 49 = .ok (.getfield 14, 3) := by decide +kernel
theorem dX6_turn_52 : decode cX6_turn 52 = .ok (.iload_n 1, 1) := by decide +kernel
theorem dX6_turn_53 : decode cX6_turn 53 = .ok (.iaload, 1) := by decide +kernel
theorem dX6_turn_54 : decode cX6_turn 54 = .ok (.imul, 1) := by decide +kernel
theorem dX6_turn_55 : decode cX6_turn 55 = .ok (.aload_n 0, 1) := by decide +kernel
theorem dX6_turn_56 : decode cX6_turn 56 = .ok (.getfield 18, 3) := by decide +kernel
theorem dX6_turn_59 : decode cX6_turn 59 = .ok (.iload_n 1, 1) := by decide +kernel
theorem dX6_turn_60 : decode cX6_turn 60 = .ok (.iaload, 1) := by decide +kernel
theorem dX6_turn_61 : decode cX6_turn 61 = .ok (.iadd, 1) := by decide +kernel
theorem dX6_turn_62 : decode cX6_turn 62 = .ok (.istore 5, 2) := by decide +kernel
theorem dX6_turn_64 : decode cX6_turn 64 = .ok (.aload_n 0, 1) := by decide +kernel
theorem dX6_turn_65 : decode cX6_turn 65 = .ok (.getfield 14, 3) := by decide +kernel
theorem dX6_turn_68 : decode cX6_turn 68 = .ok (.iload_n 1, 1) := by decide +kernel
theorem dX6_turn_69 : decode cX6_turn 69 = .ok (.iload_n 2, 1) := by decide +kernel
theorem dX6_turn_70 : decode cX6_turn 70 = .ok (.iastore, 1) := by decide +kernel
theorem dX6_turn_71 : decode cX6_turn 71 = .ok (.aload_n 0, 1) := by decide +kernel
theorem dX6_turn_72 : decode cX6_turn 72 = .ok (.getfield 18, 3) := by decide +kernel
theorem dX6_turn_75 : decode cX6_turn 75 = .ok (.iload_n 1, 1) := by decide +kernel
theorem dX6_turn_76 : decode cX6_turn 76 = .ok (.iload_n 3, 1) := by decide +kernel
theorem dX6_turn_77 : decode cX6_turn 77 = .ok (.iastore, 1) := by decide +kernel
theorem dX6_turn_78 : decode cX6_turn 78 = .ok (.iload 5, 2) := by decide +kernel
theorem dX6_turn_80 : decode cX6_turn 80 = .ok (.ireturn, 1) := by decide +kernel
theorem dX6_anew_0 : decode cX6_anew 0 = .ok (.aload_n 0, 1) := by decide +kernel
theorem dX6_anew_1 : decode cX6_anew 1 = .ok (.getfield 124, 3) := by decide +kernel
theorem dX6_anew_4 : decode cX6_anew 4 = .ok (.istore_n 1, 1) := by decide +kernel
theorem dX6_anew_5 : decode cX6_anew 5 = .ok (.aload_n 0, 1) := by decide +kernel
theorem dX6_anew_6 : decode cX6_anew 6 = .ok (.invokevirtual 144, 3) := by decide +kernel
theorem dX6_anew_9 : decode cX6_anew 9 = .ok (.iload_n 1, 1) := by decide +kernel
theorem dX6_anew_10 : decode cX6_anew 10 = .ok (.ireturn, 1) := by decide +kernel
theorem dX6_shares_0 : decode cX6_shares 0 = .ok (.iload_n 1, 1) := by decide +kernel
theorem dX6_shares_1 : decode cX6_shares 1 = .ok (.iconst 0, 1) := by decide +kernel
theorem dX6_shares_2 : decode cX6_shares 2 = .ok (.iconst 1, 1) := by decide +kernel
theorem dX6_shares_3 : decode cX6_shares 3 = .ok (.invokestatic 58, 3) := by decide +kernel
theorem dX6_shares_6 : decode cX6_shares 6 = .ok (.ifCond .ne 10, 3) := by decide +kernel
theorem dX6_shares_9 : decode cX6_shares 9 = .ok (.aload_n 0, 1) := by decide +kernel
theorem dX6_shares_10 : decode cX6_shares 10 = .ok (.bipush (-2), 2) := by decide +kernel
theorem dX6_shares_12 : decode cX6_shares 12 = .ok (.invokevirtual 52, 3) := by decide +kernel
theorem dX6_shares_15 : decode cX6_shares 15 = .ok (.ireturn, 1) := by decide +kernel
theorem dX6_shares_16 : decode cX6_shares 16 = .ok (.iload_n 1, 1) := by decide +kernel
theorem dX6_shares_17 : decode cX6_shares 17 = .ok (.ifCond .ne 12, 3) := by decide +kernel
theorem dX6_shares_20 : decode cX6_shares 20 = .ok (.aload_n 0, 1) := by decide +kernel
theorem dX6_shares_21 : decode cX6_shares 21 = .ok (.aload_n 0, 1) := by decide +kernel
theorem dX6_shares_22 : decode cX6_shares 22 = .ok (.getfield 10, 3) := by decide +kernel
theorem dX6_shares_25 : decode cX6_shares 25 = .ok (.invokevirtual 174, 3) := by decide +kernel
theorem dX6_shares_28 : decode cX6_shares 28 = .ok (.ireturn, 1) := by decide +kernel
theorem dX6_shares_29 : decode cX6_shares 29 = .ok (.bipush (-9), 2) := by decide +kernel
theorem dX6_shares_31 : decode cX6_shares 31 = .ok (.istore_n 2, 1) := by decide +kernel
theorem dX6_shares_32 : decode cX6_shares 32 = .ok (.iconst 0, 1) := by decide +kernel
theorem dX6_shares_33 : decode cX6_shares 33 = .ok (.istore_n 3, 1) := by decide +kernel
theorem dX6_shares_34 : decode cX6_shares 34 = .ok (.iload_n 3, 1) := by decide +kernel
theorem dX6_shares_35 : decode cX6_shares 35 = .ok (.aload_n 0, 1) := by decide +kernel
theorem dX6_shares_36 : decode cX6_shares 36 = .ok (.getfield 62, 3) := by decide +kernel
theorem dX6_shares_39 : decode cX6_shares 39 = .ok (.if_icmp .ge 36, 3) := by decide +kernel
theorem dX6_shares_42 : decode cX6_shares 42 = .ok (.iload_n 2, 1) := by decide +kernel
theorem dX6_shares_43 : decode cX6_shares 43 = .ok (.ifCond .lt 24, 3) := by decide +kernel
theorem dX6_shares_46 : decode cX6_shares 46 = .ok (.aload_n 0, 1) := by decide +kernel
theorem dX6_shares_47 : decode cX6_shares 47 = .ok (.aload_n 0, 1) := by decide +kernel
theorem dX6_shares_48 : decode cX6_shares 48 = .ok (.getfield 10, 3) := by decide +kernel
theorem dX6_shares_51 : decode cX6_shares 51 = .ok (.iload_n 3, 1) := by decide +kernel
theorem dX6_shares_52 : decode cX6_shares 52 = .ok (.invokevirtual 98, 3) := by decide +kernel
theorem dX6_shares_55 : decode cX6_shares 55 = .ok (.aload_n 0, 1) := by decide +kernel
theorem dX6_shares_56 : decode cX6_shares 56 = .ok (.aload_n 0, 1) := by decide +kernel
theorem dX6_shares_57 : decode cX6_shares 57 = .ok (.getfield 10, 3) := by decide +kernel
theorem dX6_shares_60 : decode cX6_shares 60 = .ok (.iload_n 2, 1) := by decide +kernel
theorem dX6_shares_61 : decode cX6_shares 61 = .ok (.invokevirtual 98, 3) := by decide +kernel
theorem dX6_shares_64 : decode cX6_shares 64 = .ok (.if_icmp .le 5, 3) := by decide +kernel
theorem dX6_shares_67 : decode cX6_shares 67 = .ok (.iload_n 3, 1) := by decide +kernel
theorem dX6_shares_68 : decode cX6_shares 68 = .ok (.istore_n 2, 1) := by decide +kernel
theorem dX6_shares_69 : decode cX6_shares 69 = .ok (.iinc 3 1, 3) := by decide +kernel
theorem dX6_shares_72 : decode cX6_shares 72 = .ok (.goto (-38), 3) := by decide +kernel
theorem dX6_shares_75 : decode cX6_shares 75 = .ok (.iload_n 2, 1) := by decide +kernel
theorem dX6_shares_76 : decode cX6_shares 76 = .ok (.ireturn, 1) := by decide +kernel
theorem dX6_leastHeap_0 : decode cX6_leastHeap 0 = .ok (.iconst 0, 1) := by decide +kernel
theorem dX6_leastHeap_1 : decode cX6_leastHeap 1 = .ok (.istore_n 1, 1) := by decide +kernel
theorem dX6_leastHeap_2 : decode cX6_leastHeap 2 = .ok (.iconst 0, 1) := by decide +kernel
theorem dX6_leastHeap_3 : decode cX6_leastHeap 3 = .ok (.istore_n 2, 1) := by decide +kernel
theorem dX6_leastHeap_4 : decode cX6_leastHeap 4 = .ok (.iload_n 2, 1) := by decide +kernel
theorem dX6_leastHeap_5 : decode cX6_leastHeap 5 = .ok (.bipush 25, 2) := by decide +kernel
theorem dX6_leastHeap_7 : decode cX6_leastHeap 7 = .ok (.if_icmp .ge 37, 3) := by decide +kernel
theorem dX6_leastHeap_10 : decode cX6_leastHeap 10 = .ok (.iload_n 0, 1) := by decide +kernel
theorem dX6_leastHeap_11 : decode cX6_leastHeap 11 = .ok (.iload_n 2, 1) := by decide +kernel
theorem dX6_leastHeap_12 : decode cX6_leastHeap 12 = .ok (.invokestatic 79, 3) := by decide +kernel
theorem dX6_leastHeap_15 : decode cX6_leastHeap 15 = .ok (.invokestatic 82, 3) := by decide +kernel
theorem dX6_leastHeap_18 : decode cX6_leastHeap 18 = .ok (.istore_n 3, 1) := by decide +kernel
theorem dX6_leastHeap_19 : decode cX6_leastHeap 19 = .ok (.iload_n 3, 1) := by decide +kernel
theorem dX6_leastHeap_20 : decode cX6_leastHeap 20 = .ok (.ifCond .le 16, 3) := by decide +kernel
theorem dX6_leastHeap_23 : decode cX6_leastHeap 23 = .ok (.iload_n 1, 1) := by decide +kernel
theorem dX6_leastHeap_24 : decode cX6_leastHeap 24 = .ok (.ifCond .eq 8, 3) := by decide +kernel
theorem dX6_leastHeap_27 : decode cX6_leastHeap 27 = .ok (.iload_n 3, 1) := by decide +kernel
theorem dX6_leastHeap_28 : decode cX6_leastHeap 28 = .ok (.iload_n 1, 1) := by decide +kernel
theorem dX6_leastHeap_29 : decode cX6_leastHeap 29 = .ok (.if_icmp .ge 7, 3) := by decide +kernel
theorem dX6_leastHeap_32 : decode cX6_leastHeap 32 = .ok (.iload_n 3, 1) := by decide +kernel
theorem dX6_leastHeap_33 : decode cX6_leastHeap 33 = .ok (.goto 4, 3) := by decide +kernel
theorem dX6_leastHeap_36 : decode cX6_leastHeap 36 = .ok (.iload_n 1, 1) := by decide +kernel
theorem dX6_leastHeap_37 : decode cX6_leastHeap 37 = .ok (.istore_n 1, 1) := by decide +kernel
theorem dX6_leastHeap_38 : decode cX6_leastHeap 38 = .ok (.iinc 2 1, 3) := by decide +kernel
theorem dX6_leastHeap_41 : decode cX6_leastHeap 41 = .ok (.goto (-37), 3) := by decide +kernel
theorem dX6_leastHeap_44 : decode cX6_leastHeap 44 = .ok (.iload_n 1, 1) := by decide +kernel
theorem dX6_leastHeap_45 : decode cX6_leastHeap 45 = .ok (.ireturn, 1) := by decide +kernel
theorem dX6_pieces_0 : decode cX6_pieces 0 = .ok (.aload_n 0, 1) := by decide +kernel
theorem dX6_pieces_1 : decode cX6_pieces 1 = .ok (.getfield 10, 3) := by decide +kernel
theorem dX6_pieces_4 : decode cX6_pieces 4 = .ok (.invokestatic 85, 3) := by decide +kernel
theorem dX6_pieces_7 : decode cX6_pieces 7 = .ok (.istore_n 2, 1) := by decide +kernel
theorem dX6_pieces_8 : decode cX6_pieces 8 = .ok (.iload_n 1, 1) := by decide +kernel
theorem dX6_pieces_9 : decode cX6_pieces 9 = .ok (.tableswitch 75 0 3 #[31, 39, 47, 61], 31) := by decide +kernel
theorem dX6_pieces_40 : decode cX6_pieces 40 = .ok (.aload_n 0, 1) := by decide +kernel
theorem dX6_pieces_41 : decode cX6_pieces 41 = .ok (.getfield 10, 3) := by decide +kernel
theorem dX6_pieces_44 : decode cX6_pieces 44 = .ok (.invokestatic 91, 3) := by decide +kernel
theorem dX6_pieces_47 : decode cX6_pieces 47 = .ok (.ireturn, 1) := by decide +kernel
theorem dX6_pieces_48 : decode cX6_pieces 48 = .ok (.aload_n 0, 1) := by decide +kernel
theorem dX6_pieces_49 : decode cX6_pieces 49 = .ok (.getfield 10, 3) := by decide +kernel
theorem dX6_pieces_52 : decode cX6_pieces 52 = .ok (.invokestatic 177, 3) := by decide +kernel
theorem dX6_pieces_55 : decode cX6_pieces 55 = .ok (.ireturn, 1) := by decide +kernel
theorem dX6_pieces_56 : decode cX6_pieces 56 = .ok (.iload_n 2, 1) := by decide +kernel
theorem dX6_pieces_57 : decode cX6_pieces 57 = .ok (.ifCond .ne 8, 3) := by decide +kernel
theorem dX6_pieces_60 : decode cX6_pieces 60 = .ok (.bipush (-9), 2) := by decide +kernel
theorem dX6_pieces_62 : decode cX6_pieces 62 = .ok (.goto 7, 3) := by decide +kernel
theorem dX6_pieces_65 : decode cX6_pieces 65 = .ok (.iload_n 2, 1) := by decide +kernel
theorem dX6_pieces_66 : decode cX6_pieces 66 = .ok (.invokestatic 76, 3) := by decide +kernel
theorem dX6_pieces_69 : decode cX6_pieces 69 = .ok (.ireturn, 1) := by decide +kernel
theorem dX6_pieces_70 : decode cX6_pieces 70 = .ok (.iload_n 2, 1) := by decide +kernel
theorem dX6_pieces_71 : decode cX6_pieces 71 = .ok (.ifCond .ne 8, 3) := by decide +kernel
theorem dX6_pieces_74 : decode cX6_pieces 74 = .ok (.bipush (-9), 2) := by decide +kernel
theorem dX6_pieces_76 : decode cX6_pieces 76 = .ok (.goto 7, 3) := by decide +kernel
theorem dX6_pieces_79 : decode cX6_pieces 79 = .ok (.iload_n 2, 1) := by decide +kernel
theorem dX6_pieces_80 : decode cX6_pieces 80 = .ok (.invokestatic 82, 3) := by decide +kernel
theorem dX6_pieces_83 : decode cX6_pieces 83 = .ok (.ireturn, 1) := by decide +kernel
theorem dX6_pieces_84 : decode cX6_pieces 84 = .ok (.aload_n 0, 1) := by decide +kernel
theorem dX6_pieces_85 : decode cX6_pieces 85 = .ok (.bipush (-2), 2) := by decide +kernel
theorem dX6_pieces_87 : decode cX6_pieces 87 = .ok (.invokevirtual 52, 3) := by decide +kernel
theorem dX6_pieces_90 : decode cX6_pieces 90 = .ok (.ireturn, 1) := by decide +kernel
theorem dX6_border_0 : decode cX6_border 0 = .ok (.iconst 0, 1) := by decide +kernel
theorem dX6_border_1 : decode cX6_border 1 = .ok (.istore_n 0, 1) := by decide +kernel
theorem dX6_border_2 : decode cX6_border 2 = .ok (.iconst 0, 1) := by decide +kernel
theorem dX6_border_3 : decode cX6_border 3 = .ok (.istore_n 1, 1) := by decide +kernel
theorem dX6_border_4 : decode cX6_border 4 = .ok (.iload_n 1, 1) := by decide +kernel
theorem dX6_border_5 : decode cX6_border 5 = .ok (.bipush 25, 2) := by decide +kernel
theorem dX6_border_7 : decode cX6_border 7 = .ok (.if_icmp .ge 43, 3) := by decide +kernel
theorem dX6_border_10 : decode cX6_border 10 = .ok (.iload_n 0, 1) := by decide +kernel
theorem dX6_border_11 : decode cX6_border 11 = .ok (.iload_n 1, 1) := by decide +kernel
theorem dX6_border_12 : decode cX6_border 12 = .ok (.iconst 5, 1) := by decide +kernel
theorem dX6_border_13 : decode cX6_border 13 = .ok (.if_icmp .lt 22, 3) := by decide +kernel
theorem dX6_border_16 : decode cX6_border 16 = .ok (.iload_n 1, 1) := by decide +kernel
theorem dX6_border_17 : decode cX6_border 17 = .ok (.bipush 20, 2) := by decide +kernel
theorem dX6_border_19 : decode cX6_border 19 = .ok (.if_icmp .ge 16, 3) := by decide +kernel
theorem dX6_border_22 : decode cX6_border 22 = .ok (.iload_n 1, 1) := by decide +kernel
theorem dX6_border_23 : decode cX6_border 23 = .ok (.iconst 5, 1) := by decide +kernel
theorem dX6_border_24 : decode cX6_border 24 = .ok (.irem, 1) := by decide +kernel
theorem dX6_border_25 : decode cX6_border 25 = .ok (.ifCond .eq 10, 3) := by decide +kernel
theorem dX6_border_28 : decode cX6_border 28 = .ok (.iload_n 1, 1) := by decide +kernel
theorem dX6_border_29 : decode cX6_border 29 = .ok (.iconst 5, 1) := by decide +kernel
theorem dX6_border_30 : decode cX6_border 30 = .ok (.irem, 1) := by decide +kernel
theorem dX6_border_31 : decode cX6_border 31 = .ok (.iconst 4, 1) := by decide +kernel
theorem dX6_border_32 : decode cX6_border 32 = .ok (.if_icmp .ne 9, 3) := by decide +kernel
theorem dX6_border_35 : decode cX6_border 35 = .ok (.iconst 1, 1) := by decide +kernel
theorem dX6_border_36 : decode cX6_border 36 = .ok (.iload_n 1, 1) := by decide +kernel
theorem dX6_border_37 : decode cX6_border 37 = .ok (.ishl, 1) := by decide +kernel
theorem dX6_border_38 : decode cX6_border 38 = .ok (.goto 4, 3) := by decide +kernel
theorem dX6_border_41 : decode cX6_border 41 = .ok (.iconst 0, 1) := by decide +kernel
theorem dX6_border_42 : decode cX6_border 42 = .ok (.ior, 1) := by decide +kernel
theorem dX6_border_43 : decode cX6_border 43 = .ok (.istore_n 0, 1) := by decide +kernel
theorem dX6_border_44 : decode cX6_border 44 = .ok (.iinc 1 1, 3) := by decide +kernel
theorem dX6_border_47 : decode cX6_border 47 = .ok (.goto (-43), 3) := by decide +kernel
theorem dX6_border_50 : decode cX6_border 50 = .ok (.iload_n 0, 1) := by decide +kernel
theorem dX6_border_51 : decode cX6_border 51 = .ok (.ireturn, 1) := by decide +kernel
theorem dX6_edge_0 : decode cX6_edge 0 = .ok (.iload_n 1, 1) := by decide +kernel
theorem dX6_edge_1 : decode cX6_edge 1 = .ok (.iconst 0, 1) := by decide +kernel
theorem dX6_edge_2 : decode cX6_edge 2 = .ok (.iconst 1, 1) := by decide +kernel
theorem dX6_edge_3 : decode cX6_edge 3 = .ok (.invokestatic 58, 3) := by decide +kernel
theorem dX6_edge_6 : decode cX6_edge 6 = .ok (.ifCond .ne 10, 3) := by decide +kernel
theorem dX6_edge_9 : decode cX6_edge 9 = .ok (.aload_n 0, 1) := by decide +kernel
theorem dX6_edge_10 : decode cX6_edge 10 = .ok (.bipush (-2), 2) := by decide +kernel
theorem dX6_edge_12 : decode cX6_edge 12 = .ok (.invokevirtual 52, 3) := by decide +kernel
theorem dX6_edge_15 : decode cX6_edge 15 = .ok (.ireturn, 1) := by decide +kernel
theorem dX6_edge_16 : decode cX6_edge 16 = .ok (.iconst 0, 1) := by decide +kernel
theorem dX6_edge_17 : decode cX6_edge 17 = .ok (.istore_n 2, 1) := by decide +kernel
theorem dX6_edge_18 : decode cX6_edge 18 = .ok (.ldc 9, 2) := by decide +kernel
theorem dX6_edge_20 : decode cX6_edge 20 = .ok (.aload_n 0, 1) := by decide +kernel
theorem dX6_edge_21 : decode cX6_edge 21 = .ok (.getfield 10, 3) := by decide +kernel
theorem dX6_edge_24 : decode cX6_edge 24 = .ok (.iconst (-1), 1) := by decide +kernel
theorem dX6_edge_25 : decode cX6_edge 25 = .ok (.ixor, 1) := by decide +kernel
theorem dX6_edge_26 : decode cX6_edge 26 = .ok (.iand, 1) := by decide +kernel
theorem dX6_edge_27 : decode cX6_edge 27 = .ok (.istore_n 3, 1) := by decide +kernel
theorem dX6_edge_28 : decode cX6_edge 28 = .ok (.iload_n 1, 1) := by decide +kernel
theorem dX6_edge_29 : decode cX6_edge 29 = .ok (.ifCond .ne 57, 3) := by decide +kernel
theorem dX6_edge_32 : decode cX6_edge 32 = .ok (.iconst 0, 1) := by decide +kernel
theorem dX6_edge_33 : decode cX6_edge 33 = .ok (.istore 4, 2) := by decide +kernel
theorem dX6_edge_35 : decode cX6_edge 35 = .ok (.iload 4, 2) := by decide +kernel
theorem dX6_edge_37 : decode cX6_edge 37 = .ok (.bipush 25, 2) := by decide +kernel
theorem dX6_edge_39 : decode cX6_edge 39 = .ok (.if_icmp .ge 45, 3) := by decide +kernel
theorem dX6_edge_42 : decode cX6_edge 42 = .ok (.iload_n 2, 1) := by decide +kernel
theorem dX6_edge_43 : decode cX6_edge 43 = .ok (.aload_n 0, 1) := by decide +kernel
theorem dX6_edge_44 : decode cX6_edge 44 = .ok (.getfield 10, 3) := by decide +kernel
theorem dX6_edge_47 : decode cX6_edge 47 = .ok (.iload 4, 2) := by decide +kernel
theorem dX6_edge_49 : decode cX6_edge 49 = .ok (.invokestatic 72, 3) := by decide +kernel
theorem dX6_edge_52 : decode cX6_edge 52 = .ok (.ifCond .eq 23, 3) := by decide +kernel
theorem dX6_edge_55 : decode cX6_edge 55 = .ok (.iconst 4, 1) := by decide +kernel
theorem dX6_edge_56 : decode cX6_edge 56 = .ok (.iconst 1, 1) := by decide +kernel
theorem dX6_edge_57 : decode cX6_edge 57 = .ok (.iload 4, 2) := by decide +kernel
theorem dX6_edge_59 : decode cX6_edge 59 = .ok (.ishl, 1) := by decide +kernel
theorem dX6_edge_60 : decode cX6_edge 60 = .ok (.invokestatic 69, 3) := by decide +kernel
theorem dX6_edge_63 : decode cX6_edge 63 = .ok (.aload_n 0, 1) := by decide +kernel
theorem dX6_edge_64 : decode cX6_edge 64 = .ok (.getfield 10, 3) := by decide +kernel
theorem dX6_edge_67 : decode cX6_edge 67 = .ok (.iand, 1) := by decide +kernel
theorem dX6_edge_68 : decode cX6_edge 68 = .ok (.invokestatic 82, 3) := by decide +kernel
theorem dX6_edge_71 : decode cX6_edge 71 = .ok (.isub, 1) := by decide +kernel
theorem dX6_edge_72 : decode cX6_edge 72 = .ok (.goto 4, 3) := by decide +kernel
theorem dX6_edge_75 : decode cX6_edge 75 = .ok (.iconst 0, 1) := by decide +kernel
theorem dX6_edge_76 : decode cX6_edge 76 = .ok (.iadd, 1) := by decide +kernel
theorem dX6_edge_77 : decode cX6_edge 77 = .ok (.istore_n 2, 1) := by decide +kernel
theorem dX6_edge_78 : decode cX6_edge 78 = .ok (.iinc 4 1, 3) := by decide +kernel
theorem dX6_edge_81 : decode cX6_edge 81 = .ok (.goto (-46), 3) := by decide +kernel
theorem dX6_edge_84 : decode cX6_edge 84 = .ok (.iload_n 2, 1) := by decide +kernel
theorem dX6_edge_85 : decode cX6_edge 85 = .ok (.ireturn, 1) := by decide +kernel
theorem dX6_edge_86 : decode cX6_edge 86 = .ok (.iload_n 3, 1) := by decide +kernel
theorem dX6_edge_87 : decode cX6_edge 87 = .ok (.istore 4, 2) := by decide +kernel
theorem dX6_edge_89 : decode cX6_edge 89 = .ok (.iload 4, 2) := by decide +kernel
theorem dX6_edge_91 : decode cX6_edge 91 = .ok (.ifCond .eq 46, 3) := by decide +kernel
theorem dX6_edge_94 : decode cX6_edge 94 = .ok (.iload_n 2, 1) := by decide +kernel
theorem dX6_edge_95 : decode cX6_edge 95 = .ok (.iload_n 3, 1) := by decide +kernel
theorem dX6_edge_96 : decode cX6_edge 96 = .ok (.iload 4, 2) := by decide +kernel
theorem dX6_edge_98 : decode cX6_edge 98 = .ok (.invokestatic 76, 3) := by decide +kernel
theorem dX6_edge_101 : decode cX6_edge 101 = .ok (.invokestatic 79, 3) := by decide +kernel
theorem dX6_edge_104 : decode cX6_edge 104 = .ok (.invokestatic 180, 3) := by decide +kernel
theorem dX6_edge_107 : decode cX6_edge 107 = .ok (.iand, 1) := by decide +kernel
theorem dX6_edge_108 : decode cX6_edge 108 = .ok (.ifCond .ne 7, 3) := by decide +kernel
theorem dX6_edge_111 : decode cX6_edge 111 = .ok (.iconst 1, 1) := by decide +kernel
theorem dX6_edge_112 : decode cX6_edge 112 = .ok (.goto 4, 3) := by decide +kernel
theorem dX6_edge_115 : decode cX6_edge 115 = .ok (.iconst 0, 1) := by decide +kernel
theorem dX6_edge_116 : decode cX6_edge 116 = .ok (.iadd, 1) := by decide +kernel
theorem dX6_edge_117 : decode cX6_edge 117 = .ok (.istore_n 2, 1) := by decide +kernel
theorem dX6_edge_118 : decode cX6_edge 118 = .ok (.iload 4, 2) := by decide +kernel
theorem dX6_edge_120 : decode cX6_edge 120 = .ok (.iload_n 3, 1) := by decide +kernel
theorem dX6_edge_121 : decode cX6_edge 121 = .ok (.iload 4, 2) := by decide +kernel
theorem dX6_edge_123 : decode cX6_edge 123 = .ok (.invokestatic 76, 3) := by decide +kernel
theorem dX6_edge_126 : decode cX6_edge 126 = .ok (.invokestatic 79, 3) := by decide +kernel
theorem dX6_edge_129 : decode cX6_edge 129 = .ok (.iconst (-1), 1) := by decide +kernel
theorem dX6_edge_130 : decode cX6_edge 130 = .ok (.ixor, 1) := by decide +kernel
theorem dX6_edge_131 : decode cX6_edge 131 = .ok (.iand, 1) := by decide +kernel
theorem dX6_edge_132 : decode cX6_edge 132 = .ok (.istore 4, 2) := by decide +kernel
theorem dX6_edge_134 : decode cX6_edge 134 = .ok (.goto (-45), 3) := by decide +kernel
theorem dX6_edge_137 : decode cX6_edge 137 = .ok (.iload_n 2, 1) := by decide +kernel
theorem dX6_edge_138 : decode cX6_edge 138 = .ok (.ireturn, 1) := by decide +kernel
theorem dX6_biteFor_0 : decode cX6_biteFor 0 = .ok (.bipush (-9), 2) := by decide +kernel
theorem dX6_biteFor_2 : decode cX6_biteFor 2 = .ok (.istore 4, 2) := by decide +kernel
theorem dX6_biteFor_4 : decode cX6_biteFor 4 = .ok (.iload_n 3, 1) := by decide +kernel
theorem dX6_biteFor_5 : decode cX6_biteFor 5 = .ok (.aload_n 0, 1) := by decide +kernel
theorem dX6_biteFor_6 : decode cX6_biteFor 6 = .ok (.iload_n 1, 1) := by decide +kernel
theorem dX6_biteFor_7 : decode cX6_biteFor 7 = .ok (.iload_n 2, 1) := by decide +kernel
theorem dX6_biteFor_8 : decode cX6_biteFor 8 = .ok (.invokevirtual 98, 3) := by decide +kernel
theorem dX6_biteFor_11 : decode cX6_biteFor 11 = .ok (.imul, 1) := by decide +kernel
theorem dX6_biteFor_12 : decode cX6_biteFor 12 = .ok (.istore 5, 2) := by decide +kernel
theorem dX6_biteFor_14 : decode cX6_biteFor 14 = .ok (.iconst 0, 1) := by decide +kernel
theorem dX6_biteFor_15 : decode cX6_biteFor 15 = .ok (.istore 6, 2) := by decide +kernel
theorem dX6_biteFor_17 : decode cX6_biteFor 17 = .ok (.iload 6, 2) := by decide +kernel
theorem dX6_biteFor_19 : decode cX6_biteFor 19 = .ok (.iconst 4, 1) := by decide +kernel
theorem dX6_biteFor_20 : decode cX6_biteFor 20 = .ok (.if_icmp .ge 83, 3) := by decide +kernel
theorem dX6_biteFor_23 : decode cX6_biteFor 23 = .ok (.iconst 0, 1) := by decide +kernel
theorem dX6_biteFor_24 : decode cX6_biteFor 24 = .ok (.istore 7, 2) := by decide +kernel
theorem dX6_biteFor_26 : decode cX6_biteFor 26 = .ok (.iload 7, 2) := by decide +kernel
theorem dX6_biteFor_28 : decode cX6_biteFor 28 = .ok (.bipush 25, 2) := by decide +kernel
theorem dX6_biteFor_30 : decode cX6_biteFor 30 = .ok (.if_icmp .ge 67, 3) := by decide +kernel
theorem dX6_biteFor_33 : decode cX6_biteFor 33 = .ok (.iload_n 1, 1) := by decide +kernel
theorem dX6_biteFor_34 : decode cX6_biteFor 34 = .ok (.iload 6, 2) := by decide +kernel
theorem dX6_biteFor_36 : decode cX6_biteFor 36 = .ok (.iload 7, 2) := by decide +kernel
theorem dX6_biteFor_38 : decode cX6_biteFor 38 = .ok (.invokestatic 134, 3) := by decide +kernel
theorem dX6_biteFor_41 : decode cX6_biteFor 41 = .ok (.ifCond .ne 6, 3) := by decide +kernel
theorem dX6_biteFor_44 : decode cX6_biteFor 44 = .ok (.goto 47, 3) := by decide +kernel
theorem dX6_biteFor_47 : decode cX6_biteFor 47 = .ok (.iload_n 3, 1) := by decide +kernel
theorem dX6_biteFor_48 : decode cX6_biteFor 48 = .ok (.aload_n 0, 1) := by decide +kernel
theorem dX6_biteFor_49 : decode cX6_biteFor 49 = .ok (.iload_n 1, 1) := by decide +kernel
theorem dX6_biteFor_50 : decode cX6_biteFor 50 = .ok (.iload 6, 2) := by decide +kernel
theorem dX6_biteFor_52 : decode cX6_biteFor 52 = .ok (.iload 7, 2) := by decide +kernel
theorem dX6_biteFor_54 : decode cX6_biteFor 54 = .ok (.invokestatic 65, 3) := by decide +kernel
theorem dX6_biteFor_57 : decode cX6_biteFor 57 = .ok (.iconst (-1), 1) := by decide +kernel
theorem dX6_biteFor_58 : decode cX6_biteFor 58 = .ok (.ixor, 1) := by decide +kernel
theorem dX6_biteFor_59 : decode cX6_biteFor 59 = .ok (.iand, 1) := by decide +kernel
theorem dX6_biteFor_60 : decode cX6_biteFor 60 = .ok (.iload_n 2, 1) := by decide +kernel
theorem dX6_biteFor_61 : decode cX6_biteFor 61 = .ok (.invokevirtual 98, 3) := by decide +kernel
theorem dX6_biteFor_64 : decode cX6_biteFor 64 = .ok (.imul, 1) := by decide +kernel
theorem dX6_biteFor_65 : decode cX6_biteFor 65 = .ok (.istore 8, 2) := by decide +kernel
theorem dX6_biteFor_67 : decode cX6_biteFor 67 = .ok (.iload 8, 2) := by decide +kernel
theorem dX6_biteFor_69 : decode cX6_biteFor 69 = .ok (.iload 5, 2) := by decide +kernel
theorem dX6_biteFor_71 : decode cX6_biteFor 71 = .ok (.if_icmp .gt 6, 3) := by decide +kernel
theorem dX6_biteFor_74 : decode cX6_biteFor 74 = .ok (.goto 17, 3) := by decide +kernel
theorem dX6_biteFor_77 : decode cX6_biteFor 77 = .ok (.bipush 100, 2) := by decide +kernel
theorem dX6_biteFor_79 : decode cX6_biteFor 79 = .ok (.iload 6, 2) := by decide +kernel
theorem dX6_biteFor_81 : decode cX6_biteFor 81 = .ok (.imul, 1) := by decide +kernel
theorem dX6_biteFor_82 : decode cX6_biteFor 82 = .ok (.iload 7, 2) := by decide +kernel
theorem dX6_biteFor_84 : decode cX6_biteFor 84 = .ok (.iadd, 1) := by decide +kernel
theorem dX6_biteFor_85 : decode cX6_biteFor 85 = .ok (.istore 4, 2) := by decide +kernel
theorem dX6_biteFor_87 : decode cX6_biteFor 87 = .ok (.iload 8, 2) := by decide +kernel
theorem dX6_biteFor_89 : decode cX6_biteFor 89 = .ok (.istore 5, 2) := by decide +kernel
theorem dX6_biteFor_91 : decode cX6_biteFor 91 = .ok (.iinc 7 1, 3) := by decide +kernel
theorem dX6_biteFor_94 : decode cX6_biteFor 94 = .ok (.goto (-68), 3) := by decide +kernel
theorem dX6_biteFor_97 : decode cX6_biteFor 97 = .ok (.iinc 6 1, 3) := by decide +kernel
theorem dX6_biteFor_100 : decode cX6_biteFor 100 = .ok (.goto (-83), 3) := by decide +kernel
theorem dX6_biteFor_103 : decode cX6_biteFor 103 = .ok (.iload 4, 2) := by decide +kernel
theorem dX6_biteFor_105 : decode cX6_biteFor 105 = .ok (.ireturn, 1) := by decide +kernel
theorem dX6_after_0 : decode cX6_after 0 = .ok (.iload_n 1, 1) := by decide +kernel
theorem dX6_after_1 : decode cX6_after 1 = .ok (.ifCond .ge 7, 3) := by decide +kernel
theorem dX6_after_4 : decode cX6_after 4 = .ok (.iload_n 0, 1) := by decide +kernel
theorem dX6_after_5 : decode cX6_after 5 = .ok (.goto 18, 3) := by decide +kernel
theorem dX6_after_8 : decode cX6_after 8 = .ok (.iload_n 0, 1) := by decide +kernel
theorem dX6_after_9 : decode cX6_after 9 = .ok (.iload_n 1, 1) := by decide +kernel
theorem dX6_after_10 : decode cX6_after 10 = .ok (.bipush 100, 2) := by decide +kernel
theorem dX6_after_12 : decode cX6_after 12 = .ok (.idiv, 1) := by decide +kernel
theorem dX6_after_13 : decode cX6_after 13 = .ok (.iload_n 1, 1) := by decide +kernel
theorem dX6_after_14 : decode cX6_after 14 = .ok (.bipush 100, 2) := by decide +kernel
theorem dX6_after_16 : decode cX6_after 16 = .ok (.irem, 1) := by decide +kernel
theorem dX6_after_17 : decode cX6_after 17 = .ok (.invokestatic 65, 3) := by decide +kernel
theorem dX6_after_20 : decode cX6_after 20 = .ok (.iconst (-1), 1) := by decide +kernel
theorem dX6_after_21 : decode cX6_after 21 = .ok (.ixor, 1) := by decide +kernel
theorem dX6_after_22 : decode cX6_after 22 = .ok (.iand, 1) := by decide +kernel
theorem dX6_after_23 : decode cX6_after 23 = .ok (.ireturn, 1) := by decide +kernel
theorem dX6_biteTold_0 : decode cX6_biteTold 0 = .ok (.aload_n 0, 1) := by decide +kernel
theorem dX6_biteTold_1 : decode cX6_biteTold 1 = .ok (.iload_n 1, 1) := by decide +kernel
theorem dX6_biteTold_2 : decode cX6_biteTold 2 = .ok (.invokevirtual 168, 3) := by decide +kernel
theorem dX6_biteTold_5 : decode cX6_biteTold 5 = .ok (.ifCond .ne 9, 3) := by decide +kernel
theorem dX6_biteTold_8 : decode cX6_biteTold 8 = .ok (.aload_n 0, 1) := by decide +kernel
theorem dX6_biteTold_9 : decode cX6_biteTold 9 = .ok (.iconst (-1), 1) := by decide +kernel
theorem dX6_biteTold_10 : decode cX6_biteTold 10 = .ok (.invokevirtual 52, 3) := by decide +kernel
theorem dX6_biteTold_13 : decode cX6_biteTold 13 = .ok (.ireturn, 1) := by decide +kernel
theorem dX6_biteTold_14 : decode cX6_biteTold 14 = .ok (.iload_n 2, 1) := by decide +kernel
theorem dX6_biteTold_15 : decode cX6_biteTold 15 = .ok (.iconst 0, 1) := by decide +kernel
theorem dX6_biteTold_16 : decode cX6_biteTold 16 = .ok (.iconst 1, 1) := by decide +kernel
theorem dX6_biteTold_17 : decode cX6_biteTold 17 = .ok (.invokestatic 58, 3) := by decide +kernel
theorem dX6_biteTold_20 : decode cX6_biteTold 20 = .ok (.ifCond .ne 10, 3) := by decide +kernel
theorem dX6_biteTold_23 : decode cX6_biteTold 23 = .ok (.aload_n 0, 1) := by decide +kernel
theorem dX6_biteTold_24 : decode cX6_biteTold 24 = .ok (.bipush (-2), 2) := by decide +kernel
theorem dX6_biteTold_26 : decode cX6_biteTold 26 = .ok (.invokevirtual 52, 3) := by decide +kernel
theorem dX6_biteTold_29 : decode cX6_biteTold 29 = .ok (.ireturn, 1) := by decide +kernel
theorem dX6_biteTold_30 : decode cX6_biteTold 30 = .ok (.aload_n 0, 1) := by decide +kernel
theorem dX6_biteTold_31 : decode cX6_biteTold 31 = .ok (.aload_n 0, 1) := by decide +kernel
theorem dX6_biteTold_32 : decode cX6_biteTold 32 = .ok (.getfield 10, 3) := by decide +kernel
theorem dX6_biteTold_35 : decode cX6_biteTold 35 = .ok (.iload_n 1, 1) := by decide +kernel
theorem dX6_biteTold_36 : decode cX6_biteTold 36 = .ok (.iload_n 3, 1) := by decide +kernel
theorem dX6_biteTold_37 : decode cX6_biteTold 37 = .ok (.invokevirtual 183, 3) := by decide +kernel
theorem dX6_biteTold_40 : decode cX6_biteTold 40 = .ok (.istore 4, 2) := by decide +kernel
theorem dX6_biteTold_42 : decode cX6_biteTold 42 = .ok (.iload 4, 2) := by decide +kernel
theorem dX6_biteTold_44 : decode cX6_biteTold 44 = .ok (.ifCond .lt 7, 3) := by decide +kernel
theorem dX6_biteTold_47 : decode cX6_biteTold 47 = .ok (.iload_n 2, 1) := by decide +kernel
theorem dX6_biteTold_48 : decode cX6_biteTold 48 = .ok (.ifCond .ne 8, 3) := by decide +kernel
theorem dX6_biteTold_51 : decode cX6_biteTold 51 = .ok (.iload 4, 2) := by decide +kernel
theorem dX6_biteTold_53 : decode cX6_biteTold 53 = .ok (.goto 17, 3) := by decide +kernel
theorem dX6_biteTold_56 : decode cX6_biteTold 56 = .ok (.aload_n 0, 1) := by decide +kernel
theorem dX6_biteTold_57 : decode cX6_biteTold 57 = .ok (.aload_n 0, 1) := by decide +kernel
theorem dX6_biteTold_58 : decode cX6_biteTold 58 = .ok (.getfield 10, 3) := by decide +kernel
theorem dX6_biteTold_61 : decode cX6_biteTold 61 = .ok (.iload 4, 2) := by decide +kernel
theorem dX6_biteTold_63 : decode cX6_biteTold 63 = .ok (.invokestatic 186, 3) := by decide +kernel
theorem dX6_biteTold_66 : decode cX6_biteTold 66 = .ok (.iload_n 1, 1) := by decide +kernel
theorem dX6_biteTold_67 : decode cX6_biteTold 67 = .ok (.invokevirtual 98, 3) := by decide +kernel
theorem dX6_biteTold_70 : decode cX6_biteTold 70 = .ok (.ireturn, 1) := by decide +kernel
theorem dX6_best_0 : decode cX6_best 0 = .ok (.aload_n 0, 1) := by decide +kernel
theorem dX6_best_1 : decode cX6_best 1 = .ok (.iload_n 1, 1) := by decide +kernel
theorem dX6_best_2 : decode cX6_best 2 = .ok (.iload_n 2, 1) := by decide +kernel
theorem dX6_best_3 : decode cX6_best 3 = .ok (.iconst 1, 1) := by decide +kernel
theorem dX6_best_4 : decode cX6_best 4 = .ok (.invokevirtual 189, 3) := by decide +kernel
theorem dX6_best_7 : decode cX6_best 7 = .ok (.ireturn, 1) := by decide +kernel
theorem dX6_worst_0 : decode cX6_worst 0 = .ok (.aload_n 0, 1) := by decide +kernel
theorem dX6_worst_1 : decode cX6_worst 1 = .ok (.iload_n 1, 1) := by decide +kernel
theorem dX6_worst_2 : decode cX6_worst 2 = .ok (.iload_n 2, 1) := by decide +kernel
theorem dX6_worst_3 : decode cX6_worst 3 = .ok (.iconst (-1), 1) := by decide +kernel
theorem dX6_worst_4 : decode cX6_worst 4 = .ok (.invokevirtual 189, 3) := by decide +kernel
theorem dX6_worst_7 : decode cX6_worst 7 = .ok (.ireturn, 1) := by decide +kernel
theorem dX6_isSoBy_0 : decode cX6_isSoBy 0 = .ok (.iload 4, 2) := by decide +kernel
theorem dX6_isSoBy_2 : decode cX6_isSoBy 2 = .ok (.ifCond .ne 19, 3) := by decide +kernel
theorem dX6_isSoBy_5 : decode cX6_isSoBy 5 = .ok (.aload_n 0, 1) := by decide +kernel
theorem dX6_isSoBy_6 : decode cX6_isSoBy 6 = .ok (.iload_n 1, 1) := by decide +kernel
theorem dX6_isSoBy_7 : decode cX6_isSoBy 7 = .ok (.iload_n 2, 1) := by decide +kernel
theorem dX6_isSoBy_8 : decode cX6_isSoBy 8 = .ok (.invokevirtual 98, 3) := by decide +kernel
theorem dX6_isSoBy_11 : decode cX6_isSoBy 11 = .ok (.iload_n 3, 1) := by decide +kernel
theorem dX6_isSoBy_12 : decode cX6_isSoBy 12 = .ok (.if_icmp .lt 7, 3) := by decide +kernel
theorem dX6_isSoBy_15 : decode cX6_isSoBy 15 = .ok (.iconst 1, 1) := by decide +kernel
theorem dX6_isSoBy_16 : decode cX6_isSoBy 16 = .ok (.goto 4, 3) := by decide +kernel
theorem dX6_isSoBy_19 : decode cX6_isSoBy 19 = .ok (.iconst 0, 1) := by decide +kernel
theorem dX6_isSoBy_20 : decode cX6_isSoBy 20 = .ok (.ireturn, 1) := by decide +kernel
theorem dX6_isSoBy_21 : decode cX6_isSoBy 21 = .ok (.iconst 0, 1) := by decide +kernel
theorem dX6_isSoBy_22 : decode cX6_isSoBy 22 = .ok (.istore 5, 2) := by decide +kernel
theorem dX6_isSoBy_24 : decode cX6_isSoBy 24 = .ok (.iload 5, 2) := by decide +kernel
theorem dX6_isSoBy_26 : decode cX6_isSoBy 26 = .ok (.iconst 4, 1) := by decide +kernel
theorem dX6_isSoBy_27 : decode cX6_isSoBy 27 = .ok (.if_icmp .ge 62, 3) := by decide +kernel
theorem dX6_isSoBy_30 : decode cX6_isSoBy 30 = .ok (.iconst 0, 1) := by decide +kernel
theorem dX6_isSoBy_31 : decode cX6_isSoBy 31 = .ok (.istore 6, 2) := by decide +kernel
theorem dX6_isSoBy_33 : decode cX6_isSoBy 33 = .ok (.iload 6, 2) := by decide +kernel
theorem dX6_isSoBy_35 : decode cX6_isSoBy 35 = .ok (.bipush 25, 2) := by decide +kernel
theorem dX6_isSoBy_37 : decode cX6_isSoBy 37 = .ok (.if_icmp .ge 46, 3) := by decide +kernel
theorem dX6_isSoBy_40 : decode cX6_isSoBy 40 = .ok (.iload_n 1, 1) := by decide +kernel
theorem dX6_isSoBy_41 : decode cX6_isSoBy 41 = .ok (.iload 5, 2) := by decide +kernel
theorem dX6_isSoBy_43 : decode cX6_isSoBy 43 = .ok (.iload 6, 2) := by decide +kernel
theorem dX6_isSoBy_45 : decode cX6_isSoBy 45 = .ok (.invokestatic 134, 3) := by decide +kernel
theorem dX6_isSoBy_48 : decode cX6_isSoBy 48 = .ok (.ifCond .eq 29, 3) := by decide +kernel
theorem dX6_isSoBy_51 : decode cX6_isSoBy 51 = .ok (.aload_n 0, 1) := by decide +kernel
theorem dX6_isSoBy_52 : decode cX6_isSoBy 52 = .ok (.iload_n 1, 1) := by decide +kernel
theorem dX6_isSoBy_53 : decode cX6_isSoBy 53 = .ok (.iload 5, 2) := by decide +kernel
theorem dX6_isSoBy_55 : decode cX6_isSoBy 55 = .ok (.iload 6, 2) := by decide +kernel
theorem dX6_isSoBy_57 : decode cX6_isSoBy 57 = .ok (.invokestatic 65, 3) := by decide +kernel
theorem dX6_isSoBy_60 : decode cX6_isSoBy 60 = .ok (.iconst (-1), 1) := by decide +kernel
theorem dX6_isSoBy_61 : decode cX6_isSoBy 61 = .ok (.ixor, 1) := by decide +kernel
theorem dX6_isSoBy_62 : decode cX6_isSoBy 62 = .ok (.iand, 1) := by decide +kernel
theorem dX6_isSoBy_63 : decode cX6_isSoBy 63 = .ok (.iload_n 2, 1) := by decide +kernel
theorem dX6_isSoBy_64 : decode cX6_isSoBy 64 = .ok (.iload_n 3, 1) := by decide +kernel
theorem dX6_isSoBy_65 : decode cX6_isSoBy 65 = .ok (.iload 4, 2) := by decide +kernel
theorem dX6_isSoBy_67 : decode cX6_isSoBy 67 = .ok (.iconst 1, 1) := by decide +kernel
theorem dX6_isSoBy_68 : decode cX6_isSoBy 68 = .ok (.isub, 1) := by decide +kernel
theorem dX6_isSoBy_69 : decode cX6_isSoBy 69 = .ok (.invokevirtual 192, 3) := by decide +kernel
theorem dX6_isSoBy_72 : decode cX6_isSoBy 72 = .ok (.ifCond .eq 5, 3) := by decide +kernel
theorem dX6_isSoBy_75 : decode cX6_isSoBy 75 = .ok (.iconst 1, 1) := by decide +kernel
theorem dX6_isSoBy_76 : decode cX6_isSoBy 76 = .ok (.ireturn, 1) := by decide +kernel
theorem dX6_isSoBy_77 : decode cX6_isSoBy 77 = .ok (.iinc 6 1, 3) := by decide +kernel
theorem dX6_isSoBy_80 : decode cX6_isSoBy 80 = .ok (.goto (-47), 3) := by decide +kernel
theorem dX6_isSoBy_83 : decode cX6_isSoBy 83 = .ok (.iinc 5 1, 3) := by decide +kernel
theorem dX6_isSoBy_86 : decode cX6_isSoBy 86 = .ok (.goto (-62), 3) := by decide +kernel
theorem dX6_isSoBy_89 : decode cX6_isSoBy 89 = .ok (.iconst 0, 1) := by decide +kernel
theorem dX6_isSoBy_90 : decode cX6_isSoBy 90 = .ok (.ireturn, 1) := by decide +kernel
theorem dX6_firstSo_0 : decode cX6_firstSo 0 = .ok (.iconst 0, 1) := by decide +kernel
theorem dX6_firstSo_1 : decode cX6_firstSo 1 = .ok (.istore 4, 2) := by decide +kernel
theorem dX6_firstSo_3 : decode cX6_firstSo 3 = .ok (.iload 4, 2) := by decide +kernel
theorem dX6_firstSo_5 : decode cX6_firstSo 5 = .ok (.iconst 4, 1) := by decide +kernel
theorem dX6_firstSo_6 : decode cX6_firstSo 6 = .ok (.if_icmp .ge 74, 3) := by decide +kernel
theorem dX6_firstSo_9 : decode cX6_firstSo 9 = .ok (.iconst 0, 1) := by decide +kernel
theorem dX6_firstSo_10 : decode cX6_firstSo 10 = .ok (.istore 5, 2) := by decide +kernel
theorem dX6_firstSo_12 : decode cX6_firstSo 12 = .ok (.iload 5, 2) := by decide +kernel
theorem dX6_firstSo_14 : decode cX6_firstSo 14 = .ok (.bipush 25, 2) := by decide +kernel
theorem dX6_firstSo_16 : decode cX6_firstSo 16 = .ok (.if_icmp .ge 58, 3) := by decide +kernel
theorem dX6_firstSo_19 : decode cX6_firstSo 19 = .ok (.aload_n 0, 1) := by decide +kernel
theorem dX6_firstSo_20 : decode cX6_firstSo 20 = .ok (.getfield 10, 3) := by decide +kernel
theorem dX6_firstSo_23 : decode cX6_firstSo 23 = .ok (.iload 4, 2) := by decide +kernel
theorem dX6_firstSo_25 : decode cX6_firstSo 25 = .ok (.iload 5, 2) := by decide +kernel
theorem dX6_firstSo_27 : decode cX6_firstSo 27 = .ok (.invokestatic 134, 3) := by decide +kernel
theorem dX6_firstSo_30 : decode cX6_firstSo 30 = .ok (.ifCond .eq 38, 3) := by decide +kernel
theorem dX6_firstSo_33 : decode cX6_firstSo 33 = .ok (.aload_n 0, 1) := by decide +kernel
theorem dX6_firstSo_34 : decode cX6_firstSo 34 = .ok (.aload_n 0, 1) := by decide +kernel
theorem dX6_firstSo_35 : decode cX6_firstSo 35 = .ok (.getfield 10, 3) := by decide +kernel
theorem dX6_firstSo_38 : decode cX6_firstSo 38 = .ok (.iload 4, 2) := by decide +kernel
theorem dX6_firstSo_40 : decode cX6_firstSo 40 = .ok (.iload 5, 2) := by decide +kernel
theorem dX6_firstSo_42 : decode cX6_firstSo 42 = .ok (.invokestatic 65, 3) := by decide +kernel
theorem dX6_firstSo_45 : decode cX6_firstSo 45 = .ok (.iconst (-1), 1) := by decide +kernel
theorem dX6_firstSo_46 : decode cX6_firstSo 46 = .ok (.ixor, 1) := by decide +kernel
theorem dX6_firstSo_47 : decode cX6_firstSo 47 = .ok (.iand, 1) := by decide +kernel
theorem dX6_firstSo_48 : decode cX6_firstSo 48 = .ok (.iload_n 1, 1) := by decide +kernel
theorem dX6_firstSo_49 : decode cX6_firstSo 49 = .ok (.iload_n 2, 1) := by decide +kernel
theorem dX6_firstSo_50 : decode cX6_firstSo 50 = .ok (.iload_n 3, 1) := by decide +kernel
theorem dX6_firstSo_51 : decode cX6_firstSo 51 = .ok (.iconst 1, 1) := by decide +kernel
theorem dX6_firstSo_52 : decode cX6_firstSo 52 = .ok (.isub, 1) := by decide +kernel
theorem dX6_firstSo_53 : decode cX6_firstSo 53 = .ok (.invokevirtual 192, 3) := by decide +kernel
theorem dX6_firstSo_56 : decode cX6_firstSo 56 = .ok (.ifCond .eq 12, 3) := by decide +kernel
theorem dX6_firstSo_59 : decode cX6_firstSo 59 = .ok (.bipush 100, 2) := by decide +kernel
theorem dX6_firstSo_61 : decode cX6_firstSo 61 = .ok (.iload 4, 2) := by decide +kernel
theorem dX6_firstSo_63 : decode cX6_firstSo 63 = .ok (.imul, 1) := by decide +kernel
theorem dX6_firstSo_64 : decode cX6_firstSo 64 = .ok (.iload 5, 2) := by decide +kernel
theorem dX6_firstSo_66 : decode cX6_firstSo 66 = .ok (.iadd, 1) := by decide +kernel
theorem dX6_firstSo_67 : decode cX6_firstSo 67 = .ok (.ireturn, 1) := by decide +kernel
theorem dX6_firstSo_68 : decode cX6_firstSo 68 = .ok (.iinc 5 1, 3) := by decide +kernel
theorem dX6_firstSo_71 : decode cX6_firstSo 71 = .ok (.goto (-59), 3) := by decide +kernel
theorem dX6_firstSo_74 : decode cX6_firstSo 74 = .ok (.iinc 4 1, 3) := by decide +kernel
theorem dX6_firstSo_77 : decode cX6_firstSo 77 = .ok (.goto (-74), 3) := by decide +kernel
theorem dX6_firstSo_80 : decode cX6_firstSo 80 = .ok (.bipush (-9), 2) := by decide +kernel
theorem dX6_firstSo_82 : decode cX6_firstSo 82 = .ok (.ireturn, 1) := by decide +kernel
theorem dX6_fewest_0 : decode cX6_fewest 0 = .ok (.aload_n 0, 1) := by decide +kernel
theorem dX6_fewest_1 : decode cX6_fewest 1 = .ok (.iload_n 1, 1) := by decide +kernel
theorem dX6_fewest_2 : decode cX6_fewest 2 = .ok (.invokevirtual 168, 3) := by decide +kernel
theorem dX6_fewest_5 : decode cX6_fewest 5 = .ok (.ifCond .eq 12, 3) := by decide +kernel
theorem dX6_fewest_8 : decode cX6_fewest 8 = .ok (.iload_n 2, 1) := by decide +kernel
theorem dX6_fewest_9 : decode cX6_fewest 9 = .ok (.bipush 40, 2) := by decide +kernel
theorem dX6_fewest_11 : decode cX6_fewest 11 = .ok (.invokestatic 171, 3) := by decide +kernel
theorem dX6_fewest_14 : decode cX6_fewest 14 = .ok (.goto 4, 3) := by decide +kernel
theorem dX6_fewest_17 : decode cX6_fewest 17 = .ok (.iconst (-1), 1) := by decide +kernel
theorem dX6_fewest_18 : decode cX6_fewest 18 = .ok (.istore 4, 2) := by decide +kernel
theorem dX6_fewest_20 : decode cX6_fewest 20 = .ok (.iload 4, 2) := by decide +kernel
theorem dX6_fewest_22 : decode cX6_fewest 22 = .ok (.ifCond .ne 16, 3) := by decide +kernel
theorem dX6_fewest_25 : decode cX6_fewest 25 = .ok (.iload_n 3, 1) := by decide +kernel
theorem dX6_fewest_26 : decode cX6_fewest 26 = .ok (.iconst 0, 1) := by decide +kernel
theorem dX6_fewest_27 : decode cX6_fewest 27 = .ok (.iconst 1, 1) := by decide +kernel
theorem dX6_fewest_28 : decode cX6_fewest 28 = .ok (.invokestatic 58, 3) := by decide +kernel
theorem dX6_fewest_31 : decode cX6_fewest 31 = .ok (.ifCond .ne 7, 3) := by decide +kernel
theorem dX6_fewest_34 : decode cX6_fewest 34 = .ok (.bipush (-2), 2) := by decide +kernel
theorem dX6_fewest_36 : decode cX6_fewest 36 = .ok (.istore 4, 2) := by decide +kernel
theorem dX6_fewest_38 : decode cX6_fewest 38 = .ok (.iload 4, 2) := by decide +kernel
theorem dX6_fewest_40 : decode cX6_fewest 40 = .ok (.ifCond .eq 10, 3) := by decide +kernel
theorem dX6_fewest_43 : decode cX6_fewest 43 = .ok (.aload_n 0, 1) := by decide +kernel
theorem dX6_fewest_44 : decode cX6_fewest 44 = .ok (.iload 4, 2) := by decide +kernel
theorem dX6_fewest_46 : decode cX6_fewest 46 = .ok (.invokevirtual 52, 3) := by decide +kernel
theorem dX6_fewest_49 : decode cX6_fewest 49 = .ok (.ireturn, 1) := by decide +kernel
theorem dX6_fewest_50 : decode cX6_fewest 50 = .ok (.iconst 0, 1) := by decide +kernel
theorem dX6_fewest_51 : decode cX6_fewest 51 = .ok (.istore 5, 2) := by decide +kernel
theorem dX6_fewest_53 : decode cX6_fewest 53 = .ok (.iload 5, 2) := by decide +kernel
theorem dX6_fewest_55 : decode cX6_fewest 55 = .ok (.iconst 3, 1) := by decide +kernel
theorem dX6_fewest_56 : decode cX6_fewest 56 = .ok (.if_icmp .ge 52, 3) := by decide +kernel
theorem dX6_fewest_59 : decode cX6_fewest 59 = .ok (.aload_n 0, 1) := by decide +kernel
theorem dX6_fewest_60 : decode cX6_fewest 60 = .ok (.aload_n 0, 1) := by decide +kernel
theorem dX6_fewest_61 : decode cX6_fewest 61 = .ok (.getfield 10, 3) := by decide +kernel
theorem dX6_fewest_64 : decode cX6_fewest 64 = .ok (.iload_n 1, 1) := by decide +kernel
theorem dX6_fewest_65 : decode cX6_fewest 65 = .ok (.iload_n 2, 1) := by decide +kernel
theorem dX6_fewest_66 : decode cX6_fewest 66 = .ok (.iload 5, 2) := by decide +kernel
theorem dX6_fewest_68 : decode cX6_fewest 68 = .ok (.invokevirtual 192, 3) := by decide +kernel
theorem dX6_fewest_71 : decode cX6_fewest 71 = .ok (.ifCond .eq 31, 3) := by decide +kernel
theorem dX6_fewest_74 : decode cX6_fewest 74 = .ok (.iload_n 3, 1) := by decide +kernel
theorem dX6_fewest_75 : decode cX6_fewest 75 = .ok (.ifCond .ne 8, 3) := by decide +kernel
theorem dX6_fewest_78 : decode cX6_fewest 78 = .ok (.iload 5, 2) := by decide +kernel
theorem dX6_fewest_80 : decode cX6_fewest 80 = .ok (.goto 21, 3) := by decide +kernel
theorem dX6_fewest_83 : decode cX6_fewest 83 = .ok (.iload 5, 2) := by decide +kernel
theorem dX6_fewest_85 : decode cX6_fewest 85 = .ok (.ifCond .ne 8, 3) := by decide +kernel
theorem dX6_fewest_88 : decode cX6_fewest 88 = .ok (.bipush (-9), 2) := by decide +kernel
theorem dX6_fewest_90 : decode cX6_fewest 90 = .ok (.goto 11, 3) := by decide +kernel
theorem dX6_fewest_93 : decode cX6_fewest 93 = .ok (.aload_n 0, 1) := by decide +kernel
theorem dX6_fewest_94 : decode cX6_fewest 94 = .ok (.iload_n 1, 1) := by decide +kernel
theorem dX6_fewest_95 : decode cX6_fewest 95 = .ok (.iload_n 2, 1) := by decide +kernel
theorem dX6_fewest_96 : decode cX6_fewest 96 = .ok (.iload 5, 2) := by decide +kernel
theorem dX6_fewest_98 : decode cX6_fewest 98 = .ok (.invokevirtual 196, 3) := by decide +kernel
theorem dX6_fewest_101 : decode cX6_fewest 101 = .ok (.ireturn, 1) := by decide +kernel
theorem dX6_fewest_102 : decode cX6_fewest 102 = .ok (.iinc 5 1, 3) := by decide +kernel
theorem dX6_fewest_105 : decode cX6_fewest 105 = .ok (.goto (-52), 3) := by decide +kernel
theorem dX6_fewest_108 : decode cX6_fewest 108 = .ok (.bipush (-9), 2) := by decide +kernel
theorem dX6_fewest_110 : decode cX6_fewest 110 = .ok (.ireturn, 1) := by decide +kernel
theorem dX6_safe_0 : decode cX6_safe 0 = .ok (.iconst 0, 1) := by decide +kernel
theorem dX6_safe_1 : decode cX6_safe 1 = .ok (.istore_n 1, 1) := by decide +kernel
theorem dX6_safe_2 : decode cX6_safe 2 = .ok (.iconst 0, 1) := by decide +kernel
theorem dX6_safe_3 : decode cX6_safe 3 = .ok (.istore_n 2, 1) := by decide +kernel
theorem dX6_safe_4 : decode cX6_safe 4 = .ok (.iload_n 2, 1) := by decide +kernel
theorem dX6_safe_5 : decode cX6_safe 5 = .ok (.iconst 4, 1) := by decide +kernel
theorem dX6_safe_6 : decode cX6_safe 6 = .ok (.if_icmp .ge 108, 3) := by decide +kernel
theorem dX6_safe_9 : decode cX6_safe 9 = .ok (.iconst 0, 1) := by decide +kernel
theorem dX6_safe_10 : decode cX6_safe 10 = .ok (.istore_n 3, 1) := by decide +kernel
theorem dX6_safe_11 : decode cX6_safe 11 = .ok (.iload_n 3, 1) := by decide +kernel
theorem dX6_safe_12 : decode cX6_safe 12 = .ok (.bipush 25, 2) := by decide +kernel
theorem dX6_safe_14 : decode cX6_safe 14 = .ok (.if_icmp .ge 94, 3) := by decide +kernel
theorem dX6_safe_17 : decode cX6_safe 17 = .ok (.aload_n 0, 1) := by decide +kernel
theorem dX6_safe_18 : decode cX6_safe 18 = .ok (.getfield 10, 3) := by decide +kernel
theorem dX6_safe_21 : decode cX6_safe 21 = .ok (.iload_n 2, 1) := by decide +kernel
theorem dX6_safe_22 : decode cX6_safe 22 = .ok (.iload_n 3, 1) := by decide +kernel
theorem dX6_safe_23 : decode cX6_safe 23 = .ok (.invokestatic 134, 3) := by decide +kernel
theorem dX6_safe_26 : decode cX6_safe 26 = .ok (.istore 4, 2) := by decide +kernel
theorem dX6_safe_28 : decode cX6_safe 28 = .ok (.iconst 0, 1) := by decide +kernel
theorem dX6_safe_29 : decode cX6_safe 29 = .ok (.istore 5, 2) := by decide +kernel
theorem dX6_safe_31 : decode cX6_safe 31 = .ok (.iload 5, 2) := by decide +kernel
theorem dX6_safe_33 : decode cX6_safe 33 = .ok (.aload_n 0, 1) := by decide +kernel
theorem dX6_safe_34 : decode cX6_safe 34 = .ok (.getfield 62, 3) := by decide +kernel
theorem dX6_safe_37 : decode cX6_safe 37 = .ok (.if_icmp .ge 52, 3) := by decide +kernel
theorem dX6_safe_40 : decode cX6_safe 40 = .ok (.iload 4, 2) := by decide +kernel
theorem dX6_safe_42 : decode cX6_safe 42 = .ok (.ifCond .eq 47, 3) := by decide +kernel
theorem dX6_safe_45 : decode cX6_safe 45 = .ok (.aload_n 0, 1) := by decide +kernel
theorem dX6_safe_46 : decode cX6_safe 46 = .ok (.aload_n 0, 1) := by decide +kernel
theorem dX6_safe_47 : decode cX6_safe 47 = .ok (.getfield 10, 3) := by decide +kernel
theorem dX6_safe_50 : decode cX6_safe 50 = .ok (.iload_n 2, 1) := by decide +kernel
theorem dX6_safe_51 : decode cX6_safe 51 = .ok (.iload_n 3, 1) := by decide +kernel
theorem dX6_safe_52 : decode cX6_safe 52 = .ok (.invokestatic 65, 3) := by decide +kernel
theorem dX6_safe_55 : decode cX6_safe 55 = .ok (.iconst (-1), 1) := by decide +kernel
theorem dX6_safe_56 : decode cX6_safe 56 = .ok (.ixor, 1) := by decide +kernel
theorem dX6_safe_57 : decode cX6_safe 57 = .ok (.iand, 1) := by decide +kernel
theorem dX6_safe_58 : decode cX6_safe 58 = .ok (.iload 5, 2) := by decide +kernel
theorem dX6_safe_60 : decode cX6_safe 60 = .ok (.invokevirtual 98, 3) := by decide +kernel
theorem dX6_safe_63 : decode cX6_safe 63 = .ok (.aload_n 0, 1) := by decide +kernel
theorem dX6_safe_64 : decode cX6_safe 64 = .ok (.aload_n 0, 1) := by decide +kernel
theorem dX6_safe_65 : decode cX6_safe 65 = .ok (.getfield 10, 3) := by decide +kernel
theorem dX6_safe_68 : decode cX6_safe 68 = .ok (.iload 5, 2) := by decide +kernel
theorem dX6_safe_70 : decode cX6_safe 70 = .ok (.invokevirtual 98, 3) := by decide +kernel
theorem dX6_safe_73 : decode cX6_safe 73 = .ok (.if_icmp .ne 7, 3) := by decide +kernel
theorem dX6_safe_76 : decode cX6_safe 76 = .ok (.iconst 1, 1) := by decide +kernel
theorem dX6_safe_77 : decode cX6_safe 77 = .ok (.goto 4, 3) := by decide +kernel
theorem dX6_safe_80 : decode cX6_safe 80 = .ok (.iconst 0, 1) := by decide +kernel
theorem dX6_safe_81 : decode cX6_safe 81 = .ok (.istore 4, 2) := by decide +kernel
theorem dX6_safe_83 : decode cX6_safe 83 = .ok (.iinc 5 1, 3) := by decide +kernel
theorem dX6_safe_86 : decode cX6_safe 86 = .ok (.goto (-55), 3) := by decide +kernel
theorem dX6_safe_89 : decode cX6_safe 89 = .ok (.iload_n 1, 1) := by decide +kernel
theorem dX6_safe_90 : decode cX6_safe 90 = .ok (.iload 4, 2) := by decide +kernel
theorem dX6_safe_92 : decode cX6_safe 92 = .ok (.ifCond .eq 7, 3) := by decide +kernel
theorem dX6_safe_95 : decode cX6_safe 95 = .ok (.iconst 1, 1) := by decide +kernel
theorem dX6_safe_96 : decode cX6_safe 96 = .ok (.goto 4, 3) := by decide +kernel
theorem dX6_safe_99 : decode cX6_safe 99 = .ok (.iconst 0, 1) := by decide +kernel
theorem dX6_safe_100 : decode cX6_safe 100 = .ok (.iadd, 1) := by decide +kernel
theorem dX6_safe_101 : decode cX6_safe 101 = .ok (.istore_n 1, 1) := by decide +kernel
theorem dX6_safe_102 : decode cX6_safe 102 = .ok (.iinc 3 1, 3) := by decide +kernel
theorem dX6_safe_105 : decode cX6_safe 105 = .ok (.goto (-94), 3) := by decide +kernel
theorem dX6_safe_108 : decode cX6_safe 108 = .ok (.iinc 2 1, 3) := by decide +kernel
theorem dX6_safe_111 : decode cX6_safe 111 = .ok (.goto (-107), 3) := by decide +kernel
theorem dX6_safe_114 : decode cX6_safe 114 = .ok (.iload_n 1, 1) := by decide +kernel
theorem dX6_safe_115 : decode cX6_safe 115 = .ok (.ireturn, 1) := by decide +kernel
theorem dX6_can_0 : decode cX6_can 0 = .ok (.iload_n 1, 1) := by decide +kernel
theorem dX6_can_1 : decode cX6_can 1 = .ok (.iconst (-1), 1) := by decide +kernel
theorem dX6_can_2 : decode cX6_can 2 = .ok (.iconst 3, 1) := by decide +kernel
theorem dX6_can_3 : decode cX6_can 3 = .ok (.invokestatic 58, 3) := by decide +kernel
theorem dX6_can_6 : decode cX6_can 6 = .ok (.ifCond .ne 10, 3) := by decide +kernel
theorem dX6_can_9 : decode cX6_can 9 = .ok (.aload_n 0, 1) := by decide +kernel
theorem dX6_can_10 : decode cX6_can 10 = .ok (.bipush (-2), 2) := by decide +kernel
theorem dX6_can_12 : decode cX6_can 12 = .ok (.invokevirtual 52, 3) := by decide +kernel
theorem dX6_can_15 : decode cX6_can 15 = .ok (.ireturn, 1) := by decide +kernel
theorem dX6_can_16 : decode cX6_can 16 = .ok (.iconst 0, 1) := by decide +kernel
theorem dX6_can_17 : decode cX6_can 17 = .ok (.istore_n 2, 1) := by decide +kernel
theorem dX6_can_18 : decode cX6_can 18 = .ok (.iconst 0, 1) := by decide +kernel
theorem dX6_can_19 : decode cX6_can 19 = .ok (.istore_n 3, 1) := by decide +kernel
theorem dX6_can_20 : decode cX6_can 20 = .ok (.iload_n 3, 1) := by decide +kernel
theorem dX6_can_21 : decode cX6_can 21 = .ok (.iconst 4, 1) := by decide +kernel
theorem dX6_can_22 : decode cX6_can 22 = .ok (.if_icmp .ge 55, 3) := by decide +kernel
theorem dX6_can_25 : decode cX6_can 25 = .ok (.iconst 0, 1) := by decide +kernel
theorem dX6_can_26 : decode cX6_can 26 = .ok (.istore 4, 2) := by decide +kernel
theorem dX6_can_28 : decode cX6_can 28 = .ok (.iload 4, 2) := by decide +kernel
theorem dX6_can_30 : decode cX6_can 30 = .ok (.bipush 25, 2) := by decide +kernel
theorem dX6_can_32 : decode cX6_can 32 = .ok (.if_icmp .ge 39, 3) := by decide +kernel
theorem dX6_can_35 : decode cX6_can 35 = .ok (.iload_n 2, 1) := by decide +kernel
theorem dX6_can_36 : decode cX6_can 36 = .ok (.iload_n 1, 1) := by decide +kernel
theorem dX6_can_37 : decode cX6_can 37 = .ok (.ifCond .lt 8, 3) := by decide +kernel
theorem dX6_can_40 : decode cX6_can 40 = .ok (.iload_n 3, 1) := by decide +kernel
theorem dX6_can_41 : decode cX6_can 41 = .ok (.iload_n 1, 1) := by decide +kernel
theorem dX6_can_42 : decode cX6_can 42 = .ok (.if_icmp .ne 20, 3) := by decide +kernel
theorem dX6_can_45 : decode cX6_can 45 = .ok (.aload_n 0, 1) := by decide +kernel
theorem dX6_can_46 : decode cX6_can 46 = .ok (.getfield 10, 3) := by decide +kernel
theorem dX6_can_49 : decode cX6_can 49 = .ok (.iload_n 3, 1) := by decide +kernel
theorem dX6_can_50 : decode cX6_can 50 = .ok (.iload 4, 2) := by decide +kernel
theorem dX6_can_52 : decode cX6_can 52 = .ok (.invokestatic 134, 3) := by decide +kernel
theorem dX6_can_55 : decode cX6_can 55 = .ok (.ifCond .eq 7, 3) := by decide +kernel
