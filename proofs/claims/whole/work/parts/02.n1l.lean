theorem dX8_pips_4 : decode cX8_pips 4 = .ok (.iload_n 3, 1) := by decide +kernel
theorem dX8_pips_5 : decode cX8_pips 5 = .ok (.bipush 100, 2) := by decide +kernel
theorem dX8_pips_7 : decode cX8_pips 7 = .ok (.if_icmp .ge 29, 3) := by decide +kernel
theorem dX8_pips_10 : decode cX8_pips 10 = .ok (.iload_n 2, 1) := by decide +kernel
theorem dX8_pips_11 : decode cX8_pips 11 = .ok (.aload_n 0, 1) := by decide +kernel
theorem dX8_pips_12 : decode cX8_pips 12 = .ok (.iload_n 1, 1) := by decide +kernel
theorem dX8_pips_13 : decode cX8_pips 13 = .ok (.iload_n 3, 1) := by decide +kernel
theorem dX8_pips_14 : decode cX8_pips 14 = .ok (.invokevirtual 203, 3) := by decide +kernel
theorem dX8_pips_17 : decode cX8_pips 17 = .ok (.ifCond .eq 10, 3) := by decide +kernel
theorem dX8_pips_20 : decode cX8_pips 20 = .ok (.iload_n 3, 1) := by decide +kernel
theorem dX8_pips_21 : decode cX8_pips 21 = .ok (.invokestatic 227, 3) := by decide +kernel
theorem dX8_pips_24 : decode cX8_pips 24 = .ok (.goto 4, 3) := by decide +kernel
theorem dX8_pips_27 : decode cX8_pips 27 = .ok (.iconst 0, 1) := by decide +kernel
theorem dX8_pips_28 : decode cX8_pips 28 = .ok (.iadd, 1) := by decide +kernel
theorem dX8_pips_29 : decode cX8_pips 29 = .ok (.istore_n 2, 1) := by decide +kernel
theorem dX8_pips_30 : decode cX8_pips 30 = .ok (.iinc 3 1, 3) := by decide +kernel
theorem dX8_pips_33 : decode cX8_pips 33 = .ok (.goto (-29), 3) := by decide +kernel
theorem dX8_pips_36 : decode cX8_pips 36 = .ok (.iload_n 2, 1) := by decide +kernel
theorem dX8_pips_37 : decode cX8_pips 37 = .ok (.ireturn, 1) := by decide +kernel
theorem dX8_nextTurn_0 : decode cX8_nextTurn 0 = .ok (.aload_n 0, 1) := by decide +kernel
theorem dX8_nextTurn_1 : decode cX8_nextTurn 1 = .ok (.getfield 17, 3) := by decide +kernel
theorem dX8_nextTurn_4 : decode cX8_nextTurn 4 = .ok (.iconst 4, 1) := by decide +kernel
theorem dX8_nextTurn_5 : decode cX8_nextTurn 5 = .ok (.aload_n 0, 1) := by decide +kernel
theorem dX8_nextTurn_6 : decode cX8_nextTurn 6 = .ok (.getfield 17, 3) := by decide +kernel
theorem dX8_nextTurn_9 : decode cX8_nextTurn 9 = .ok (.iconst 4, 1) := by decide +kernel
theorem dX8_nextTurn_10 : decode cX8_nextTurn 10 = .ok (.iaload, 1) := by decide +kernel
theorem dX8_nextTurn_11 : decode cX8_nextTurn 11 = .ok (.iconst 1, 1) := by decide +kernel
theorem dX8_nextTurn_12 : decode cX8_nextTurn 12 = .ok (.iadd, 1) := by decide +kernel
theorem dX8_nextTurn_13 : decode cX8_nextTurn 13 = .ok (.aload_n 0, 1) := by decide +kernel
theorem dX8_nextTurn_14 : decode cX8_nextTurn 14 = .ok (.getfield 17, 3) := by decide +kernel
theorem dX8_nextTurn_17 : decode cX8_nextTurn 17 = .ok (.iconst 1, 1) := by decide +kernel
theorem dX8_nextTurn_18 : decode cX8_nextTurn 18 = .ok (.iaload, 1) := by decide +kernel
theorem dX8_nextTurn_19 : decode cX8_nextTurn 19 = .ok (.irem, 1) := by decide +kernel
theorem dX8_nextTurn_20 : decode cX8_nextTurn 20 = .ok (.iastore, 1) := by decide +kernel
theorem dX8_nextTurn_21 : decode cX8_nextTurn 21 = .ok (.aload_n 0, 1) := by decide +kernel
theorem dX8_nextTurn_22 : decode cX8_nextTurn 22 = .ok (.getfield 17, 3) := by decide +kernel
theorem dX8_nextTurn_25 : decode cX8_nextTurn 25 = .ok (.iconst 5, 1) := by decide +kernel
theorem dX8_nextTurn_26 : decode cX8_nextTurn 26 = .ok (.iconst 0, 1) := by decide +kernel
theorem dX8_nextTurn_27 : decode cX8_nextTurn 27 = .ok (.iastore, 1) := by decide +kernel
theorem dX8_nextTurn_28 : decode cX8_nextTurn 28 = .ok (.return_, 1) := by decide +kernel
set_option maxRecDepth 20000 in
theorem ggX8_endRound_X8_pips : GoodIn wsX8_endRound wsX8_pips := goodIn_r _ [6, 7, 8, 9, 5, 10, 1, 11, 12, 13, 14, 15, 16, 17, 18, 19, 20, 21, 22, 23, 24, 25, 26, 27, 28, 29, 30, 31, 32, 33, 34, 35] rfl (by decide +kernel)
set_option maxRecDepth 20000 in
theorem gX8_endRound_X8_pips : GoodIn wsX8_endRound (wsV RX8 247 RX8 yX8_pips wsX8_pips) := goodIn_app (goodIn_of _ (by decide +kernel)) ggX8_endRound_X8_pips
theorem dX8_endRound_0 : decode cX8_endRound 0 = .ok (.aload_n 0, 1) := by decide +kernel
theorem dX8_endRound_1 : decode cX8_endRound 1 = .ok (.getfield 17, 3) := by decide +kernel
theorem dX8_endRound_4 : decode cX8_endRound 4 = .ok (.bipush 8, 2) := by decide +kernel
theorem dX8_endRound_6 : decode cX8_endRound 6 = .ok (.iconst 1, 1) := by decide +kernel
theorem dX8_endRound_7 : decode cX8_endRound 7 = .ok (.iastore, 1) := by decide +kernel
theorem dX8_endRound_8 : decode cX8_endRound 8 = .ok (.aload_n 0, 1) := by decide +kernel
theorem dX8_endRound_9 : decode cX8_endRound 9 = .ok (.getfield 17, 3) := by decide +kernel
theorem dX8_endRound_12 : decode cX8_endRound 12 = .ok (.bipush 9, 2) := by decide +kernel
theorem dX8_endRound_14 : decode cX8_endRound 14 = .ok (.dup2, 1) := by decide +kernel
theorem dX8_endRound_15 : decode cX8_endRound 15 = .ok (.iaload, 1) := by decide +kernel
theorem dX8_endRound_16 : decode cX8_endRound 16 = .ok (.iconst 1, 1) := by decide +kernel
theorem dX8_endRound_17 : decode cX8_endRound 17 = .ok (.iadd, 1) := by decide +kernel
theorem dX8_endRound_18 : decode cX8_endRound 18 = .ok (.iastore, 1) := by decide +kernel
theorem dX8_endRound_19 : decode cX8_endRound 19 = .ok (.iconst 0, 1) := by decide +kernel
theorem dX8_endRound_20 : decode cX8_endRound 20 = .ok (.istore_n 1, 1) := by decide +kernel
theorem dX8_endRound_21 : decode cX8_endRound 21 = .ok (.iload_n 1, 1) := by decide +kernel
theorem dX8_endRound_22 : decode cX8_endRound 22 = .ok (.aload_n 0, 1) := by decide +kernel
theorem dX8_endRound_23 : decode cX8_endRound 23 = .ok (.getfield 17, 3) := by decide +kernel
theorem dX8_endRound_26 : decode cX8_endRound 26 = .ok (.iconst 1, 1) := by decide +kernel
theorem dX8_endRound_27 : decode cX8_endRound 27 = .ok (.iaload, 1) := by decide +kernel
theorem dX8_endRound_28 : decode cX8_endRound 28 = .ok (.if_icmp .ge 26, 3) := by decide +kernel
theorem dX8_endRound_31 : decode cX8_endRound 31 = .ok (.aload_n 0, 1) := by decide +kernel
theorem dX8_endRound_32 : decode cX8_endRound 32 = .ok (.getfield 17, 3) := by decide +kernel
theorem dX8_endRound_35 : decode cX8_endRound 35 = .ok (.bipush 15, 2) := by decide +kernel
theorem dX8_endRound_37 : decode cX8_endRound 37 = .ok (.iload_n 1, 1) := by decide +kernel
theorem dX8_endRound_38 : decode cX8_endRound 38 = .ok (.iadd, 1) := by decide +kernel
theorem dX8_endRound_39 : decode cX8_endRound 39 = .ok (.dup2, 1) := by decide +kernel
theorem dX8_endRound_40 : decode cX8_endRound 40 = .ok (.iaload, 1) := by decide +kernel
theorem dX8_endRound_41 : decode cX8_endRound 41 = .ok (.aload_n 0, 1) := by decide +kernel
theorem dX8_endRound_42 : decode cX8_endRound 42 = .ok (.iload_n 1, 1) := by decide +kernel
theorem dX8_endRound_43 : decode cX8_endRound 43 = .ok (.invokevirtual 247, 3) := by decide +kernel
theorem dX8_endRound_46 : decode cX8_endRound 46 = .ok (.iadd, 1) := by decide +kernel
theorem dX8_endRound_47 : decode cX8_endRound 47 = .ok (.iastore, 1) := by decide +kernel
theorem dX8_endRound_48 : decode cX8_endRound 48 = .ok (.iinc 1 1, 3) := by decide +kernel
theorem dX8_endRound_51 : decode cX8_endRound 51 = .ok (.goto (-30), 3) := by decide +kernel
theorem dX8_endRound_54 : decode cX8_endRound 54 = .ok (.return_, 1) := by decide +kernel
set_option maxRecDepth 20000 in
theorem ggX8_playNow_X8_trainAt : GoodIn wsX8_playNow wsX8_trainAt := goodIn_r _ [5] rfl (by decide +kernel)
set_option maxRecDepth 20000 in
theorem gX8_playNow_X8_trainAt : GoodIn wsX8_playNow (va_wsS RX8 73 yX8_trainAt wsX8_trainAt) := goodIn_app (goodIn_of _ (by decide +kernel)) ggX8_playNow_X8_trainAt
set_option maxRecDepth 20000 in
theorem ggX8_playNow_X8_isDouble : GoodIn wsX8_playNow wsX8_isDouble := goodIn_r _ [8] rfl (by decide +kernel)
set_option maxRecDepth 20000 in
theorem gX8_playNow_X8_isDouble : GoodIn wsX8_playNow (va_wsS RX8 230 yX8_isDouble wsX8_isDouble) := goodIn_app (goodIn_of _ (by decide +kernel)) ggX8_playNow_X8_isDouble
set_option maxRecDepth 20000 in
theorem ggX8_playNow_X8_hand : GoodIn wsX8_playNow wsX8_hand := goodIn_r _ [12, 1, 13, 14, 4, 15, 35, 36, 37, 38, 39, 40, 41, 42, 43, 44, 45, 46, 47, 48, 49, 50, 51, 52, 53, 54, 55, 56] rfl (by decide +kernel)
set_option maxRecDepth 20000 in
theorem gX8_playNow_X8_hand : GoodIn wsX8_playNow (wsV RX8 233 RX8 yX8_hand wsX8_hand) := goodIn_app (goodIn_of _ (by decide +kernel)) ggX8_playNow_X8_hand
set_option maxRecDepth 20000 in
theorem ggX8_playNow_X8_endRound : GoodIn wsX8_playNow wsX8_endRound := goodIn_r _ [19, 1, 20, 21, 22, 4, 23, 24, 25, 26, 27, 28, 29, 30, 35, 36, 37, 38, 39, 40, 41, 42, 43, 44, 45, 46, 47, 48, 49, 50, 51, 52, 53, 54, 55, 56] rfl (by decide +kernel)
set_option maxRecDepth 20000 in
theorem gX8_playNow_X8_endRound : GoodIn wsX8_playNow (wsV RX8 249 RX8 yX8_endRound wsX8_endRound) := goodIn_app (goodIn_of _ (by decide +kernel)) ggX8_playNow_X8_endRound
set_option maxRecDepth 20000 in
theorem ggX8_playNow_X8_nextTurn : GoodIn wsX8_playNow wsX8_nextTurn := goodIn_r _ [34, 1, 35, 36, 37, 38, 39, 40, 41, 42, 43, 44, 45, 46, 47, 48, 49, 50, 51, 52, 53, 54, 55, 56] rfl (by decide +kernel)
set_option maxRecDepth 20000 in
theorem gX8_playNow_X8_nextTurn : GoodIn wsX8_playNow (wsV RX8 252 RX8 yX8_nextTurn wsX8_nextTurn) := goodIn_app (goodIn_of _ (by decide +kernel)) ggX8_playNow_X8_nextTurn
theorem dX8_playNow_0 : decode cX8_playNow 0 = .ok (.iload_n 2, 1) := by decide +kernel
theorem dX8_playNow_1 : decode cX8_playNow 1 = .ok (.invokestatic 73, 3) := by decide +kernel
theorem dX8_playNow_4 : decode cX8_playNow 4 = .ok (.istore_n 3, 1) := by decide +kernel
theorem dX8_playNow_5 : decode cX8_playNow 5 = .ok (.aload_n 0, 1) := by decide +kernel
theorem dX8_playNow_6 : decode cX8_playNow 6 = .ok (.getfield 17, 3) := by decide +kernel
theorem dX8_playNow_9 : decode cX8_playNow 9 = .ok (.iload_n 3, 1) := by decide +kernel
theorem dX8_playNow_10 : decode cX8_playNow 10 = .ok (.iconst 1, 1) := by decide +kernel
theorem dX8_playNow_11 : decode cX8_playNow 11 = .ok (.iadd, 1) := by decide +kernel
theorem dX8_playNow_12 : decode cX8_playNow 12 = .ok (.iaload, 1) := by decide +kernel
theorem dX8_playNow_13 : decode cX8_playNow 13 = .ok (.istore 4, 2) := by decide +kernel
theorem dX8_playNow_15 : decode cX8_playNow 15 = .ok (.aload_n 0, 1) := by decide +kernel
theorem dX8_playNow_16 : decode cX8_playNow 16 = .ok (.getfield 17, 3) := by decide +kernel
theorem dX8_playNow_19 : decode cX8_playNow 19 = .ok (.bipush 19, 2) := by decide +kernel
theorem dX8_playNow_21 : decode cX8_playNow 21 = .ok (.iload_n 1, 1) := by decide +kernel
theorem dX8_playNow_22 : decode cX8_playNow 22 = .ok (.iadd, 1) := by decide +kernel
theorem dX8_playNow_23 : decode cX8_playNow 23 = .ok (.iconst (-1), 1) := by decide +kernel
theorem dX8_playNow_24 : decode cX8_playNow 24 = .ok (.iastore, 1) := by decide +kernel
theorem dX8_playNow_25 : decode cX8_playNow 25 = .ok (.aload_n 0, 1) := by decide +kernel
theorem dX8_playNow_26 : decode cX8_playNow 26 = .ok (.getfield 17, 3) := by decide +kernel
theorem dX8_playNow_29 : decode cX8_playNow 29 = .ok (.iload_n 3, 1) := by decide +kernel
theorem dX8_playNow_30 : decode cX8_playNow 30 = .ok (.iconst 3, 1) := by decide +kernel
theorem dX8_playNow_31 : decode cX8_playNow 31 = .ok (.iadd, 1) := by decide +kernel
theorem dX8_playNow_32 : decode cX8_playNow 32 = .ok (.aload_n 0, 1) := by decide +kernel
theorem dX8_playNow_33 : decode cX8_playNow 33 = .ok (.getfield 17, 3) := by decide +kernel
theorem dX8_playNow_36 : decode cX8_playNow 36 = .ok (.iload_n 3, 1) := by decide +kernel
theorem dX8_playNow_37 : decode cX8_playNow 37 = .ok (.iconst 0, 1) := by decide +kernel
theorem dX8_playNow_38 : decode cX8_playNow 38 = .ok (.iadd, 1) := by decide +kernel
theorem dX8_playNow_39 : decode cX8_playNow 39 = .ok (.iaload, 1) := by decide +kernel
theorem dX8_playNow_40 : decode cX8_playNow 40 = .ok (.iadd, 1) := by decide +kernel
theorem dX8_playNow_41 : decode cX8_playNow 41 = .ok (.iload_n 1, 1) := by decide +kernel
theorem dX8_playNow_42 : decode cX8_playNow 42 = .ok (.iastore, 1) := by decide +kernel
theorem dX8_playNow_43 : decode cX8_playNow 43 = .ok (.aload_n 0, 1) := by decide +kernel
theorem dX8_playNow_44 : decode cX8_playNow 44 = .ok (.getfield 17, 3) := by decide +kernel
theorem dX8_playNow_47 : decode cX8_playNow 47 = .ok (.iload_n 3, 1) := by decide +kernel
theorem dX8_playNow_48 : decode cX8_playNow 48 = .ok (.iconst 0, 1) := by decide +kernel
theorem dX8_playNow_49 : decode cX8_playNow 49 = .ok (.iadd, 1) := by decide +kernel
theorem dX8_playNow_50 : decode cX8_playNow 50 = .ok (.dup2, 1) := by decide +kernel
theorem dX8_playNow_51 : decode cX8_playNow 51 = .ok (.iaload, 1) := by decide +kernel
theorem dX8_playNow_52 : decode cX8_playNow 52 = .ok (.iconst 1, 1) := by decide +kernel
theorem dX8_playNow_53 : decode cX8_playNow 53 = .ok (.iadd, 1) := by decide +kernel
theorem dX8_playNow_54 : decode cX8_playNow 54 = .ok (.iastore, 1) := by decide +kernel
theorem dX8_playNow_55 : decode cX8_playNow 55 = .ok (.aload_n 0, 1) := by decide +kernel
theorem dX8_playNow_56 : decode cX8_playNow 56 = .ok (.getfield 17, 3) := by decide +kernel
theorem dX8_playNow_59 : decode cX8_playNow 59 = .ok (.iload_n 3, 1) := by decide +kernel
theorem dX8_playNow_60 : decode cX8_playNow 60 = .ok (.iconst 1, 1) := by decide +kernel
theorem dX8_playNow_61 : decode cX8_playNow 61 = .ok (.iadd, 1) := by decide +kernel
theorem dX8_playNow_62 : decode cX8_playNow 62 = .ok (.iload_n 1, 1) := by decide +kernel
theorem dX8_playNow_63 : decode cX8_playNow 63 = .ok (.bipush 10, 2) := by decide +kernel
theorem dX8_playNow_65 : decode cX8_playNow 65 = .ok (.idiv, 1) := by decide +kernel
theorem dX8_playNow_66 : decode cX8_playNow 66 = .ok (.iload 4, 2) := by decide +kernel
theorem dX8_playNow_68 : decode cX8_playNow 68 = .ok (.if_icmp .ne 10, 3) := by decide +kernel
theorem dX8_playNow_71 : decode cX8_playNow 71 = .ok (.iload_n 1, 1) := by decide +kernel
theorem dX8_playNow_72 : decode cX8_playNow 72 = .ok (.bipush 10, 2) := by decide +kernel
theorem dX8_playNow_74 : decode cX8_playNow 74 = .ok (.irem, 1) := by decide +kernel
theorem dX8_playNow_75 : decode cX8_playNow 75 = .ok (.goto 7, 3) := by decide +kernel
theorem dX8_playNow_78 : decode cX8_playNow 78 = .ok (.iload_n 1, 1) := by decide +kernel
theorem dX8_playNow_79 : decode cX8_playNow 79 = .ok (.bipush 10, 2) := by decide +kernel
theorem dX8_playNow_81 : decode cX8_playNow 81 = .ok (.idiv, 1) := by decide +kernel
theorem dX8_playNow_82 : decode cX8_playNow 82 = .ok (.iastore, 1) := by decide +kernel
theorem dX8_playNow_83 : decode cX8_playNow 83 = .ok (.iload_n 2, 1) := by decide +kernel
theorem dX8_playNow_84 : decode cX8_playNow 84 = .ok (.aload_n 0, 1) := by decide +kernel
theorem dX8_playNow_85 : decode cX8_playNow 85 = .ok (.getfield 17, 3) := by decide +kernel
theorem dX8_playNow_88 : decode cX8_playNow 88 = .ok (.iconst 4, 1) := by decide +kernel
theorem dX8_playNow_89 : decode cX8_playNow 89 = .ok (.iaload, 1) := by decide +kernel
theorem dX8_playNow_90 : decode cX8_playNow 90 = .ok (.if_icmp .ne 12, 3) := by decide +kernel
theorem dX8_playNow_93 : decode cX8_playNow 93 = .ok (.aload_n 0, 1) := by decide +kernel
theorem dX8_playNow_94 : decode cX8_playNow 94 = .ok (.getfield 17, 3) := by decide +kernel
theorem dX8_playNow_97 : decode cX8_playNow 97 = .ok (.iload_n 3, 1) := by decide +kernel
theorem dX8_playNow_98 : decode cX8_playNow 98 = .ok (.iconst 2, 1) := by decide +kernel
theorem dX8_playNow_99 : decode cX8_playNow 99 = .ok (.iadd, 1) := by decide +kernel
theorem dX8_playNow_100 : decode cX8_playNow 100 = .ok (.iconst 0, 1) := by decide +kernel
theorem dX8_playNow_101 : decode cX8_playNow 101 = .ok (.iastore, 1) := by decide +kernel
theorem dX8_playNow_102 : decode cX8_playNow 102 = .ok (.aload_n 0, 1) := by decide +kernel
theorem dX8_playNow_103 : decode cX8_playNow 103 = .ok (.getfield 17, 3) := by decide +kernel
theorem dX8_playNow_106 : decode cX8_playNow 106 = .ok (.bipush 10, 2) := by decide +kernel
theorem dX8_playNow_108 : decode cX8_playNow 108 = .ok (.iconst 0, 1) := by decide +kernel
theorem dX8_playNow_109 : decode cX8_playNow 109 = .ok (.iastore, 1) := by decide +kernel
theorem dX8_playNow_110 : decode cX8_playNow 110 = .ok (.aload_n 0, 1) := by decide +kernel
theorem dX8_playNow_111 : decode cX8_playNow 111 = .ok (.getfield 17, 3) := by decide +kernel
theorem dX8_playNow_114 : decode cX8_playNow 114 = .ok (.bipush 6, 2) := by decide +kernel
theorem dX8_playNow_116 : decode cX8_playNow 116 = .ok (.iload_n 1, 1) := by decide +kernel
theorem dX8_playNow_117 : decode cX8_playNow 117 = .ok (.invokestatic 230, 3) := by decide +kernel
theorem dX8_playNow_120 : decode cX8_playNow 120 = .ok (.ifCond .eq 7, 3) := by decide +kernel
theorem dX8_playNow_123 : decode cX8_playNow 123 = .ok (.iload_n 2, 1) := by decide +kernel
theorem dX8_playNow_124 : decode cX8_playNow 124 = .ok (.goto 4, 3) := by decide +kernel
theorem dX8_playNow_127 : decode cX8_playNow 127 = .ok (.iconst (-1), 1) := by decide +kernel
theorem dX8_playNow_128 : decode cX8_playNow 128 = .ok (.iastore, 1) := by decide +kernel
theorem dX8_playNow_129 : decode cX8_playNow 129 = .ok (.aload_n 0, 1) := by decide +kernel
theorem dX8_playNow_130 : decode cX8_playNow 130 = .ok (.aload_n 0, 1) := by decide +kernel
theorem dX8_playNow_131 : decode cX8_playNow 131 = .ok (.getfield 17, 3) := by decide +kernel
theorem dX8_playNow_134 : decode cX8_playNow 134 = .ok (.iconst 4, 1) := by decide +kernel
theorem dX8_playNow_135 : decode cX8_playNow 135 = .ok (.iaload, 1) := by decide +kernel
theorem dX8_playNow_136 : decode cX8_playNow 136 = .ok (.invokevirtual 233, 3) := by decide +kernel
theorem dX8_playNow_139 : decode cX8_playNow 139 = .ok (.ifCond .ne 10, 3) := by decide +kernel
theorem dX8_playNow_142 : decode cX8_playNow 142 = .ok (.aload_n 0, 1) := by decide +kernel
theorem dX8_playNow_143 : decode cX8_playNow 143 = .ok (.invokevirtual 249, 3) := by decide +kernel
theorem dX8_playNow_146 : decode cX8_playNow 146 = .ok (.goto 24, 3) := by decide +kernel
theorem dX8_playNow_149 : decode cX8_playNow 149 = .ok (.iload_n 1, 1) := by decide +kernel
theorem dX8_playNow_150 : decode cX8_playNow 150 = .ok (.invokestatic 230, 3) := by decide +kernel
theorem dX8_playNow_153 : decode cX8_playNow 153 = .ok (.ifCond .eq 13, 3) := by decide +kernel
theorem dX8_playNow_156 : decode cX8_playNow 156 = .ok (.aload_n 0, 1) := by decide +kernel
theorem dX8_playNow_157 : decode cX8_playNow 157 = .ok (.getfield 17, 3) := by decide +kernel
theorem dX8_playNow_160 : decode cX8_playNow 160 = .ok (.iconst 5, 1) := by decide +kernel
theorem dX8_playNow_161 : decode cX8_playNow 161 = .ok (.iconst 0, 1) := by decide +kernel
theorem dX8_playNow_162 : decode cX8_playNow 162 = .ok (.iastore, 1) := by decide +kernel
theorem dX8_playNow_163 : decode cX8_playNow 163 = .ok (.goto 7, 3) := by decide +kernel
theorem dX8_playNow_166 : decode cX8_playNow 166 = .ok (.aload_n 0, 1) := by decide +kernel
theorem dX8_playNow_167 : decode cX8_playNow 167 = .ok (.invokevirtual 252, 3) := by decide +kernel
theorem dX8_playNow_170 : decode cX8_playNow 170 = .ok (.return_, 1) := by decide +kernel
theorem dX8_drawNow_0 : decode cX8_drawNow 0 = .ok (.aload_n 0, 1) := by decide +kernel
theorem dX8_drawNow_1 : decode cX8_drawNow 1 = .ok (.getfield 17, 3) := by decide +kernel
theorem dX8_drawNow_4 : decode cX8_drawNow 4 = .ok (.bipush 119, 2) := by decide +kernel
theorem dX8_drawNow_6 : decode cX8_drawNow 6 = .ok (.aload_n 0, 1) := by decide +kernel
theorem dX8_drawNow_7 : decode cX8_drawNow 7 = .ok (.getfield 17, 3) := by decide +kernel
theorem dX8_drawNow_10 : decode cX8_drawNow 10 = .ok (.bipush 12, 2) := by decide +kernel
theorem dX8_drawNow_12 : decode cX8_drawNow 12 = .ok (.iaload, 1) := by decide +kernel
theorem dX8_drawNow_13 : decode cX8_drawNow 13 = .ok (.iadd, 1) := by decide +kernel
theorem dX8_drawNow_14 : decode cX8_drawNow 14 = .ok (.iaload, 1) := by decide +kernel
theorem dX8_drawNow_15 : decode cX8_drawNow 15 = .ok (.istore_n 1, 1) := by decide +kernel
theorem dX8_drawNow_16 : decode cX8_drawNow 16 = .ok (.aload_n 0, 1) := by decide +kernel
theorem dX8_drawNow_17 : decode cX8_drawNow 17 = .ok (.getfield 17, 3) := by decide +kernel
theorem dX8_drawNow_20 : decode cX8_drawNow 20 = .ok (.bipush 19, 2) := by decide +kernel
theorem dX8_drawNow_22 : decode cX8_drawNow 22 = .ok (.iload_n 1, 1) := by decide +kernel
theorem dX8_drawNow_23 : decode cX8_drawNow 23 = .ok (.iadd, 1) := by decide +kernel
theorem dX8_drawNow_24 : decode cX8_drawNow 24 = .ok (.aload_n 0, 1) := by decide +kernel
theorem dX8_drawNow_25 : decode cX8_drawNow 25 = .ok (.getfield 17, 3) := by decide +kernel
theorem dX8_drawNow_28 : decode cX8_drawNow 28 = .ok (.iconst 4, 1) := by decide +kernel
theorem dX8_drawNow_29 : decode cX8_drawNow 29 = .ok (.iaload, 1) := by decide +kernel
theorem dX8_drawNow_30 : decode cX8_drawNow 30 = .ok (.iastore, 1) := by decide +kernel
theorem dX8_drawNow_31 : decode cX8_drawNow 31 = .ok (.aload_n 0, 1) := by decide +kernel
theorem dX8_drawNow_32 : decode cX8_drawNow 32 = .ok (.getfield 17, 3) := by decide +kernel
theorem dX8_drawNow_35 : decode cX8_drawNow 35 = .ok (.bipush 12, 2) := by decide +kernel
theorem dX8_drawNow_37 : decode cX8_drawNow 37 = .ok (.dup2, 1) := by decide +kernel
theorem dX8_drawNow_38 : decode cX8_drawNow 38 = .ok (.iaload, 1) := by decide +kernel
theorem dX8_drawNow_39 : decode cX8_drawNow 39 = .ok (.iconst 1, 1) := by decide +kernel
theorem dX8_drawNow_40 : decode cX8_drawNow 40 = .ok (.iadd, 1) := by decide +kernel
theorem dX8_drawNow_41 : decode cX8_drawNow 41 = .ok (.iastore, 1) := by decide +kernel
theorem dX8_drawNow_42 : decode cX8_drawNow 42 = .ok (.aload_n 0, 1) := by decide +kernel
theorem dX8_drawNow_43 : decode cX8_drawNow 43 = .ok (.getfield 17, 3) := by decide +kernel
theorem dX8_drawNow_46 : decode cX8_drawNow 46 = .ok (.bipush 7, 2) := by decide +kernel
theorem dX8_drawNow_48 : decode cX8_drawNow 48 = .ok (.dup2, 1) := by decide +kernel
theorem dX8_drawNow_49 : decode cX8_drawNow 49 = .ok (.iaload, 1) := by decide +kernel
theorem dX8_drawNow_50 : decode cX8_drawNow 50 = .ok (.iconst 1, 1) := by decide +kernel
theorem dX8_drawNow_51 : decode cX8_drawNow 51 = .ok (.isub, 1) := by decide +kernel
theorem dX8_drawNow_52 : decode cX8_drawNow 52 = .ok (.iastore, 1) := by decide +kernel
theorem dX8_drawNow_53 : decode cX8_drawNow 53 = .ok (.aload_n 0, 1) := by decide +kernel
theorem dX8_drawNow_54 : decode cX8_drawNow 54 = .ok (.getfield 17, 3) := by decide +kernel
theorem dX8_drawNow_57 : decode cX8_drawNow 57 = .ok (.iconst 5, 1) := by decide +kernel
theorem dX8_drawNow_58 : decode cX8_drawNow 58 = .ok (.iconst 1, 1) := by decide +kernel
theorem dX8_drawNow_59 : decode cX8_drawNow 59 = .ok (.iastore, 1) := by decide +kernel
theorem dX8_drawNow_60 : decode cX8_drawNow 60 = .ok (.aload_n 0, 1) := by decide +kernel
theorem dX8_drawNow_61 : decode cX8_drawNow 61 = .ok (.getfield 17, 3) := by decide +kernel
theorem dX8_drawNow_64 : decode cX8_drawNow 64 = .ok (.bipush 10, 2) := by decide +kernel
theorem dX8_drawNow_66 : decode cX8_drawNow 66 = .ok (.iconst 0, 1) := by decide +kernel
theorem dX8_drawNow_67 : decode cX8_drawNow 67 = .ok (.iastore, 1) := by decide +kernel
theorem dX8_drawNow_68 : decode cX8_drawNow 68 = .ok (.iload_n 1, 1) := by decide +kernel
theorem dX8_drawNow_69 : decode cX8_drawNow 69 = .ok (.ireturn, 1) := by decide +kernel
set_option maxRecDepth 20000 in
theorem ggX8_passNow_X8_trainAt : GoodIn wsX8_passNow wsX8_trainAt := goodIn_r _ [5] rfl (by decide +kernel)
set_option maxRecDepth 20000 in
theorem gX8_passNow_X8_trainAt : GoodIn wsX8_passNow (va_wsS RX8 73 yX8_trainAt wsX8_trainAt) := goodIn_app (goodIn_of _ (by decide +kernel)) ggX8_passNow_X8_trainAt
set_option maxRecDepth 20000 in
theorem ggX8_passNow_X8_endRound : GoodIn wsX8_passNow wsX8_endRound := goodIn_r _ [9, 1, 10, 11, 12, 4, 13, 14, 15, 16, 17, 18, 19, 20, 25, 26, 27, 28, 29, 30, 31, 32, 33, 34, 35, 36, 37, 38, 39, 40, 41, 42, 43, 44, 45, 46] rfl (by decide +kernel)
set_option maxRecDepth 20000 in
theorem gX8_passNow_X8_endRound : GoodIn wsX8_passNow (wsV RX8 249 RX8 yX8_endRound wsX8_endRound) := goodIn_app (goodIn_of _ (by decide +kernel)) ggX8_passNow_X8_endRound
set_option maxRecDepth 20000 in
theorem ggX8_passNow_X8_nextTurn : GoodIn wsX8_passNow wsX8_nextTurn := goodIn_r _ [24, 1, 25, 26, 27, 28, 29, 30, 31, 32, 33, 34, 35, 36, 37, 38, 39, 40, 41, 42, 43, 44, 45, 46] rfl (by decide +kernel)
set_option maxRecDepth 20000 in
theorem gX8_passNow_X8_nextTurn : GoodIn wsX8_passNow (wsV RX8 252 RX8 yX8_nextTurn wsX8_nextTurn) := goodIn_app (goodIn_of _ (by decide +kernel)) ggX8_passNow_X8_nextTurn
theorem dX8_passNow_0 : decode cX8_passNow 0 = .ok (.aload_n 0, 1) := by decide +kernel
theorem dX8_passNow_1 : decode cX8_passNow 1 = .ok (.getfield 17, 3) := by decide +kernel
theorem dX8_passNow_4 : decode cX8_passNow 4 = .ok (.aload_n 0, 1) := by decide +kernel
theorem dX8_passNow_5 : decode cX8_passNow 5 = .ok (.getfield 17, 3) := by decide +kernel
theorem dX8_passNow_8 : decode cX8_passNow 8 = .ok (.iconst 4, 1) := by decide +kernel
theorem dX8_passNow_9 : decode cX8_passNow 9 = .ok (.iaload, 1) := by decide +kernel
theorem dX8_passNow_10 : decode cX8_passNow 10 = .ok (.invokestatic 73, 3) := by decide +kernel
theorem dX8_passNow_13 : decode cX8_passNow 13 = .ok (.iconst 2, 1) := by decide +kernel
theorem dX8_passNow_14 : decode cX8_passNow 14 = .ok (.iadd, 1) := by decide +kernel
theorem dX8_passNow_15 : decode cX8_passNow 15 = .ok (.iconst 1, 1) := by decide +kernel
theorem dX8_passNow_16 : decode cX8_passNow 16 = .ok (.iastore, 1) := by decide +kernel
theorem dX8_passNow_17 : decode cX8_passNow 17 = .ok (.aload_n 0, 1) := by decide +kernel
theorem dX8_passNow_18 : decode cX8_passNow 18 = .ok (.getfield 17, 3) := by decide +kernel
theorem dX8_passNow_21 : decode cX8_passNow 21 = .ok (.bipush 10, 2) := by decide +kernel
theorem dX8_passNow_23 : decode cX8_passNow 23 = .ok (.dup2, 1) := by decide +kernel
theorem dX8_passNow_24 : decode cX8_passNow 24 = .ok (.iaload, 1) := by decide +kernel
theorem dX8_passNow_25 : decode cX8_passNow 25 = .ok (.iconst 1, 1) := by decide +kernel
theorem dX8_passNow_26 : decode cX8_passNow 26 = .ok (.iadd, 1) := by decide +kernel
theorem dX8_passNow_27 : decode cX8_passNow 27 = .ok (.iastore, 1) := by decide +kernel
theorem dX8_passNow_28 : decode cX8_passNow 28 = .ok (.aload_n 0, 1) := by decide +kernel
theorem dX8_passNow_29 : decode cX8_passNow 29 = .ok (.getfield 17, 3) := by decide +kernel
theorem dX8_passNow_32 : decode cX8_passNow 32 = .ok (.bipush 10, 2) := by decide +kernel
theorem dX8_passNow_34 : decode cX8_passNow 34 = .ok (.iaload, 1) := by decide +kernel
theorem dX8_passNow_35 : decode cX8_passNow 35 = .ok (.aload_n 0, 1) := by decide +kernel
theorem dX8_passNow_36 : decode cX8_passNow 36 = .ok (.getfield 17, 3) := by decide +kernel
theorem dX8_passNow_39 : decode cX8_passNow 39 = .ok (.iconst 1, 1) := by decide +kernel
theorem dX8_passNow_40 : decode cX8_passNow 40 = .ok (.iaload, 1) := by decide +kernel
theorem dX8_passNow_41 : decode cX8_passNow 41 = .ok (.if_icmp .ne 10, 3) := by decide +kernel
theorem dX8_passNow_44 : decode cX8_passNow 44 = .ok (.aload_n 0, 1) := by decide +kernel
theorem dX8_passNow_45 : decode cX8_passNow 45 = .ok (.invokevirtual 249, 3) := by decide +kernel
theorem dX8_passNow_48 : decode cX8_passNow 48 = .ok (.goto 7, 3) := by decide +kernel
theorem dX8_passNow_51 : decode cX8_passNow 51 = .ok (.aload_n 0, 1) := by decide +kernel
theorem dX8_passNow_52 : decode cX8_passNow 52 = .ok (.invokevirtual 252, 3) := by decide +kernel
theorem dX8_passNow_55 : decode cX8_passNow 55 = .ok (.return_, 1) := by decide +kernel
set_option maxRecDepth 20000 in
theorem ggX8_stepByRank_X8_bestPlay : GoodIn wsX8_stepByRank wsX8_bestPlay := goodIn_r _ [5, 6, 7, 8, 9, 4, 10, 11, 12, 13, 14, 15, 16, 17, 18, 19, 20, 21, 22, 23, 24, 25, 26, 27, 28, 29, 30, 31, 32, 33, 34, 35, 36, 37, 38, 39, 40, 41, 42, 43, 44, 45, 46, 47, 48, 49, 50, 51, 52, 53, 54, 87, 88, 89, 90, 91, 92, 93, 94, 95, 96, 97, 98, 99, 100, 101, 102, 103, 104, 105, 106, 107, 108] rfl (by decide +kernel)
set_option maxRecDepth 20000 in
theorem gX8_stepByRank_X8_bestPlay : GoodIn wsX8_stepByRank (wsV RX8 255 RX8 yX8_bestPlay wsX8_bestPlay) := goodIn_app (goodIn_of _ (by decide +kernel)) ggX8_stepByRank_X8_bestPlay
set_option maxRecDepth 20000 in
theorem ggX8_stepByRank_X8_playNow : GoodIn wsX8_stepByRank wsX8_playNow := goodIn_r _ [58, 6, 19, 20, 4, 21, 37, 38, 39, 40, 41, 42, 43, 44, 45, 46, 59, 60, 61, 62, 63, 64, 65, 66, 11, 12, 13, 14, 30, 31, 32, 67, 68, 69, 70, 87, 88, 89, 90, 91, 92, 93, 94, 95, 96, 97, 98, 99, 100, 101, 102, 103, 104, 105, 106, 107, 108] rfl (by decide +kernel)
set_option maxRecDepth 20000 in
theorem gX8_stepByRank_X8_playNow : GoodIn wsX8_stepByRank (wsV RX8 258 RX8 yX8_playNow wsX8_playNow) := goodIn_app (goodIn_of _ (by decide +kernel)) ggX8_stepByRank_X8_playNow
set_option maxRecDepth 20000 in
theorem ggX8_stepByRank_X8_mayDraw : GoodIn wsX8_stepByRank wsX8_mayDraw := goodIn_r _ [74, 6, 75, 76, 77, 4, 78, 7, 8, 9, 10, 11, 12, 13, 14, 15, 16, 17, 18, 19, 20, 21, 22, 23, 24, 87, 88, 89, 90, 91, 92, 93, 94, 95, 96, 97, 98, 99, 100, 101, 102, 103, 104, 105, 106, 107, 108] rfl (by decide +kernel)
set_option maxRecDepth 20000 in
theorem gX8_stepByRank_X8_mayDraw : GoodIn wsX8_stepByRank (wsV RX8 261 RX8 yX8_mayDraw wsX8_mayDraw) := goodIn_app (goodIn_of _ (by decide +kernel)) ggX8_stepByRank_X8_mayDraw
set_option maxRecDepth 20000 in
theorem ggX8_stepByRank_X8_drawNow : GoodIn wsX8_stepByRank wsX8_drawNow := goodIn_r _ [82, 6, 87, 88, 89, 90, 91, 92, 93, 94, 95, 96, 97, 98, 99, 100, 101, 102, 103, 104, 105, 106, 107, 108] rfl (by decide +kernel)
set_option maxRecDepth 20000 in
theorem gX8_stepByRank_X8_drawNow : GoodIn wsX8_stepByRank (wsV RX8 264 RX8 yX8_drawNow wsX8_drawNow) := goodIn_app (goodIn_of _ (by decide +kernel)) ggX8_stepByRank_X8_drawNow
set_option maxRecDepth 20000 in
theorem ggX8_stepByRank_X8_passNow : GoodIn wsX8_stepByRank wsX8_passNow := goodIn_r _ [86, 6, 19, 20, 4, 21, 59, 60, 61, 62, 63, 64, 65, 66, 11, 12, 13, 14, 30, 31, 32, 67, 68, 69, 70, 87, 88, 89, 90, 91, 92, 93, 94, 95, 96, 97, 98, 99, 100, 101, 102, 103, 104, 105, 106, 107, 108] rfl (by decide +kernel)
set_option maxRecDepth 20000 in
theorem gX8_stepByRank_X8_passNow : GoodIn wsX8_stepByRank (wsV RX8 267 RX8 yX8_passNow wsX8_passNow) := goodIn_app (goodIn_of _ (by decide +kernel)) ggX8_stepByRank_X8_passNow
theorem dX8_stepByRank_0 : decode cX8_stepByRank 0 = .ok (.aload_n 0, 1) := by decide +kernel
theorem dX8_stepByRank_1 : decode cX8_stepByRank 1 = .ok (.invokevirtual 255, 3) := by decide +kernel
theorem dX8_stepByRank_4 : decode cX8_stepByRank 4 = .ok (.istore_n 1, 1) := by decide +kernel
theorem dX8_stepByRank_5 : decode cX8_stepByRank 5 = .ok (.iload_n 1, 1) := by decide +kernel
theorem dX8_stepByRank_6 : decode cX8_stepByRank 6 = .ok (.iconst (-1), 1) := by decide +kernel
theorem dX8_stepByRank_7 : decode cX8_stepByRank 7 = .ok (.if_icmp .eq 18, 3) := by decide +kernel
theorem dX8_stepByRank_10 : decode cX8_stepByRank 10 = .ok (.aload_n 0, 1) := by decide +kernel
theorem dX8_stepByRank_11 : decode cX8_stepByRank 11 = .ok (.iload_n 1, 1) := by decide +kernel
theorem dX8_stepByRank_12 : decode cX8_stepByRank 12 = .ok (.bipush 10, 2) := by decide +kernel
theorem dX8_stepByRank_14 : decode cX8_stepByRank 14 = .ok (.idiv, 1) := by decide +kernel
theorem dX8_stepByRank_15 : decode cX8_stepByRank 15 = .ok (.iload_n 1, 1) := by decide +kernel
theorem dX8_stepByRank_16 : decode cX8_stepByRank 16 = .ok (.bipush 10, 2) := by decide +kernel
theorem dX8_stepByRank_18 : decode cX8_stepByRank 18 = .ok (.irem, 1) := by decide +kernel
theorem dX8_stepByRank_19 : decode cX8_stepByRank 19 = .ok (.invokevirtual 258, 3) := by decide +kernel
theorem dX8_stepByRank_22 : decode cX8_stepByRank 22 = .ok (.goto 22, 3) := by decide +kernel
theorem dX8_stepByRank_25 : decode cX8_stepByRank 25 = .ok (.aload_n 0, 1) := by decide +kernel
theorem dX8_stepByRank_26 : decode cX8_stepByRank 26 = .ok (.invokevirtual 261, 3) := by decide +kernel
theorem dX8_stepByRank_29 : decode cX8_stepByRank 29 = .ok (.ifCond .eq 11, 3) := by decide +kernel
theorem dX8_stepByRank_32 : decode cX8_stepByRank 32 = .ok (.aload_n 0, 1) := by decide +kernel
theorem dX8_stepByRank_33 : decode cX8_stepByRank 33 = .ok (.invokevirtual 264, 3) := by decide +kernel
theorem dX8_stepByRank_36 : decode cX8_stepByRank 36 = .ok (.pop, 1) := by decide +kernel
theorem dX8_stepByRank_37 : decode cX8_stepByRank 37 = .ok (.goto 7, 3) := by decide +kernel
theorem dX8_stepByRank_40 : decode cX8_stepByRank 40 = .ok (.aload_n 0, 1) := by decide +kernel
theorem dX8_stepByRank_41 : decode cX8_stepByRank 41 = .ok (.invokevirtual 267, 3) := by decide +kernel
theorem dX8_stepByRank_44 : decode cX8_stepByRank 44 = .ok (.return_, 1) := by decide +kernel
set_option maxRecDepth 20000 in
theorem ggX8_goOn_X8_stepByRank : GoodIn wsX8_goOn wsX8_stepByRank := goodIn_r _ [6, 7, 8, 9, 5, 10, 1, 11, 12, 13, 14, 15, 16, 17, 18, 19, 20, 21, 22, 23, 24, 25, 26, 27, 28, 29, 30, 31, 32, 33, 34, 35, 36, 37, 38, 39, 40, 41, 42, 43, 44, 45, 46, 47, 48, 49, 50, 51, 52, 53, 54, 55, 56, 57, 58, 59, 60, 61, 62, 63, 64, 65, 66, 67, 68, 69, 70, 71, 72, 73, 74, 75, 76, 77, 78, 79, 80, 81, 82, 83, 84, 85, 86, 87, 88, 89, 90, 91, 92, 93, 94, 95, 96, 97, 98, 99, 100, 101, 102, 103, 104, 105, 106, 107, 108, 109, 110, 111, 112] rfl (by decide +kernel)
set_option maxRecDepth 20000 in
theorem gX8_goOn_X8_stepByRank : GoodIn wsX8_goOn (wsV RX8 270 RX8 yX8_stepByRank wsX8_stepByRank) := goodIn_app (goodIn_of _ (by decide +kernel)) ggX8_goOn_X8_stepByRank
theorem dX8_goOn_0 : decode cX8_goOn 0 = .ok (.iconst 0, 1) := by decide +kernel
theorem dX8_goOn_1 : decode cX8_goOn 1 = .ok (.istore_n 2, 1) := by decide +kernel
theorem dX8_goOn_2 : decode cX8_goOn 2 = .ok (.iload_n 2, 1) := by decide +kernel
theorem dX8_goOn_3 : decode cX8_goOn 3 = .ok (.iload_n 1, 1) := by decide +kernel
theorem dX8_goOn_4 : decode cX8_goOn 4 = .ok (.if_icmp .ge 23, 3) := by decide +kernel
theorem dX8_goOn_7 : decode cX8_goOn 7 = .ok (.aload_n 0, 1) := by decide +kernel
theorem dX8_goOn_8 : decode cX8_goOn 8 = .ok (.getfield 17, 3) := by decide +kernel
theorem dX8_goOn_11 : decode cX8_goOn 11 = .ok (.bipush 8, 2) := by decide +kernel
theorem dX8_goOn_13 : decode cX8_goOn 13 = .ok (.iaload, 1) := by decide +kernel
theorem dX8_goOn_14 : decode cX8_goOn 14 = .ok (.ifCond .ne 13, 3) := by decide +kernel
theorem dX8_goOn_17 : decode cX8_goOn 17 = .ok (.aload_n 0, 1) := by decide +kernel
theorem dX8_goOn_18 : decode cX8_goOn 18 = .ok (.invokevirtual 270, 3) := by decide +kernel
theorem dX8_goOn_21 : decode cX8_goOn 21 = .ok (.iinc 2 1, 3) := by decide +kernel
theorem dX8_goOn_24 : decode cX8_goOn 24 = .ok (.goto (-22), 3) := by decide +kernel
theorem dX8_goOn_27 : decode cX8_goOn 27 = .ok (.iload_n 2, 1) := by decide +kernel
theorem dX8_goOn_28 : decode cX8_goOn 28 = .ok (.ireturn, 1) := by decide +kernel
theorem dX8_other_0 : decode cX8_other 0 = .ok (.iload_n 0, 1) := by decide +kernel
theorem dX8_other_1 : decode cX8_other 1 = .ok (.bipush 10, 2) := by decide +kernel
theorem dX8_other_3 : decode cX8_other 3 = .ok (.idiv, 1) := by decide +kernel
theorem dX8_other_4 : decode cX8_other 4 = .ok (.iload_n 1, 1) := by decide +kernel
theorem dX8_other_5 : decode cX8_other 5 = .ok (.if_icmp .ne 10, 3) := by decide +kernel
theorem dX8_other_8 : decode cX8_other 8 = .ok (.iload_n 0, 1) := by decide +kernel
theorem dX8_other_9 : decode cX8_other 9 = .ok (.bipush 10, 2) := by decide +kernel
theorem dX8_other_11 : decode cX8_other 11 = .ok (.irem, 1) := by decide +kernel
theorem dX8_other_12 : decode cX8_other 12 = .ok (.goto 7, 3) := by decide +kernel
theorem dX8_other_15 : decode cX8_other 15 = .ok (.iload_n 0, 1) := by decide +kernel
theorem dX8_other_16 : decode cX8_other 16 = .ok (.bipush 10, 2) := by decide +kernel
theorem dX8_other_18 : decode cX8_other 18 = .ok (.idiv, 1) := by decide +kernel
theorem dX8_other_19 : decode cX8_other 19 = .ok (.ireturn, 1) := by decide +kernel
set_option maxRecDepth 20000 in
theorem ggX8_layRows_X8_hand : GoodIn wsX8_layRows wsX8_hand := goodIn_r _ [7, 8, 9, 10, 6, 11, 35, 36, 37, 38, 39, 40, 41, 42, 43, 44, 45, 46, 47, 48, 49, 50, 51, 52, 53, 54, 55, 56] rfl (by decide +kernel)
set_option maxRecDepth 20000 in
theorem gX8_layRows_X8_hand : GoodIn wsX8_layRows (wsV RX8 233 RX8 yX8_hand wsX8_hand) := goodIn_app (goodIn_of _ (by decide +kernel)) ggX8_layRows_X8_hand
set_option maxRecDepth 20000 in
theorem ggX8_layRows_X8_isInHand : GoodIn wsX8_layRows wsX8_isInHand := goodIn_r _ [15, 8, 35, 36, 37, 38, 39, 40, 41, 42, 43, 44, 45, 46, 47, 48, 49, 50, 51, 52, 53, 54, 55, 56] rfl (by decide +kernel)
set_option maxRecDepth 20000 in
theorem gX8_layRows_X8_isInHand : GoodIn wsX8_layRows (wsV RX8 203 RX8 yX8_isInHand wsX8_isInHand) := goodIn_app (goodIn_of _ (by decide +kernel)) ggX8_layRows_X8_isInHand
set_option maxRecDepth 20000 in
theorem ggX8_layRows_X8_layRow : GoodIn wsX8_layRows wsX8_layRow := goodIn_r _ [19, 20, 21, 1, 2, 22, 23, 24, 25, 26, 27, 6, 28, 29, 30, 31, 32, 33, 34, 35, 36, 37, 38, 39, 40, 41, 42, 43, 44, 45, 46, 47, 48, 49, 50, 51, 52, 53, 54, 55, 56] rfl (by decide +kernel)
set_option maxRecDepth 20000 in
theorem gX8_layRows_X8_layRow : GoodIn wsX8_layRows (wsV RX8 276 RX8 yX8_layRow wsX8_layRow) := goodIn_app (goodIn_of _ (by decide +kernel)) ggX8_layRows_X8_layRow
theorem dX8_layRows_0 : decode cX8_layRows 0 = .ok (.aload_n 0, 1) := by decide +kernel
theorem dX8_layRows_1 : decode cX8_layRows 1 = .ok (.aload_n 0, 1) := by decide +kernel
theorem dX8_layRows_2 : decode cX8_layRows 2 = .ok (.iload_n 1, 1) := by decide +kernel
theorem dX8_layRows_3 : decode cX8_layRows 3 = .ok (.invokevirtual 233, 3) := by decide +kernel
theorem dX8_layRows_6 : decode cX8_layRows 6 = .ok (.putfield 273, 3) := by decide +kernel
theorem dX8_layRows_9 : decode cX8_layRows 9 = .ok (.aload_n 0, 1) := by decide +kernel
theorem dX8_layRows_10 : decode cX8_layRows 10 = .ok (.getfield 273, 3) := by decide +kernel
theorem dX8_layRows_13 : decode cX8_layRows 13 = .ok (.bipush 12, 2) := by decide +kernel
theorem dX8_layRows_15 : decode cX8_layRows 15 = .ok (.if_icmp .le 5, 3) := by decide +kernel
theorem dX8_layRows_18 : decode cX8_layRows 18 = .ok (.iconst 0, 1) := by decide +kernel
theorem dX8_layRows_19 : decode cX8_layRows 19 = .ok (.ireturn, 1) := by decide +kernel
theorem dX8_layRows_20 : decode cX8_layRows 20 = .ok (.iconst 0, 1) := by decide +kernel
theorem dX8_layRows_21 : decode cX8_layRows 21 = .ok (.istore_n 2, 1) := by decide +kernel
theorem dX8_layRows_22 : decode cX8_layRows 22 = .ok (.iconst 0, 1) := by decide +kernel
theorem dX8_layRows_23 : decode cX8_layRows 23 = .ok (.istore_n 3, 1) := by decide +kernel
theorem dX8_layRows_24 : decode cX8_layRows 24 = .ok (.iload_n 3, 1) := by decide +kernel
theorem dX8_layRows_25 : decode cX8_layRows 25 = .ok (.bipush 100, 2) := by decide +kernel
theorem dX8_layRows_27 : decode cX8_layRows 27 = .ok (.if_icmp .ge 31, 3) := by decide +kernel
theorem dX8_layRows_30 : decode cX8_layRows 30 = .ok (.aload_n 0, 1) := by decide +kernel
theorem dX8_layRows_31 : decode cX8_layRows 31 = .ok (.iload_n 1, 1) := by decide +kernel
theorem dX8_layRows_32 : decode cX8_layRows 32 = .ok (.iload_n 3, 1) := by decide +kernel
theorem dX8_layRows_33 : decode cX8_layRows 33 = .ok (.invokevirtual 203, 3) := by decide +kernel
theorem dX8_layRows_36 : decode cX8_layRows 36 = .ok (.ifCond .ne 6, 3) := by decide +kernel
theorem dX8_layRows_39 : decode cX8_layRows 39 = .ok (.goto 13, 3) := by decide +kernel
theorem dX8_layRows_42 : decode cX8_layRows 42 = .ok (.aload_n 0, 1) := by decide +kernel
theorem dX8_layRows_43 : decode cX8_layRows 43 = .ok (.getfield 35, 3) := by decide +kernel
theorem dX8_layRows_46 : decode cX8_layRows 46 = .ok (.iload_n 2, 1) := by decide +kernel
theorem dX8_layRows_47 : decode cX8_layRows 47 = .ok (.iload_n 3, 1) := by decide +kernel
theorem dX8_layRows_48 : decode cX8_layRows 48 = .ok (.iastore, 1) := by decide +kernel
theorem dX8_layRows_49 : decode cX8_layRows 49 = .ok (.iinc 2 1, 3) := by decide +kernel
theorem dX8_layRows_52 : decode cX8_layRows 52 = .ok (.iinc 3 1, 3) := by decide +kernel
theorem dX8_layRows_55 : decode cX8_layRows 55 = .ok (.goto (-31), 3) := by decide +kernel
theorem dX8_layRows_58 : decode cX8_layRows 58 = .ok (.iconst 1, 1) := by decide +kernel
theorem dX8_layRows_59 : decode cX8_layRows 59 = .ok (.iload_n 2, 1) := by decide +kernel
theorem dX8_layRows_60 : decode cX8_layRows 60 = .ok (.ishl, 1) := by decide +kernel
theorem dX8_layRows_61 : decode cX8_layRows 61 = .ok (.iconst 1, 1) := by decide +kernel
theorem dX8_layRows_62 : decode cX8_layRows 62 = .ok (.isub, 1) := by decide +kernel
theorem dX8_layRows_63 : decode cX8_layRows 63 = .ok (.istore_n 3, 1) := by decide +kernel
theorem dX8_layRows_64 : decode cX8_layRows 64 = .ok (.iload_n 3, 1) := by decide +kernel
theorem dX8_layRows_65 : decode cX8_layRows 65 = .ok (.ifCond .lt 32, 3) := by decide +kernel
theorem dX8_layRows_68 : decode cX8_layRows 68 = .ok (.iconst 0, 1) := by decide +kernel
theorem dX8_layRows_69 : decode cX8_layRows 69 = .ok (.istore 4, 2) := by decide +kernel
theorem dX8_layRows_71 : decode cX8_layRows 71 = .ok (.iload 4, 2) := by decide +kernel
theorem dX8_layRows_73 : decode cX8_layRows 73 = .ok (.bipush 10, 2) := by decide +kernel
theorem dX8_layRows_75 : decode cX8_layRows 75 = .ok (.if_icmp .ge 16, 3) := by decide +kernel
theorem dX8_layRows_78 : decode cX8_layRows 78 = .ok (.aload_n 0, 1) := by decide +kernel
theorem dX8_layRows_79 : decode cX8_layRows 79 = .ok (.iload_n 3, 1) := by decide +kernel
theorem dX8_layRows_80 : decode cX8_layRows 80 = .ok (.iload 4, 2) := by decide +kernel
theorem dX8_layRows_82 : decode cX8_layRows 82 = .ok (.invokevirtual 276, 3) := by decide +kernel
theorem dX8_layRows_85 : decode cX8_layRows 85 = .ok (.iinc 4 1, 3) := by decide +kernel
theorem dX8_layRows_88 : decode cX8_layRows 88 = .ok (.goto (-17), 3) := by decide +kernel
theorem dX8_layRows_91 : decode cX8_layRows 91 = .ok (.iinc 3 (-1), 3) := by decide +kernel
theorem dX8_layRows_94 : decode cX8_layRows 94 = .ok (.goto (-30), 3) := by decide +kernel
theorem dX8_layRows_97 : decode cX8_layRows 97 = .ok (.iconst 1, 1) := by decide +kernel
theorem dX8_layRows_98 : decode cX8_layRows 98 = .ok (.ireturn, 1) := by decide +kernel
set_option maxRecDepth 20000 in
theorem ggX8_layRow_X8_fits : GoodIn wsX8_layRow wsX8_fits := goodIn_r _ [12] rfl (by decide +kernel)
set_option maxRecDepth 20000 in
theorem gX8_layRow_X8_fits : GoodIn wsX8_layRow (va_wsS RX8 210 yX8_fits wsX8_fits) := goodIn_app (goodIn_of _ (by decide +kernel)) ggX8_layRow_X8_fits
set_option maxRecDepth 20000 in
theorem ggX8_layRow_X8_other : GoodIn wsX8_layRow wsX8_other := goodIn_r _ [15] rfl (by decide +kernel)
set_option maxRecDepth 20000 in
theorem gX8_layRow_X8_other : GoodIn wsX8_layRow (va_wsS RX8 279 yX8_other wsX8_other) := goodIn_app (goodIn_of _ (by decide +kernel)) ggX8_layRow_X8_other
set_option maxRecDepth 20000 in
theorem ggX8_layRow_X8_pipsOf : GoodIn wsX8_layRow wsX8_pipsOf := goodIn_r _ [18] rfl (by decide +kernel)
set_option maxRecDepth 20000 in
theorem gX8_layRow_X8_pipsOf : GoodIn wsX8_layRow (va_wsS RX8 227 yX8_pipsOf wsX8_pipsOf) := goodIn_app (goodIn_of _ (by decide +kernel)) ggX8_layRow_X8_pipsOf
theorem dX8_layRow_0 : decode cX8_layRow 0 = .ok (.bipush 10, 2) := by decide +kernel
theorem dX8_layRow_2 : decode cX8_layRow 2 = .ok (.iload_n 1, 1) := by decide +kernel
theorem dX8_layRow_3 : decode cX8_layRow 3 = .ok (.imul, 1) := by decide +kernel
theorem dX8_layRow_4 : decode cX8_layRow 4 = .ok (.iload_n 2, 1) := by decide +kernel
theorem dX8_layRow_5 : decode cX8_layRow 5 = .ok (.iadd, 1) := by decide +kernel
theorem dX8_layRow_6 : decode cX8_layRow 6 = .ok (.istore_n 3, 1) := by decide +kernel
theorem dX8_layRow_7 : decode cX8_layRow 7 = .ok (.aload_n 0, 1) := by decide +kernel
theorem dX8_layRow_8 : decode cX8_layRow 8 = .ok (.getfield 39, 3) := by decide +kernel
theorem dX8_layRow_11 : decode cX8_layRow 11 = .ok (.iload_n 3, 1) := by decide +kernel
theorem dX8_layRow_12 : decode cX8_layRow 12 = .ok (.iconst 0, 1) := by decide +kernel
theorem dX8_layRow_13 : decode cX8_layRow 13 = .ok (.iastore, 1) := by decide +kernel
theorem dX8_layRow_14 : decode cX8_layRow 14 = .ok (.aload_n 0, 1) := by decide +kernel
theorem dX8_layRow_15 : decode cX8_layRow 15 = .ok (.getfield 42, 3) := by decide +kernel
theorem dX8_layRow_18 : decode cX8_layRow 18 = .ok (.iload_n 3, 1) := by decide +kernel
theorem dX8_layRow_19 : decode cX8_layRow 19 = .ok (.iconst 0, 1) := by decide +kernel
theorem dX8_layRow_20 : decode cX8_layRow 20 = .ok (.iastore, 1) := by decide +kernel
theorem dX8_layRow_21 : decode cX8_layRow 21 = .ok (.iconst 0, 1) := by decide +kernel
theorem dX8_layRow_22 : decode cX8_layRow 22 = .ok (.istore 4, 2) := by decide +kernel
theorem dX8_layRow_24 : decode cX8_layRow 24 = .ok (.iload 4, 2) := by decide +kernel
theorem dX8_layRow_26 : decode cX8_layRow 26 = .ok (.aload_n 0, 1) := by decide +kernel
theorem dX8_layRow_27 : decode cX8_layRow 27 = .ok (.getfield 273, 3) := by decide +kernel
theorem dX8_layRow_30 : decode cX8_layRow 30 = .ok (.if_icmp .ge 116, 3) := by decide +kernel
theorem dX8_layRow_33 : decode cX8_layRow 33 = .ok (.iload_n 1, 1) := by decide +kernel
theorem dX8_layRow_34 : decode cX8_layRow 34 = .ok (.iload 4, 2) := by decide +kernel
theorem dX8_layRow_36 : decode cX8_layRow 36 = .ok (.ishr, 1) := by decide +kernel
theorem dX8_layRow_37 : decode cX8_layRow 37 = .ok (.iconst 1, 1) := by decide +kernel
theorem dX8_layRow_38 : decode cX8_layRow 38 = .ok (.iand, 1) := by decide +kernel
theorem dX8_layRow_39 : decode cX8_layRow 39 = .ok (.iconst 1, 1) := by decide +kernel
theorem dX8_layRow_40 : decode cX8_layRow 40 = .ok (.if_icmp .eq 100, 3) := by decide +kernel
theorem dX8_layRow_43 : decode cX8_layRow 43 = .ok (.aload_n 0, 1) := by decide +kernel
theorem dX8_layRow_44 : decode cX8_layRow 44 = .ok (.getfield 35, 3) := by decide +kernel
theorem dX8_layRow_47 : decode cX8_layRow 47 = .ok (.iload 4, 2) := by decide +kernel
theorem dX8_layRow_49 : decode cX8_layRow 49 = .ok (.iaload, 1) := by decide +kernel
theorem dX8_layRow_50 : decode cX8_layRow 50 = .ok (.iload_n 2, 1) := by decide +kernel
theorem dX8_layRow_51 : decode cX8_layRow 51 = .ok (.invokestatic 210, 3) := by decide +kernel
theorem dX8_layRow_54 : decode cX8_layRow 54 = .ok (.ifCond .ne 6, 3) := by decide +kernel
theorem dX8_layRow_57 : decode cX8_layRow 57 = .ok (.goto 83, 3) := by decide +kernel
theorem dX8_layRow_60 : decode cX8_layRow 60 = .ok (.bipush 10, 2) := by decide +kernel
theorem dX8_layRow_62 : decode cX8_layRow 62 = .ok (.iload_n 1, 1) := by decide +kernel
theorem dX8_layRow_63 : decode cX8_layRow 63 = .ok (.iconst 1, 1) := by decide +kernel
theorem dX8_layRow_64 : decode cX8_layRow 64 = .ok (.iload 4, 2) := by decide +kernel
theorem dX8_layRow_66 : decode cX8_layRow 66 = .ok (.ishl, 1) := by decide +kernel
theorem dX8_layRow_67 : decode cX8_layRow 67 = .ok (.ior, 1) := by decide +kernel
theorem dX8_layRow_68 : decode cX8_layRow 68 = .ok (.imul, 1) := by decide +kernel
theorem dX8_layRow_69 : decode cX8_layRow 69 = .ok (.aload_n 0, 1) := by decide +kernel
theorem dX8_layRow_70 : decode cX8_layRow 70 = .ok (.getfield 35, 3) := by decide +kernel
theorem dX8_layRow_73 : decode cX8_layRow 73 = .ok (.iload 4, 2) := by decide +kernel
theorem dX8_layRow_75 : decode cX8_layRow 75 = .ok (.iaload, 1) := by decide +kernel
theorem dX8_layRow_76 : decode cX8_layRow 76 = .ok (.iload_n 2, 1) := by decide +kernel
theorem dX8_layRow_77 : decode cX8_layRow 77 = .ok (.invokestatic 279, 3) := by decide +kernel
theorem dX8_layRow_80 : decode cX8_layRow 80 = .ok (.iadd, 1) := by decide +kernel
theorem dX8_layRow_81 : decode cX8_layRow 81 = .ok (.istore 5, 2) := by decide +kernel
theorem dX8_layRow_83 : decode cX8_layRow 83 = .ok (.aload_n 0, 1) := by decide +kernel
theorem dX8_layRow_84 : decode cX8_layRow 84 = .ok (.getfield 39, 3) := by decide +kernel
theorem dX8_layRow_87 : decode cX8_layRow 87 = .ok (.iload_n 3, 1) := by decide +kernel
theorem dX8_layRow_88 : decode cX8_layRow 88 = .ok (.aload_n 0, 1) := by decide +kernel
theorem dX8_layRow_89 : decode cX8_layRow 89 = .ok (.getfield 39, 3) := by decide +kernel
theorem dX8_layRow_92 : decode cX8_layRow 92 = .ok (.iload_n 3, 1) := by decide +kernel
theorem dX8_layRow_93 : decode cX8_layRow 93 = .ok (.iaload, 1) := by decide +kernel
theorem dX8_layRow_94 : decode cX8_layRow 94 = .ok (.aload_n 0, 1) := by decide +kernel
theorem dX8_layRow_95 : decode cX8_layRow 95 = .ok (.getfield 39, 3) := by decide +kernel
theorem dX8_layRow_98 : decode cX8_layRow 98 = .ok (.iload 5, 2) := by decide +kernel
theorem dX8_layRow_100 : decode cX8_layRow 100 = .ok (.iaload, 1) := by decide +kernel
theorem dX8_layRow_101 : decode cX8_layRow 101 = .ok (.iconst 1, 1) := by decide +kernel
theorem dX8_layRow_102 : decode cX8_layRow 102 = .ok (.iadd, 1) := by decide +kernel
theorem dX8_layRow_103 : decode cX8_layRow 103 = .ok (.invokestatic 282, 3) := by decide +kernel
theorem dX8_layRow_106 : decode cX8_layRow 106 = .ok (.iastore, 1) := by decide +kernel
theorem dX8_layRow_107 : decode cX8_layRow 107 = .ok (.aload_n 0, 1) := by decide +kernel
theorem dX8_layRow_108 : decode cX8_layRow 108 = .ok (.getfield 42, 3) := by decide +kernel
theorem dX8_layRow_111 : decode cX8_layRow 111 = .ok (.iload_n 3, 1) := by decide +kernel
theorem dX8_layRow_112 : decode cX8_layRow 112 = .ok (.aload_n 0, 1) := by decide +kernel
theorem dX8_layRow_113 : decode cX8_layRow 113 = .ok (.getfield 42, 3) := by decide +kernel
theorem dX8_layRow_116 : decode cX8_layRow 116 = .ok (.iload_n 3, 1) := by decide +kernel
theorem dX8_layRow_117 : decode cX8_layRow 117 = .ok (.iaload, 1) := by decide +kernel
theorem dX8_layRow_118 : decode cX8_layRow 118 = .ok (.aload_n 0, 1) := by decide +kernel
theorem dX8_layRow_119 : decode cX8_layRow 119 = .ok (.getfield 42, 3) := by decide +kernel
theorem dX8_layRow_122 : decode cX8_layRow 122 = .ok (.iload 5, 2) := by decide +kernel
theorem dX8_layRow_124 : decode cX8_layRow 124 = .ok (.iaload, 1) := by decide +kernel
theorem dX8_layRow_125 : decode cX8_layRow 125 = .ok (.aload_n 0, 1) := by decide +kernel
theorem dX8_layRow_126 : decode cX8_layRow 126 = .ok (.getfield 35, 3) := by decide +kernel
theorem dX8_layRow_129 : decode cX8_layRow 129 = .ok (.iload 4, 2) := by decide +kernel
theorem dX8_layRow_131 : decode cX8_layRow 131 = .ok (.iaload, 1) := by decide +kernel
theorem dX8_layRow_132 : decode cX8_layRow 132 = .ok (.invokestatic 227, 3) := by decide +kernel
theorem dX8_layRow_135 : decode cX8_layRow 135 = .ok (.iadd, 1) := by decide +kernel
theorem dX8_layRow_136 : decode cX8_layRow 136 = .ok (.invokestatic 282, 3) := by decide +kernel
theorem dX8_layRow_139 : decode cX8_layRow 139 = .ok (.iastore, 1) := by decide +kernel
theorem dX8_layRow_140 : decode cX8_layRow 140 = .ok (.iinc 4 1, 3) := by decide +kernel
theorem dX8_layRow_143 : decode cX8_layRow 143 = .ok (.goto (-119), 3) := by decide +kernel
theorem dX8_layRow_146 : decode cX8_layRow 146 = .ok (.return_, 1) := by decide +kernel
set_option maxRecDepth 20000 in
theorem ggX8_nextIn_X8_fits : GoodIn wsX8_nextIn wsX8_fits := goodIn_r _ [6] rfl (by decide +kernel)
set_option maxRecDepth 20000 in
theorem gX8_nextIn_X8_fits : GoodIn wsX8_nextIn (va_wsS RX8 210 yX8_fits wsX8_fits) := goodIn_app (goodIn_of _ (by decide +kernel)) ggX8_nextIn_X8_fits
set_option maxRecDepth 20000 in
theorem ggX8_nextIn_X8_other : GoodIn wsX8_nextIn wsX8_other := goodIn_r _ [9] rfl (by decide +kernel)
set_option maxRecDepth 20000 in
theorem gX8_nextIn_X8_other : GoodIn wsX8_nextIn (va_wsS RX8 279 yX8_other wsX8_other) := goodIn_app (goodIn_of _ (by decide +kernel)) ggX8_nextIn_X8_other
theorem dX8_nextIn_0 : decode cX8_nextIn 0 = .ok (.iconst 0, 1) := by decide +kernel
theorem dX8_nextIn_1 : decode cX8_nextIn 1 = .ok (.istore_n 3, 1) := by decide +kernel
theorem dX8_nextIn_2 : decode cX8_nextIn 2 = .ok (.iload_n 1, 1) := by decide +kernel
theorem dX8_nextIn_3 : decode cX8_nextIn 3 = .ok (.iload_n 3, 1) := by decide +kernel
theorem dX8_nextIn_4 : decode cX8_nextIn 4 = .ok (.ishr, 1) := by decide +kernel
theorem dX8_nextIn_5 : decode cX8_nextIn 5 = .ok (.iconst 1, 1) := by decide +kernel
theorem dX8_nextIn_6 : decode cX8_nextIn 6 = .ok (.iand, 1) := by decide +kernel
theorem dX8_nextIn_7 : decode cX8_nextIn 7 = .ok (.iconst 1, 1) := by decide +kernel
theorem dX8_nextIn_8 : decode cX8_nextIn 8 = .ok (.if_icmp .eq 56, 3) := by decide +kernel
theorem dX8_nextIn_11 : decode cX8_nextIn 11 = .ok (.aload_n 0, 1) := by decide +kernel
theorem dX8_nextIn_12 : decode cX8_nextIn 12 = .ok (.getfield 35, 3) := by decide +kernel
theorem dX8_nextIn_15 : decode cX8_nextIn 15 = .ok (.iload_n 3, 1) := by decide +kernel
theorem dX8_nextIn_16 : decode cX8_nextIn 16 = .ok (.iaload, 1) := by decide +kernel
theorem dX8_nextIn_17 : decode cX8_nextIn 17 = .ok (.iload_n 2, 1) := by decide +kernel
theorem dX8_nextIn_18 : decode cX8_nextIn 18 = .ok (.invokestatic 210, 3) := by decide +kernel
theorem dX8_nextIn_21 : decode cX8_nextIn 21 = .ok (.ifCond .eq 43, 3) := by decide +kernel
theorem dX8_nextIn_24 : decode cX8_nextIn 24 = .ok (.aload_n 0, 1) := by decide +kernel
theorem dX8_nextIn_25 : decode cX8_nextIn 25 = .ok (.getfield 39, 3) := by decide +kernel
theorem dX8_nextIn_28 : decode cX8_nextIn 28 = .ok (.bipush 10, 2) := by decide +kernel
theorem dX8_nextIn_30 : decode cX8_nextIn 30 = .ok (.iload_n 1, 1) := by decide +kernel
theorem dX8_nextIn_31 : decode cX8_nextIn 31 = .ok (.iconst 1, 1) := by decide +kernel
theorem dX8_nextIn_32 : decode cX8_nextIn 32 = .ok (.iload_n 3, 1) := by decide +kernel
theorem dX8_nextIn_33 : decode cX8_nextIn 33 = .ok (.ishl, 1) := by decide +kernel
theorem dX8_nextIn_34 : decode cX8_nextIn 34 = .ok (.ior, 1) := by decide +kernel
theorem dX8_nextIn_35 : decode cX8_nextIn 35 = .ok (.imul, 1) := by decide +kernel
theorem dX8_nextIn_36 : decode cX8_nextIn 36 = .ok (.aload_n 0, 1) := by decide +kernel
theorem dX8_nextIn_37 : decode cX8_nextIn 37 = .ok (.getfield 35, 3) := by decide +kernel
theorem dX8_nextIn_40 : decode cX8_nextIn 40 = .ok (.iload_n 3, 1) := by decide +kernel
theorem dX8_nextIn_41 : decode cX8_nextIn 41 = .ok (.iaload, 1) := by decide +kernel
theorem dX8_nextIn_42 : decode cX8_nextIn 42 = .ok (.iload_n 2, 1) := by decide +kernel
theorem dX8_nextIn_43 : decode cX8_nextIn 43 = .ok (.invokestatic 279, 3) := by decide +kernel
theorem dX8_nextIn_46 : decode cX8_nextIn 46 = .ok (.iadd, 1) := by decide +kernel
theorem dX8_nextIn_47 : decode cX8_nextIn 47 = .ok (.iaload, 1) := by decide +kernel
theorem dX8_nextIn_48 : decode cX8_nextIn 48 = .ok (.aload_n 0, 1) := by decide +kernel
theorem dX8_nextIn_49 : decode cX8_nextIn 49 = .ok (.getfield 39, 3) := by decide +kernel
theorem dX8_nextIn_52 : decode cX8_nextIn 52 = .ok (.bipush 10, 2) := by decide +kernel
theorem dX8_nextIn_54 : decode cX8_nextIn 54 = .ok (.iload_n 1, 1) := by decide +kernel
theorem dX8_nextIn_55 : decode cX8_nextIn 55 = .ok (.imul, 1) := by decide +kernel
theorem dX8_nextIn_56 : decode cX8_nextIn 56 = .ok (.iload_n 2, 1) := by decide +kernel
theorem dX8_nextIn_57 : decode cX8_nextIn 57 = .ok (.iadd, 1) := by decide +kernel
theorem dX8_nextIn_58 : decode cX8_nextIn 58 = .ok (.iaload, 1) := by decide +kernel
theorem dX8_nextIn_59 : decode cX8_nextIn 59 = .ok (.iconst 1, 1) := by decide +kernel
theorem dX8_nextIn_60 : decode cX8_nextIn 60 = .ok (.isub, 1) := by decide +kernel
