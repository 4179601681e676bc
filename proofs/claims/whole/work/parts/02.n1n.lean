theorem dX8_longest_14 : decode cX8_longest 14 = .ok (.ireturn, 1) := by decide +kernel
theorem dX8_longest_15 : decode cX8_longest 15 = .ok (.aload_n 0, 1) := by decide +kernel
theorem dX8_longest_16 : decode cX8_longest 16 = .ok (.iload_n 1, 1) := by decide +kernel
theorem dX8_longest_17 : decode cX8_longest 17 = .ok (.invokevirtual 311, 3) := by decide +kernel
theorem dX8_longest_20 : decode cX8_longest 20 = .ok (.ifCond .eq 17, 3) := by decide +kernel
theorem dX8_longest_23 : decode cX8_longest 23 = .ok (.aload_n 0, 1) := by decide +kernel
theorem dX8_longest_24 : decode cX8_longest 24 = .ok (.getfield 39, 3) := by decide +kernel
theorem dX8_longest_27 : decode cX8_longest 27 = .ok (.aload_n 0, 1) := by decide +kernel
theorem dX8_longest_28 : decode cX8_longest 28 = .ok (.iload_n 1, 1) := by decide +kernel
theorem dX8_longest_29 : decode cX8_longest 29 = .ok (.iconst 1, 1) := by decide +kernel
theorem dX8_longest_30 : decode cX8_longest 30 = .ok (.invokevirtual 207, 3) := by decide +kernel
theorem dX8_longest_33 : decode cX8_longest 33 = .ok (.iaload, 1) := by decide +kernel
theorem dX8_longest_34 : decode cX8_longest 34 = .ok (.goto 5, 3) := by decide +kernel
theorem dX8_longest_37 : decode cX8_longest 37 = .ok (.bipush (-2), 2) := by decide +kernel
theorem dX8_longest_39 : decode cX8_longest 39 = .ok (.ireturn, 1) := by decide +kernel
set_option maxRecDepth 20000 in
theorem ggX8_longestTile_X8_noPlayer : GoodIn wsX8_longestTile wsX8_noPlayer := goodIn_r _ [8, 9, 10, 11, 7, 12, 13, 14, 15, 16, 1, 62, 63, 64, 65, 66, 67, 68, 69, 70, 71, 72, 73, 74, 75, 76, 77, 78, 79, 80, 81, 82, 83] rfl (by decide +kernel)
set_option maxRecDepth 20000 in
theorem gX8_longestTile_X8_noPlayer : GoodIn wsX8_longestTile (wsV RX8 293 RX8 yX8_noPlayer wsX8_noPlayer) := goodIn_app (goodIn_of _ (by decide +kernel)) ggX8_longestTile_X8_noPlayer
set_option maxRecDepth 20000 in
theorem ggX8_longestTile_X8_ofTrain : GoodIn wsX8_longestTile wsX8_ofTrain := goodIn_r _ [20, 9, 21, 22, 7, 23, 62, 63, 64, 65, 66, 67, 68, 69, 70, 71, 72, 73, 74, 75, 76, 77, 78, 79, 80, 81, 82, 83] rfl (by decide +kernel)
set_option maxRecDepth 20000 in
theorem gX8_longestTile_X8_ofTrain : GoodIn wsX8_longestTile (wsV RX8 207 RX8 yX8_ofTrain wsX8_ofTrain) := goodIn_app (goodIn_of _ (by decide +kernel)) ggX8_longestTile_X8_ofTrain
set_option maxRecDepth 20000 in
theorem ggX8_longestTile_X8_layRows : GoodIn wsX8_longestTile wsX8_layRows := goodIn_r _ [27, 28, 3, 29, 30, 31, 7, 32, 9, 33, 34, 35, 36, 37, 38, 39, 40, 41, 42, 43, 2, 44, 45, 46, 47, 48, 49, 50, 51, 52, 53, 54, 55, 56, 57, 62, 63, 64, 65, 66, 67, 68, 69, 70, 71, 72, 73, 74, 75, 76, 77, 78, 79, 80, 81, 82, 83] rfl (by decide +kernel)
set_option maxRecDepth 20000 in
theorem gX8_longestTile_X8_layRows : GoodIn wsX8_longestTile (wsV RX8 311 RX8 yX8_layRows wsX8_layRows) := goodIn_app (goodIn_of _ (by decide +kernel)) ggX8_longestTile_X8_layRows
set_option maxRecDepth 20000 in
theorem ggX8_longestTile_X8_in : GoodIn wsX8_longestTile wsX8_in := goodIn_r _ [12] rfl (by decide +kernel)
set_option maxRecDepth 20000 in
theorem gX8_longestTile_X8_in : GoodIn wsX8_longestTile (va_wsS RX8 56 yX8_in wsX8_in) := goodIn_app (goodIn_of _ (by decide +kernel)) ggX8_longestTile_X8_in
set_option maxRecDepth 20000 in
theorem ggX8_longestTile_X8_fails : GoodIn wsX8_longestTile wsX8_fails := goodIn_r _ [16, 1, 62, 63, 64, 65, 66, 67, 68, 69, 70, 71, 72, 73, 74, 75, 76, 77, 78, 79, 80, 81, 82, 83] rfl (by decide +kernel)
set_option maxRecDepth 20000 in
theorem gX8_longestTile_X8_fails : GoodIn wsX8_longestTile (wsV RX8 187 RX8 yX8_fails wsX8_fails) := goodIn_app (goodIn_of _ (by decide +kernel)) ggX8_longestTile_X8_fails
set_option maxRecDepth 20000 in
theorem ggX8_longestTile_X8_nextIn : GoodIn wsX8_longestTile wsX8_nextIn := goodIn_r _ [61, 3, 2, 49, 50, 7, 51, 52, 53, 54, 62, 63, 64, 65, 66, 67, 68, 69, 70, 71, 72, 73, 74, 75, 76, 77, 78, 79, 80, 81, 82, 83] rfl (by decide +kernel)
set_option maxRecDepth 20000 in
theorem gX8_longestTile_X8_nextIn : GoodIn wsX8_longestTile (wsV RX8 314 RX8 yX8_nextIn wsX8_nextIn) := goodIn_app (goodIn_of _ (by decide +kernel)) ggX8_longestTile_X8_nextIn
set_option maxRecDepth 20000 in
theorem ggX8_longestTile_X8_other : GoodIn wsX8_longestTile wsX8_other := goodIn_r _ [54] rfl (by decide +kernel)
set_option maxRecDepth 20000 in
theorem gX8_longestTile_X8_other : GoodIn wsX8_longestTile (va_wsS RX8 279 yX8_other wsX8_other) := goodIn_app (goodIn_of _ (by decide +kernel)) ggX8_longestTile_X8_other
theorem dX8_longestTile_0 : decode cX8_longestTile 0 = .ok (.aload_n 0, 1) := by decide +kernel
theorem dX8_longestTile_1 : decode cX8_longestTile 1 = .ok (.iconst 0, 1) := by decide +kernel
theorem dX8_longestTile_2 : decode cX8_longestTile 2 = .ok (.putfield 53, 3) := by decide +kernel
theorem dX8_longestTile_5 : decode cX8_longestTile 5 = .ok (.aload_n 0, 1) := by decide +kernel
theorem dX8_longestTile_6 : decode cX8_longestTile 6 = .ok (.iload_n 1, 1) := by decide +kernel
theorem dX8_longestTile_7 : decode cX8_longestTile 7 = .ok (.invokevirtual 293, 3) := by decide +kernel
theorem dX8_longestTile_10 : decode cX8_longestTile 10 = .ok (.ifCond .eq 5, 3) := by decide +kernel
theorem dX8_longestTile_13 : decode cX8_longestTile 13 = .ok (.iconst 0, 1) := by decide +kernel
theorem dX8_longestTile_14 : decode cX8_longestTile 14 = .ok (.ireturn, 1) := by decide +kernel
theorem dX8_longestTile_15 : decode cX8_longestTile 15 = .ok (.aload_n 0, 1) := by decide +kernel
theorem dX8_longestTile_16 : decode cX8_longestTile 16 = .ok (.iload_n 1, 1) := by decide +kernel
theorem dX8_longestTile_17 : decode cX8_longestTile 17 = .ok (.iconst 1, 1) := by decide +kernel
theorem dX8_longestTile_18 : decode cX8_longestTile 18 = .ok (.invokevirtual 207, 3) := by decide +kernel
theorem dX8_longestTile_21 : decode cX8_longestTile 21 = .ok (.istore_n 3, 1) := by decide +kernel
theorem dX8_longestTile_22 : decode cX8_longestTile 22 = .ok (.iconst 0, 1) := by decide +kernel
theorem dX8_longestTile_23 : decode cX8_longestTile 23 = .ok (.istore 4, 2) := by decide +kernel
theorem dX8_longestTile_25 : decode cX8_longestTile 25 = .ok (.aload_n 0, 1) := by decide +kernel
theorem dX8_longestTile_26 : decode cX8_longestTile 26 = .ok (.iload_n 1, 1) := by decide +kernel
theorem dX8_longestTile_27 : decode cX8_longestTile 27 = .ok (.invokevirtual 311, 3) := by decide +kernel
theorem dX8_longestTile_30 : decode cX8_longestTile 30 = .ok (.istore 5, 2) := by decide +kernel
theorem dX8_longestTile_32 : decode cX8_longestTile 32 = .ok (.aload_n 0, 1) := by decide +kernel
theorem dX8_longestTile_33 : decode cX8_longestTile 33 = .ok (.iload 5, 2) := by decide +kernel
theorem dX8_longestTile_35 : decode cX8_longestTile 35 = .ok (.ifCond .eq 19, 3) := by decide +kernel
theorem dX8_longestTile_38 : decode cX8_longestTile 38 = .ok (.iload_n 2, 1) := by decide +kernel
theorem dX8_longestTile_39 : decode cX8_longestTile 39 = .ok (.iconst 0, 1) := by decide +kernel
theorem dX8_longestTile_40 : decode cX8_longestTile 40 = .ok (.aload_n 0, 1) := by decide +kernel
theorem dX8_longestTile_41 : decode cX8_longestTile 41 = .ok (.getfield 39, 3) := by decide +kernel
theorem dX8_longestTile_44 : decode cX8_longestTile 44 = .ok (.iload_n 3, 1) := by decide +kernel
theorem dX8_longestTile_45 : decode cX8_longestTile 45 = .ok (.iaload, 1) := by decide +kernel
theorem dX8_longestTile_46 : decode cX8_longestTile 46 = .ok (.iconst 1, 1) := by decide +kernel
theorem dX8_longestTile_47 : decode cX8_longestTile 47 = .ok (.isub, 1) := by decide +kernel
theorem dX8_longestTile_48 : decode cX8_longestTile 48 = .ok (.invokestatic 56, 3) := by decide +kernel
theorem dX8_longestTile_51 : decode cX8_longestTile 51 = .ok (.ifCond .ne 7, 3) := by decide +kernel
theorem dX8_longestTile_54 : decode cX8_longestTile 54 = .ok (.iconst 1, 1) := by decide +kernel
theorem dX8_longestTile_55 : decode cX8_longestTile 55 = .ok (.goto 4, 3) := by decide +kernel
theorem dX8_longestTile_58 : decode cX8_longestTile 58 = .ok (.iconst 0, 1) := by decide +kernel
theorem dX8_longestTile_59 : decode cX8_longestTile 59 = .ok (.iconst 2, 1) := by decide +kernel
theorem dX8_longestTile_60 : decode cX8_longestTile 60 = .ok (.invokevirtual 187, 3) := by decide +kernel
theorem dX8_longestTile_63 : decode cX8_longestTile 63 = .ok (.ifCond .eq 5, 3) := by decide +kernel
theorem dX8_longestTile_66 : decode cX8_longestTile 66 = .ok (.iconst 0, 1) := by decide +kernel
theorem dX8_longestTile_67 : decode cX8_longestTile 67 = .ok (.ireturn, 1) := by decide +kernel
theorem dX8_longestTile_68 : decode cX8_longestTile 68 = .ok (.iconst 0, 1) := by decide +kernel
theorem dX8_longestTile_69 : decode cX8_longestTile 69 = .ok (.istore 6, 2) := by decide +kernel
theorem dX8_longestTile_71 : decode cX8_longestTile 71 = .ok (.iload 6, 2) := by decide +kernel
theorem dX8_longestTile_73 : decode cX8_longestTile 73 = .ok (.iload_n 2, 1) := by decide +kernel
theorem dX8_longestTile_74 : decode cX8_longestTile 74 = .ok (.if_icmp .ge 39, 3) := by decide +kernel
theorem dX8_longestTile_77 : decode cX8_longestTile 77 = .ok (.aload_n 0, 1) := by decide +kernel
theorem dX8_longestTile_78 : decode cX8_longestTile 78 = .ok (.iload 4, 2) := by decide +kernel
theorem dX8_longestTile_80 : decode cX8_longestTile 80 = .ok (.iload_n 3, 1) := by decide +kernel
theorem dX8_longestTile_81 : decode cX8_longestTile 81 = .ok (.invokevirtual 314, 3) := by decide +kernel
theorem dX8_longestTile_84 : decode cX8_longestTile 84 = .ok (.istore 7, 2) := by decide +kernel
theorem dX8_longestTile_86 : decode cX8_longestTile 86 = .ok (.aload_n 0, 1) := by decide +kernel
theorem dX8_longestTile_87 : decode cX8_longestTile 87 = .ok (.getfield 35, 3) := by decide +kernel
theorem dX8_longestTile_90 : decode cX8_longestTile 90 = .ok (.iload 7, 2) := by decide +kernel
theorem dX8_longestTile_92 : decode cX8_longestTile 92 = .ok (.iaload, 1) := by decide +kernel
theorem dX8_longestTile_93 : decode cX8_longestTile 93 = .ok (.iload_n 3, 1) := by decide +kernel
theorem dX8_longestTile_94 : decode cX8_longestTile 94 = .ok (.invokestatic 279, 3) := by decide +kernel
theorem dX8_longestTile_97 : decode cX8_longestTile 97 = .ok (.istore_n 3, 1) := by decide +kernel
theorem dX8_longestTile_98 : decode cX8_longestTile 98 = .ok (.iload 4, 2) := by decide +kernel
theorem dX8_longestTile_100 : decode cX8_longestTile 100 = .ok (.iconst 1, 1) := by decide +kernel
theorem dX8_longestTile_101 : decode cX8_longestTile 101 = .ok (.iload 7, 2) := by decide +kernel
theorem dX8_longestTile_103 : decode cX8_longestTile 103 = .ok (.ishl, 1) := by decide +kernel
theorem dX8_longestTile_104 : decode cX8_longestTile 104 = .ok (.ior, 1) := by decide +kernel
theorem dX8_longestTile_105 : decode cX8_longestTile 105 = .ok (.istore 4, 2) := by decide +kernel
theorem dX8_longestTile_107 : decode cX8_longestTile 107 = .ok (.iinc 6 1, 3) := by decide +kernel
theorem dX8_longestTile_110 : decode cX8_longestTile 110 = .ok (.goto (-39), 3) := by decide +kernel
theorem dX8_longestTile_113 : decode cX8_longestTile 113 = .ok (.aload_n 0, 1) := by decide +kernel
theorem dX8_longestTile_114 : decode cX8_longestTile 114 = .ok (.getfield 35, 3) := by decide +kernel
theorem dX8_longestTile_117 : decode cX8_longestTile 117 = .ok (.aload_n 0, 1) := by decide +kernel
theorem dX8_longestTile_118 : decode cX8_longestTile 118 = .ok (.iload 4, 2) := by decide +kernel
theorem dX8_longestTile_120 : decode cX8_longestTile 120 = .ok (.iload_n 3, 1) := by decide +kernel
theorem dX8_longestTile_121 : decode cX8_longestTile 121 = .ok (.invokevirtual 314, 3) := by decide +kernel
theorem dX8_longestTile_124 : decode cX8_longestTile 124 = .ok (.iaload, 1) := by decide +kernel
theorem dX8_longestTile_125 : decode cX8_longestTile 125 = .ok (.ireturn, 1) := by decide +kernel
set_option maxRecDepth 20000 in
theorem ggX8_heaviest_X8_noPlayer : GoodIn wsX8_heaviest wsX8_noPlayer := goodIn_r _ [7, 8, 9, 10, 6, 11, 12, 13, 14, 15, 1, 58, 59, 60, 61, 62, 63, 64, 65, 66, 67, 68, 69, 70, 71, 72, 73, 74, 75, 76, 77, 78, 79] rfl (by decide +kernel)
set_option maxRecDepth 20000 in
theorem gX8_heaviest_X8_noPlayer : GoodIn wsX8_heaviest (wsV RX8 293 RX8 yX8_noPlayer wsX8_noPlayer) := goodIn_app (goodIn_of _ (by decide +kernel)) ggX8_heaviest_X8_noPlayer
set_option maxRecDepth 20000 in
theorem ggX8_heaviest_X8_layRows : GoodIn wsX8_heaviest wsX8_layRows := goodIn_r _ [19, 20, 21, 22, 23, 24, 6, 25, 8, 26, 27, 28, 29, 30, 31, 32, 33, 34, 35, 36, 37, 2, 38, 39, 40, 41, 42, 43, 44, 45, 46, 47, 48, 49, 50, 58, 59, 60, 61, 62, 63, 64, 65, 66, 67, 68, 69, 70, 71, 72, 73, 74, 75, 76, 77, 78, 79] rfl (by decide +kernel)
set_option maxRecDepth 20000 in
theorem gX8_heaviest_X8_layRows : GoodIn wsX8_heaviest (wsV RX8 311 RX8 yX8_layRows wsX8_layRows) := goodIn_app (goodIn_of _ (by decide +kernel)) ggX8_heaviest_X8_layRows
set_option maxRecDepth 20000 in
theorem ggX8_heaviest_X8_ofTrain : GoodIn wsX8_heaviest wsX8_ofTrain := goodIn_r _ [54, 8, 55, 56, 6, 57, 58, 59, 60, 61, 62, 63, 64, 65, 66, 67, 68, 69, 70, 71, 72, 73, 74, 75, 76, 77, 78, 79] rfl (by decide +kernel)
set_option maxRecDepth 20000 in
theorem gX8_heaviest_X8_ofTrain : GoodIn wsX8_heaviest (wsV RX8 207 RX8 yX8_ofTrain wsX8_ofTrain) := goodIn_app (goodIn_of _ (by decide +kernel)) ggX8_heaviest_X8_ofTrain
theorem dX8_heaviest_0 : decode cX8_heaviest 0 = .ok (.aload_n 0, 1) := by decide +kernel
theorem dX8_heaviest_1 : decode cX8_heaviest 1 = .ok (.iconst 0, 1) := by decide +kernel
theorem dX8_heaviest_2 : decode cX8_heaviest 2 = .ok (.putfield 53, 3) := by decide +kernel
theorem dX8_heaviest_5 : decode cX8_heaviest 5 = .ok (.aload_n 0, 1) := by decide +kernel
theorem dX8_heaviest_6 : decode cX8_heaviest 6 = .ok (.iload_n 1, 1) := by decide +kernel
theorem dX8_heaviest_7 : decode cX8_heaviest 7 = .ok (.invokevirtual 293, 3) := by decide +kernel
theorem dX8_heaviest_10 : decode cX8_heaviest 10 = .ok (.ifCond .eq 5, 3) := by decide +kernel
theorem dX8_heaviest_13 : decode cX8_heaviest 13 = .ok (.iconst 0, 1) := by decide +kernel
theorem dX8_heaviest_14 : decode cX8_heaviest 14 = .ok (.ireturn, 1) := by decide +kernel
theorem dX8_heaviest_15 : decode cX8_heaviest 15 = .ok (.aload_n 0, 1) := by decide +kernel
theorem dX8_heaviest_16 : decode cX8_heaviest 16 = .ok (.iload_n 1, 1) := by decide +kernel
theorem dX8_heaviest_17 : decode cX8_heaviest 17 = .ok (.invokevirtual 311, 3) := by decide +kernel
theorem dX8_heaviest_20 : decode cX8_heaviest 20 = .ok (.ifCond .eq 17, 3) := by decide +kernel
theorem dX8_heaviest_23 : decode cX8_heaviest 23 = .ok (.aload_n 0, 1) := by decide +kernel
theorem dX8_heaviest_24 : decode cX8_heaviest 24 = .ok (.getfield 42, 3) := by decide +kernel
theorem dX8_heaviest_27 : decode cX8_heaviest 27 = .ok (.aload_n 0, 1) := by decide +kernel
theorem dX8_heaviest_28 : decode cX8_heaviest 28 = .ok (.iload_n 1, 1) := by decide +kernel
theorem dX8_heaviest_29 : decode cX8_heaviest 29 = .ok (.iconst 1, 1) := by decide +kernel
theorem dX8_heaviest_30 : decode cX8_heaviest 30 = .ok (.invokevirtual 207, 3) := by decide +kernel
theorem dX8_heaviest_33 : decode cX8_heaviest 33 = .ok (.iaload, 1) := by decide +kernel
theorem dX8_heaviest_34 : decode cX8_heaviest 34 = .ok (.goto 5, 3) := by decide +kernel
theorem dX8_heaviest_37 : decode cX8_heaviest 37 = .ok (.bipush (-2), 2) := by decide +kernel
theorem dX8_heaviest_39 : decode cX8_heaviest 39 = .ok (.ireturn, 1) := by decide +kernel
set_option maxRecDepth 20000 in
theorem ggX8_winner_X8_copy : GoodIn wsX8_winner wsX8_copy := goodIn_r _ [8] rfl (by decide +kernel)
set_option maxRecDepth 20000 in
theorem gX8_winner_X8_copy : GoodIn wsX8_winner (va_wsS RX8 199 yX8_copy wsX8_copy) := goodIn_app (goodIn_of _ (by decide +kernel)) ggX8_winner_X8_copy
set_option maxRecDepth 20000 in
theorem ggX8_winner_X8_goOn : GoodIn wsX8_winner wsX8_goOn := goodIn_r _ [12, 2, 13, 14, 15, 7, 16, 17, 18, 19, 20, 21, 22, 23, 24, 25, 26, 27, 28, 29, 30, 31, 32, 33, 34, 35, 36, 37, 38, 39, 40, 41, 42, 43, 44, 45, 46, 47, 48, 49, 50, 51, 52, 53, 54, 55, 56, 57, 58, 59, 60, 61, 62, 63, 64, 65, 66, 67, 68, 69, 70, 71, 72, 73, 74, 75, 76, 77, 78, 79, 80, 81, 82, 83, 84, 85, 86, 87, 88, 89, 90, 91, 92, 93, 94, 95, 96, 97, 98, 99, 100, 101, 102, 103, 104, 105, 106, 107, 108, 109, 110, 111, 112, 113, 114, 115, 116, 117, 118, 119, 120, 121, 122] rfl (by decide +kernel)
set_option maxRecDepth 20000 in
theorem gX8_winner_X8_goOn : GoodIn wsX8_winner (wsV RX8 320 RX8 yX8_goOn wsX8_goOn) := goodIn_app (goodIn_of _ (by decide +kernel)) ggX8_winner_X8_goOn
set_option maxRecDepth 20000 in
theorem ggX8_winner_X8_pips : GoodIn wsX8_winner wsX8_pips := goodIn_r _ [80, 25, 26, 27, 7, 28, 2, 44, 45, 46, 101, 102, 103, 104, 105, 106, 107, 108, 109, 110, 111, 112, 113, 114, 115, 116, 117, 118, 119, 120, 121, 122] rfl (by decide +kernel)
set_option maxRecDepth 20000 in
theorem gX8_winner_X8_pips : GoodIn wsX8_winner (wsV RX8 247 RX8 yX8_pips wsX8_pips) := goodIn_app (goodIn_of _ (by decide +kernel)) ggX8_winner_X8_pips
theorem dX8_winner_0 : decode cX8_winner 0 = .ok (.aload_n 0, 1) := by decide +kernel
theorem dX8_winner_1 : decode cX8_winner 1 = .ok (.iconst 0, 1) := by decide +kernel
theorem dX8_winner_2 : decode cX8_winner 2 = .ok (.putfield 53, 3) := by decide +kernel
theorem dX8_winner_5 : decode cX8_winner 5 = .ok (.aload_n 0, 1) := by decide +kernel
theorem dX8_winner_6 : decode cX8_winner 6 = .ok (.getfield 17, 3) := by decide +kernel
theorem dX8_winner_9 : decode cX8_winner 9 = .ok (.aload_n 0, 1) := by decide +kernel
theorem dX8_winner_10 : decode cX8_winner 10 = .ok (.getfield 23, 3) := by decide +kernel
theorem dX8_winner_13 : decode cX8_winner 13 = .ok (.sipush 464, 3) := by decide +kernel
theorem dX8_winner_16 : decode cX8_winner 16 = .ok (.invokestatic 199, 3) := by decide +kernel
theorem dX8_winner_19 : decode cX8_winner 19 = .ok (.aload_n 0, 1) := by decide +kernel
theorem dX8_winner_20 : decode cX8_winner 20 = .ok (.ldc_w 319, 3) := by decide +kernel
theorem dX8_winner_23 : decode cX8_winner 23 = .ok (.invokevirtual 320, 3) := by decide +kernel
theorem dX8_winner_26 : decode cX8_winner 26 = .ok (.pop, 1) := by decide +kernel
theorem dX8_winner_27 : decode cX8_winner 27 = .ok (.iconst 0, 1) := by decide +kernel
theorem dX8_winner_28 : decode cX8_winner 28 = .ok (.istore_n 1, 1) := by decide +kernel
theorem dX8_winner_29 : decode cX8_winner 29 = .ok (.iconst 1, 1) := by decide +kernel
theorem dX8_winner_30 : decode cX8_winner 30 = .ok (.istore_n 2, 1) := by decide +kernel
theorem dX8_winner_31 : decode cX8_winner 31 = .ok (.iload_n 2, 1) := by decide +kernel
theorem dX8_winner_32 : decode cX8_winner 32 = .ok (.aload_n 0, 1) := by decide +kernel
theorem dX8_winner_33 : decode cX8_winner 33 = .ok (.getfield 17, 3) := by decide +kernel
theorem dX8_winner_36 : decode cX8_winner 36 = .ok (.iconst 1, 1) := by decide +kernel
theorem dX8_winner_37 : decode cX8_winner 37 = .ok (.iaload, 1) := by decide +kernel
theorem dX8_winner_38 : decode cX8_winner 38 = .ok (.if_icmp .ge 24, 3) := by decide +kernel
theorem dX8_winner_41 : decode cX8_winner 41 = .ok (.aload_n 0, 1) := by decide +kernel
theorem dX8_winner_42 : decode cX8_winner 42 = .ok (.iload_n 2, 1) := by decide +kernel
theorem dX8_winner_43 : decode cX8_winner 43 = .ok (.invokevirtual 247, 3) := by decide +kernel
theorem dX8_winner_46 : decode cX8_winner 46 = .ok (.aload_n 0, 1) := by decide +kernel
theorem dX8_winner_47 : decode cX8_winner 47 = .ok (.iload_n 1, 1) := by decide +kernel
theorem dX8_winner_48 : decode cX8_winner 48 = .ok (.invokevirtual 247, 3) := by decide +kernel
theorem dX8_winner_51 : decode cX8_winner 51 = .ok (.if_icmp .ge 5, 3) := by decide +kernel
theorem dX8_winner_54 : decode cX8_winner 54 = .ok (.iload_n 2, 1) := by decide +kernel
theorem dX8_winner_55 : decode cX8_winner 55 = .ok (.istore_n 1, 1) := by decide +kernel
theorem dX8_winner_56 : decode cX8_winner 56 = .ok (.iinc 2 1, 3) := by decide +kernel
theorem dX8_winner_59 : decode cX8_winner 59 = .ok (.goto (-28), 3) := by decide +kernel
theorem dX8_winner_62 : decode cX8_winner 62 = .ok (.aload_n 0, 1) := by decide +kernel
theorem dX8_winner_63 : decode cX8_winner 63 = .ok (.getfield 23, 3) := by decide +kernel
theorem dX8_winner_66 : decode cX8_winner 66 = .ok (.aload_n 0, 1) := by decide +kernel
theorem dX8_winner_67 : decode cX8_winner 67 = .ok (.getfield 17, 3) := by decide +kernel
theorem dX8_winner_70 : decode cX8_winner 70 = .ok (.sipush 464, 3) := by decide +kernel
theorem dX8_winner_73 : decode cX8_winner 73 = .ok (.invokestatic 199, 3) := by decide +kernel
theorem dX8_winner_76 : decode cX8_winner 76 = .ok (.iload_n 1, 1) := by decide +kernel
theorem dX8_winner_77 : decode cX8_winner 77 = .ok (.ireturn, 1) := by decide +kernel
set_option maxRecDepth 20000 in
theorem ggX8_stepsToEnd_X8_copy : GoodIn wsX8_stepsToEnd wsX8_copy := goodIn_r _ [8] rfl (by decide +kernel)
set_option maxRecDepth 20000 in
theorem gX8_stepsToEnd_X8_copy : GoodIn wsX8_stepsToEnd (va_wsS RX8 199 yX8_copy wsX8_copy) := goodIn_app (goodIn_of _ (by decide +kernel)) ggX8_stepsToEnd_X8_copy
set_option maxRecDepth 20000 in
theorem ggX8_stepsToEnd_X8_goOn : GoodIn wsX8_stepsToEnd wsX8_goOn := goodIn_r _ [12, 2, 13, 14, 15, 7, 16, 17, 18, 19, 20, 21, 22, 23, 24, 25, 26, 27, 28, 29, 30, 31, 32, 33, 34, 35, 36, 37, 38, 39, 40, 41, 42, 43, 44, 45, 46, 47, 48, 49, 50, 51, 52, 53, 54, 55, 56, 57, 58, 59, 60, 61, 62, 63, 64, 65, 66, 67, 68, 69, 70, 71, 72, 73, 74, 75, 76, 77, 78, 79, 80, 81, 82, 83, 84, 85, 86, 87, 88, 89, 90, 91, 92, 93, 94, 95, 96, 97, 98, 99, 100, 101, 102, 103, 104, 105, 106, 107, 108, 109, 110, 111, 112, 113, 114, 115, 116, 117, 118, 119, 120, 121, 122] rfl (by decide +kernel)
set_option maxRecDepth 20000 in
theorem gX8_stepsToEnd_X8_goOn : GoodIn wsX8_stepsToEnd (wsV RX8 320 RX8 yX8_goOn wsX8_goOn) := goodIn_app (goodIn_of _ (by decide +kernel)) ggX8_stepsToEnd_X8_goOn
theorem dX8_stepsToEnd_0 : decode cX8_stepsToEnd 0 = .ok (.aload_n 0, 1) := by decide +kernel
theorem dX8_stepsToEnd_1 : decode cX8_stepsToEnd 1 = .ok (.iconst 0, 1) := by decide +kernel
theorem dX8_stepsToEnd_2 : decode cX8_stepsToEnd 2 = .ok (.putfield 53, 3) := by decide +kernel
theorem dX8_stepsToEnd_5 : decode cX8_stepsToEnd 5 = .ok (.aload_n 0, 1) := by decide +kernel
theorem dX8_stepsToEnd_6 : decode cX8_stepsToEnd 6 = .ok (.getfield 17, 3) := by decide +kernel
theorem dX8_stepsToEnd_9 : decode cX8_stepsToEnd 9 = .ok (.aload_n 0, 1) := by decide +kernel
theorem dX8_stepsToEnd_10 : decode cX8_stepsToEnd 10 = .ok (.getfield 23, 3) := by decide +kernel
theorem dX8_stepsToEnd_13 : decode cX8_stepsToEnd 13 = .ok (.sipush 464, 3) := by decide +kernel
theorem dX8_stepsToEnd_16 : decode cX8_stepsToEnd 16 = .ok (.invokestatic 199, 3) := by decide +kernel
theorem dX8_stepsToEnd_19 : decode cX8_stepsToEnd 19 = .ok (.aload_n 0, 1) := by decide +kernel
theorem dX8_stepsToEnd_20 : decode cX8_stepsToEnd 20 = .ok (.ldc_w 319, 3) := by decide +kernel
theorem dX8_stepsToEnd_23 : decode cX8_stepsToEnd 23 = .ok (.invokevirtual 320, 3) := by decide +kernel
theorem dX8_stepsToEnd_26 : decode cX8_stepsToEnd 26 = .ok (.istore_n 1, 1) := by decide +kernel
theorem dX8_stepsToEnd_27 : decode cX8_stepsToEnd 27 = .ok (.aload_n 0, 1) := by decide +kernel
theorem dX8_stepsToEnd_28 : decode cX8_stepsToEnd 28 = .ok (.getfield 23, 3) := by decide +kernel
theorem dX8_stepsToEnd_31 : decode cX8_stepsToEnd 31 = .ok (.aload_n 0, 1) := by decide +kernel
theorem dX8_stepsToEnd_32 : decode cX8_stepsToEnd 32 = .ok (.getfield 17, 3) := by decide +kernel
theorem dX8_stepsToEnd_35 : decode cX8_stepsToEnd 35 = .ok (.sipush 464, 3) := by decide +kernel
theorem dX8_stepsToEnd_38 : decode cX8_stepsToEnd 38 = .ok (.invokestatic 199, 3) := by decide +kernel
theorem dX8_stepsToEnd_41 : decode cX8_stepsToEnd 41 = .ok (.iload_n 1, 1) := by decide +kernel
theorem dX8_stepsToEnd_42 : decode cX8_stepsToEnd 42 = .ok (.ireturn, 1) := by decide +kernel
set_option maxRecDepth 20000 in
theorem ggX8_meanPips_X8_pips : GoodIn wsX8_meanPips wsX8_pips := goodIn_r _ [7, 8, 9, 10, 6, 11, 2, 12, 13, 14, 22, 23, 24, 25, 26, 27, 28, 29, 30, 31, 32, 33, 34, 35, 36, 37, 38, 39, 40, 41, 42, 43] rfl (by decide +kernel)
set_option maxRecDepth 20000 in
theorem gX8_meanPips_X8_pips : GoodIn wsX8_meanPips (wsV RX8 247 RX8 yX8_pips wsX8_pips) := goodIn_app (goodIn_of _ (by decide +kernel)) ggX8_meanPips_X8_pips
set_option maxRecDepth 20000 in
theorem ggX8_meanPips_X8_hand : GoodIn wsX8_meanPips wsX8_hand := goodIn_r _ [18, 2, 19, 20, 6, 21, 22, 23, 24, 25, 26, 27, 28, 29, 30, 31, 32, 33, 34, 35, 36, 37, 38, 39, 40, 41, 42, 43] rfl (by decide +kernel)
set_option maxRecDepth 20000 in
theorem gX8_meanPips_X8_hand : GoodIn wsX8_meanPips (wsV RX8 233 RX8 yX8_hand wsX8_hand) := goodIn_app (goodIn_of _ (by decide +kernel)) ggX8_meanPips_X8_hand
theorem dX8_meanPips_0 : decode cX8_meanPips 0 = .ok (.aload_n 0, 1) := by decide +kernel
theorem dX8_meanPips_1 : decode cX8_meanPips 1 = .ok (.iconst 0, 1) := by decide +kernel
theorem dX8_meanPips_2 : decode cX8_meanPips 2 = .ok (.putfield 53, 3) := by decide +kernel
theorem dX8_meanPips_5 : decode cX8_meanPips 5 = .ok (.iconst 0, 1) := by decide +kernel
theorem dX8_meanPips_6 : decode cX8_meanPips 6 = .ok (.istore_n 1, 1) := by decide +kernel
theorem dX8_meanPips_7 : decode cX8_meanPips 7 = .ok (.iconst 0, 1) := by decide +kernel
theorem dX8_meanPips_8 : decode cX8_meanPips 8 = .ok (.istore_n 2, 1) := by decide +kernel
theorem dX8_meanPips_9 : decode cX8_meanPips 9 = .ok (.iconst 0, 1) := by decide +kernel
theorem dX8_meanPips_10 : decode cX8_meanPips 10 = .ok (.istore_n 3, 1) := by decide +kernel
theorem dX8_meanPips_11 : decode cX8_meanPips 11 = .ok (.iload_n 3, 1) := by decide +kernel
theorem dX8_meanPips_12 : decode cX8_meanPips 12 = .ok (.aload_n 0, 1) := by decide +kernel
theorem dX8_meanPips_13 : decode cX8_meanPips 13 = .ok (.getfield 17, 3) := by decide +kernel
theorem dX8_meanPips_16 : decode cX8_meanPips 16 = .ok (.iconst 1, 1) := by decide +kernel
theorem dX8_meanPips_17 : decode cX8_meanPips 17 = .ok (.iaload, 1) := by decide +kernel
theorem dX8_meanPips_18 : decode cX8_meanPips 18 = .ok (.if_icmp .ge 25, 3) := by decide +kernel
theorem dX8_meanPips_21 : decode cX8_meanPips 21 = .ok (.iload_n 1, 1) := by decide +kernel
theorem dX8_meanPips_22 : decode cX8_meanPips 22 = .ok (.aload_n 0, 1) := by decide +kernel
theorem dX8_meanPips_23 : decode cX8_meanPips 23 = .ok (.iload_n 3, 1) := by decide +kernel
theorem dX8_meanPips_24 : decode cX8_meanPips 24 = .ok (.invokevirtual 247, 3) := by decide +kernel
theorem dX8_meanPips_27 : decode cX8_meanPips 27 = .ok (.iadd, 1) := by decide +kernel
theorem dX8_meanPips_28 : decode cX8_meanPips 28 = .ok (.istore_n 1, 1) := by decide +kernel
theorem dX8_meanPips_29 : decode cX8_meanPips 29 = .ok (.iload_n 2, 1) := by decide +kernel
theorem dX8_meanPips_30 : decode cX8_meanPips 30 = .ok (.aload_n 0, 1) := by decide +kernel
theorem dX8_meanPips_31 : decode cX8_meanPips 31 = .ok (.iload_n 3, 1) := by decide +kernel
theorem dX8_meanPips_32 : decode cX8_meanPips 32 = .ok (.invokevirtual 233, 3) := by decide +kernel
theorem dX8_meanPips_35 : decode cX8_meanPips 35 = .ok (.iadd, 1) := by decide +kernel
theorem dX8_meanPips_36 : decode cX8_meanPips 36 = .ok (.istore_n 2, 1) := by decide +kernel
theorem dX8_meanPips_37 : decode cX8_meanPips 37 = .ok (.iinc 3 1, 3) := by decide +kernel
theorem dX8_meanPips_40 : decode cX8_meanPips 40 = .ok (.goto (-29), 3) := by decide +kernel
theorem dX8_meanPips_43 : decode cX8_meanPips 43 = .ok (.iload_n 2, 1) := by decide +kernel
theorem dX8_meanPips_44 : decode cX8_meanPips 44 = .ok (.ifCond .ne 7, 3) := by decide +kernel
theorem dX8_meanPips_47 : decode cX8_meanPips 47 = .ok (.dconst 0, 1) := by decide +kernel
theorem dX8_meanPips_48 : decode cX8_meanPips 48 = .ok (.goto 8, 3) := by decide +kernel
theorem dX8_meanPips_51 : decode cX8_meanPips 51 = .ok (.iload_n 1, 1) := by decide +kernel
theorem dX8_meanPips_52 : decode cX8_meanPips 52 = .ok (.i2d, 1) := by decide +kernel
theorem dX8_meanPips_53 : decode cX8_meanPips 53 = .ok (.iload_n 2, 1) := by decide +kernel
theorem dX8_meanPips_54 : decode cX8_meanPips 54 = .ok (.i2d, 1) := by decide +kernel
theorem dX8_meanPips_55 : decode cX8_meanPips 55 = .ok (.ddiv, 1) := by decide +kernel
theorem dX8_meanPips_56 : decode cX8_meanPips 56 = .ok (.dreturn, 1) := by decide +kernel
set_option maxRecDepth 20000 in
theorem ggX8_remember_X8_copy : GoodIn wsX8_remember wsX8_copy := goodIn_r _ [7] rfl (by decide +kernel)
set_option maxRecDepth 20000 in
theorem gX8_remember_X8_copy : GoodIn wsX8_remember (va_wsS RX8 199 yX8_copy wsX8_copy) := goodIn_app (goodIn_of _ (by decide +kernel)) ggX8_remember_X8_copy
theorem dX8_remember_0 : decode cX8_remember 0 = .ok (.aload_n 0, 1) := by decide +kernel
theorem dX8_remember_1 : decode cX8_remember 1 = .ok (.getfield 323, 3) := by decide +kernel
theorem dX8_remember_4 : decode cX8_remember 4 = .ok (.bipush 8, 2) := by decide +kernel
theorem dX8_remember_6 : decode cX8_remember 6 = .ok (.if_icmp .ne 47, 3) := by decide +kernel
theorem dX8_remember_9 : decode cX8_remember 9 = .ok (.iconst 1, 1) := by decide +kernel
theorem dX8_remember_10 : decode cX8_remember 10 = .ok (.istore_n 1, 1) := by decide +kernel
theorem dX8_remember_11 : decode cX8_remember 11 = .ok (.iload_n 1, 1) := by decide +kernel
theorem dX8_remember_12 : decode cX8_remember 12 = .ok (.bipush 8, 2) := by decide +kernel
theorem dX8_remember_14 : decode cX8_remember 14 = .ok (.if_icmp .ge 29, 3) := by decide +kernel
theorem dX8_remember_17 : decode cX8_remember 17 = .ok (.aload_n 0, 1) := by decide +kernel
theorem dX8_remember_18 : decode cX8_remember 18 = .ok (.getfield 28, 3) := by decide +kernel
theorem dX8_remember_21 : decode cX8_remember 21 = .ok (.iload_n 1, 1) := by decide +kernel
theorem dX8_remember_22 : decode cX8_remember 22 = .ok (.aaload, 1) := by decide +kernel
theorem dX8_remember_23 : decode cX8_remember 23 = .ok (.aload_n 0, 1) := by decide +kernel
theorem dX8_remember_24 : decode cX8_remember 24 = .ok (.getfield 28, 3) := by decide +kernel
theorem dX8_remember_27 : decode cX8_remember 27 = .ok (.iload_n 1, 1) := by decide +kernel
theorem dX8_remember_28 : decode cX8_remember 28 = .ok (.iconst 1, 1) := by decide +kernel
theorem dX8_remember_29 : decode cX8_remember 29 = .ok (.isub, 1) := by decide +kernel
theorem dX8_remember_30 : decode cX8_remember 30 = .ok (.aaload, 1) := by decide +kernel
theorem dX8_remember_31 : decode cX8_remember 31 = .ok (.sipush 1464, 3) := by decide +kernel
theorem dX8_remember_34 : decode cX8_remember 34 = .ok (.invokestatic 199, 3) := by decide +kernel
theorem dX8_remember_37 : decode cX8_remember 37 = .ok (.iinc 1 1, 3) := by decide +kernel
theorem dX8_remember_40 : decode cX8_remember 40 = .ok (.goto (-29), 3) := by decide +kernel
theorem dX8_remember_43 : decode cX8_remember 43 = .ok (.aload_n 0, 1) := by decide +kernel
theorem dX8_remember_44 : decode cX8_remember 44 = .ok (.dup, 1) := by decide +kernel
theorem dX8_remember_45 : decode cX8_remember 45 = .ok (.getfield 323, 3) := by decide +kernel
theorem dX8_remember_48 : decode cX8_remember 48 = .ok (.iconst 1, 1) := by decide +kernel
theorem dX8_remember_49 : decode cX8_remember 49 = .ok (.isub, 1) := by decide +kernel
theorem dX8_remember_50 : decode cX8_remember 50 = .ok (.putfield 323, 3) := by decide +kernel
theorem dX8_remember_53 : decode cX8_remember 53 = .ok (.aload_n 0, 1) := by decide +kernel
theorem dX8_remember_54 : decode cX8_remember 54 = .ok (.getfield 17, 3) := by decide +kernel
theorem dX8_remember_57 : decode cX8_remember 57 = .ok (.aload_n 0, 1) := by decide +kernel
theorem dX8_remember_58 : decode cX8_remember 58 = .ok (.getfield 28, 3) := by decide +kernel
theorem dX8_remember_61 : decode cX8_remember 61 = .ok (.aload_n 0, 1) := by decide +kernel
theorem dX8_remember_62 : decode cX8_remember 62 = .ok (.getfield 323, 3) := by decide +kernel
theorem dX8_remember_65 : decode cX8_remember 65 = .ok (.aaload, 1) := by decide +kernel
theorem dX8_remember_66 : decode cX8_remember 66 = .ok (.sipush 1464, 3) := by decide +kernel
theorem dX8_remember_69 : decode cX8_remember 69 = .ok (.invokestatic 199, 3) := by decide +kernel
theorem dX8_remember_72 : decode cX8_remember 72 = .ok (.aload_n 0, 1) := by decide +kernel
theorem dX8_remember_73 : decode cX8_remember 73 = .ok (.dup, 1) := by decide +kernel
theorem dX8_remember_74 : decode cX8_remember 74 = .ok (.getfield 323, 3) := by decide +kernel
theorem dX8_remember_77 : decode cX8_remember 77 = .ok (.iconst 1, 1) := by decide +kernel
theorem dX8_remember_78 : decode cX8_remember 78 = .ok (.iadd, 1) := by decide +kernel
theorem dX8_remember_79 : decode cX8_remember 79 = .ok (.putfield 323, 3) := by decide +kernel
theorem dX8_remember_82 : decode cX8_remember 82 = .ok (.return_, 1) := by decide +kernel
set_option maxRecDepth 20000 in
theorem ggX8_play_X8_noTileOn : GoodIn wsX8_play wsX8_noTileOn := goodIn_r _ [6, 7, 8, 9, 10, 5, 11, 12, 13, 14, 15, 16, 17, 18, 1, 19, 20, 21, 78, 79, 80, 81, 82, 83, 84, 85, 86, 87, 88, 89, 90, 91, 92, 93, 94, 95, 96, 97, 98, 99] rfl (by decide +kernel)
set_option maxRecDepth 20000 in
theorem gX8_play_X8_noTileOn : GoodIn wsX8_play (wsV RX8 308 RX8 yX8_noTileOn wsX8_noTileOn) := goodIn_app (goodIn_of _ (by decide +kernel)) ggX8_play_X8_noTileOn
set_option maxRecDepth 20000 in
theorem ggX8_play_X8_refusal : GoodIn wsX8_play wsX8_refusal := goodIn_r _ [25, 7, 26, 27, 28, 5, 29, 30, 31, 32, 33, 34, 35, 36, 37, 38, 39, 78, 79, 80, 81, 82, 83, 84, 85, 86, 87, 88, 89, 90, 91, 92, 93, 94, 95, 96, 97, 98, 99] rfl (by decide +kernel)
set_option maxRecDepth 20000 in
theorem gX8_play_X8_refusal : GoodIn wsX8_play (wsV RX8 213 RX8 yX8_refusal wsX8_refusal) := goodIn_app (goodIn_of _ (by decide +kernel)) ggX8_play_X8_refusal
set_option maxRecDepth 20000 in
theorem ggX8_play_X8_fails : GoodIn wsX8_play wsX8_fails := goodIn_r _ [18, 1, 78, 79, 80, 81, 82, 83, 84, 85, 86, 87, 88, 89, 90, 91, 92, 93, 94, 95, 96, 97, 98, 99] rfl (by decide +kernel)
set_option maxRecDepth 20000 in
theorem gX8_play_X8_fails : GoodIn wsX8_play (wsV RX8 187 RX8 yX8_fails wsX8_fails) := goodIn_app (goodIn_of _ (by decide +kernel)) ggX8_play_X8_fails
set_option maxRecDepth 20000 in
theorem ggX8_play_X8_remember : GoodIn wsX8_play wsX8_remember := goodIn_r _ [43, 44, 45, 7, 46, 47, 5, 48, 78, 79, 80, 81, 82, 83, 84, 85, 86, 87, 88, 89, 90, 91, 92, 93, 94, 95, 96, 97, 98, 99] rfl (by decide +kernel)
set_option maxRecDepth 20000 in
theorem gX8_play_X8_remember : GoodIn wsX8_play (wsV RX8 196 RX8 yX8_remember wsX8_remember) := goodIn_app (goodIn_of _ (by decide +kernel)) ggX8_play_X8_remember
set_option maxRecDepth 20000 in
theorem ggX8_play_X8_playNow : GoodIn wsX8_play wsX8_playNow := goodIn_r _ [52, 7, 34, 35, 5, 36, 53, 54, 55, 56, 57, 58, 59, 60, 61, 62, 63, 64, 65, 66, 67, 68, 69, 70, 26, 27, 28, 29, 71, 72, 73, 74, 75, 76, 77, 78, 79, 80, 81, 82, 83, 84, 85, 86, 87, 88, 89, 90, 91, 92, 93, 94, 95, 96, 97, 98, 99] rfl (by decide +kernel)
set_option maxRecDepth 20000 in
theorem gX8_play_X8_playNow : GoodIn wsX8_play (wsV RX8 258 RX8 yX8_playNow wsX8_playNow) := goodIn_app (goodIn_of _ (by decide +kernel)) ggX8_play_X8_playNow
set_option maxRecDepth 20000 in
theorem ggX8_play_X8_ofTrain : GoodIn wsX8_play wsX8_ofTrain := goodIn_r _ [33, 7, 34, 35, 5, 36, 78, 79, 80, 81, 82, 83, 84, 85, 86, 87, 88, 89, 90, 91, 92, 93, 94, 95, 96, 97, 98, 99] rfl (by decide +kernel)
set_option maxRecDepth 20000 in
theorem gX8_play_X8_ofTrain : GoodIn wsX8_play (wsV RX8 207 RX8 yX8_ofTrain wsX8_ofTrain) := goodIn_app (goodIn_of _ (by decide +kernel)) ggX8_play_X8_ofTrain
theorem dX8_play_0 : decode cX8_play 0 = .ok (.aload_n 0, 1) := by decide +kernel
theorem dX8_play_1 : decode cX8_play 1 = .ok (.iconst 0, 1) := by decide +kernel
theorem dX8_play_2 : decode cX8_play 2 = .ok (.putfield 53, 3) := by decide +kernel
theorem dX8_play_5 : decode cX8_play 5 = .ok (.aload_n 0, 1) := by decide +kernel
theorem dX8_play_6 : decode cX8_play 6 = .ok (.iload_n 1, 1) := by decide +kernel
theorem dX8_play_7 : decode cX8_play 7 = .ok (.iload_n 2, 1) := by decide +kernel
theorem dX8_play_8 : decode cX8_play 8 = .ok (.invokevirtual 308, 3) := by decide +kernel
theorem dX8_play_11 : decode cX8_play 11 = .ok (.ifCond .ne 25, 3) := by decide +kernel
theorem dX8_play_14 : decode cX8_play 14 = .ok (.aload_n 0, 1) := by decide +kernel
theorem dX8_play_15 : decode cX8_play 15 = .ok (.aload_n 0, 1) := by decide +kernel
theorem dX8_play_16 : decode cX8_play 16 = .ok (.iload_n 1, 1) := by decide +kernel
theorem dX8_play_17 : decode cX8_play 17 = .ok (.iload_n 2, 1) := by decide +kernel
theorem dX8_play_18 : decode cX8_play 18 = .ok (.invokevirtual 213, 3) := by decide +kernel
theorem dX8_play_21 : decode cX8_play 21 = .ok (.ifCond .eq 7, 3) := by decide +kernel
theorem dX8_play_24 : decode cX8_play 24 = .ok (.iconst 1, 1) := by decide +kernel
theorem dX8_play_25 : decode cX8_play 25 = .ok (.goto 4, 3) := by decide +kernel
theorem dX8_play_28 : decode cX8_play 28 = .ok (.iconst 0, 1) := by decide +kernel
theorem dX8_play_29 : decode cX8_play 29 = .ok (.iconst 3, 1) := by decide +kernel
theorem dX8_play_30 : decode cX8_play 30 = .ok (.invokevirtual 187, 3) := by decide +kernel
theorem dX8_play_33 : decode cX8_play 33 = .ok (.ifCond .eq 5, 3) := by decide +kernel
theorem dX8_play_36 : decode cX8_play 36 = .ok (.iconst 0, 1) := by decide +kernel
theorem dX8_play_37 : decode cX8_play 37 = .ok (.ireturn, 1) := by decide +kernel
theorem dX8_play_38 : decode cX8_play 38 = .ok (.aload_n 0, 1) := by decide +kernel
theorem dX8_play_39 : decode cX8_play 39 = .ok (.invokevirtual 196, 3) := by decide +kernel
theorem dX8_play_42 : decode cX8_play 42 = .ok (.aload_n 0, 1) := by decide +kernel
theorem dX8_play_43 : decode cX8_play 43 = .ok (.iload_n 1, 1) := by decide +kernel
theorem dX8_play_44 : decode cX8_play 44 = .ok (.iload_n 2, 1) := by decide +kernel
theorem dX8_play_45 : decode cX8_play 45 = .ok (.invokevirtual 258, 3) := by decide +kernel
theorem dX8_play_48 : decode cX8_play 48 = .ok (.aload_n 0, 1) := by decide +kernel
theorem dX8_play_49 : decode cX8_play 49 = .ok (.iload_n 2, 1) := by decide +kernel
theorem dX8_play_50 : decode cX8_play 50 = .ok (.iconst 1, 1) := by decide +kernel
theorem dX8_play_51 : decode cX8_play 51 = .ok (.invokevirtual 207, 3) := by decide +kernel
theorem dX8_play_54 : decode cX8_play 54 = .ok (.ireturn, 1) := by decide +kernel
set_option maxRecDepth 20000 in
theorem ggX8_draw_X8_mayDraw : GoodIn wsX8_draw wsX8_mayDraw := goodIn_r _ [6, 7, 8, 9, 10, 5, 11, 12, 13, 14, 15, 16, 17, 18, 19, 20, 21, 22, 23, 24, 25, 26, 27, 28, 29, 47, 48, 49, 50, 51, 52, 53, 54, 55, 56, 57, 58, 59, 60, 61, 62, 63, 64, 65, 66, 67, 68] rfl (by decide +kernel)
set_option maxRecDepth 20000 in
theorem gX8_draw_X8_mayDraw : GoodIn wsX8_draw (wsV RX8 261 RX8 yX8_mayDraw wsX8_mayDraw) := goodIn_app (goodIn_of _ (by decide +kernel)) ggX8_draw_X8_mayDraw
set_option maxRecDepth 20000 in
theorem ggX8_draw_X8_fails : GoodIn wsX8_draw wsX8_fails := goodIn_r _ [33, 1, 47, 48, 49, 50, 51, 52, 53, 54, 55, 56, 57, 58, 59, 60, 61, 62, 63, 64, 65, 66, 67, 68] rfl (by decide +kernel)
set_option maxRecDepth 20000 in
theorem gX8_draw_X8_fails : GoodIn wsX8_draw (wsV RX8 187 RX8 yX8_fails wsX8_fails) := goodIn_app (goodIn_of _ (by decide +kernel)) ggX8_draw_X8_fails
set_option maxRecDepth 20000 in
theorem ggX8_draw_X8_remember : GoodIn wsX8_draw wsX8_remember := goodIn_r _ [37, 38, 39, 7, 40, 41, 5, 42, 47, 48, 49, 50, 51, 52, 53, 54, 55, 56, 57, 58, 59, 60, 61, 62, 63, 64, 65, 66, 67, 68] rfl (by decide +kernel)
set_option maxRecDepth 20000 in
theorem gX8_draw_X8_remember : GoodIn wsX8_draw (wsV RX8 196 RX8 yX8_remember wsX8_remember) := goodIn_app (goodIn_of _ (by decide +kernel)) ggX8_draw_X8_remember
set_option maxRecDepth 20000 in
theorem ggX8_draw_X8_drawNow : GoodIn wsX8_draw wsX8_drawNow := goodIn_r _ [46, 7, 47, 48, 49, 50, 51, 52, 53, 54, 55, 56, 57, 58, 59, 60, 61, 62, 63, 64, 65, 66, 67, 68] rfl (by decide +kernel)
set_option maxRecDepth 20000 in
theorem gX8_draw_X8_drawNow : GoodIn wsX8_draw (wsV RX8 264 RX8 yX8_drawNow wsX8_drawNow) := goodIn_app (goodIn_of _ (by decide +kernel)) ggX8_draw_X8_drawNow
theorem dX8_draw_0 : decode cX8_draw 0 = .ok (.aload_n 0, 1) := by decide +kernel
theorem dX8_draw_1 : decode cX8_draw 1 = .ok (.iconst 0, 1) := by decide +kernel
theorem dX8_draw_2 : decode cX8_draw 2 = .ok (.putfield 53, 3) := by decide +kernel
theorem dX8_draw_5 : decode cX8_draw 5 = .ok (.aload_n 0, 1) := by decide +kernel
theorem dX8_draw_6 : decode cX8_draw 6 = .ok (.aload_n 0, 1) := by decide +kernel
theorem dX8_draw_7 : decode cX8_draw 7 = .ok (.invokevirtual 261, 3) := by decide +kernel
theorem dX8_draw_10 : decode cX8_draw 10 = .ok (.ifCond .ne 7, 3) := by decide +kernel
theorem dX8_draw_13 : decode cX8_draw 13 = .ok (.iconst 1, 1) := by decide +kernel
theorem dX8_draw_14 : decode cX8_draw 14 = .ok (.goto 4, 3) := by decide +kernel
theorem dX8_draw_17 : decode cX8_draw 17 = .ok (.iconst 0, 1) := by decide +kernel
theorem dX8_draw_18 : decode cX8_draw 18 = .ok (.iconst 1, 1) := by decide +kernel
theorem dX8_draw_19 : decode cX8_draw 19 = .ok (.invokevirtual 187, 3) := by decide +kernel
theorem dX8_draw_22 : decode cX8_draw 22 = .ok (.ifCond .eq 5, 3) := by decide +kernel
theorem dX8_draw_25 : decode cX8_draw 25 = .ok (.iconst 0, 1) := by decide +kernel
theorem dX8_draw_26 : decode cX8_draw 26 = .ok (.ireturn, 1) := by decide +kernel
theorem dX8_draw_27 : decode cX8_draw 27 = .ok (.aload_n 0, 1) := by decide +kernel
theorem dX8_draw_28 : decode cX8_draw 28 = .ok (.invokevirtual 196, 3) := by decide +kernel
theorem dX8_draw_31 : decode cX8_draw 31 = .ok (.aload_n 0, 1) := by decide +kernel
theorem dX8_draw_32 : decode cX8_draw 32 = .ok (.invokevirtual 264, 3) := by decide +kernel
theorem dX8_draw_35 : decode cX8_draw 35 = .ok (.ireturn, 1) := by decide +kernel
set_option maxRecDepth 20000 in
theorem ggX8_pass_X8_mayPass : GoodIn wsX8_pass wsX8_mayPass := goodIn_r _ [7, 2, 8, 9, 10, 6, 11, 12, 13, 14, 15, 16, 17, 18, 19, 20, 21, 22, 23, 24, 25, 26, 27, 28, 29, 62, 63, 64, 65, 66, 67, 68, 69, 70, 71, 72, 73, 74, 75, 76, 77, 78, 79, 80, 81, 82, 83] rfl (by decide +kernel)
set_option maxRecDepth 20000 in
theorem gX8_pass_X8_mayPass : GoodIn wsX8_pass (wsV RX8 326 RX8 yX8_mayPass wsX8_mayPass) := goodIn_app (goodIn_of _ (by decide +kernel)) ggX8_pass_X8_mayPass
set_option maxRecDepth 20000 in
theorem ggX8_pass_X8_fails : GoodIn wsX8_pass wsX8_fails := goodIn_r _ [33, 1, 62, 63, 64, 65, 66, 67, 68, 69, 70, 71, 72, 73, 74, 75, 76, 77, 78, 79, 80, 81, 82, 83] rfl (by decide +kernel)
set_option maxRecDepth 20000 in
theorem gX8_pass_X8_fails : GoodIn wsX8_pass (wsV RX8 187 RX8 yX8_fails wsX8_fails) := goodIn_app (goodIn_of _ (by decide +kernel)) ggX8_pass_X8_fails
set_option maxRecDepth 20000 in
theorem ggX8_pass_X8_remember : GoodIn wsX8_pass wsX8_remember := goodIn_r _ [37, 38, 39, 2, 40, 41, 6, 42, 62, 63, 64, 65, 66, 67, 68, 69, 70, 71, 72, 73, 74, 75, 76, 77, 78, 79, 80, 81, 82, 83] rfl (by decide +kernel)
set_option maxRecDepth 20000 in
theorem gX8_pass_X8_remember : GoodIn wsX8_pass (wsV RX8 196 RX8 yX8_remember wsX8_remember) := goodIn_app (goodIn_of _ (by decide +kernel)) ggX8_pass_X8_remember
set_option maxRecDepth 20000 in
theorem ggX8_pass_X8_passNow : GoodIn wsX8_pass wsX8_passNow := goodIn_r _ [46, 2, 24, 25, 6, 26, 47, 48, 49, 50, 51, 52, 53, 54, 16, 17, 18, 19, 55, 56, 57, 58, 59, 60, 61, 62, 63, 64, 65, 66, 67, 68, 69, 70, 71, 72, 73, 74, 75, 76, 77, 78, 79, 80, 81, 82, 83] rfl (by decide +kernel)
set_option maxRecDepth 20000 in
theorem gX8_pass_X8_passNow : GoodIn wsX8_pass (wsV RX8 267 RX8 yX8_passNow wsX8_passNow) := goodIn_app (goodIn_of _ (by decide +kernel)) ggX8_pass_X8_passNow
theorem dX8_pass_0 : decode cX8_pass 0 = .ok (.aload_n 0, 1) := by decide +kernel
theorem dX8_pass_1 : decode cX8_pass 1 = .ok (.iconst 0, 1) := by decide +kernel
theorem dX8_pass_2 : decode cX8_pass 2 = .ok (.putfield 53, 3) := by decide +kernel
theorem dX8_pass_5 : decode cX8_pass 5 = .ok (.aload_n 0, 1) := by decide +kernel
theorem dX8_pass_6 : decode cX8_pass 6 = .ok (.aload_n 0, 1) := by decide +kernel
theorem dX8_pass_7 : decode cX8_pass 7 = .ok (.invokevirtual 326, 3) := by decide +kernel
theorem dX8_pass_10 : decode cX8_pass 10 = .ok (.ifCond .ne 7, 3) := by decide +kernel
theorem dX8_pass_13 : decode cX8_pass 13 = .ok (.iconst 1, 1) := by decide +kernel
theorem dX8_pass_14 : decode cX8_pass 14 = .ok (.goto 4, 3) := by decide +kernel
theorem dX8_pass_17 : decode cX8_pass 17 = .ok (.iconst 0, 1) := by decide +kernel
theorem dX8_pass_18 : decode cX8_pass 18 = .ok (.iconst 1, 1) := by decide +kernel
theorem dX8_pass_19 : decode cX8_pass 19 = .ok (.invokevirtual 187, 3) := by decide +kernel
theorem dX8_pass_22 : decode cX8_pass 22 = .ok (.ifCond .eq 5, 3) := by decide +kernel
theorem dX8_pass_25 : decode cX8_pass 25 = .ok (.iconst 0, 1) := by decide +kernel
theorem dX8_pass_26 : decode cX8_pass 26 = .ok (.ireturn, 1) := by decide +kernel
theorem dX8_pass_27 : decode cX8_pass 27 = .ok (.aload_n 0, 1) := by decide +kernel
theorem dX8_pass_28 : decode cX8_pass 28 = .ok (.invokevirtual 196, 3) := by decide +kernel
theorem dX8_pass_31 : decode cX8_pass 31 = .ok (.aload_n 0, 1) := by decide +kernel
theorem dX8_pass_32 : decode cX8_pass 32 = .ok (.invokevirtual 267, 3) := by decide +kernel
theorem dX8_pass_35 : decode cX8_pass 35 = .ok (.aload_n 0, 1) := by decide +kernel
theorem dX8_pass_36 : decode cX8_pass 36 = .ok (.getfield 17, 3) := by decide +kernel
theorem dX8_pass_39 : decode cX8_pass 39 = .ok (.iconst 4, 1) := by decide +kernel
theorem dX8_pass_40 : decode cX8_pass 40 = .ok (.iaload, 1) := by decide +kernel
theorem dX8_pass_41 : decode cX8_pass 41 = .ok (.ireturn, 1) := by decide +kernel
set_option maxRecDepth 20000 in
theorem ggX8_auto_X8_in : GoodIn wsX8_auto wsX8_in := goodIn_r _ [5] rfl (by decide +kernel)
set_option maxRecDepth 20000 in
theorem gX8_auto_X8_in : GoodIn wsX8_auto (va_wsS RX8 56 yX8_in wsX8_in) := goodIn_app (goodIn_of _ (by decide +kernel)) ggX8_auto_X8_in
set_option maxRecDepth 20000 in
theorem ggX8_auto_X8_fails : GoodIn wsX8_auto wsX8_fails := goodIn_r _ [9, 1, 112, 113, 114, 115, 116, 117, 118, 119, 120, 121, 122, 123, 124, 125, 126, 127, 128, 129, 130, 131, 132, 133] rfl (by decide +kernel)
set_option maxRecDepth 20000 in
theorem gX8_auto_X8_fails : GoodIn wsX8_auto (wsV RX8 187 RX8 yX8_fails wsX8_fails) := goodIn_app (goodIn_of _ (by decide +kernel)) ggX8_auto_X8_fails
set_option maxRecDepth 20000 in
theorem ggX8_auto_X8_remember : GoodIn wsX8_auto wsX8_remember := goodIn_r _ [13, 14, 15, 16, 17, 18, 4, 19, 112, 113, 114, 115, 116, 117, 118, 119, 120, 121, 122, 123, 124, 125, 126, 127, 128, 129, 130, 131, 132, 133] rfl (by decide +kernel)
set_option maxRecDepth 20000 in
theorem gX8_auto_X8_remember : GoodIn wsX8_auto (wsV RX8 196 RX8 yX8_remember wsX8_remember) := goodIn_app (goodIn_of _ (by decide +kernel)) ggX8_auto_X8_remember
set_option maxRecDepth 20000 in
theorem ggX8_auto_X8_goOn : GoodIn wsX8_auto wsX8_goOn := goodIn_r _ [23, 16, 24, 25, 26, 4, 27, 28, 29, 30, 31, 32, 33, 34, 35, 36, 37, 38, 39, 40, 41, 42, 43, 44, 45, 46, 47, 48, 49, 50, 51, 52, 53, 54, 55, 56, 57, 58, 59, 60, 61, 62, 63, 64, 65, 66, 67, 68, 69, 70, 71, 72, 73, 74, 75, 76, 77, 78, 79, 80, 81, 82, 83, 84, 85, 86, 87, 88, 89, 90, 91, 92, 93, 94, 95, 96, 97, 98, 99, 100, 101, 102, 103, 104, 105, 106, 107, 108, 109, 110, 111, 112, 113, 114, 115, 116, 117, 118, 119, 120, 121, 122, 123, 124, 125, 126, 127, 128, 129, 130, 131, 132, 133] rfl (by decide +kernel)
set_option maxRecDepth 20000 in
theorem gX8_auto_X8_goOn : GoodIn wsX8_auto (wsV RX8 320 RX8 yX8_goOn wsX8_goOn) := goodIn_app (goodIn_of _ (by decide +kernel)) ggX8_auto_X8_goOn
theorem dX8_auto_0 : decode cX8_auto 0 = .ok (.aload_n 0, 1) := by decide +kernel
theorem dX8_auto_1 : decode cX8_auto 1 = .ok (.iconst 0, 1) := by decide +kernel
theorem dX8_auto_2 : decode cX8_auto 2 = .ok (.putfield 53, 3) := by decide +kernel
theorem dX8_auto_5 : decode cX8_auto 5 = .ok (.aload_n 0, 1) := by decide +kernel
theorem dX8_auto_6 : decode cX8_auto 6 = .ok (.iload_n 1, 1) := by decide +kernel
theorem dX8_auto_7 : decode cX8_auto 7 = .ok (.iconst 1, 1) := by decide +kernel
theorem dX8_auto_8 : decode cX8_auto 8 = .ok (.sipush 200, 3) := by decide +kernel
theorem dX8_auto_11 : decode cX8_auto 11 = .ok (.invokestatic 56, 3) := by decide +kernel
theorem dX8_auto_14 : decode cX8_auto 14 = .ok (.ifCond .ne 7, 3) := by decide +kernel
theorem dX8_auto_17 : decode cX8_auto 17 = .ok (.iconst 1, 1) := by decide +kernel
theorem dX8_auto_18 : decode cX8_auto 18 = .ok (.goto 4, 3) := by decide +kernel
theorem dX8_auto_21 : decode cX8_auto 21 = .ok (.iconst 0, 1) := by decide +kernel
theorem dX8_auto_22 : decode cX8_auto 22 = .ok (.iconst 1, 1) := by decide +kernel
theorem dX8_auto_23 : decode cX8_auto 23 = .ok (.invokevirtual 187, 3) := by decide +kernel
theorem dX8_auto_26 : decode cX8_auto 26 = .ok (.ifCond .eq 5, 3) := by decide +kernel
theorem dX8_auto_29 : decode cX8_auto 29 = .ok (.iconst 0, 1) := by decide +kernel
theorem dX8_auto_30 : decode cX8_auto 30 = .ok (.ireturn, 1) := by decide +kernel
theorem dX8_auto_31 : decode cX8_auto 31 = .ok (.aload_n 0, 1) := by decide +kernel
theorem dX8_auto_32 : decode cX8_auto 32 = .ok (.invokevirtual 196, 3) := by decide +kernel
theorem dX8_auto_35 : decode cX8_auto 35 = .ok (.aload_n 0, 1) := by decide +kernel
theorem dX8_auto_36 : decode cX8_auto 36 = .ok (.iload_n 1, 1) := by decide +kernel
theorem dX8_auto_37 : decode cX8_auto 37 = .ok (.invokevirtual 320, 3) := by decide +kernel
theorem dX8_auto_40 : decode cX8_auto 40 = .ok (.ireturn, 1) := by decide +kernel
set_option maxRecDepth 20000 in
theorem ggX8_deal__X8_in : GoodIn wsX8_deal_ wsX8_in := goodIn_r _ [6] rfl (by decide +kernel)
set_option maxRecDepth 20000 in
theorem gX8_deal__X8_in : GoodIn wsX8_deal_ (va_wsS RX8 56 yX8_in wsX8_in) := goodIn_app (goodIn_of _ (by decide +kernel)) ggX8_deal__X8_in
set_option maxRecDepth 20000 in
theorem ggX8_deal__X8_fails : GoodIn wsX8_deal_ wsX8_fails := goodIn_r _ [10, 1, 33, 34, 35, 36, 37, 38, 39, 40, 41, 42, 43, 44, 45, 46, 47, 48, 49, 50, 51, 52, 53, 54] rfl (by decide +kernel)
set_option maxRecDepth 20000 in
theorem gX8_deal__X8_fails : GoodIn wsX8_deal_ (wsV RX8 187 RX8 yX8_fails wsX8_fails) := goodIn_app (goodIn_of _ (by decide +kernel)) ggX8_deal__X8_fails
set_option maxRecDepth 20000 in
theorem ggX8_deal__X8_remember : GoodIn wsX8_deal_ wsX8_remember := goodIn_r _ [14, 15, 16, 2, 17, 18, 5, 19, 33, 34, 35, 36, 37, 38, 39, 40, 41, 42, 43, 44, 45, 46, 47, 48, 49, 50, 51, 52, 53, 54] rfl (by decide +kernel)
set_option maxRecDepth 20000 in
theorem gX8_deal__X8_remember : GoodIn wsX8_deal_ (wsV RX8 196 RX8 yX8_remember wsX8_remember) := goodIn_app (goodIn_of _ (by decide +kernel)) ggX8_deal__X8_remember
set_option maxRecDepth 20000 in
theorem ggX8_deal__X8_deal : GoodIn wsX8_deal_ wsX8_deal := goodIn_r _ [22, 23, 24, 25, 5, 26, 3, 4, 6, 27, 28, 29, 30, 31, 32] rfl (by decide +kernel)
set_option maxRecDepth 20000 in
theorem gX8_deal__X8_deal : GoodIn wsX8_deal_ (va_wsS RX8 49 yX8_deal wsX8_deal) := goodIn_app (goodIn_of _ (by decide +kernel)) ggX8_deal__X8_deal
theorem dX8_deal__0 : decode cX8_deal_ 0 = .ok (.aload_n 0, 1) := by decide +kernel
theorem dX8_deal__1 : decode cX8_deal_ 1 = .ok (.iconst 0, 1) := by decide +kernel
theorem dX8_deal__2 : decode cX8_deal_ 2 = .ok (.putfield 53, 3) := by decide +kernel
theorem dX8_deal__5 : decode cX8_deal_ 5 = .ok (.aload_n 0, 1) := by decide +kernel
theorem dX8_deal__6 : decode cX8_deal_ 6 = .ok (.iload_n 1, 1) := by decide +kernel
theorem dX8_deal__7 : decode cX8_deal_ 7 = .ok (.iconst 0, 1) := by decide +kernel
theorem dX8_deal__8 : decode cX8_deal_ 8 = .ok (.aload_n 0, 1) := by decide +kernel
theorem dX8_deal__9 : decode cX8_deal_ 9 = .ok (.getfield 17, 3) := by decide +kernel
theorem dX8_deal__12 : decode cX8_deal_ 12 = .ok (.iconst 0, 1) := by decide +kernel
theorem dX8_deal__13 : decode cX8_deal_ 13 = .ok (.iaload, 1) := by decide +kernel
theorem dX8_deal__14 : decode cX8_deal_ 14 = .ok (.invokestatic 56, 3) := by decide +kernel
theorem dX8_deal__17 : decode cX8_deal_ 17 = .ok (.ifCond .eq 14, 3) := by decide +kernel
theorem dX8_deal__20 : decode cX8_deal_ 20 = .ok (.iload_n 2, 1) := by decide +kernel
theorem dX8_deal__21 : decode cX8_deal_ 21 = .ok (.iconst 0, 1) := by decide +kernel
theorem dX8_deal__22 : decode cX8_deal_ 22 = .ok (.sipush 9999, 3) := by decide +kernel
theorem dX8_deal__25 : decode cX8_deal_ 25 = .ok (.invokestatic 56, 3) := by decide +kernel
theorem dX8_deal__28 : decode cX8_deal_ 28 = .ok (.ifCond .ne 7, 3) := by decide +kernel
theorem dX8_deal__31 : decode cX8_deal_ 31 = .ok (.iconst 1, 1) := by decide +kernel
theorem dX8_deal__32 : decode cX8_deal_ 32 = .ok (.goto 4, 3) := by decide +kernel
theorem dX8_deal__35 : decode cX8_deal_ 35 = .ok (.iconst 0, 1) := by decide +kernel
theorem dX8_deal__36 : decode cX8_deal_ 36 = .ok (.iconst 1, 1) := by decide +kernel
theorem dX8_deal__37 : decode cX8_deal_ 37 = .ok (.invokevirtual 187, 3) := by decide +kernel
theorem dX8_deal__40 : decode cX8_deal_ 40 = .ok (.ifCond .ne 26, 3) := by decide +kernel
theorem dX8_deal__43 : decode cX8_deal_ 43 = .ok (.aload_n 0, 1) := by decide +kernel
theorem dX8_deal__44 : decode cX8_deal_ 44 = .ok (.aload_n 0, 1) := by decide +kernel
theorem dX8_deal__45 : decode cX8_deal_ 45 = .ok (.getfield 17, 3) := by decide +kernel
theorem dX8_deal__48 : decode cX8_deal_ 48 = .ok (.bipush 8, 2) := by decide +kernel
theorem dX8_deal__50 : decode cX8_deal_ 50 = .ok (.iaload, 1) := by decide +kernel
theorem dX8_deal__51 : decode cX8_deal_ 51 = .ok (.ifCond .ne 7, 3) := by decide +kernel
theorem dX8_deal__54 : decode cX8_deal_ 54 = .ok (.iconst 1, 1) := by decide +kernel
theorem dX8_deal__55 : decode cX8_deal_ 55 = .ok (.goto 4, 3) := by decide +kernel
theorem dX8_deal__58 : decode cX8_deal_ 58 = .ok (.iconst 0, 1) := by decide +kernel
theorem dX8_deal__59 : decode cX8_deal_ 59 = .ok (.iconst 2, 1) := by decide +kernel
theorem dX8_deal__60 : decode cX8_deal_ 60 = .ok (.invokevirtual 187, 3) := by decide +kernel
theorem dX8_deal__63 : decode cX8_deal_ 63 = .ok (.ifCond .eq 5, 3) := by decide +kernel
theorem dX8_deal__66 : decode cX8_deal_ 66 = .ok (.iconst 0, 1) := by decide +kernel
theorem dX8_deal__67 : decode cX8_deal_ 67 = .ok (.ireturn, 1) := by decide +kernel
theorem dX8_deal__68 : decode cX8_deal_ 68 = .ok (.aload_n 0, 1) := by decide +kernel
theorem dX8_deal__69 : decode cX8_deal_ 69 = .ok (.invokevirtual 196, 3) := by decide +kernel
theorem dX8_deal__72 : decode cX8_deal_ 72 = .ok (.iconst 0, 1) := by decide +kernel
theorem dX8_deal__73 : decode cX8_deal_ 73 = .ok (.istore_n 3, 1) := by decide +kernel
theorem dX8_deal__74 : decode cX8_deal_ 74 = .ok (.iload_n 3, 1) := by decide +kernel
theorem dX8_deal__75 : decode cX8_deal_ 75 = .ok (.bipush 100, 2) := by decide +kernel
theorem dX8_deal__77 : decode cX8_deal_ 77 = .ok (.if_icmp .ge 19, 3) := by decide +kernel
theorem dX8_deal__80 : decode cX8_deal_ 80 = .ok (.aload_n 0, 1) := by decide +kernel
theorem dX8_deal__81 : decode cX8_deal_ 81 = .ok (.getfield 17, 3) := by decide +kernel
theorem dX8_deal__84 : decode cX8_deal_ 84 = .ok (.bipush 19, 2) := by decide +kernel
theorem dX8_deal__86 : decode cX8_deal_ 86 = .ok (.iload_n 3, 1) := by decide +kernel
theorem dX8_deal__87 : decode cX8_deal_ 87 = .ok (.iadd, 1) := by decide +kernel
theorem dX8_deal__88 : decode cX8_deal_ 88 = .ok (.iconst (-1), 1) := by decide +kernel
theorem dX8_deal__89 : decode cX8_deal_ 89 = .ok (.iastore, 1) := by decide +kernel
theorem dX8_deal__90 : decode cX8_deal_ 90 = .ok (.iinc 3 1, 3) := by decide +kernel
theorem dX8_deal__93 : decode cX8_deal_ 93 = .ok (.goto (-19), 3) := by decide +kernel
theorem dX8_deal__96 : decode cX8_deal_ 96 = .ok (.aload_n 0, 1) := by decide +kernel
theorem dX8_deal__97 : decode cX8_deal_ 97 = .ok (.getfield 17, 3) := by decide +kernel
theorem dX8_deal__100 : decode cX8_deal_ 100 = .ok (.iconst 3, 1) := by decide +kernel
theorem dX8_deal__101 : decode cX8_deal_ 101 = .ok (.iload_n 1, 1) := by decide +kernel
theorem dX8_deal__102 : decode cX8_deal_ 102 = .ok (.iastore, 1) := by decide +kernel
theorem dX8_deal__103 : decode cX8_deal_ 103 = .ok (.aload_n 0, 1) := by decide +kernel
theorem dX8_deal__104 : decode cX8_deal_ 104 = .ok (.getfield 17, 3) := by decide +kernel
theorem dX8_deal__107 : decode cX8_deal_ 107 = .ok (.bipush 11, 2) := by decide +kernel
theorem dX8_deal__109 : decode cX8_deal_ 109 = .ok (.iload_n 2, 1) := by decide +kernel
theorem dX8_deal__110 : decode cX8_deal_ 110 = .ok (.iastore, 1) := by decide +kernel
theorem dX8_deal__111 : decode cX8_deal_ 111 = .ok (.aload_n 0, 1) := by decide +kernel
theorem dX8_deal__112 : decode cX8_deal_ 112 = .ok (.getfield 17, 3) := by decide +kernel
theorem dX8_deal__115 : decode cX8_deal_ 115 = .ok (.invokestatic 49, 3) := by decide +kernel
theorem dX8_deal__118 : decode cX8_deal_ 118 = .ok (.aload_n 0, 1) := by decide +kernel
theorem dX8_deal__119 : decode cX8_deal_ 119 = .ok (.getfield 17, 3) := by decide +kernel
theorem dX8_deal__122 : decode cX8_deal_ 122 = .ok (.bipush 7, 2) := by decide +kernel
theorem dX8_deal__124 : decode cX8_deal_ 124 = .ok (.iaload, 1) := by decide +kernel
theorem dX8_deal__125 : decode cX8_deal_ 125 = .ok (.ireturn, 1) := by decide +kernel
set_option maxRecDepth 20000 in
theorem ggX8_undo_X8_copy : GoodIn wsX8_undo wsX8_copy := goodIn_r _ [8] rfl (by decide +kernel)
set_option maxRecDepth 20000 in
theorem gX8_undo_X8_copy : GoodIn wsX8_undo (va_wsS RX8 199 yX8_copy wsX8_copy) := goodIn_app (goodIn_of _ (by decide +kernel)) ggX8_undo_X8_copy
theorem dX8_undo_0 : decode cX8_undo 0 = .ok (.aload_n 0, 1) := by decide +kernel
theorem dX8_undo_1 : decode cX8_undo 1 = .ok (.iconst 0, 1) := by decide +kernel
theorem dX8_undo_2 : decode cX8_undo 2 = .ok (.putfield 53, 3) := by decide +kernel
theorem dX8_undo_5 : decode cX8_undo 5 = .ok (.aload_n 0, 1) := by decide +kernel
theorem dX8_undo_6 : decode cX8_undo 6 = .ok (.getfield 323, 3) := by decide +kernel
theorem dX8_undo_9 : decode cX8_undo 9 = .ok (.ifCond .ne 5, 3) := by decide +kernel
