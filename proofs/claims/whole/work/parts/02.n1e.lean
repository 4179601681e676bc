set_option maxRecDepth 20000 in
theorem gX3_readTile_X1_isFree : GoodIn wsX3_readTile (wsV RX3 156 RX1 yX1_isFree wsX1_isFree) := goodIn_app (goodIn_of _ (by decide +kernel)) ggX3_readTile_X1_isFree
set_option maxRecDepth 20000 in
theorem ggX3_readTile_X3_fail : GoodIn wsX3_readTile wsX3_fail := goodIn_r _ [25, 26, 27, 72, 73, 74, 75, 76, 77, 78, 79, 80, 81, 82] rfl (by decide +kernel)
set_option maxRecDepth 20000 in
theorem gX3_readTile_X3_fail : GoodIn wsX3_readTile (wsV RX3 94 RX3 yX3_fail wsX3_fail) := goodIn_app (goodIn_of _ (by decide +kernel)) ggX3_readTile_X3_fail
set_option maxRecDepth 20000 in
theorem ggX3_readTile_X1_handCount : GoodIn wsX3_readTile wsX1_handCount := goodIn_r _ [69, 52, 53, 54, 49, 55, 56, 90, 91, 92, 93, 94, 95, 96, 97, 98, 99, 100, 101, 102, 103, 104, 105] rfl (by decide +kernel)
set_option maxRecDepth 20000 in
theorem gX3_readTile_X1_handCount : GoodIn wsX3_readTile (wsV RX3 159 RX1 yX1_handCount wsX1_handCount) := goodIn_app (goodIn_of _ (by decide +kernel)) ggX3_readTile_X1_handCount
set_option maxRecDepth 20000 in
theorem ggX3_readTile_X7_put : GoodIn wsX3_readTile wsX7_put := goodIn_r _ [71] rfl (by decide +kernel)
set_option maxRecDepth 20000 in
theorem gX3_readTile_X7_put_n166 : GoodIn wsX3_readTile (wsX7_put) := ggX3_readTile_X7_put
theorem dX3_readTile_0 : decode cX3_readTile 0 = .ok (.aload_n 0, 1) := by decide +kernel
theorem dX3_readTile_1 : decode cX3_readTile 1 = .ok (.getfield 12, 3) := by decide +kernel
theorem dX3_readTile_4 : decode cX3_readTile 4 = .ok (.getfield 91, 3) := by decide +kernel
theorem dX3_readTile_7 : decode cX3_readTile 7 = .ok (.istore_n 2, 1) := by decide +kernel
theorem dX3_readTile_8 : decode cX3_readTile 8 = .ok (.aload_n 0, 1) := by decide +kernel
theorem dX3_readTile_9 : decode cX3_readTile 9 = .ok (.iconst 0, 1) := by decide +kernel
theorem dX3_readTile_10 : decode cX3_readTile 10 = .ok (.aload_n 0, 1) := by decide +kernel
theorem dX3_readTile_11 : decode cX3_readTile 11 = .ok (.getfield 21, 3) := by decide +kernel
theorem dX3_readTile_14 : decode cX3_readTile 14 = .ok (.getfield 107, 3) := by decide +kernel
theorem dX3_readTile_17 : decode cX3_readTile 17 = .ok (.invokevirtual 101, 3) := by decide +kernel
theorem dX3_readTile_20 : decode cX3_readTile 20 = .ok (.ifCond .ne 5, 3) := by decide +kernel
theorem dX3_readTile_23 : decode cX3_readTile 23 = .ok (.iconst 0, 1) := by decide +kernel
theorem dX3_readTile_24 : decode cX3_readTile 24 = .ok (.ireturn, 1) := by decide +kernel
theorem dX3_readTile_25 : decode cX3_readTile 25 = .ok (.aload_n 0, 1) := by decide +kernel
theorem dX3_readTile_26 : decode cX3_readTile 26 = .ok (.getfield 104, 3) := by decide +kernel
theorem dX3_readTile_29 : decode cX3_readTile 29 = .ok (.istore_n 3, 1) := by decide +kernel
theorem dX3_readTile_30 : decode cX3_readTile 30 = .ok (.aload_n 0, 1) := by decide +kernel
theorem dX3_readTile_31 : decode cX3_readTile 31 = .ok (.bipush 45, 2) := by decide +kernel
theorem dX3_readTile_33 : decode cX3_readTile 33 = .ok (.invokevirtual 73, 3) := by decide +kernel
theorem dX3_readTile_36 : decode cX3_readTile 36 = .ok (.ifCond .eq 18, 3) := by decide +kernel
theorem dX3_readTile_39 : decode cX3_readTile 39 = .ok (.aload_n 0, 1) := by decide +kernel
theorem dX3_readTile_40 : decode cX3_readTile 40 = .ok (.iconst 0, 1) := by decide +kernel
theorem dX3_readTile_41 : decode cX3_readTile 41 = .ok (.aload_n 0, 1) := by decide +kernel
theorem dX3_readTile_42 : decode cX3_readTile 42 = .ok (.getfield 21, 3) := by decide +kernel
theorem dX3_readTile_45 : decode cX3_readTile 45 = .ok (.getfield 107, 3) := by decide +kernel
theorem dX3_readTile_48 : decode cX3_readTile 48 = .ok (.invokevirtual 101, 3) := by decide +kernel
theorem dX3_readTile_51 : decode cX3_readTile 51 = .ok (.ifCond .ne 5, 3) := by decide +kernel
theorem dX3_readTile_54 : decode cX3_readTile 54 = .ok (.iconst 0, 1) := by decide +kernel
theorem dX3_readTile_55 : decode cX3_readTile 55 = .ok (.ireturn, 1) := by decide +kernel
theorem dX3_readTile_56 : decode cX3_readTile 56 = .ok (.bipush 10, 2) := by decide +kernel
theorem dX3_readTile_58 : decode cX3_readTile 58 = .ok (.iload_n 3, 1) := by decide +kernel
theorem dX3_readTile_59 : decode cX3_readTile 59 = .ok (.aload_n 0, 1) := by decide +kernel
theorem dX3_readTile_60 : decode cX3_readTile 60 = .ok (.getfield 104, 3) := by decide +kernel
theorem dX3_readTile_63 : decode cX3_readTile 63 = .ok (.invokestatic 147, 3) := by decide +kernel
theorem dX3_readTile_66 : decode cX3_readTile 66 = .ok (.imul, 1) := by decide +kernel
theorem dX3_readTile_67 : decode cX3_readTile 67 = .ok (.iload_n 3, 1) := by decide +kernel
theorem dX3_readTile_68 : decode cX3_readTile 68 = .ok (.aload_n 0, 1) := by decide +kernel
theorem dX3_readTile_69 : decode cX3_readTile 69 = .ok (.getfield 104, 3) := by decide +kernel
theorem dX3_readTile_72 : decode cX3_readTile 72 = .ok (.invokestatic 153, 3) := by decide +kernel
theorem dX3_readTile_75 : decode cX3_readTile 75 = .ok (.iadd, 1) := by decide +kernel
theorem dX3_readTile_76 : decode cX3_readTile 76 = .ok (.istore 4, 2) := by decide +kernel
theorem dX3_readTile_78 : decode cX3_readTile 78 = .ok (.aload_n 0, 1) := by decide +kernel
theorem dX3_readTile_79 : decode cX3_readTile 79 = .ok (.getfield 21, 3) := by decide +kernel
theorem dX3_readTile_82 : decode cX3_readTile 82 = .ok (.iload 4, 2) := by decide +kernel
theorem dX3_readTile_84 : decode cX3_readTile 84 = .ok (.invokevirtual 156, 3) := by decide +kernel
theorem dX3_readTile_87 : decode cX3_readTile 87 = .ok (.ifCond .ne 11, 3) := by decide +kernel
theorem dX3_readTile_90 : decode cX3_readTile 90 = .ok (.aload_n 0, 1) := by decide +kernel
theorem dX3_readTile_91 : decode cX3_readTile 91 = .ok (.bipush (-4), 2) := by decide +kernel
theorem dX3_readTile_93 : decode cX3_readTile 93 = .ok (.iload_n 2, 1) := by decide +kernel
theorem dX3_readTile_94 : decode cX3_readTile 94 = .ok (.invokevirtual 94, 3) := by decide +kernel
theorem dX3_readTile_97 : decode cX3_readTile 97 = .ok (.ireturn, 1) := by decide +kernel
theorem dX3_readTile_98 : decode cX3_readTile 98 = .ok (.aload_n 0, 1) := by decide +kernel
theorem dX3_readTile_99 : decode cX3_readTile 99 = .ok (.getfield 21, 3) := by decide +kernel
theorem dX3_readTile_102 : decode cX3_readTile 102 = .ok (.iload_n 1, 1) := by decide +kernel
theorem dX3_readTile_103 : decode cX3_readTile 103 = .ok (.invokevirtual 159, 3) := by decide +kernel
theorem dX3_readTile_106 : decode cX3_readTile 106 = .ok (.aload_n 0, 1) := by decide +kernel
theorem dX3_readTile_107 : decode cX3_readTile 107 = .ok (.getfield 21, 3) := by decide +kernel
theorem dX3_readTile_110 : decode cX3_readTile 110 = .ok (.getfield 119, 3) := by decide +kernel
theorem dX3_readTile_113 : decode cX3_readTile 113 = .ok (.if_icmp .lt 11, 3) := by decide +kernel
theorem dX3_readTile_116 : decode cX3_readTile 116 = .ok (.aload_n 0, 1) := by decide +kernel
theorem dX3_readTile_117 : decode cX3_readTile 117 = .ok (.bipush (-5), 2) := by decide +kernel
theorem dX3_readTile_119 : decode cX3_readTile 119 = .ok (.iload_n 2, 1) := by decide +kernel
theorem dX3_readTile_120 : decode cX3_readTile 120 = .ok (.invokevirtual 94, 3) := by decide +kernel
theorem dX3_readTile_123 : decode cX3_readTile 123 = .ok (.ireturn, 1) := by decide +kernel
theorem dX3_readTile_124 : decode cX3_readTile 124 = .ok (.aload_n 0, 1) := by decide +kernel
theorem dX3_readTile_125 : decode cX3_readTile 125 = .ok (.getfield 21, 3) := by decide +kernel
theorem dX3_readTile_128 : decode cX3_readTile 128 = .ok (.getfield 163, 3) := by decide +kernel
theorem dX3_readTile_131 : decode cX3_readTile 131 = .ok (.iload 4, 2) := by decide +kernel
theorem dX3_readTile_133 : decode cX3_readTile 133 = .ok (.iload_n 1, 1) := by decide +kernel
theorem dX3_readTile_134 : decode cX3_readTile 134 = .ok (.invokestatic 166, 3) := by decide +kernel
theorem dX3_readTile_137 : decode cX3_readTile 137 = .ok (.iconst 1, 1) := by decide +kernel
theorem dX3_readTile_138 : decode cX3_readTile 138 = .ok (.ireturn, 1) := by decide +kernel
set_option maxRecDepth 20000 in
theorem ggX3_readSum_X3_readTerm : GoodIn wsX3_readSum wsX3_readTerm := goodIn_r _ [111, 1, 112, 113, 114, 5, 6, 7, 8, 9, 10, 11, 12, 13, 14, 15, 16, 17, 18, 19, 20, 21, 22, 23, 24, 25, 26, 27, 28, 29, 30, 31, 32, 33, 34, 35, 36, 37, 38, 39, 40, 41, 42, 43, 44, 45, 46, 47, 48, 49, 50, 51, 52, 53, 54, 55, 56, 57, 58, 59, 60, 61, 62, 63, 64, 65, 66, 67, 68, 69, 70, 71, 72, 73, 74, 75, 76, 77, 78, 79, 80, 81, 82, 83, 84, 85, 86, 87, 88, 89, 90, 91, 92, 93, 94, 95, 96, 97, 98, 99, 100, 101, 102, 103, 104, 105, 106, 107, 108, 109, 110, 0, 2, 3, 4, 115, 116, 117, 118, 119, 120, 121, 122, 123, 124, 125, 126, 127, 128, 129, 130, 131, 132] rfl (by decide +kernel)
set_option maxRecDepth 20000 in
theorem gX3_readSum_X3_readTerm : GoodIn wsX3_readSum (wsV RX3 170 RX3 yX3_readTerm wsX3_readTerm) := goodIn_app (goodIn_of _ (by decide +kernel)) ggX3_readSum_X3_readTerm
set_option maxRecDepth 20000 in
theorem ggX3_readSum_X5_isSign : GoodIn wsX3_readSum wsX5_isSign := goodIn_r _ [10, 11, 12, 13, 126, 127, 128, 129, 130, 131, 132] rfl (by decide +kernel)
set_option maxRecDepth 20000 in
theorem gX3_readSum_X5_isSign : GoodIn wsX3_readSum (wsV RX3 173 RX5 yX5_isSign wsX5_isSign) := goodIn_app (goodIn_of _ (by decide +kernel)) ggX3_readSum_X5_isSign
set_option maxRecDepth 20000 in
theorem ggX3_readSum_X5_advance : GoodIn wsX3_readSum wsX5_advance := goodIn_r _ [17, 18, 13, 19, 12, 20, 21, 11, 126, 127, 128, 129, 130, 131, 132] rfl (by decide +kernel)
set_option maxRecDepth 20000 in
theorem gX3_readSum_X5_advance : GoodIn wsX3_readSum (wsV RX3 98 RX5 yX5_advance wsX5_advance) := goodIn_app (goodIn_of _ (by decide +kernel)) ggX3_readSum_X5_advance
set_option maxRecDepth 20000 in
theorem ggX3_readSum_X3_addStep : GoodIn wsX3_readSum wsX3_addStep := goodIn_r _ [25, 26, 27, 28, 29, 30, 115, 116, 117, 118, 119, 120, 121, 122, 123, 124, 125] rfl (by decide +kernel)
set_option maxRecDepth 20000 in
theorem gX3_readSum_X3_addStep : GoodIn wsX3_readSum (wsV RX3 176 RX3 yX3_addStep wsX3_addStep) := goodIn_app (goodIn_of _ (by decide +kernel)) ggX3_readSum_X3_addStep
theorem dX3_readSum_0 : decode cX3_readSum 0 = .ok (.aload_n 0, 1) := by decide +kernel
theorem dX3_readSum_1 : decode cX3_readSum 1 = .ok (.iload_n 1, 1) := by decide +kernel
theorem dX3_readSum_2 : decode cX3_readSum 2 = .ok (.invokevirtual 170, 3) := by decide +kernel
theorem dX3_readSum_5 : decode cX3_readSum 5 = .ok (.istore_n 2, 1) := by decide +kernel
theorem dX3_readSum_6 : decode cX3_readSum 6 = .ok (.iconst 0, 1) := by decide +kernel
theorem dX3_readSum_7 : decode cX3_readSum 7 = .ok (.istore_n 3, 1) := by decide +kernel
theorem dX3_readSum_8 : decode cX3_readSum 8 = .ok (.iload_n 2, 1) := by decide +kernel
theorem dX3_readSum_9 : decode cX3_readSum 9 = .ok (.ifCond .eq 80, 3) := by decide +kernel
theorem dX3_readSum_12 : decode cX3_readSum 12 = .ok (.aload_n 0, 1) := by decide +kernel
theorem dX3_readSum_13 : decode cX3_readSum 13 = .ok (.getfield 12, 3) := by decide +kernel
theorem dX3_readSum_16 : decode cX3_readSum 16 = .ok (.bipush 43, 2) := by decide +kernel
theorem dX3_readSum_18 : decode cX3_readSum 18 = .ok (.invokevirtual 173, 3) := by decide +kernel
theorem dX3_readSum_21 : decode cX3_readSum 21 = .ok (.ifCond .ne 15, 3) := by decide +kernel
theorem dX3_readSum_24 : decode cX3_readSum 24 = .ok (.aload_n 0, 1) := by decide +kernel
theorem dX3_readSum_25 : decode cX3_readSum 25 = .ok (.getfield 12, 3) := by decide +kernel
theorem dX3_readSum_28 : decode cX3_readSum 28 = .ok (.bipush 45, 2) := by decide +kernel
theorem dX3_readSum_30 : decode cX3_readSum 30 = .ok (.invokevirtual 173, 3) := by decide +kernel
theorem dX3_readSum_33 : decode cX3_readSum 33 = .ok (.ifCond .eq 56, 3) := by decide +kernel
theorem dX3_readSum_36 : decode cX3_readSum 36 = .ok (.iload_n 3, 1) := by decide +kernel
theorem dX3_readSum_37 : decode cX3_readSum 37 = .ok (.sipush 500, 3) := by decide +kernel
theorem dX3_readSum_40 : decode cX3_readSum 40 = .ok (.if_icmp .ge 49, 3) := by decide +kernel
theorem dX3_readSum_43 : decode cX3_readSum 43 = .ok (.aload_n 0, 1) := by decide +kernel
theorem dX3_readSum_44 : decode cX3_readSum 44 = .ok (.getfield 12, 3) := by decide +kernel
theorem dX3_readSum_47 : decode cX3_readSum 47 = .ok (.bipush 43, 2) := by decide +kernel
theorem dX3_readSum_49 : decode cX3_readSum 49 = .ok (.invokevirtual 173, 3) := by decide +kernel
theorem dX3_readSum_52 : decode cX3_readSum 52 = .ok (.ifCond .eq 8, 3) := by decide +kernel
theorem dX3_readSum_55 : decode cX3_readSum 55 = .ok (.bipush (-6), 2) := by decide +kernel
theorem dX3_readSum_57 : decode cX3_readSum 57 = .ok (.goto 5, 3) := by decide +kernel
theorem dX3_readSum_60 : decode cX3_readSum 60 = .ok (.bipush (-7), 2) := by decide +kernel
theorem dX3_readSum_62 : decode cX3_readSum 62 = .ok (.istore 4, 2) := by decide +kernel
theorem dX3_readSum_64 : decode cX3_readSum 64 = .ok (.aload_n 0, 1) := by decide +kernel
theorem dX3_readSum_65 : decode cX3_readSum 65 = .ok (.getfield 12, 3) := by decide +kernel
theorem dX3_readSum_68 : decode cX3_readSum 68 = .ok (.invokevirtual 98, 3) := by decide +kernel
theorem dX3_readSum_71 : decode cX3_readSum 71 = .ok (.aload_n 0, 1) := by decide +kernel
theorem dX3_readSum_72 : decode cX3_readSum 72 = .ok (.iload_n 1, 1) := by decide +kernel
theorem dX3_readSum_73 : decode cX3_readSum 73 = .ok (.invokevirtual 170, 3) := by decide +kernel
theorem dX3_readSum_76 : decode cX3_readSum 76 = .ok (.istore_n 2, 1) := by decide +kernel
theorem dX3_readSum_77 : decode cX3_readSum 77 = .ok (.aload_n 0, 1) := by decide +kernel
theorem dX3_readSum_78 : decode cX3_readSum 78 = .ok (.iload 4, 2) := by decide +kernel
theorem dX3_readSum_80 : decode cX3_readSum 80 = .ok (.invokevirtual 176, 3) := by decide +kernel
theorem dX3_readSum_83 : decode cX3_readSum 83 = .ok (.iinc 3 1, 3) := by decide +kernel
theorem dX3_readSum_86 : decode cX3_readSum 86 = .ok (.goto (-78), 3) := by decide +kernel
theorem dX3_readSum_89 : decode cX3_readSum 89 = .ok (.iload_n 2, 1) := by decide +kernel
theorem dX3_readSum_90 : decode cX3_readSum 90 = .ok (.ireturn, 1) := by decide +kernel
set_option maxRecDepth 20000 in
theorem ggX3_readTerm_X3_readFactor : GoodIn wsX3_readTerm wsX3_readFactor := goodIn_r _ [31, 1, 32, 6, 7, 8, 9, 10, 11, 12, 13, 33, 34, 35, 5, 36, 37, 38, 14, 15, 16, 17, 18, 19, 20, 21, 39, 40, 41, 42, 43, 44, 45, 46, 47, 48, 49, 50, 51, 52, 53, 22, 23, 24, 25, 26, 27, 28, 29, 30, 54, 55, 56, 57, 58, 59, 60, 61, 62, 63, 64, 65, 66, 67, 68, 69, 70, 71, 72, 73, 74, 75, 76, 77, 78, 79, 80, 81, 82, 83, 84, 85, 86, 87, 88, 89, 90, 91, 92, 93, 94, 95, 96, 97, 98, 99, 100, 101, 102, 103, 104, 105, 106, 107, 108, 109, 110, 111, 112, 113, 114, 0, 2, 3, 4, 115, 116, 117, 118, 119, 120, 121, 122, 123, 124, 125, 126, 127, 128, 129, 130, 131, 132] rfl (by decide +kernel)
set_option maxRecDepth 20000 in
theorem gX3_readTerm_X3_readFactor : GoodIn wsX3_readTerm (wsV RX3 179 RX3 yX3_readFactor wsX3_readFactor) := goodIn_app (goodIn_of _ (by decide +kernel)) ggX3_readTerm_X3_readFactor
set_option maxRecDepth 20000 in
theorem ggX3_readTerm_X5_isSign : GoodIn wsX3_readTerm wsX5_isSign := goodIn_r _ [10, 11, 12, 13, 126, 127, 128, 129, 130, 131, 132] rfl (by decide +kernel)
set_option maxRecDepth 20000 in
theorem gX3_readTerm_X5_isSign : GoodIn wsX3_readTerm (wsV RX3 173 RX5 yX5_isSign wsX5_isSign) := goodIn_app (goodIn_of _ (by decide +kernel)) ggX3_readTerm_X5_isSign
set_option maxRecDepth 20000 in
theorem ggX3_readTerm_X5_advance : GoodIn wsX3_readTerm wsX5_advance := goodIn_r _ [17, 18, 13, 19, 12, 20, 21, 11, 126, 127, 128, 129, 130, 131, 132] rfl (by decide +kernel)
set_option maxRecDepth 20000 in
theorem gX3_readTerm_X5_advance : GoodIn wsX3_readTerm (wsV RX3 98 RX5 yX5_advance wsX5_advance) := goodIn_app (goodIn_of _ (by decide +kernel)) ggX3_readTerm_X5_advance
set_option maxRecDepth 20000 in
theorem ggX3_readTerm_X3_addStep : GoodIn wsX3_readTerm wsX3_addStep := goodIn_r _ [25, 26, 27, 28, 29, 30, 115, 116, 117, 118, 119, 120, 121, 122, 123, 124, 125] rfl (by decide +kernel)
set_option maxRecDepth 20000 in
theorem gX3_readTerm_X3_addStep : GoodIn wsX3_readTerm (wsV RX3 176 RX3 yX3_addStep wsX3_addStep) := goodIn_app (goodIn_of _ (by decide +kernel)) ggX3_readTerm_X3_addStep
theorem dX3_readTerm_0 : decode cX3_readTerm 0 = .ok (.aload_n 0, 1) := by decide +kernel
theorem dX3_readTerm_1 : decode cX3_readTerm 1 = .ok (.iload_n 1, 1) := by decide +kernel
theorem dX3_readTerm_2 : decode cX3_readTerm 2 = .ok (.invokevirtual 179, 3) := by decide +kernel
theorem dX3_readTerm_5 : decode cX3_readTerm 5 = .ok (.istore_n 2, 1) := by decide +kernel
theorem dX3_readTerm_6 : decode cX3_readTerm 6 = .ok (.iconst 0, 1) := by decide +kernel
theorem dX3_readTerm_7 : decode cX3_readTerm 7 = .ok (.istore_n 3, 1) := by decide +kernel
theorem dX3_readTerm_8 : decode cX3_readTerm 8 = .ok (.iload_n 2, 1) := by decide +kernel
theorem dX3_readTerm_9 : decode cX3_readTerm 9 = .ok (.ifCond .eq 80, 3) := by decide +kernel
theorem dX3_readTerm_12 : decode cX3_readTerm 12 = .ok (.aload_n 0, 1) := by decide +kernel
theorem dX3_readTerm_13 : decode cX3_readTerm 13 = .ok (.getfield 12, 3) := by decide +kernel
theorem dX3_readTerm_16 : decode cX3_readTerm 16 = .ok (.bipush 42, 2) := by decide +kernel
theorem dX3_readTerm_18 : decode cX3_readTerm 18 = .ok (.invokevirtual 173, 3) := by decide +kernel
theorem dX3_readTerm_21 : decode cX3_readTerm 21 = .ok (.ifCond .ne 15, 3) := by decide +kernel
theorem dX3_readTerm_24 : decode cX3_readTerm 24 = .ok (.aload_n 0, 1) := by decide +kernel
theorem dX3_readTerm_25 : decode cX3_readTerm 25 = .ok (.getfield 12, 3) := by decide +kernel
theorem dX3_readTerm_28 : decode cX3_readTerm 28 = .ok (.bipush 47, 2) := by decide +kernel
theorem dX3_readTerm_30 : decode cX3_readTerm 30 = .ok (.invokevirtual 173, 3) := by decide +kernel
theorem dX3_readTerm_33 : decode cX3_readTerm 33 = .ok (.ifCond .eq 56, 3) := by decide +kernel
theorem dX3_readTerm_36 : decode cX3_readTerm 36 = .ok (.iload_n 3, 1) := by decide +kernel
theorem dX3_readTerm_37 : decode cX3_readTerm 37 = .ok (.sipush 500, 3) := by decide +kernel
theorem dX3_readTerm_40 : decode cX3_readTerm 40 = .ok (.if_icmp .ge 49, 3) := by decide +kernel
theorem dX3_readTerm_43 : decode cX3_readTerm 43 = .ok (.aload_n 0, 1) := by decide +kernel
theorem dX3_readTerm_44 : decode cX3_readTerm 44 = .ok (.getfield 12, 3) := by decide +kernel
theorem dX3_readTerm_47 : decode cX3_readTerm 47 = .ok (.bipush 42, 2) := by decide +kernel
theorem dX3_readTerm_49 : decode cX3_readTerm 49 = .ok (.invokevirtual 173, 3) := by decide +kernel
theorem dX3_readTerm_52 : decode cX3_readTerm 52 = .ok (.ifCond .eq 8, 3) := by decide +kernel
theorem dX3_readTerm_55 : decode cX3_readTerm 55 = .ok (.bipush (-8), 2) := by decide +kernel
theorem dX3_readTerm_57 : decode cX3_readTerm 57 = .ok (.goto 5, 3) := by decide +kernel
theorem dX3_readTerm_60 : decode cX3_readTerm 60 = .ok (.bipush (-9), 2) := by decide +kernel
theorem dX3_readTerm_62 : decode cX3_readTerm 62 = .ok (.istore 4, 2) := by decide +kernel
theorem dX3_readTerm_64 : decode cX3_readTerm 64 = .ok (.aload_n 0, 1) := by decide +kernel
theorem dX3_readTerm_65 : decode cX3_readTerm 65 = .ok (.getfield 12, 3) := by decide +kernel
theorem dX3_readTerm_68 : decode cX3_readTerm 68 = .ok (.invokevirtual 98, 3) := by decide +kernel
theorem dX3_readTerm_71 : decode cX3_readTerm 71 = .ok (.aload_n 0, 1) := by decide +kernel
theorem dX3_readTerm_72 : decode cX3_readTerm 72 = .ok (.iload_n 1, 1) := by decide +kernel
theorem dX3_readTerm_73 : decode cX3_readTerm 73 = .ok (.invokevirtual 179, 3) := by decide +kernel
theorem dX3_readTerm_76 : decode cX3_readTerm 76 = .ok (.istore_n 2, 1) := by decide +kernel
theorem dX3_readTerm_77 : decode cX3_readTerm 77 = .ok (.aload_n 0, 1) := by decide +kernel
theorem dX3_readTerm_78 : decode cX3_readTerm 78 = .ok (.iload 4, 2) := by decide +kernel
theorem dX3_readTerm_80 : decode cX3_readTerm 80 = .ok (.invokevirtual 176, 3) := by decide +kernel
theorem dX3_readTerm_83 : decode cX3_readTerm 83 = .ok (.iinc 3 1, 3) := by decide +kernel
theorem dX3_readTerm_86 : decode cX3_readTerm 86 = .ok (.goto (-78), 3) := by decide +kernel
theorem dX3_readTerm_89 : decode cX3_readTerm 89 = .ok (.iload_n 2, 1) := by decide +kernel
theorem dX3_readTerm_90 : decode cX3_readTerm 90 = .ok (.ireturn, 1) := by decide +kernel
set_option maxRecDepth 20000 in
theorem ggX3_readFactor_X5_isSign : GoodIn wsX3_readFactor wsX5_isSign := goodIn_r _ [7, 8, 9, 10, 126, 127, 128, 129, 130, 131, 132] rfl (by decide +kernel)
set_option maxRecDepth 20000 in
theorem gX3_readFactor_X5_isSign : GoodIn wsX3_readFactor (wsV RX3 173 RX5 yX5_isSign wsX5_isSign) := goodIn_app (goodIn_of _ (by decide +kernel)) ggX3_readFactor_X5_isSign
set_option maxRecDepth 20000 in
theorem ggX3_readFactor_X3_fail : GoodIn wsX3_readFactor wsX3_fail := goodIn_r _ [15, 16, 17, 115, 116, 117, 118, 119, 120, 121, 122, 123, 124, 125] rfl (by decide +kernel)
set_option maxRecDepth 20000 in
theorem gX3_readFactor_X3_fail : GoodIn wsX3_readFactor (wsV RX3 94 RX3 yX3_fail wsX3_fail) := goodIn_app (goodIn_of _ (by decide +kernel)) ggX3_readFactor_X3_fail
set_option maxRecDepth 20000 in
theorem ggX3_readFactor_X5_advance : GoodIn wsX3_readFactor wsX5_advance := goodIn_r _ [21, 22, 10, 23, 9, 24, 25, 8, 126, 127, 128, 129, 130, 131, 132] rfl (by decide +kernel)
set_option maxRecDepth 20000 in
theorem gX3_readFactor_X5_advance : GoodIn wsX3_readFactor (wsV RX3 98 RX5 yX5_advance wsX5_advance) := goodIn_app (goodIn_of _ (by decide +kernel)) ggX3_readFactor_X5_advance
set_option maxRecDepth 20000 in
theorem ggX3_readFactor_X3_readSum : GoodIn wsX3_readFactor wsX3_readSum := goodIn_r _ [107, 1, 108, 109, 110, 14, 3, 4, 5, 6, 7, 8, 9, 10, 18, 19, 20, 21, 22, 23, 24, 25, 41, 42, 43, 44, 45, 46, 47, 48, 49, 0, 2, 11, 12, 13, 15, 16, 17, 26, 27, 28, 29, 30, 31, 32, 33, 34, 35, 36, 37, 38, 39, 40, 50, 51, 52, 53, 54, 55, 56, 57, 58, 59, 60, 61, 62, 63, 64, 65, 66, 67, 68, 69, 70, 71, 72, 73, 74, 75, 76, 77, 78, 79, 80, 81, 82, 83, 84, 85, 86, 87, 88, 89, 90, 91, 92, 93, 94, 95, 96, 97, 98, 99, 100, 101, 102, 103, 104, 105, 106, 111, 112, 113, 114, 115, 116, 117, 118, 119, 120, 121, 122, 123, 124, 125, 126, 127, 128, 129, 130, 131, 132] rfl (by decide +kernel)
set_option maxRecDepth 20000 in
theorem gX3_readFactor_X3_readSum : GoodIn wsX3_readFactor (wsV RX3 137 RX3 yX3_readSum wsX3_readSum) := goodIn_app (goodIn_of _ (by decide +kernel)) ggX3_readFactor_X3_readSum
set_option maxRecDepth 20000 in
theorem ggX3_readFactor_X3_takeSign : GoodIn wsX3_readFactor wsX3_takeSign := goodIn_r _ [32, 1, 3, 4, 5, 6, 7, 8, 9, 10, 11, 12, 13, 14, 15, 16, 17, 18, 19, 20, 21, 22, 23, 24, 25, 115, 116, 117, 118, 119, 120, 121, 122, 123, 124, 125, 126, 127, 128, 129, 130, 131, 132] rfl (by decide +kernel)
set_option maxRecDepth 20000 in
theorem gX3_readFactor_X3_takeSign : GoodIn wsX3_readFactor (wsV RX3 73 RX3 yX3_takeSign wsX3_takeSign) := goodIn_app (goodIn_of _ (by decide +kernel)) ggX3_readFactor_X3_takeSign
set_option maxRecDepth 20000 in
theorem ggX3_readFactor_X5_isNumber : GoodIn wsX3_readFactor wsX5_isNumber := goodIn_r _ [36, 8, 126, 127, 128, 129, 130, 131, 132] rfl (by decide +kernel)
set_option maxRecDepth 20000 in
theorem gX3_readFactor_X5_isNumber : GoodIn wsX3_readFactor (wsV RX3 144 RX5 yX5_isNumber wsX5_isNumber) := goodIn_app (goodIn_of _ (by decide +kernel)) ggX3_readFactor_X5_isNumber
set_option maxRecDepth 20000 in
theorem ggX3_readFactor_X3_takeNumber : GoodIn wsX3_readFactor wsX3_takeNumber := goodIn_r _ [40, 1, 2, 33, 34, 35, 6, 36, 8, 11, 12, 13, 14, 15, 16, 17, 18, 19, 20, 21, 22, 10, 23, 9, 24, 25, 115, 116, 117, 118, 119, 120, 121, 122, 123, 124, 125, 126, 127, 128, 129, 130, 131, 132] rfl (by decide +kernel)
set_option maxRecDepth 20000 in
theorem gX3_readFactor_X3_takeNumber : GoodIn wsX3_readFactor (wsV RX3 101 RX3 yX3_takeNumber wsX3_takeNumber) := goodIn_app (goodIn_of _ (by decide +kernel)) ggX3_readFactor_X3_takeNumber
set_option maxRecDepth 20000 in
theorem ggX3_readFactor_X3_addStep : GoodIn wsX3_readFactor wsX3_addStep := goodIn_r _ [44, 45, 46, 47, 48, 49, 115, 116, 117, 118, 119, 120, 121, 122, 123, 124, 125] rfl (by decide +kernel)
set_option maxRecDepth 20000 in
theorem gX3_readFactor_X3_addStep : GoodIn wsX3_readFactor (wsV RX3 176 RX3 yX3_addStep wsX3_addStep) := goodIn_app (goodIn_of _ (by decide +kernel)) ggX3_readFactor_X3_addStep
set_option maxRecDepth 20000 in
theorem ggX3_readFactor_X3_variableHere : GoodIn wsX3_readFactor wsX3_variableHere := goodIn_r _ [53, 1, 54, 55, 56, 6, 57, 8, 23, 9, 10, 58, 59, 60, 61, 62, 63, 64, 65, 66, 67, 68, 69, 70, 71, 72, 73, 74, 75, 76, 77, 78, 79, 80, 81, 82, 83, 84, 85, 86, 87, 88, 89, 90, 91, 92, 93, 94, 95, 96, 97, 98, 99, 100, 101, 102, 103, 104, 105, 106, 115, 116, 117, 118, 119, 120, 121, 122, 123, 124, 125, 126, 127, 128, 129, 130, 131, 132] rfl (by decide +kernel)
set_option maxRecDepth 20000 in
theorem gX3_readFactor_X3_variableHere : GoodIn wsX3_readFactor (wsV RX3 182 RX3 yX3_variableHere wsX3_variableHere) := goodIn_app (goodIn_of _ (by decide +kernel)) ggX3_readFactor_X3_variableHere
theorem dX3_readFactor_0 : decode cX3_readFactor 0 = .ok (.aload_n 0, 1) := by decide +kernel
theorem dX3_readFactor_1 : decode cX3_readFactor 1 = .ok (.getfield 12, 3) := by decide +kernel
theorem dX3_readFactor_4 : decode cX3_readFactor 4 = .ok (.bipush 40, 2) := by decide +kernel
theorem dX3_readFactor_6 : decode cX3_readFactor 6 = .ok (.invokevirtual 173, 3) := by decide +kernel
theorem dX3_readFactor_9 : decode cX3_readFactor 9 = .ok (.ifCond .eq 54, 3) := by decide +kernel
theorem dX3_readFactor_12 : decode cX3_readFactor 12 = .ok (.iload_n 1, 1) := by decide +kernel
theorem dX3_readFactor_13 : decode cX3_readFactor 13 = .ok (.iconst 4, 1) := by decide +kernel
theorem dX3_readFactor_14 : decode cX3_readFactor 14 = .ok (.if_icmp .lt 17, 3) := by decide +kernel
theorem dX3_readFactor_17 : decode cX3_readFactor 17 = .ok (.aload_n 0, 1) := by decide +kernel
theorem dX3_readFactor_18 : decode cX3_readFactor 18 = .ok (.bipush (-6), 2) := by decide +kernel
theorem dX3_readFactor_20 : decode cX3_readFactor 20 = .ok (.aload_n 0, 1) := by decide +kernel
theorem dX3_readFactor_21 : decode cX3_readFactor 21 = .ok (.getfield 12, 3) := by decide +kernel
theorem dX3_readFactor_24 : decode cX3_readFactor 24 = .ok (.getfield 91, 3) := by decide +kernel
theorem dX3_readFactor_27 : decode cX3_readFactor 27 = .ok (.invokevirtual 94, 3) := by decide +kernel
theorem dX3_readFactor_30 : decode cX3_readFactor 30 = .ok (.ireturn, 1) := by decide +kernel
theorem dX3_readFactor_31 : decode cX3_readFactor 31 = .ok (.aload_n 0, 1) := by decide +kernel
theorem dX3_readFactor_32 : decode cX3_readFactor 32 = .ok (.getfield 12, 3) := by decide +kernel
theorem dX3_readFactor_35 : decode cX3_readFactor 35 = .ok (.invokevirtual 98, 3) := by decide +kernel
theorem dX3_readFactor_38 : decode cX3_readFactor 38 = .ok (.aload_n 0, 1) := by decide +kernel
theorem dX3_readFactor_39 : decode cX3_readFactor 39 = .ok (.iload_n 1, 1) := by decide +kernel
theorem dX3_readFactor_40 : decode cX3_readFactor 40 = .ok (.iconst 1, 1) := by decide +kernel
theorem dX3_readFactor_41 : decode cX3_readFactor 41 = .ok (.iadd, 1) := by decide +kernel
theorem dX3_readFactor_42 : decode cX3_readFactor 42 = .ok (.invokevirtual 137, 3) := by decide +kernel
theorem dX3_readFactor_45 : decode cX3_readFactor 45 = .ok (.ifCond .eq 16, 3) := by decide +kernel
theorem dX3_readFactor_48 : decode cX3_readFactor 48 = .ok (.aload_n 0, 1) := by decide +kernel
theorem dX3_readFactor_49 : decode cX3_readFactor 49 = .ok (.bipush 41, 2) := by decide +kernel
theorem dX3_readFactor_51 : decode cX3_readFactor 51 = .ok (.invokevirtual 73, 3) := by decide +kernel
theorem dX3_readFactor_54 : decode cX3_readFactor 54 = .ok (.ifCond .eq 7, 3) := by decide +kernel
theorem dX3_readFactor_57 : decode cX3_readFactor 57 = .ok (.iconst 1, 1) := by decide +kernel
theorem dX3_readFactor_58 : decode cX3_readFactor 58 = .ok (.goto 4, 3) := by decide +kernel
theorem dX3_readFactor_61 : decode cX3_readFactor 61 = .ok (.iconst 0, 1) := by decide +kernel
theorem dX3_readFactor_62 : decode cX3_readFactor 62 = .ok (.ireturn, 1) := by decide +kernel
theorem dX3_readFactor_63 : decode cX3_readFactor 63 = .ok (.aload_n 0, 1) := by decide +kernel
theorem dX3_readFactor_64 : decode cX3_readFactor 64 = .ok (.getfield 12, 3) := by decide +kernel
theorem dX3_readFactor_67 : decode cX3_readFactor 67 = .ok (.invokevirtual 144, 3) := by decide +kernel
theorem dX3_readFactor_70 : decode cX3_readFactor 70 = .ok (.ifCond .eq 26, 3) := by decide +kernel
theorem dX3_readFactor_73 : decode cX3_readFactor 73 = .ok (.aload_n 0, 1) := by decide +kernel
theorem dX3_readFactor_74 : decode cX3_readFactor 74 = .ok (.iconst 0, 1) := by decide +kernel
theorem dX3_readFactor_75 : decode cX3_readFactor 75 = .ok (.sipush 9999, 3) := by decide +kernel
theorem dX3_readFactor_78 : decode cX3_readFactor 78 = .ok (.invokevirtual 101, 3) := by decide +kernel
theorem dX3_readFactor_81 : decode cX3_readFactor 81 = .ok (.ifCond .ne 5, 3) := by decide +kernel
theorem dX3_readFactor_84 : decode cX3_readFactor 84 = .ok (.iconst 0, 1) := by decide +kernel
theorem dX3_readFactor_85 : decode cX3_readFactor 85 = .ok (.ireturn, 1) := by decide +kernel
theorem dX3_readFactor_86 : decode cX3_readFactor 86 = .ok (.aload_n 0, 1) := by decide +kernel
theorem dX3_readFactor_87 : decode cX3_readFactor 87 = .ok (.aload_n 0, 1) := by decide +kernel
theorem dX3_readFactor_88 : decode cX3_readFactor 88 = .ok (.getfield 104, 3) := by decide +kernel
theorem dX3_readFactor_91 : decode cX3_readFactor 91 = .ok (.invokevirtual 176, 3) := by decide +kernel
theorem dX3_readFactor_94 : decode cX3_readFactor 94 = .ok (.iconst 1, 1) := by decide +kernel
theorem dX3_readFactor_95 : decode cX3_readFactor 95 = .ok (.ireturn, 1) := by decide +kernel
theorem dX3_readFactor_96 : decode cX3_readFactor 96 = .ok (.aload_n 0, 1) := by decide +kernel
theorem dX3_readFactor_97 : decode cX3_readFactor 97 = .ok (.invokevirtual 182, 3) := by decide +kernel
theorem dX3_readFactor_100 : decode cX3_readFactor 100 = .ok (.istore_n 2, 1) := by decide +kernel
theorem dX3_readFactor_101 : decode cX3_readFactor 101 = .ok (.iload_n 2, 1) := by decide +kernel
theorem dX3_readFactor_102 : decode cX3_readFactor 102 = .ok (.ifCond .ne 17, 3) := by decide +kernel
theorem dX3_readFactor_105 : decode cX3_readFactor 105 = .ok (.aload_n 0, 1) := by decide +kernel
theorem dX3_readFactor_106 : decode cX3_readFactor 106 = .ok (.bipush (-2), 2) := by decide +kernel
theorem dX3_readFactor_108 : decode cX3_readFactor 108 = .ok (.aload_n 0, 1) := by decide +kernel
theorem dX3_readFactor_109 : decode cX3_readFactor 109 = .ok (.getfield 12, 3) := by decide +kernel
theorem dX3_readFactor_112 : decode cX3_readFactor 112 = .ok (.getfield 91, 3) := by decide +kernel
theorem dX3_readFactor_115 : decode cX3_readFactor 115 = .ok (.invokevirtual 94, 3) := by decide +kernel
theorem dX3_readFactor_118 : decode cX3_readFactor 118 = .ok (.ireturn, 1) := by decide +kernel
theorem dX3_readFactor_119 : decode cX3_readFactor 119 = .ok (.aload_n 0, 1) := by decide +kernel
theorem dX3_readFactor_120 : decode cX3_readFactor 120 = .ok (.getfield 12, 3) := by decide +kernel
theorem dX3_readFactor_123 : decode cX3_readFactor 123 = .ok (.invokevirtual 98, 3) := by decide +kernel
theorem dX3_readFactor_126 : decode cX3_readFactor 126 = .ok (.aload_n 0, 1) := by decide +kernel
theorem dX3_readFactor_127 : decode cX3_readFactor 127 = .ok (.iload_n 2, 1) := by decide +kernel
theorem dX3_readFactor_128 : decode cX3_readFactor 128 = .ok (.invokevirtual 176, 3) := by decide +kernel
theorem dX3_readFactor_131 : decode cX3_readFactor 131 = .ok (.iconst 1, 1) := by decide +kernel
theorem dX3_readFactor_132 : decode cX3_readFactor 132 = .ok (.ireturn, 1) := by decide +kernel
set_option maxRecDepth 20000 in
theorem ggX3_variableHere_X5_isWord : GoodIn wsX3_variableHere wsX5_isWord := goodIn_r _ [6, 7, 8, 9, 10, 11, 12, 13, 14, 15, 16, 17, 18, 19, 20, 21, 22, 23, 24, 25, 26, 27, 28, 29, 30, 31, 32, 33, 34, 35, 36, 37, 38, 39, 40, 41, 42, 43, 44, 45, 46, 47, 48, 49, 50, 51, 52, 53, 54, 55, 56, 57, 58, 59, 71, 72, 73, 74, 75, 76, 77] rfl (by decide +kernel)
set_option maxRecDepth 20000 in
theorem gX3_variableHere_X5_isWord : GoodIn wsX3_variableHere (wsV RX3 87 RX5 yX5_isWord wsX5_isWord) := goodIn_app (goodIn_of _ (by decide +kernel)) ggX3_variableHere_X5_isWord
theorem dX3_variableHere_0 : decode cX3_variableHere 0 = .ok (.aload_n 0, 1) := by decide +kernel
theorem dX3_variableHere_1 : decode cX3_variableHere 1 = .ok (.getfield 12, 3) := by decide +kernel
theorem dX3_variableHere_4 : decode cX3_variableHere 4 = .ok (.ldc 186, 2) := by decide +kernel
theorem dX3_variableHere_6 : decode cX3_variableHere 6 = .ok (.invokevirtual 87, 3) := by decide +kernel
theorem dX3_variableHere_9 : decode cX3_variableHere 9 = .ok (.ifCond .eq 5, 3) := by decide +kernel
theorem dX3_variableHere_12 : decode cX3_variableHere 12 = .ok (.iconst (-1), 1) := by decide +kernel
theorem dX3_variableHere_13 : decode cX3_variableHere 13 = .ok (.ireturn, 1) := by decide +kernel
theorem dX3_variableHere_14 : decode cX3_variableHere 14 = .ok (.aload_n 0, 1) := by decide +kernel
theorem dX3_variableHere_15 : decode cX3_variableHere 15 = .ok (.getfield 12, 3) := by decide +kernel
theorem dX3_variableHere_18 : decode cX3_variableHere 18 = .ok (.ldc 188, 2) := by decide +kernel
theorem dX3_variableHere_20 : decode cX3_variableHere 20 = .ok (.invokevirtual 87, 3) := by decide +kernel
theorem dX3_variableHere_23 : decode cX3_variableHere 23 = .ok (.ifCond .eq 6, 3) := by decide +kernel
theorem dX3_variableHere_26 : decode cX3_variableHere 26 = .ok (.bipush (-2), 2) := by decide +kernel
theorem dX3_variableHere_28 : decode cX3_variableHere 28 = .ok (.ireturn, 1) := by decide +kernel
theorem dX3_variableHere_29 : decode cX3_variableHere 29 = .ok (.aload_n 0, 1) := by decide +kernel
theorem dX3_variableHere_30 : decode cX3_variableHere 30 = .ok (.getfield 12, 3) := by decide +kernel
theorem dX3_variableHere_33 : decode cX3_variableHere 33 = .ok (.ldc 190, 2) := by decide +kernel
theorem dX3_variableHere_35 : decode cX3_variableHere 35 = .ok (.invokevirtual 87, 3) := by decide +kernel
theorem dX3_variableHere_38 : decode cX3_variableHere 38 = .ok (.ifCond .eq 6, 3) := by decide +kernel
theorem dX3_variableHere_41 : decode cX3_variableHere 41 = .ok (.bipush (-3), 2) := by decide +kernel
theorem dX3_variableHere_43 : decode cX3_variableHere 43 = .ok (.ireturn, 1) := by decide +kernel
theorem dX3_variableHere_44 : decode cX3_variableHere 44 = .ok (.aload_n 0, 1) := by decide +kernel
theorem dX3_variableHere_45 : decode cX3_variableHere 45 = .ok (.getfield 12, 3) := by decide +kernel
theorem dX3_variableHere_48 : decode cX3_variableHere 48 = .ok (.ldc 192, 2) := by decide +kernel
theorem dX3_variableHere_50 : decode cX3_variableHere 50 = .ok (.invokevirtual 87, 3) := by decide +kernel
theorem dX3_variableHere_53 : decode cX3_variableHere 53 = .ok (.ifCond .eq 6, 3) := by decide +kernel
theorem dX3_variableHere_56 : decode cX3_variableHere 56 = .ok (.bipush (-4), 2) := by decide +kernel
theorem dX3_variableHere_58 : decode cX3_variableHere 58 = .ok (.ireturn, 1) := by decide +kernel
theorem dX3_variableHere_59 : decode cX3_variableHere 59 = .ok (.aload_n 0, 1) := by decide +kernel
theorem dX3_variableHere_60 : decode cX3_variableHere 60 = .ok (.getfield 12, 3) := by decide +kernel
theorem dX3_variableHere_63 : decode cX3_variableHere 63 = .ok (.ldc 194, 2) := by decide +kernel
theorem dX3_variableHere_65 : decode cX3_variableHere 65 = .ok (.invokevirtual 87, 3) := by decide +kernel
theorem dX3_variableHere_68 : decode cX3_variableHere 68 = .ok (.ifCond .eq 8, 3) := by decide +kernel
theorem dX3_variableHere_71 : decode cX3_variableHere 71 = .ok (.bipush (-5), 2) := by decide +kernel
theorem dX3_variableHere_73 : decode cX3_variableHere 73 = .ok (.goto 4, 3) := by decide +kernel
theorem dX3_variableHere_76 : decode cX3_variableHere 76 = .ok (.iconst 0, 1) := by decide +kernel
theorem dX3_variableHere_77 : decode cX3_variableHere 77 = .ok (.ireturn, 1) := by decide +kernel
set_option maxRecDepth 20000 in
theorem ggX3_addStep_X7_put : GoodIn wsX3_addStep wsX7_put := goodIn_r _ [5] rfl (by decide +kernel)
set_option maxRecDepth 20000 in
theorem gX3_addStep_X7_put_n166 : GoodIn wsX3_addStep (wsX7_put) := ggX3_addStep_X7_put
theorem dX3_addStep_0 : decode cX3_addStep 0 = .ok (.aload_n 0, 1) := by decide +kernel
theorem dX3_addStep_1 : decode cX3_addStep 1 = .ok (.getfield 50, 3) := by decide +kernel
theorem dX3_addStep_4 : decode cX3_addStep 4 = .ok (.aload_n 0, 1) := by decide +kernel
theorem dX3_addStep_5 : decode cX3_addStep 5 = .ok (.getfield 25, 3) := by decide +kernel
theorem dX3_addStep_8 : decode cX3_addStep 8 = .ok (.arraylength, 1) := by decide +kernel
theorem dX3_addStep_9 : decode cX3_addStep 9 = .ok (.if_icmp .ge 25, 3) := by decide +kernel
theorem dX3_addStep_12 : decode cX3_addStep 12 = .ok (.aload_n 0, 1) := by decide +kernel
theorem dX3_addStep_13 : decode cX3_addStep 13 = .ok (.getfield 25, 3) := by decide +kernel
theorem dX3_addStep_16 : decode cX3_addStep 16 = .ok (.aload_n 0, 1) := by decide +kernel
theorem dX3_addStep_17 : decode cX3_addStep 17 = .ok (.getfield 50, 3) := by decide +kernel
theorem dX3_addStep_20 : decode cX3_addStep 20 = .ok (.iload_n 1, 1) := by decide +kernel
theorem dX3_addStep_21 : decode cX3_addStep 21 = .ok (.invokestatic 166, 3) := by decide +kernel
theorem dX3_addStep_24 : decode cX3_addStep 24 = .ok (.aload_n 0, 1) := by decide +kernel
theorem dX3_addStep_25 : decode cX3_addStep 25 = .ok (.dup, 1) := by decide +kernel
theorem dX3_addStep_26 : decode cX3_addStep 26 = .ok (.getfield 50, 3) := by decide +kernel
theorem dX3_addStep_29 : decode cX3_addStep 29 = .ok (.iconst 1, 1) := by decide +kernel
theorem dX3_addStep_30 : decode cX3_addStep 30 = .ok (.iadd, 1) := by decide +kernel
theorem dX3_addStep_31 : decode cX3_addStep 31 = .ok (.putfield 50, 3) := by decide +kernel
theorem dX3_addStep_34 : decode cX3_addStep 34 = .ok (.return_, 1) := by decide +kernel
set_option maxRecDepth 20000 in
theorem ggX3_takeNumber_X5_isNumber : GoodIn wsX3_takeNumber wsX5_isNumber := goodIn_r _ [7, 8, 37, 38, 39, 40, 41, 42, 43] rfl (by decide +kernel)
set_option maxRecDepth 20000 in
theorem gX3_takeNumber_X5_isNumber : GoodIn wsX3_takeNumber (wsV RX3 144 RX5 yX5_isNumber wsX5_isNumber) := goodIn_app (goodIn_of _ (by decide +kernel)) ggX3_takeNumber_X5_isNumber
set_option maxRecDepth 20000 in
theorem ggX3_takeNumber_X3_fail : GoodIn wsX3_takeNumber wsX3_fail := goodIn_r _ [13, 14, 15, 26, 27, 28, 29, 30, 31, 32, 33, 34, 35, 36] rfl (by decide +kernel)
set_option maxRecDepth 20000 in
theorem gX3_takeNumber_X3_fail : GoodIn wsX3_takeNumber (wsV RX3 94 RX3 yX3_fail wsX3_fail) := goodIn_app (goodIn_of _ (by decide +kernel)) ggX3_takeNumber_X3_fail
set_option maxRecDepth 20000 in
theorem ggX3_takeNumber_X5_advance : GoodIn wsX3_takeNumber wsX5_advance := goodIn_r _ [19, 20, 21, 22, 23, 24, 25, 8, 37, 38, 39, 40, 41, 42, 43] rfl (by decide +kernel)
set_option maxRecDepth 20000 in
theorem gX3_takeNumber_X5_advance : GoodIn wsX3_takeNumber (wsV RX3 98 RX5 yX5_advance wsX5_advance) := goodIn_app (goodIn_of _ (by decide +kernel)) ggX3_takeNumber_X5_advance
theorem dX3_takeNumber_0 : decode cX3_takeNumber 0 = .ok (.aload_n 0, 1) := by decide +kernel
theorem dX3_takeNumber_1 : decode cX3_takeNumber 1 = .ok (.getfield 12, 3) := by decide +kernel
theorem dX3_takeNumber_4 : decode cX3_takeNumber 4 = .ok (.invokevirtual 144, 3) := by decide +kernel
theorem dX3_takeNumber_7 : decode cX3_takeNumber 7 = .ok (.ifCond .ne 17, 3) := by decide +kernel
theorem dX3_takeNumber_10 : decode cX3_takeNumber 10 = .ok (.aload_n 0, 1) := by decide +kernel
theorem dX3_takeNumber_11 : decode cX3_takeNumber 11 = .ok (.bipush (-2), 2) := by decide +kernel
theorem dX3_takeNumber_13 : decode cX3_takeNumber 13 = .ok (.aload_n 0, 1) := by decide +kernel
theorem dX3_takeNumber_14 : decode cX3_takeNumber 14 = .ok (.getfield 12, 3) := by decide +kernel
theorem dX3_takeNumber_17 : decode cX3_takeNumber 17 = .ok (.getfield 91, 3) := by decide +kernel
theorem dX3_takeNumber_20 : decode cX3_takeNumber 20 = .ok (.invokevirtual 94, 3) := by decide +kernel
theorem dX3_takeNumber_23 : decode cX3_takeNumber 23 = .ok (.ireturn, 1) := by decide +kernel
theorem dX3_takeNumber_24 : decode cX3_takeNumber 24 = .ok (.aload_n 0, 1) := by decide +kernel
theorem dX3_takeNumber_25 : decode cX3_takeNumber 25 = .ok (.aload_n 0, 1) := by decide +kernel
theorem dX3_takeNumber_26 : decode cX3_takeNumber 26 = .ok (.getfield 12, 3) := by decide +kernel
theorem dX3_takeNumber_29 : decode cX3_takeNumber 29 = .ok (.getfield 196, 3) := by decide +kernel
theorem dX3_takeNumber_32 : decode cX3_takeNumber 32 = .ok (.putfield 104, 3) := by decide +kernel
theorem dX3_takeNumber_35 : decode cX3_takeNumber 35 = .ok (.aload_n 0, 1) := by decide +kernel
theorem dX3_takeNumber_36 : decode cX3_takeNumber 36 = .ok (.getfield 104, 3) := by decide +kernel
theorem dX3_takeNumber_39 : decode cX3_takeNumber 39 = .ok (.iload_n 1, 1) := by decide +kernel
theorem dX3_takeNumber_40 : decode cX3_takeNumber 40 = .ok (.if_icmp .lt 11, 3) := by decide +kernel
theorem dX3_takeNumber_43 : decode cX3_takeNumber 43 = .ok (.aload_n 0, 1) := by decide +kernel
theorem dX3_takeNumber_44 : decode cX3_takeNumber 44 = .ok (.getfield 104, 3) := by decide +kernel
theorem dX3_takeNumber_47 : decode cX3_takeNumber 47 = .ok (.iload_n 2, 1) := by decide +kernel
theorem dX3_takeNumber_48 : decode cX3_takeNumber 48 = .ok (.if_icmp .le 17, 3) := by decide +kernel
theorem dX3_takeNumber_51 : decode cX3_takeNumber 51 = .ok (.aload_n 0, 1) := by decide +kernel
theorem dX3_takeNumber_52 : decode cX3_takeNumber 52 = .ok (.bipush (-3), 2) := by decide +kernel
theorem dX3_takeNumber_54 : decode cX3_takeNumber 54 = .ok (.aload_n 0, 1) := by decide +kernel
theorem dX3_takeNumber_55 : decode cX3_takeNumber 55 = .ok (.getfield 12, 3) := by decide +kernel
theorem dX3_takeNumber_58 : decode cX3_takeNumber 58 = .ok (.getfield 91, 3) := by decide +kernel
theorem dX3_takeNumber_61 : decode cX3_takeNumber 61 = .ok (.invokevirtual 94, 3) := by decide +kernel
theorem dX3_takeNumber_64 : decode cX3_takeNumber 64 = .ok (.ireturn, 1) := by decide +kernel
theorem dX3_takeNumber_65 : decode cX3_takeNumber 65 = .ok (.aload_n 0, 1) := by decide +kernel
theorem dX3_takeNumber_66 : decode cX3_takeNumber 66 = .ok (.getfield 12, 3) := by decide +kernel
theorem dX3_takeNumber_69 : decode cX3_takeNumber 69 = .ok (.invokevirtual 98, 3) := by decide +kernel
theorem dX3_takeNumber_72 : decode cX3_takeNumber 72 = .ok (.iconst 1, 1) := by decide +kernel
theorem dX3_takeNumber_73 : decode cX3_takeNumber 73 = .ok (.ireturn, 1) := by decide +kernel
set_option maxRecDepth 20000 in
theorem ggX3_takeSign_X5_isSign : GoodIn wsX3_takeSign wsX5_isSign := goodIn_r _ [6, 7, 8, 9, 36, 37, 38, 39, 40, 41, 42] rfl (by decide +kernel)
set_option maxRecDepth 20000 in
theorem gX3_takeSign_X5_isSign : GoodIn wsX3_takeSign (wsV RX3 173 RX5 yX5_isSign wsX5_isSign) := goodIn_app (goodIn_of _ (by decide +kernel)) ggX3_takeSign_X5_isSign
set_option maxRecDepth 20000 in
theorem ggX3_takeSign_X3_fail : GoodIn wsX3_takeSign wsX3_fail := goodIn_r _ [14, 15, 16, 25, 26, 27, 28, 29, 30, 31, 32, 33, 34, 35] rfl (by decide +kernel)
set_option maxRecDepth 20000 in
theorem gX3_takeSign_X3_fail : GoodIn wsX3_takeSign (wsV RX3 94 RX3 yX3_fail wsX3_fail) := goodIn_app (goodIn_of _ (by decide +kernel)) ggX3_takeSign_X3_fail
set_option maxRecDepth 20000 in
theorem ggX3_takeSign_X5_advance : GoodIn wsX3_takeSign wsX5_advance := goodIn_r _ [20, 21, 9, 22, 8, 23, 24, 7, 36, 37, 38, 39, 40, 41, 42] rfl (by decide +kernel)
set_option maxRecDepth 20000 in
theorem gX3_takeSign_X5_advance : GoodIn wsX3_takeSign (wsV RX3 98 RX5 yX5_advance wsX5_advance) := goodIn_app (goodIn_of _ (by decide +kernel)) ggX3_takeSign_X5_advance
theorem dX3_takeSign_0 : decode cX3_takeSign 0 = .ok (.aload_n 0, 1) := by decide +kernel
theorem dX3_takeSign_1 : decode cX3_takeSign 1 = .ok (.getfield 12, 3) := by decide +kernel
theorem dX3_takeSign_4 : decode cX3_takeSign 4 = .ok (.iload_n 1, 1) := by decide +kernel
theorem dX3_takeSign_5 : decode cX3_takeSign 5 = .ok (.invokevirtual 173, 3) := by decide +kernel
theorem dX3_takeSign_8 : decode cX3_takeSign 8 = .ok (.ifCond .ne 17, 3) := by decide +kernel
theorem dX3_takeSign_11 : decode cX3_takeSign 11 = .ok (.aload_n 0, 1) := by decide +kernel
theorem dX3_takeSign_12 : decode cX3_takeSign 12 = .ok (.bipush (-2), 2) := by decide +kernel
theorem dX3_takeSign_14 : decode cX3_takeSign 14 = .ok (.aload_n 0, 1) := by decide +kernel
theorem dX3_takeSign_15 : decode cX3_takeSign 15 = .ok (.getfield 12, 3) := by decide +kernel
theorem dX3_takeSign_18 : decode cX3_takeSign 18 = .ok (.getfield 91, 3) := by decide +kernel
theorem dX3_takeSign_21 : decode cX3_takeSign 21 = .ok (.invokevirtual 94, 3) := by decide +kernel
theorem dX3_takeSign_24 : decode cX3_takeSign 24 = .ok (.ireturn, 1) := by decide +kernel
theorem dX3_takeSign_25 : decode cX3_takeSign 25 = .ok (.aload_n 0, 1) := by decide +kernel
theorem dX3_takeSign_26 : decode cX3_takeSign 26 = .ok (.getfield 12, 3) := by decide +kernel
theorem dX3_takeSign_29 : decode cX3_takeSign 29 = .ok (.invokevirtual 98, 3) := by decide +kernel
theorem dX3_takeSign_32 : decode cX3_takeSign 32 = .ok (.iconst 1, 1) := by decide +kernel
theorem dX3_takeSign_33 : decode cX3_takeSign 33 = .ok (.ireturn, 1) := by decide +kernel
theorem dX3_fail_0 : decode cX3_fail 0 = .ok (.aload_n 0, 1) := by decide +kernel
theorem dX3_fail_1 : decode cX3_fail 1 = .ok (.iload_n 1, 1) := by decide +kernel
theorem dX3_fail_2 : decode cX3_fail 2 = .ok (.putfield 56, 3) := by decide +kernel
theorem dX3_fail_5 : decode cX3_fail 5 = .ok (.aload_n 0, 1) := by decide +kernel
theorem dX3_fail_6 : decode cX3_fail 6 = .ok (.iload_n 2, 1) := by decide +kernel
theorem dX3_fail_7 : decode cX3_fail 7 = .ok (.putfield 29, 3) := by decide +kernel
theorem dX3_fail_10 : decode cX3_fail 10 = .ok (.iconst 0, 1) := by decide +kernel
theorem dX3_fail_11 : decode cX3_fail 11 = .ok (.ireturn, 1) := by decide +kernel
theorem dX4_init_0 : decode cX4_init 0 = .ok (.aload_n 0, 1) := by decide +kernel
theorem dX4_init_1 : decode cX4_init 1 = .ok (.invokespecial 3, 3) := by decide +kernel
theorem dX4_init_4 : decode cX4_init 4 = .ok (.aload_n 0, 1) := by decide +kernel
theorem dX4_init_5 : decode cX4_init 5 = .ok (.bipush 55, 2) := by decide +kernel
theorem dX4_init_7 : decode cX4_init 7 = .ok (.newarray .int, 2) := by decide +kernel
theorem dX4_init_9 : decode cX4_init 9 = .ok (.putfield 9, 3) := by decide +kernel
theorem dX4_init_12 : decode cX4_init 12 = .ok (.return_, 1) := by decide +kernel
set_option maxRecDepth 20000 in
theorem ggX4_takeOver_X7_copy : GoodIn wsX4_takeOver wsX7_copy := goodIn_r _ [6, 7, 8, 9, 10, 11, 12, 13, 14] rfl (by decide +kernel)
set_option maxRecDepth 20000 in
theorem gX4_takeOver_X7_copy_n15 : GoodIn wsX4_takeOver (wsX7_copy) := ggX4_takeOver_X7_copy
theorem dX4_takeOver_0 : decode cX4_takeOver 0 = .ok (.aload_n 1, 1) := by decide +kernel
theorem dX4_takeOver_1 : decode cX4_takeOver 1 = .ok (.getfield 9, 3) := by decide +kernel
theorem dX4_takeOver_4 : decode cX4_takeOver 4 = .ok (.aload_n 0, 1) := by decide +kernel
theorem dX4_takeOver_5 : decode cX4_takeOver 5 = .ok (.getfield 9, 3) := by decide +kernel
theorem dX4_takeOver_8 : decode cX4_takeOver 8 = .ok (.invokestatic 15, 3) := by decide +kernel
theorem dX4_takeOver_11 : decode cX4_takeOver 11 = .ok (.aload_n 0, 1) := by decide +kernel
theorem dX4_takeOver_12 : decode cX4_takeOver 12 = .ok (.aload_n 1, 1) := by decide +kernel
theorem dX4_takeOver_13 : decode cX4_takeOver 13 = .ok (.getfield 19, 3) := by decide +kernel
theorem dX4_takeOver_16 : decode cX4_takeOver 16 = .ok (.putfield 19, 3) := by decide +kernel
theorem dX4_takeOver_19 : decode cX4_takeOver 19 = .ok (.aload_n 0, 1) := by decide +kernel
theorem dX4_takeOver_20 : decode cX4_takeOver 20 = .ok (.aload_n 1, 1) := by decide +kernel
theorem dX4_takeOver_21 : decode cX4_takeOver 21 = .ok (.getfield 23, 3) := by decide +kernel
theorem dX4_takeOver_24 : decode cX4_takeOver 24 = .ok (.putfield 23, 3) := by decide +kernel
theorem dX4_takeOver_27 : decode cX4_takeOver 27 = .ok (.return_, 1) := by decide +kernel
theorem dX4_clear_0 : decode cX4_clear 0 = .ok (.aload_n 0, 1) := by decide +kernel
theorem dX4_clear_1 : decode cX4_clear 1 = .ok (.iconst 0, 1) := by decide +kernel
theorem dX4_clear_2 : decode cX4_clear 2 = .ok (.putfield 19, 3) := by decide +kernel
theorem dX4_clear_5 : decode cX4_clear 5 = .ok (.aload_n 0, 1) := by decide +kernel
theorem dX4_clear_6 : decode cX4_clear 6 = .ok (.iconst 0, 1) := by decide +kernel
theorem dX4_clear_7 : decode cX4_clear 7 = .ok (.putfield 23, 3) := by decide +kernel
theorem dX4_clear_10 : decode cX4_clear 10 = .ok (.return_, 1) := by decide +kernel
theorem dX4_size_0 : decode cX4_size 0 = .ok (.aload_n 0, 1) := by decide +kernel
theorem dX4_size_1 : decode cX4_size 1 = .ok (.getfield 23, 3) := by decide +kernel
theorem dX4_size_4 : decode cX4_size 4 = .ok (.aload_n 0, 1) := by decide +kernel
theorem dX4_size_5 : decode cX4_size 5 = .ok (.getfield 19, 3) := by decide +kernel
theorem dX4_size_8 : decode cX4_size 8 = .ok (.isub, 1) := by decide +kernel
theorem dX4_size_9 : decode cX4_size 9 = .ok (.ireturn, 1) := by decide +kernel
set_option maxRecDepth 20000 in
theorem ggX4_add_X7_put : GoodIn wsX4_add wsX7_put := goodIn_r _ [5] rfl (by decide +kernel)
set_option maxRecDepth 20000 in
theorem gX4_add_X7_put_n26 : GoodIn wsX4_add (wsX7_put) := ggX4_add_X7_put
theorem dX4_add_0 : decode cX4_add 0 = .ok (.aload_n 0, 1) := by decide +kernel
theorem dX4_add_1 : decode cX4_add 1 = .ok (.getfield 23, 3) := by decide +kernel
theorem dX4_add_4 : decode cX4_add 4 = .ok (.aload_n 0, 1) := by decide +kernel
theorem dX4_add_5 : decode cX4_add 5 = .ok (.getfield 9, 3) := by decide +kernel
theorem dX4_add_8 : decode cX4_add 8 = .ok (.arraylength, 1) := by decide +kernel
theorem dX4_add_9 : decode cX4_add 9 = .ok (.if_icmp .ge 25, 3) := by decide +kernel
theorem dX4_add_12 : decode cX4_add 12 = .ok (.aload_n 0, 1) := by decide +kernel
theorem dX4_add_13 : decode cX4_add 13 = .ok (.getfield 9, 3) := by decide +kernel
theorem dX4_add_16 : decode cX4_add 16 = .ok (.aload_n 0, 1) := by decide +kernel
theorem dX4_add_17 : decode cX4_add 17 = .ok (.getfield 23, 3) := by decide +kernel
theorem dX4_add_20 : decode cX4_add 20 = .ok (.iload_n 1, 1) := by decide +kernel
theorem dX4_add_21 : decode cX4_add 21 = .ok (.invokestatic 26, 3) := by decide +kernel
theorem dX4_add_24 : decode cX4_add 24 = .ok (.aload_n 0, 1) := by decide +kernel
theorem dX4_add_25 : decode cX4_add 25 = .ok (.dup, 1) := by decide +kernel
theorem dX4_add_26 : decode cX4_add 26 = .ok (.getfield 23, 3) := by decide +kernel
theorem dX4_add_29 : decode cX4_add 29 = .ok (.iconst 1, 1) := by decide +kernel
theorem dX4_add_30 : decode cX4_add 30 = .ok (.iadd, 1) := by decide +kernel
theorem dX4_add_31 : decode cX4_add 31 = .ok (.putfield 23, 3) := by decide +kernel
theorem dX4_add_34 : decode cX4_add 34 = .ok (.return_, 1) := by decide +kernel
set_option maxRecDepth 20000 in
theorem ggX4_mix_X7_look : GoodIn wsX4_mix wsX7_look := goodIn_r _ [6] rfl (by decide +kernel)
set_option maxRecDepth 20000 in
theorem gX4_mix_X7_look_n31 : GoodIn wsX4_mix (wsX7_look) := ggX4_mix_X7_look
set_option maxRecDepth 20000 in
theorem ggX4_mix_X7_put : GoodIn wsX4_mix wsX7_put := goodIn_r _ [8] rfl (by decide +kernel)
set_option maxRecDepth 20000 in
theorem gX4_mix_X7_put_n26 : GoodIn wsX4_mix (wsX7_put) := ggX4_mix_X7_put
theorem dX4_mix_0 : decode cX4_mix 0 = .ok (.iload_n 1, 1) := by decide +kernel
theorem dX4_mix_1 : decode cX4_mix 1 = .ok (.istore_n 2, 1) := by decide +kernel
theorem dX4_mix_2 : decode cX4_mix 2 = .ok (.aload_n 0, 1) := by decide +kernel
theorem dX4_mix_3 : decode cX4_mix 3 = .ok (.getfield 23, 3) := by decide +kernel
theorem dX4_mix_6 : decode cX4_mix 6 = .ok (.iconst 1, 1) := by decide +kernel
theorem dX4_mix_7 : decode cX4_mix 7 = .ok (.isub, 1) := by decide +kernel
theorem dX4_mix_8 : decode cX4_mix 8 = .ok (.istore_n 3, 1) := by decide +kernel
theorem dX4_mix_9 : decode cX4_mix 9 = .ok (.iload_n 3, 1) := by decide +kernel
theorem dX4_mix_10 : decode cX4_mix 10 = .ok (.iconst 1, 1) := by decide +kernel
theorem dX4_mix_11 : decode cX4_mix 11 = .ok (.if_icmp .lt 70, 3) := by decide +kernel
theorem dX4_mix_14 : decode cX4_mix 14 = .ok (.iload_n 2, 1) := by decide +kernel
theorem dX4_mix_15 : decode cX4_mix 15 = .ok (.ldc 30, 2) := by decide +kernel
theorem dX4_mix_17 : decode cX4_mix 17 = .ok (.imul, 1) := by decide +kernel
theorem dX4_mix_18 : decode cX4_mix 18 = .ok (.sipush 12345, 3) := by decide +kernel
theorem dX4_mix_21 : decode cX4_mix 21 = .ok (.iadd, 1) := by decide +kernel
theorem dX4_mix_22 : decode cX4_mix 22 = .ok (.istore_n 2, 1) := by decide +kernel
theorem dX4_mix_23 : decode cX4_mix 23 = .ok (.iload_n 2, 1) := by decide +kernel
theorem dX4_mix_24 : decode cX4_mix 24 = .ok (.bipush 16, 2) := by decide +kernel
theorem dX4_mix_26 : decode cX4_mix 26 = .ok (.ishr, 1) := by decide +kernel
theorem dX4_mix_27 : decode cX4_mix 27 = .ok (.sipush 32767, 3) := by decide +kernel
theorem dX4_mix_30 : decode cX4_mix 30 = .ok (.iand, 1) := by decide +kernel
theorem dX4_mix_31 : decode cX4_mix 31 = .ok (.iload_n 3, 1) := by decide +kernel
theorem dX4_mix_32 : decode cX4_mix 32 = .ok (.iconst 1, 1) := by decide +kernel
theorem dX4_mix_33 : decode cX4_mix 33 = .ok (.iadd, 1) := by decide +kernel
theorem dX4_mix_34 : decode cX4_mix 34 = .ok (.irem, 1) := by decide +kernel
theorem dX4_mix_35 : decode cX4_mix 35 = .ok (.istore 4, 2) := by decide +kernel
theorem dX4_mix_37 : decode cX4_mix 37 = .ok (.aload_n 0, 1) := by decide +kernel
theorem dX4_mix_38 : decode cX4_mix 38 = .ok (.getfield 9, 3) := by decide +kernel
theorem dX4_mix_41 : decode cX4_mix 41 = .ok (.iload_n 3, 1) := by decide +kernel
theorem dX4_mix_42 : decode cX4_mix 42 = .ok (.invokestatic 31, 3) := by decide +kernel
theorem dX4_mix_45 : decode cX4_mix 45 = .ok (.istore 5, 2) := by decide +kernel
theorem dX4_mix_47 : decode cX4_mix 47 = .ok (.aload_n 0, 1) := by decide +kernel
theorem dX4_mix_48 : decode cX4_mix 48 = .ok (.getfield 9, 3) := by decide +kernel
theorem dX4_mix_51 : decode cX4_mix 51 = .ok (.iload_n 3, 1) := by decide +kernel
theorem dX4_mix_52 : decode cX4_mix 52 = .ok (.aload_n 0, 1) := by decide +kernel
theorem dX4_mix_53 : decode cX4_mix 53 = .ok (.getfield 9, 3) := by decide +kernel
theorem dX4_mix_56 : decode cX4_mix 56 = .ok (.iload 4, 2) := by decide +kernel
theorem dX4_mix_58 : decode cX4_mix 58 = .ok (.invokestatic 31, 3) := by decide +kernel
theorem dX4_mix_61 : decode cX4_mix 61 = .ok (.invokestatic 26, 3) := by decide +kernel
theorem dX4_mix_64 : decode cX4_mix 64 = .ok (.aload_n 0, 1) := by decide +kernel
theorem dX4_mix_65 : decode cX4_mix 65 = .ok (.getfield 9, 3) := by decide +kernel
theorem dX4_mix_68 : decode cX4_mix 68 = .ok (.iload 4, 2) := by decide +kernel
theorem dX4_mix_70 : decode cX4_mix 70 = .ok (.iload 5, 2) := by decide +kernel
theorem dX4_mix_72 : decode cX4_mix 72 = .ok (.invokestatic 26, 3) := by decide +kernel
theorem dX4_mix_75 : decode cX4_mix 75 = .ok (.iinc 3 (-1), 3) := by decide +kernel
theorem dX4_mix_78 : decode cX4_mix 78 = .ok (.goto (-69), 3) := by decide +kernel
theorem dX4_mix_81 : decode cX4_mix 81 = .ok (.iload_n 2, 1) := by decide +kernel
theorem dX4_mix_82 : decode cX4_mix 82 = .ok (.ireturn, 1) := by decide +kernel
set_option maxRecDepth 20000 in
theorem ggX4_takeFirst_X7_look : GoodIn wsX4_takeFirst wsX7_look := goodIn_r _ [6] rfl (by decide +kernel)
set_option maxRecDepth 20000 in
theorem gX4_takeFirst_X7_look_n31 : GoodIn wsX4_takeFirst (wsX7_look) := ggX4_takeFirst_X7_look
theorem dX4_takeFirst_0 : decode cX4_takeFirst 0 = .ok (.aload_n 0, 1) := by decide +kernel
theorem dX4_takeFirst_1 : decode cX4_takeFirst 1 = .ok (.getfield 19, 3) := by decide +kernel
theorem dX4_takeFirst_4 : decode cX4_takeFirst 4 = .ok (.aload_n 0, 1) := by decide +kernel
theorem dX4_takeFirst_5 : decode cX4_takeFirst 5 = .ok (.getfield 23, 3) := by decide +kernel
theorem dX4_takeFirst_8 : decode cX4_takeFirst 8 = .ok (.if_icmp .lt 5, 3) := by decide +kernel
theorem dX4_takeFirst_11 : decode cX4_takeFirst 11 = .ok (.iconst (-1), 1) := by decide +kernel
theorem dX4_takeFirst_12 : decode cX4_takeFirst 12 = .ok (.ireturn, 1) := by decide +kernel
theorem dX4_takeFirst_13 : decode cX4_takeFirst 13 = .ok (.aload_n 0, 1) := by decide +kernel
theorem dX4_takeFirst_14 : decode cX4_takeFirst 14 = .ok (.getfield 9, 3) := by decide +kernel
theorem dX4_takeFirst_17 : decode cX4_takeFirst 17 = .ok (.aload_n 0, 1) := by decide +kernel
theorem dX4_takeFirst_18 : decode cX4_takeFirst 18 = .ok (.getfield 19, 3) := by decide +kernel
theorem dX4_takeFirst_21 : decode cX4_takeFirst 21 = .ok (.invokestatic 31, 3) := by decide +kernel
theorem dX4_takeFirst_24 : decode cX4_takeFirst 24 = .ok (.istore_n 1, 1) := by decide +kernel
theorem dX4_takeFirst_25 : decode cX4_takeFirst 25 = .ok (.aload_n 0, 1) := by decide +kernel
theorem dX4_takeFirst_26 : decode cX4_takeFirst 26 = .ok (.dup, 1) := by decide +kernel
theorem dX4_takeFirst_27 : decode cX4_takeFirst 27 = .ok (.getfield 19, 3) := by decide +kernel
theorem dX4_takeFirst_30 : decode cX4_takeFirst 30 = .ok (.iconst 1, 1) := by decide +kernel
theorem dX4_takeFirst_31 : decode cX4_takeFirst 31 = .ok (.iadd, 1) := by decide +kernel
theorem dX4_takeFirst_32 : decode cX4_takeFirst 32 = .ok (.putfield 19, 3) := by decide +kernel
