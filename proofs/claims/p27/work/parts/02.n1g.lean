theorem dX7_deal_85 : decode cX7_deal 85 = .ok (.invokevirtual 73, 3) := by decide +kernel
theorem dX7_deal_88 : decode cX7_deal 88 = .ok (.ireturn, 1) := by decide +kernel
set_option maxRecDepth 20000 in
theorem ggX7_undo_X1_takeOver : GoodIn wsX7_undo wsX1_takeOver := goodIn_r _ [9, 10, 11, 12, 13, 14, 15, 16, 17, 18, 19, 20, 21, 22, 23, 24, 25, 26, 27, 28, 29, 30, 31, 32, 33, 34, 35, 36, 37, 38, 39, 40, 41, 42, 43, 44, 45, 46, 47, 48, 49, 50, 51, 52, 53, 54, 62, 63, 64, 65, 66, 67, 68, 69, 70, 71, 72, 73, 74, 75, 76, 77, 78, 79, 80, 81, 82, 83, 84, 85] rfl (by decide +kernel)
set_option maxRecDepth 20000 in
theorem gX7_undo_X1_takeOver : GoodIn wsX7_undo (wsV RX7 65 RX1 yX1_takeOver wsX1_takeOver) := goodIn_app (goodIn_of _ (by decide +kernel)) ggX7_undo_X1_takeOver
theorem dX7_undo_0 : decode cX7_undo 0 = .ok (.aload_n 0, 1) := by decide +kernel
theorem dX7_undo_1 : decode cX7_undo 1 = .ok (.getfield 204, 3) := by decide +kernel
theorem dX7_undo_4 : decode cX7_undo 4 = .ok (.ifCond .ne 5, 3) := by decide +kernel
theorem dX7_undo_7 : decode cX7_undo 7 = .ok (.iconst (-1), 1) := by decide +kernel
theorem dX7_undo_8 : decode cX7_undo 8 = .ok (.ireturn, 1) := by decide +kernel
theorem dX7_undo_9 : decode cX7_undo 9 = .ok (.aload_n 0, 1) := by decide +kernel
theorem dX7_undo_10 : decode cX7_undo 10 = .ok (.getfield 19, 3) := by decide +kernel
theorem dX7_undo_13 : decode cX7_undo 13 = .ok (.aload_n 0, 1) := by decide +kernel
theorem dX7_undo_14 : decode cX7_undo 14 = .ok (.getfield 207, 3) := by decide +kernel
theorem dX7_undo_17 : decode cX7_undo 17 = .ok (.bipush 7, 2) := by decide +kernel
theorem dX7_undo_19 : decode cX7_undo 19 = .ok (.iand, 1) := by decide +kernel
theorem dX7_undo_20 : decode cX7_undo 20 = .ok (.aaload, 1) := by decide +kernel
theorem dX7_undo_21 : decode cX7_undo 21 = .ok (.astore_n 1, 1) := by decide +kernel
theorem dX7_undo_22 : decode cX7_undo 22 = .ok (.aload_n 1, 1) := by decide +kernel
theorem dX7_undo_23 : decode cX7_undo 23 = .ok (.ifnull 11, 3) := by decide +kernel
theorem dX7_undo_26 : decode cX7_undo 26 = .ok (.aload_n 0, 1) := by decide +kernel
theorem dX7_undo_27 : decode cX7_undo 27 = .ok (.getfield 10, 3) := by decide +kernel
theorem dX7_undo_30 : decode cX7_undo 30 = .ok (.aload_n 1, 1) := by decide +kernel
theorem dX7_undo_31 : decode cX7_undo 31 = .ok (.invokevirtual 65, 3) := by decide +kernel
theorem dX7_undo_34 : decode cX7_undo 34 = .ok (.aload_n 0, 1) := by decide +kernel
theorem dX7_undo_35 : decode cX7_undo 35 = .ok (.dup, 1) := by decide +kernel
theorem dX7_undo_36 : decode cX7_undo 36 = .ok (.getfield 207, 3) := by decide +kernel
theorem dX7_undo_39 : decode cX7_undo 39 = .ok (.iconst 1, 1) := by decide +kernel
theorem dX7_undo_40 : decode cX7_undo 40 = .ok (.isub, 1) := by decide +kernel
theorem dX7_undo_41 : decode cX7_undo 41 = .ok (.putfield 207, 3) := by decide +kernel
theorem dX7_undo_44 : decode cX7_undo 44 = .ok (.aload_n 0, 1) := by decide +kernel
theorem dX7_undo_45 : decode cX7_undo 45 = .ok (.dup, 1) := by decide +kernel
theorem dX7_undo_46 : decode cX7_undo 46 = .ok (.getfield 204, 3) := by decide +kernel
theorem dX7_undo_49 : decode cX7_undo 49 = .ok (.iconst 1, 1) := by decide +kernel
theorem dX7_undo_50 : decode cX7_undo 50 = .ok (.isub, 1) := by decide +kernel
theorem dX7_undo_51 : decode cX7_undo 51 = .ok (.putfield 204, 3) := by decide +kernel
theorem dX7_undo_54 : decode cX7_undo 54 = .ok (.aload_n 0, 1) := by decide +kernel
theorem dX7_undo_55 : decode cX7_undo 55 = .ok (.getfield 204, 3) := by decide +kernel
theorem dX7_undo_58 : decode cX7_undo 58 = .ok (.ireturn, 1) := by decide +kernel
set_option maxRecDepth 20000 in
theorem ggX7_checksum_X1_stateNumber : GoodIn wsX7_checksum wsX1_stateNumber := goodIn_r _ [7, 8, 9, 10, 11, 12, 13, 14, 15, 16, 17, 18, 19, 20, 21, 22, 23, 24, 25, 26, 27, 28, 29, 6, 30, 31, 32, 33, 34, 35, 36, 37, 38, 39, 40, 41, 42, 43, 44, 45, 46, 47, 48, 49, 50, 51, 52, 53, 54, 55, 56, 57, 58, 59, 60, 61, 62, 63, 64, 65, 66, 67, 68, 69, 70, 117, 118, 119, 120, 121, 122, 123, 124, 125, 126, 127, 128, 129, 130, 131, 132, 133, 134, 135, 136, 137, 138, 139, 140] rfl (by decide +kernel)
set_option maxRecDepth 20000 in
theorem gX7_checksum_X1_stateNumber : GoodIn wsX7_checksum (wsV RX7 86 RX1 yX1_stateNumber wsX1_stateNumber) := goodIn_app (goodIn_of _ (by decide +kernel)) ggX7_checksum_X1_stateNumber
set_option maxRecDepth 20000 in
theorem ggX7_checksum_X1_playerNumber : GoodIn wsX7_checksum wsX1_playerNumber := goodIn_r _ [74, 75, 76, 77, 78, 6, 79, 31, 32, 33, 34, 35, 80, 81, 82, 83, 84, 56, 85, 65, 66, 67, 68, 69, 70, 55, 57, 86, 87, 88, 89, 12, 36, 37, 38, 39, 9, 40, 41, 42, 43, 16, 14, 44, 45, 46, 47, 48, 49, 50, 51, 52, 53, 54, 58, 59, 60, 61, 62, 63, 64, 117, 118, 119, 120, 121, 122, 123, 124, 125, 126, 127, 128, 129, 130, 131, 132, 136, 137, 138, 139, 140] rfl (by decide +kernel)
set_option maxRecDepth 20000 in
theorem gX7_checksum_X1_playerNumber : GoodIn wsX7_checksum (wsV RX7 92 RX1 yX1_playerNumber wsX1_playerNumber) := goodIn_app (goodIn_of _ (by decide +kernel)) ggX7_checksum_X1_playerNumber
set_option maxRecDepth 20000 in
theorem ggX7_checksum_X1_holderOf : GoodIn wsX7_checksum wsX1_holderOf := goodIn_r _ [34, 35, 117, 118, 119, 120, 121, 122, 123, 124, 125, 126, 127, 128, 129, 130, 131, 132] rfl (by decide +kernel)
set_option maxRecDepth 20000 in
theorem gX7_checksum_X1_holderOf : GoodIn wsX7_checksum (wsV RX7 212 RX1 yX1_holderOf wsX1_holderOf) := goodIn_app (goodIn_of _ (by decide +kernel)) ggX7_checksum_X1_holderOf
set_option maxRecDepth 20000 in
theorem ggX7_checksum_X1_trainNumber : GoodIn wsX7_checksum wsX1_trainNumber := goodIn_r _ [94, 44, 95, 96, 97, 52, 98, 99, 100, 55, 56, 57, 58, 59, 60, 61, 62, 45, 46, 47, 6, 48, 9, 49, 50, 51, 53, 54, 101, 102, 103, 104, 105, 106, 107, 108, 109, 84, 85, 65, 66, 67, 68, 69, 70, 117, 118, 119, 120, 121, 122, 123, 124, 125, 126, 127, 128, 129, 130, 131, 132, 136, 137, 138, 139, 140] rfl (by decide +kernel)
set_option maxRecDepth 20000 in
theorem gX7_checksum_X1_trainNumber : GoodIn wsX7_checksum (wsV RX7 105 RX1 yX1_trainNumber wsX1_trainNumber) := goodIn_app (goodIn_of _ (by decide +kernel)) ggX7_checksum_X1_trainNumber
theorem dX7_checksum_0 : decode cX7_checksum 0 = .ok (.lconst 0, 1) := by decide +kernel
theorem dX7_checksum_1 : decode cX7_checksum 1 = .ok (.lstore_n 1, 1) := by decide +kernel
theorem dX7_checksum_2 : decode cX7_checksum 2 = .ok (.iconst 0, 1) := by decide +kernel
theorem dX7_checksum_3 : decode cX7_checksum 3 = .ok (.istore_n 3, 1) := by decide +kernel
theorem dX7_checksum_4 : decode cX7_checksum 4 = .ok (.iload_n 3, 1) := by decide +kernel
theorem dX7_checksum_5 : decode cX7_checksum 5 = .ok (.bipush 13, 2) := by decide +kernel
theorem dX7_checksum_7 : decode cX7_checksum 7 = .ok (.if_icmp .ge 25, 3) := by decide +kernel
theorem dX7_checksum_10 : decode cX7_checksum 10 = .ok (.ldc2_w 210, 3) := by decide +kernel
theorem dX7_checksum_13 : decode cX7_checksum 13 = .ok (.lload_n 1, 1) := by decide +kernel
theorem dX7_checksum_14 : decode cX7_checksum 14 = .ok (.lmul, 1) := by decide +kernel
theorem dX7_checksum_15 : decode cX7_checksum 15 = .ok (.aload_n 0, 1) := by decide +kernel
theorem dX7_checksum_16 : decode cX7_checksum 16 = .ok (.getfield 10, 3) := by decide +kernel
theorem dX7_checksum_19 : decode cX7_checksum 19 = .ok (.iload_n 3, 1) := by decide +kernel
theorem dX7_checksum_20 : decode cX7_checksum 20 = .ok (.invokevirtual 86, 3) := by decide +kernel
theorem dX7_checksum_23 : decode cX7_checksum 23 = .ok (.i2l, 1) := by decide +kernel
theorem dX7_checksum_24 : decode cX7_checksum 24 = .ok (.ladd, 1) := by decide +kernel
theorem dX7_checksum_25 : decode cX7_checksum 25 = .ok (.lstore_n 1, 1) := by decide +kernel
theorem dX7_checksum_26 : decode cX7_checksum 26 = .ok (.iinc 3 1, 3) := by decide +kernel
theorem dX7_checksum_29 : decode cX7_checksum 29 = .ok (.goto (-25), 3) := by decide +kernel
theorem dX7_checksum_32 : decode cX7_checksum 32 = .ok (.iconst 0, 1) := by decide +kernel
theorem dX7_checksum_33 : decode cX7_checksum 33 = .ok (.istore_n 3, 1) := by decide +kernel
theorem dX7_checksum_34 : decode cX7_checksum 34 = .ok (.iload_n 3, 1) := by decide +kernel
theorem dX7_checksum_35 : decode cX7_checksum 35 = .ok (.aload_n 0, 1) := by decide +kernel
theorem dX7_checksum_36 : decode cX7_checksum 36 = .ok (.getfield 10, 3) := by decide +kernel
theorem dX7_checksum_39 : decode cX7_checksum 39 = .ok (.getfield 153, 3) := by decide +kernel
theorem dX7_checksum_42 : decode cX7_checksum 42 = .ok (.if_icmp .ge 81, 3) := by decide +kernel
theorem dX7_checksum_45 : decode cX7_checksum 45 = .ok (.iconst 0, 1) := by decide +kernel
theorem dX7_checksum_46 : decode cX7_checksum 46 = .ok (.istore 4, 2) := by decide +kernel
theorem dX7_checksum_48 : decode cX7_checksum 48 = .ok (.iload 4, 2) := by decide +kernel
theorem dX7_checksum_50 : decode cX7_checksum 50 = .ok (.iconst 4, 1) := by decide +kernel
theorem dX7_checksum_51 : decode cX7_checksum 51 = .ok (.if_icmp .ge 27, 3) := by decide +kernel
theorem dX7_checksum_54 : decode cX7_checksum 54 = .ok (.ldc2_w 210, 3) := by decide +kernel
theorem dX7_checksum_57 : decode cX7_checksum 57 = .ok (.lload_n 1, 1) := by decide +kernel
theorem dX7_checksum_58 : decode cX7_checksum 58 = .ok (.lmul, 1) := by decide +kernel
theorem dX7_checksum_59 : decode cX7_checksum 59 = .ok (.aload_n 0, 1) := by decide +kernel
theorem dX7_checksum_60 : decode cX7_checksum 60 = .ok (.getfield 10, 3) := by decide +kernel
theorem dX7_checksum_63 : decode cX7_checksum 63 = .ok (.iload_n 3, 1) := by decide +kernel
theorem dX7_checksum_64 : decode cX7_checksum 64 = .ok (.iload 4, 2) := by decide +kernel
theorem dX7_checksum_66 : decode cX7_checksum 66 = .ok (.invokevirtual 92, 3) := by decide +kernel
theorem dX7_checksum_69 : decode cX7_checksum 69 = .ok (.i2l, 1) := by decide +kernel
theorem dX7_checksum_70 : decode cX7_checksum 70 = .ok (.ladd, 1) := by decide +kernel
theorem dX7_checksum_71 : decode cX7_checksum 71 = .ok (.lstore_n 1, 1) := by decide +kernel
theorem dX7_checksum_72 : decode cX7_checksum 72 = .ok (.iinc 4 1, 3) := by decide +kernel
theorem dX7_checksum_75 : decode cX7_checksum 75 = .ok (.goto (-27), 3) := by decide +kernel
theorem dX7_checksum_78 : decode cX7_checksum 78 = .ok (.iconst 0, 1) := by decide +kernel
theorem dX7_checksum_79 : decode cX7_checksum 79 = .ok (.istore 4, 2) := by decide +kernel
theorem dX7_checksum_81 : decode cX7_checksum 81 = .ok (.iload 4, 2) := by decide +kernel
theorem dX7_checksum_83 : decode cX7_checksum 83 = .ok (.bipush 100, 2) := by decide +kernel
theorem dX7_checksum_85 : decode cX7_checksum 85 = .ok (.if_icmp .ge 32, 3) := by decide +kernel
theorem dX7_checksum_88 : decode cX7_checksum 88 = .ok (.aload_n 0, 1) := by decide +kernel
theorem dX7_checksum_89 : decode cX7_checksum 89 = .ok (.getfield 10, 3) := by decide +kernel
theorem dX7_checksum_92 : decode cX7_checksum 92 = .ok (.iload 4, 2) := by decide +kernel
theorem dX7_checksum_94 : decode cX7_checksum 94 = .ok (.invokevirtual 212, 3) := by decide +kernel
theorem dX7_checksum_97 : decode cX7_checksum 97 = .ok (.iload_n 3, 1) := by decide +kernel
theorem dX7_checksum_98 : decode cX7_checksum 98 = .ok (.if_icmp .ne 13, 3) := by decide +kernel
theorem dX7_checksum_101 : decode cX7_checksum 101 = .ok (.ldc2_w 210, 3) := by decide +kernel
theorem dX7_checksum_104 : decode cX7_checksum 104 = .ok (.lload_n 1, 1) := by decide +kernel
theorem dX7_checksum_105 : decode cX7_checksum 105 = .ok (.lmul, 1) := by decide +kernel
theorem dX7_checksum_106 : decode cX7_checksum 106 = .ok (.iload 4, 2) := by decide +kernel
theorem dX7_checksum_108 : decode cX7_checksum 108 = .ok (.i2l, 1) := by decide +kernel
theorem dX7_checksum_109 : decode cX7_checksum 109 = .ok (.ladd, 1) := by decide +kernel
theorem dX7_checksum_110 : decode cX7_checksum 110 = .ok (.lstore_n 1, 1) := by decide +kernel
theorem dX7_checksum_111 : decode cX7_checksum 111 = .ok (.iinc 4 1, 3) := by decide +kernel
theorem dX7_checksum_114 : decode cX7_checksum 114 = .ok (.goto (-33), 3) := by decide +kernel
theorem dX7_checksum_117 : decode cX7_checksum 117 = .ok (.iinc 3 1, 3) := by decide +kernel
theorem dX7_checksum_120 : decode cX7_checksum 120 = .ok (.goto (-86), 3) := by decide +kernel
theorem dX7_checksum_123 : decode cX7_checksum 123 = .ok (.iconst 0, 1) := by decide +kernel
theorem dX7_checksum_124 : decode cX7_checksum 124 = .ok (.istore_n 3, 1) := by decide +kernel
theorem dX7_checksum_125 : decode cX7_checksum 125 = .ok (.iload_n 3, 1) := by decide +kernel
theorem dX7_checksum_126 : decode cX7_checksum 126 = .ok (.aload_n 0, 1) := by decide +kernel
theorem dX7_checksum_127 : decode cX7_checksum 127 = .ok (.getfield 10, 3) := by decide +kernel
theorem dX7_checksum_130 : decode cX7_checksum 130 = .ok (.getfield 153, 3) := by decide +kernel
theorem dX7_checksum_133 : decode cX7_checksum 133 = .ok (.if_icmp .gt 42, 3) := by decide +kernel
theorem dX7_checksum_136 : decode cX7_checksum 136 = .ok (.iconst 0, 1) := by decide +kernel
theorem dX7_checksum_137 : decode cX7_checksum 137 = .ok (.istore 4, 2) := by decide +kernel
theorem dX7_checksum_139 : decode cX7_checksum 139 = .ok (.iload 4, 2) := by decide +kernel
theorem dX7_checksum_141 : decode cX7_checksum 141 = .ok (.iconst 5, 1) := by decide +kernel
theorem dX7_checksum_142 : decode cX7_checksum 142 = .ok (.if_icmp .ge 27, 3) := by decide +kernel
theorem dX7_checksum_145 : decode cX7_checksum 145 = .ok (.ldc2_w 210, 3) := by decide +kernel
theorem dX7_checksum_148 : decode cX7_checksum 148 = .ok (.lload_n 1, 1) := by decide +kernel
theorem dX7_checksum_149 : decode cX7_checksum 149 = .ok (.lmul, 1) := by decide +kernel
theorem dX7_checksum_150 : decode cX7_checksum 150 = .ok (.aload_n 0, 1) := by decide +kernel
theorem dX7_checksum_151 : decode cX7_checksum 151 = .ok (.getfield 10, 3) := by decide +kernel
theorem dX7_checksum_154 : decode cX7_checksum 154 = .ok (.iload_n 3, 1) := by decide +kernel
theorem dX7_checksum_155 : decode cX7_checksum 155 = .ok (.iload 4, 2) := by decide +kernel
theorem dX7_checksum_157 : decode cX7_checksum 157 = .ok (.invokevirtual 105, 3) := by decide +kernel
theorem dX7_checksum_160 : decode cX7_checksum 160 = .ok (.i2l, 1) := by decide +kernel
theorem dX7_checksum_161 : decode cX7_checksum 161 = .ok (.ladd, 1) := by decide +kernel
theorem dX7_checksum_162 : decode cX7_checksum 162 = .ok (.lstore_n 1, 1) := by decide +kernel
theorem dX7_checksum_163 : decode cX7_checksum 163 = .ok (.iinc 4 1, 3) := by decide +kernel
theorem dX7_checksum_166 : decode cX7_checksum 166 = .ok (.goto (-27), 3) := by decide +kernel
theorem dX7_checksum_169 : decode cX7_checksum 169 = .ok (.iinc 3 1, 3) := by decide +kernel
theorem dX7_checksum_172 : decode cX7_checksum 172 = .ok (.goto (-47), 3) := by decide +kernel
theorem dX7_checksum_175 : decode cX7_checksum 175 = .ok (.lload_n 1, 1) := by decide +kernel
theorem dX7_checksum_176 : decode cX7_checksum 176 = .ok (.lreturn, 1) := by decide +kernel
set_option maxRecDepth 20000 in
theorem ggX7_remember_X1_takeOver : GoodIn wsX7_remember wsX1_takeOver := goodIn_r _ [13, 14, 15, 16, 17, 18, 19, 20, 21, 22, 23, 24, 25, 26, 27, 28, 29, 30, 31, 32, 5, 6, 7, 8, 33, 34, 35, 36, 37, 38, 39, 40, 41, 42, 43, 44, 45, 46, 47, 48, 49, 50, 51, 52, 53, 54, 62, 63, 64, 65, 66, 67, 68, 69, 70, 71, 72, 73, 74, 75, 76, 77, 78, 79, 80, 81, 82, 83, 84, 85] rfl (by decide +kernel)
set_option maxRecDepth 20000 in
theorem gX7_remember_X1_takeOver : GoodIn wsX7_remember (wsV RX7 65 RX1 yX1_takeOver wsX1_takeOver) := goodIn_app (goodIn_of _ (by decide +kernel)) ggX7_remember_X1_takeOver
theorem dX7_remember_0 : decode cX7_remember 0 = .ok (.aload_n 0, 1) := by decide +kernel
theorem dX7_remember_1 : decode cX7_remember 1 = .ok (.dup, 1) := by decide +kernel
theorem dX7_remember_2 : decode cX7_remember 2 = .ok (.getfield 207, 3) := by decide +kernel
theorem dX7_remember_5 : decode cX7_remember 5 = .ok (.iconst 1, 1) := by decide +kernel
theorem dX7_remember_6 : decode cX7_remember 6 = .ok (.iadd, 1) := by decide +kernel
theorem dX7_remember_7 : decode cX7_remember 7 = .ok (.putfield 207, 3) := by decide +kernel
theorem dX7_remember_10 : decode cX7_remember 10 = .ok (.aload_n 0, 1) := by decide +kernel
theorem dX7_remember_11 : decode cX7_remember 11 = .ok (.getfield 19, 3) := by decide +kernel
theorem dX7_remember_14 : decode cX7_remember 14 = .ok (.aload_n 0, 1) := by decide +kernel
theorem dX7_remember_15 : decode cX7_remember 15 = .ok (.getfield 207, 3) := by decide +kernel
theorem dX7_remember_18 : decode cX7_remember 18 = .ok (.bipush 7, 2) := by decide +kernel
theorem dX7_remember_20 : decode cX7_remember 20 = .ok (.iand, 1) := by decide +kernel
theorem dX7_remember_21 : decode cX7_remember 21 = .ok (.aaload, 1) := by decide +kernel
theorem dX7_remember_22 : decode cX7_remember 22 = .ok (.astore_n 1, 1) := by decide +kernel
theorem dX7_remember_23 : decode cX7_remember 23 = .ok (.aload_n 1, 1) := by decide +kernel
theorem dX7_remember_24 : decode cX7_remember 24 = .ok (.ifnull 11, 3) := by decide +kernel
theorem dX7_remember_27 : decode cX7_remember 27 = .ok (.aload_n 1, 1) := by decide +kernel
theorem dX7_remember_28 : decode cX7_remember 28 = .ok (.aload_n 0, 1) := by decide +kernel
theorem dX7_remember_29 : decode cX7_remember 29 = .ok (.getfield 10, 3) := by decide +kernel
theorem dX7_remember_32 : decode cX7_remember 32 = .ok (.invokevirtual 65, 3) := by decide +kernel
theorem dX7_remember_35 : decode cX7_remember 35 = .ok (.aload_n 0, 1) := by decide +kernel
theorem dX7_remember_36 : decode cX7_remember 36 = .ok (.aload_n 0, 1) := by decide +kernel
theorem dX7_remember_37 : decode cX7_remember 37 = .ok (.getfield 204, 3) := by decide +kernel
theorem dX7_remember_40 : decode cX7_remember 40 = .ok (.iconst 1, 1) := by decide +kernel
theorem dX7_remember_41 : decode cX7_remember 41 = .ok (.iadd, 1) := by decide +kernel
theorem dX7_remember_42 : decode cX7_remember 42 = .ok (.bipush 8, 2) := by decide +kernel
theorem dX7_remember_44 : decode cX7_remember 44 = .ok (.invokestatic 215, 3) := by decide +kernel
theorem dX7_remember_47 : decode cX7_remember 47 = .ok (.putfield 204, 3) := by decide +kernel
theorem dX7_remember_50 : decode cX7_remember 50 = .ok (.return_, 1) := by decide +kernel
set_option maxRecDepth 20000 in
theorem ggX7_exploreRows_X1_handCount : GoodIn wsX7_exploreRows wsX1_handCount := goodIn_r _ [7, 8, 9, 10, 6, 11, 12, 63, 64, 65, 66, 67, 68, 69, 70, 71, 72, 73, 74, 75, 76, 77, 78] rfl (by decide +kernel)
set_option maxRecDepth 20000 in
theorem gX7_exploreRows_X1_handCount : GoodIn wsX7_exploreRows (wsV RX7 159 RX1 yX1_handCount wsX1_handCount) := goodIn_app (goodIn_of _ (by decide +kernel)) ggX7_exploreRows_X1_handCount
set_option maxRecDepth 20000 in
theorem ggX7_exploreRows_X2_explore : GoodIn wsX7_exploreRows wsX2_explore := goodIn_r _ [17, 18, 19, 20, 21, 22, 23, 24, 25, 16, 26, 27, 28, 29, 30, 31, 32, 33, 34, 9, 10, 6, 11, 12, 35, 36, 37, 38, 39, 40, 41, 42, 43, 44, 45, 46, 47, 48, 49, 50, 51, 52, 53, 54, 55, 79, 80, 81, 82, 83, 84, 85, 63, 64, 65, 66, 67, 68, 69, 70, 71, 72, 73, 74, 75, 76, 77, 78, 86, 87, 88, 89, 90] rfl (by decide +kernel)
set_option maxRecDepth 20000 in
theorem gX7_exploreRows_X2_explore : GoodIn wsX7_exploreRows (wsV RX7 220 RX2 yX2_explore wsX2_explore) := goodIn_app (goodIn_of _ (by decide +kernel)) ggX7_exploreRows_X2_explore
theorem dX7_exploreRows_0 : decode cX7_exploreRows 0 = .ok (.aload_n 0, 1) := by decide +kernel
theorem dX7_exploreRows_1 : decode cX7_exploreRows 1 = .ok (.getfield 10, 3) := by decide +kernel
theorem dX7_exploreRows_4 : decode cX7_exploreRows 4 = .ok (.iload_n 1, 1) := by decide +kernel
theorem dX7_exploreRows_5 : decode cX7_exploreRows 5 = .ok (.invokevirtual 159, 3) := by decide +kernel
theorem dX7_exploreRows_8 : decode cX7_exploreRows 8 = .ok (.bipush 12, 2) := by decide +kernel
theorem dX7_exploreRows_10 : decode cX7_exploreRows 10 = .ok (.if_icmp .le 5, 3) := by decide +kernel
theorem dX7_exploreRows_13 : decode cX7_exploreRows 13 = .ok (.iconst 0, 1) := by decide +kernel
theorem dX7_exploreRows_14 : decode cX7_exploreRows 14 = .ok (.ireturn, 1) := by decide +kernel
theorem dX7_exploreRows_15 : decode cX7_exploreRows 15 = .ok (.aload_n 0, 1) := by decide +kernel
theorem dX7_exploreRows_16 : decode cX7_exploreRows 16 = .ok (.getfield 33, 3) := by decide +kernel
theorem dX7_exploreRows_19 : decode cX7_exploreRows 19 = .ok (.aload_n 0, 1) := by decide +kernel
theorem dX7_exploreRows_20 : decode cX7_exploreRows 20 = .ok (.getfield 10, 3) := by decide +kernel
theorem dX7_exploreRows_23 : decode cX7_exploreRows 23 = .ok (.iload_n 1, 1) := by decide +kernel
theorem dX7_exploreRows_24 : decode cX7_exploreRows 24 = .ok (.invokevirtual 220, 3) := by decide +kernel
theorem dX7_exploreRows_27 : decode cX7_exploreRows 27 = .ok (.iconst 1, 1) := by decide +kernel
theorem dX7_exploreRows_28 : decode cX7_exploreRows 28 = .ok (.ireturn, 1) := by decide +kernel
theorem dX7_checkPlayer_0 : decode cX7_checkPlayer 0 = .ok (.iload_n 1, 1) := by decide +kernel
theorem dX7_checkPlayer_1 : decode cX7_checkPlayer 1 = .ok (.ifCond .lt 14, 3) := by decide +kernel
theorem dX7_checkPlayer_4 : decode cX7_checkPlayer 4 = .ok (.iload_n 1, 1) := by decide +kernel
theorem dX7_checkPlayer_5 : decode cX7_checkPlayer 5 = .ok (.aload_n 0, 1) := by decide +kernel
theorem dX7_checkPlayer_6 : decode cX7_checkPlayer 6 = .ok (.getfield 10, 3) := by decide +kernel
theorem dX7_checkPlayer_9 : decode cX7_checkPlayer 9 = .ok (.getfield 153, 3) := by decide +kernel
theorem dX7_checkPlayer_12 : decode cX7_checkPlayer 12 = .ok (.if_icmp .lt 11, 3) := by decide +kernel
theorem dX7_checkPlayer_15 : decode cX7_checkPlayer 15 = .ok (.new 224, 3) := by decide +kernel
theorem dX7_checkPlayer_18 : decode cX7_checkPlayer 18 = .ok (.dup, 1) := by decide +kernel
theorem dX7_checkPlayer_19 : decode cX7_checkPlayer 19 = .ok (.invokespecial 226, 3) := by decide +kernel
theorem dX7_checkPlayer_22 : decode cX7_checkPlayer 22 = .ok (.athrow, 1) := by decide +kernel
theorem dX7_checkPlayer_23 : decode cX7_checkPlayer 23 = .ok (.return_, 1) := by decide +kernel
theorem dX7_checkTrain_0 : decode cX7_checkTrain 0 = .ok (.iload_n 1, 1) := by decide +kernel
theorem dX7_checkTrain_1 : decode cX7_checkTrain 1 = .ok (.ifCond .lt 14, 3) := by decide +kernel
theorem dX7_checkTrain_4 : decode cX7_checkTrain 4 = .ok (.iload_n 1, 1) := by decide +kernel
theorem dX7_checkTrain_5 : decode cX7_checkTrain 5 = .ok (.aload_n 0, 1) := by decide +kernel
theorem dX7_checkTrain_6 : decode cX7_checkTrain 6 = .ok (.getfield 10, 3) := by decide +kernel
theorem dX7_checkTrain_9 : decode cX7_checkTrain 9 = .ok (.getfield 153, 3) := by decide +kernel
theorem dX7_checkTrain_12 : decode cX7_checkTrain 12 = .ok (.if_icmp .le 11, 3) := by decide +kernel
theorem dX7_checkTrain_15 : decode cX7_checkTrain 15 = .ok (.new 224, 3) := by decide +kernel
theorem dX7_checkTrain_18 : decode cX7_checkTrain 18 = .ok (.dup, 1) := by decide +kernel
theorem dX7_checkTrain_19 : decode cX7_checkTrain 19 = .ok (.invokespecial 226, 3) := by decide +kernel
theorem dX7_checkTrain_22 : decode cX7_checkTrain 22 = .ok (.athrow, 1) := by decide +kernel
theorem dX7_checkTrain_23 : decode cX7_checkTrain 23 = .ok (.return_, 1) := by decide +kernel
set_option maxRecDepth 20000 in
theorem ggX7_checkTile_X1_isInSet : GoodIn wsX7_checkTile wsX1_isInSet := goodIn_r _ [8, 9, 10, 11, 12, 13, 14, 22, 23, 24, 25, 26, 27, 28, 29, 30, 31, 32, 33, 34, 35, 36, 37] rfl (by decide +kernel)
set_option maxRecDepth 20000 in
theorem gX7_checkTile_X1_isInSet : GoodIn wsX7_checkTile (wsV RX7 227 RX1 yX1_isInSet wsX1_isInSet) := goodIn_app (goodIn_of _ (by decide +kernel)) ggX7_checkTile_X1_isInSet
theorem dX7_checkTile_0 : decode cX7_checkTile 0 = .ok (.aload_n 0, 1) := by decide +kernel
theorem dX7_checkTile_1 : decode cX7_checkTile 1 = .ok (.getfield 10, 3) := by decide +kernel
theorem dX7_checkTile_4 : decode cX7_checkTile 4 = .ok (.iload_n 1, 1) := by decide +kernel
theorem dX7_checkTile_5 : decode cX7_checkTile 5 = .ok (.invokevirtual 227, 3) := by decide +kernel
theorem dX7_checkTile_8 : decode cX7_checkTile 8 = .ok (.ifCond .ne 11, 3) := by decide +kernel
theorem dX7_checkTile_11 : decode cX7_checkTile 11 = .ok (.new 54, 3) := by decide +kernel
theorem dX7_checkTile_14 : decode cX7_checkTile 14 = .ok (.dup, 1) := by decide +kernel
theorem dX7_checkTile_15 : decode cX7_checkTile 15 = .ok (.invokespecial 56, 3) := by decide +kernel
theorem dX7_checkTile_18 : decode cX7_checkTile 18 = .ok (.athrow, 1) := by decide +kernel
theorem dX7_checkTile_19 : decode cX7_checkTile 19 = .ok (.return_, 1) := by decide +kernel
theorem dX7_checkWhat_0 : decode cX7_checkWhat 0 = .ok (.iload_n 0, 1) := by decide +kernel
theorem dX7_checkWhat_1 : decode cX7_checkWhat 1 = .ok (.ifCond .lt 8, 3) := by decide +kernel
theorem dX7_checkWhat_4 : decode cX7_checkWhat 4 = .ok (.iload_n 0, 1) := by decide +kernel
theorem dX7_checkWhat_5 : decode cX7_checkWhat 5 = .ok (.iload_n 1, 1) := by decide +kernel
theorem dX7_checkWhat_6 : decode cX7_checkWhat 6 = .ok (.if_icmp .lt 11, 3) := by decide +kernel
theorem dX7_checkWhat_9 : decode cX7_checkWhat 9 = .ok (.new 54, 3) := by decide +kernel
theorem dX7_checkWhat_12 : decode cX7_checkWhat 12 = .ok (.dup, 1) := by decide +kernel
theorem dX7_checkWhat_13 : decode cX7_checkWhat 13 = .ok (.invokespecial 56, 3) := by decide +kernel
theorem dX7_checkWhat_16 : decode cX7_checkWhat 16 = .ok (.athrow, 1) := by decide +kernel
theorem dX7_checkWhat_17 : decode cX7_checkWhat 17 = .ok (.return_, 1) := by decide +kernel
theorem dX7_checkAllowed_0 : decode cX7_checkAllowed 0 = .ok (.iload_n 0, 1) := by decide +kernel
theorem dX7_checkAllowed_1 : decode cX7_checkAllowed 1 = .ok (.ifCond .ne 11, 3) := by decide +kernel
theorem dX7_checkAllowed_4 : decode cX7_checkAllowed 4 = .ok (.new 230, 3) := by decide +kernel
theorem dX7_checkAllowed_7 : decode cX7_checkAllowed 7 = .ok (.dup, 1) := by decide +kernel
theorem dX7_checkAllowed_8 : decode cX7_checkAllowed 8 = .ok (.invokespecial 232, 3) := by decide +kernel
theorem dX7_checkAllowed_11 : decode cX7_checkAllowed 11 = .ok (.athrow, 1) := by decide +kernel
theorem dX7_checkAllowed_12 : decode cX7_checkAllowed 12 = .ok (.return_, 1) := by decide +kernel
theorem dX7_lowNumber_0 : decode cX7_lowNumber 0 = .ok (.iload_n 0, 1) := by decide +kernel
theorem dX7_lowNumber_1 : decode cX7_lowNumber 1 = .ok (.bipush 10, 2) := by decide +kernel
theorem dX7_lowNumber_3 : decode cX7_lowNumber 3 = .ok (.idiv, 1) := by decide +kernel
theorem dX7_lowNumber_4 : decode cX7_lowNumber 4 = .ok (.ireturn, 1) := by decide +kernel
theorem dX7_highNumber_0 : decode cX7_highNumber 0 = .ok (.iload_n 0, 1) := by decide +kernel
theorem dX7_highNumber_1 : decode cX7_highNumber 1 = .ok (.bipush 10, 2) := by decide +kernel
theorem dX7_highNumber_3 : decode cX7_highNumber 3 = .ok (.irem, 1) := by decide +kernel
theorem dX7_highNumber_4 : decode cX7_highNumber 4 = .ok (.ireturn, 1) := by decide +kernel
set_option maxRecDepth 20000 in
theorem ggX7_isDouble_X7_lowNumber : GoodIn wsX7_isDouble wsX7_lowNumber := goodIn_r _ [4] rfl (by decide +kernel)
set_option maxRecDepth 20000 in
theorem gX7_isDouble_X7_lowNumber : GoodIn wsX7_isDouble (va_wsS RX7 233 yX7_lowNumber wsX7_lowNumber) := goodIn_app (goodIn_of _ (by decide +kernel)) ggX7_isDouble_X7_lowNumber
set_option maxRecDepth 20000 in
theorem ggX7_isDouble_X7_highNumber : GoodIn wsX7_isDouble wsX7_highNumber := goodIn_r _ [7] rfl (by decide +kernel)
set_option maxRecDepth 20000 in
theorem gX7_isDouble_X7_highNumber : GoodIn wsX7_isDouble (va_wsS RX7 236 yX7_highNumber wsX7_highNumber) := goodIn_app (goodIn_of _ (by decide +kernel)) ggX7_isDouble_X7_highNumber
theorem dX7_isDouble_0 : decode cX7_isDouble 0 = .ok (.iload_n 0, 1) := by decide +kernel
theorem dX7_isDouble_1 : decode cX7_isDouble 1 = .ok (.invokestatic 233, 3) := by decide +kernel
theorem dX7_isDouble_4 : decode cX7_isDouble 4 = .ok (.iload_n 0, 1) := by decide +kernel
theorem dX7_isDouble_5 : decode cX7_isDouble 5 = .ok (.invokestatic 236, 3) := by decide +kernel
theorem dX7_isDouble_8 : decode cX7_isDouble 8 = .ok (.if_icmp .ne 7, 3) := by decide +kernel
theorem dX7_isDouble_11 : decode cX7_isDouble 11 = .ok (.iconst 1, 1) := by decide +kernel
theorem dX7_isDouble_12 : decode cX7_isDouble 12 = .ok (.goto 4, 3) := by decide +kernel
theorem dX7_isDouble_15 : decode cX7_isDouble 15 = .ok (.iconst 0, 1) := by decide +kernel
theorem dX7_isDouble_16 : decode cX7_isDouble 16 = .ok (.ireturn, 1) := by decide +kernel
set_option maxRecDepth 20000 in
theorem ggX7_pipsOf_X7_lowNumber : GoodIn wsX7_pipsOf wsX7_lowNumber := goodIn_r _ [4] rfl (by decide +kernel)
set_option maxRecDepth 20000 in
theorem gX7_pipsOf_X7_lowNumber : GoodIn wsX7_pipsOf (va_wsS RX7 233 yX7_lowNumber wsX7_lowNumber) := goodIn_app (goodIn_of _ (by decide +kernel)) ggX7_pipsOf_X7_lowNumber
set_option maxRecDepth 20000 in
theorem ggX7_pipsOf_X7_highNumber : GoodIn wsX7_pipsOf wsX7_highNumber := goodIn_r _ [7] rfl (by decide +kernel)
set_option maxRecDepth 20000 in
theorem gX7_pipsOf_X7_highNumber : GoodIn wsX7_pipsOf (va_wsS RX7 236 yX7_highNumber wsX7_highNumber) := goodIn_app (goodIn_of _ (by decide +kernel)) ggX7_pipsOf_X7_highNumber
theorem dX7_pipsOf_0 : decode cX7_pipsOf 0 = .ok (.iload_n 0, 1) := by decide +kernel
theorem dX7_pipsOf_1 : decode cX7_pipsOf 1 = .ok (.invokestatic 233, 3) := by decide +kernel
theorem dX7_pipsOf_4 : decode cX7_pipsOf 4 = .ok (.iload_n 0, 1) := by decide +kernel
theorem dX7_pipsOf_5 : decode cX7_pipsOf 5 = .ok (.invokestatic 236, 3) := by decide +kernel
theorem dX7_pipsOf_8 : decode cX7_pipsOf 8 = .ok (.iadd, 1) := by decide +kernel
theorem dX7_pipsOf_9 : decode cX7_pipsOf 9 = .ok (.ireturn, 1) := by decide +kernel
set_option maxRecDepth 20000 in
theorem ggX7_hasNumber_X7_lowNumber : GoodIn wsX7_hasNumber wsX7_lowNumber := goodIn_r _ [4] rfl (by decide +kernel)
set_option maxRecDepth 20000 in
theorem gX7_hasNumber_X7_lowNumber : GoodIn wsX7_hasNumber (va_wsS RX7 233 yX7_lowNumber wsX7_lowNumber) := goodIn_app (goodIn_of _ (by decide +kernel)) ggX7_hasNumber_X7_lowNumber
set_option maxRecDepth 20000 in
theorem ggX7_hasNumber_X7_highNumber : GoodIn wsX7_hasNumber wsX7_highNumber := goodIn_r _ [7] rfl (by decide +kernel)
set_option maxRecDepth 20000 in
theorem gX7_hasNumber_X7_highNumber : GoodIn wsX7_hasNumber (va_wsS RX7 236 yX7_highNumber wsX7_highNumber) := goodIn_app (goodIn_of _ (by decide +kernel)) ggX7_hasNumber_X7_highNumber
theorem dX7_hasNumber_0 : decode cX7_hasNumber 0 = .ok (.iload_n 0, 1) := by decide +kernel
theorem dX7_hasNumber_1 : decode cX7_hasNumber 1 = .ok (.invokestatic 233, 3) := by decide +kernel
theorem dX7_hasNumber_4 : decode cX7_hasNumber 4 = .ok (.iload_n 1, 1) := by decide +kernel
theorem dX7_hasNumber_5 : decode cX7_hasNumber 5 = .ok (.if_icmp .eq 11, 3) := by decide +kernel
theorem dX7_hasNumber_8 : decode cX7_hasNumber 8 = .ok (.iload_n 0, 1) := by decide +kernel
theorem dX7_hasNumber_9 : decode cX7_hasNumber 9 = .ok (.invokestatic 236, 3) := by decide +kernel
theorem dX7_hasNumber_12 : decode cX7_hasNumber 12 = .ok (.iload_n 1, 1) := by decide +kernel
theorem dX7_hasNumber_13 : decode cX7_hasNumber 13 = .ok (.if_icmp .ne 7, 3) := by decide +kernel
theorem dX7_hasNumber_16 : decode cX7_hasNumber 16 = .ok (.iconst 1, 1) := by decide +kernel
theorem dX7_hasNumber_17 : decode cX7_hasNumber 17 = .ok (.goto 4, 3) := by decide +kernel
theorem dX7_hasNumber_20 : decode cX7_hasNumber 20 = .ok (.iconst 0, 1) := by decide +kernel
theorem dX7_hasNumber_21 : decode cX7_hasNumber 21 = .ok (.ireturn, 1) := by decide +kernel
theorem dX7_look_0 : decode cX7_look 0 = .ok (.iload_n 1, 1) := by decide +kernel
theorem dX7_look_1 : decode cX7_look 1 = .ok (.ifCond .lt 15, 3) := by decide +kernel
theorem dX7_look_4 : decode cX7_look 4 = .ok (.iload_n 1, 1) := by decide +kernel
theorem dX7_look_5 : decode cX7_look 5 = .ok (.aload_n 0, 1) := by decide +kernel
theorem dX7_look_6 : decode cX7_look 6 = .ok (.arraylength, 1) := by decide +kernel
theorem dX7_look_7 : decode cX7_look 7 = .ok (.if_icmp .ge 9, 3) := by decide +kernel
theorem dX7_look_10 : decode cX7_look 10 = .ok (.aload_n 0, 1) := by decide +kernel
theorem dX7_look_11 : decode cX7_look 11 = .ok (.iload_n 1, 1) := by decide +kernel
theorem dX7_look_12 : decode cX7_look 12 = .ok (.iaload, 1) := by decide +kernel
theorem dX7_look_13 : decode cX7_look 13 = .ok (.goto 4, 3) := by decide +kernel
theorem dX7_look_16 : decode cX7_look 16 = .ok (.iconst 0, 1) := by decide +kernel
theorem dX7_look_17 : decode cX7_look 17 = .ok (.ireturn, 1) := by decide +kernel
theorem dX7_put_0 : decode cX7_put 0 = .ok (.iload_n 1, 1) := by decide +kernel
theorem dX7_put_1 : decode cX7_put 1 = .ok (.ifCond .lt 13, 3) := by decide +kernel
theorem dX7_put_4 : decode cX7_put 4 = .ok (.iload_n 1, 1) := by decide +kernel
theorem dX7_put_5 : decode cX7_put 5 = .ok (.aload_n 0, 1) := by decide +kernel
theorem dX7_put_6 : decode cX7_put 6 = .ok (.arraylength, 1) := by decide +kernel
theorem dX7_put_7 : decode cX7_put 7 = .ok (.if_icmp .ge 7, 3) := by decide +kernel
theorem dX7_put_10 : decode cX7_put 10 = .ok (.aload_n 0, 1) := by decide +kernel
theorem dX7_put_11 : decode cX7_put 11 = .ok (.iload_n 1, 1) := by decide +kernel
theorem dX7_put_12 : decode cX7_put 12 = .ok (.iload_n 2, 1) := by decide +kernel
theorem dX7_put_13 : decode cX7_put 13 = .ok (.iastore, 1) := by decide +kernel
theorem dX7_put_14 : decode cX7_put 14 = .ok (.return_, 1) := by decide +kernel
theorem dX7_copy_0 : decode cX7_copy 0 = .ok (.aload_n 0, 1) := by decide +kernel
theorem dX7_copy_1 : decode cX7_copy 1 = .ok (.iconst 0, 1) := by decide +kernel
theorem dX7_copy_2 : decode cX7_copy 2 = .ok (.aload_n 1, 1) := by decide +kernel
theorem dX7_copy_3 : decode cX7_copy 3 = .ok (.iconst 0, 1) := by decide +kernel
theorem dX7_copy_4 : decode cX7_copy 4 = .ok (.aload_n 0, 1) := by decide +kernel
theorem dX7_copy_5 : decode cX7_copy 5 = .ok (.arraylength, 1) := by decide +kernel
theorem dX7_copy_6 : decode cX7_copy 6 = .ok (.aload_n 1, 1) := by decide +kernel
theorem dX7_copy_7 : decode cX7_copy 7 = .ok (.arraylength, 1) := by decide +kernel
theorem dX7_copy_8 : decode cX7_copy 8 = .ok (.invokestatic 215, 3) := by decide +kernel
theorem dX7_copy_11 : decode cX7_copy 11 = .ok (.invokestatic 239, 3) := by decide +kernel
theorem dX7_copy_14 : decode cX7_copy 14 = .ok (.return_, 1) := by decide +kernel
theorem dX8_init_0 : decode cX8_init 0 = .ok (.aload_n 0, 1) := by decide +kernel
theorem dX8_init_1 : decode cX8_init 1 = .ok (.invokespecial 1, 3) := by decide +kernel
theorem dX8_init_4 : decode cX8_init 4 = .ok (.return_, 1) := by decide +kernel
set_option maxRecDepth 20000 in
theorem ggX8_random_X8_init : GoodIn wsX8_random wsX8_init := goodIn_r _ [10, 11, 12, 13] rfl (by decide +kernel)
set_option maxRecDepth 20000 in
theorem gX8_random_X8_init : GoodIn wsX8_random (wsX8_init) := ggX8_random_X8_init
set_option maxRecDepth 20000 in
theorem ggX8_random_X9_below : GoodIn wsX8_random wsX9_below := goodIn_r _ [18, 19, 20, 27] rfl (by decide +kernel)
set_option maxRecDepth 20000 in
theorem gX8_random_X9_below : GoodIn wsX8_random (wsV RX8 10 RX9 yX9_below wsX9_below) := goodIn_app (goodIn_of _ (by decide +kernel)) ggX8_random_X9_below
set_option maxRecDepth 20000 in
theorem ggX8_random_X8_random : GoodIn wsX8_random wsX8_random := goodIn_r _ [0, 1, 2, 3, 4, 5, 6, 7, 8, 9, 10, 11, 12, 13, 14, 15, 16, 17, 18, 19, 20, 21, 22, 23, 24, 25, 26, 27] rfl (by decide +kernel)
set_option maxRecDepth 20000 in
theorem gX8_random_X8_random : GoodIn wsX8_random (va_wsS RX8 23 yX8_random wsX8_random) := goodIn_app (goodIn_of _ (by decide +kernel)) ggX8_random_X8_random
theorem dX8_random_0 : decode cX8_random 0 = .ok (.new 7, 3) := by decide +kernel
theorem dX8_random_3 : decode cX8_random 3 = .ok (.dup, 1) := by decide +kernel
theorem dX8_random_4 : decode cX8_random 4 = .ok (.invokespecial 9, 3) := by decide +kernel
theorem dX8_random_7 : decode cX8_random 7 = .ok (.astore_n 2, 1) := by decide +kernel
theorem dX8_random_8 : decode cX8_random 8 = .ok (.aload_n 2, 1) := by decide +kernel
theorem dX8_random_9 : decode cX8_random 9 = .ok (.iload_n 1, 1) := by decide +kernel
theorem dX8_random_10 : decode cX8_random 10 = .ok (.ifCond .ne 11, 3) := by decide +kernel
theorem dX8_random_13 : decode cX8_random 13 = .ok (.aload_n 0, 1) := by decide +kernel
theorem dX8_random_14 : decode cX8_random 14 = .ok (.iconst 2, 1) := by decide +kernel
theorem dX8_random_15 : decode cX8_random 15 = .ok (.invokevirtual 10, 3) := by decide +kernel
theorem dX8_random_18 : decode cX8_random 18 = .ok (.goto 9, 3) := by decide +kernel
theorem dX8_random_21 : decode cX8_random 21 = .ok (.aload_n 0, 1) := by decide +kernel
theorem dX8_random_22 : decode cX8_random 22 = .ok (.bipush 6, 2) := by decide +kernel
theorem dX8_random_24 : decode cX8_random 24 = .ok (.invokevirtual 10, 3) := by decide +kernel
theorem dX8_random_27 : decode cX8_random 27 = .ok (.putfield 16, 3) := by decide +kernel
theorem dX8_random_30 : decode cX8_random 30 = .ok (.aload_n 2, 1) := by decide +kernel
theorem dX8_random_31 : decode cX8_random 31 = .ok (.aload_n 2, 1) := by decide +kernel
theorem dX8_random_32 : decode cX8_random 32 = .ok (.getfield 16, 3) := by decide +kernel
theorem dX8_random_35 : decode cX8_random 35 = .ok (.ifCond .ne 27, 3) := by decide +kernel
theorem dX8_random_38 : decode cX8_random 38 = .ok (.aload_n 0, 1) := by decide +kernel
theorem dX8_random_39 : decode cX8_random 39 = .ok (.aload_n 0, 1) := by decide +kernel
theorem dX8_random_40 : decode cX8_random 40 = .ok (.bipush 8, 2) := by decide +kernel
theorem dX8_random_42 : decode cX8_random 42 = .ok (.invokevirtual 10, 3) := by decide +kernel
theorem dX8_random_45 : decode cX8_random 45 = .ok (.ifCond .ne 9, 3) := by decide +kernel
theorem dX8_random_48 : decode cX8_random 48 = .ok (.sipush 10000, 3) := by decide +kernel
theorem dX8_random_51 : decode cX8_random 51 = .ok (.goto 5, 3) := by decide +kernel
theorem dX8_random_54 : decode cX8_random 54 = .ok (.bipush 25, 2) := by decide +kernel
theorem dX8_random_56 : decode cX8_random 56 = .ok (.invokevirtual 10, 3) := by decide +kernel
theorem dX8_random_59 : decode cX8_random 59 = .ok (.goto 8, 3) := by decide +kernel
theorem dX8_random_62 : decode cX8_random 62 = .ok (.aload_n 0, 1) := by decide +kernel
theorem dX8_random_63 : decode cX8_random 63 = .ok (.iconst 5, 1) := by decide +kernel
theorem dX8_random_64 : decode cX8_random 64 = .ok (.invokevirtual 10, 3) := by decide +kernel
theorem dX8_random_67 : decode cX8_random 67 = .ok (.putfield 20, 3) := by decide +kernel
theorem dX8_random_70 : decode cX8_random 70 = .ok (.aload_n 2, 1) := by decide +kernel
theorem dX8_random_71 : decode cX8_random 71 = .ok (.getfield 16, 3) := by decide +kernel
theorem dX8_random_74 : decode cX8_random 74 = .ok (.iconst 1, 1) := by decide +kernel
theorem dX8_random_75 : decode cX8_random 75 = .ok (.if_icmp .le 25, 3) := by decide +kernel
theorem dX8_random_78 : decode cX8_random 78 = .ok (.aload_n 2, 1) := by decide +kernel
theorem dX8_random_79 : decode cX8_random 79 = .ok (.aload_n 0, 1) := by decide +kernel
theorem dX8_random_80 : decode cX8_random 80 = .ok (.iload_n 1, 1) := by decide +kernel
theorem dX8_random_81 : decode cX8_random 81 = .ok (.iconst 1, 1) := by decide +kernel
theorem dX8_random_82 : decode cX8_random 82 = .ok (.isub, 1) := by decide +kernel
theorem dX8_random_83 : decode cX8_random 83 = .ok (.invokestatic 23, 3) := by decide +kernel
theorem dX8_random_86 : decode cX8_random 86 = .ok (.putfield 27, 3) := by decide +kernel
theorem dX8_random_89 : decode cX8_random 89 = .ok (.aload_n 2, 1) := by decide +kernel
theorem dX8_random_90 : decode cX8_random 90 = .ok (.aload_n 0, 1) := by decide +kernel
theorem dX8_random_91 : decode cX8_random 91 = .ok (.iload_n 1, 1) := by decide +kernel
theorem dX8_random_92 : decode cX8_random 92 = .ok (.iconst 1, 1) := by decide +kernel
theorem dX8_random_93 : decode cX8_random 93 = .ok (.isub, 1) := by decide +kernel
theorem dX8_random_94 : decode cX8_random 94 = .ok (.invokestatic 23, 3) := by decide +kernel
theorem dX8_random_97 : decode cX8_random 97 = .ok (.putfield 31, 3) := by decide +kernel
theorem dX8_random_100 : decode cX8_random 100 = .ok (.aload_n 2, 1) := by decide +kernel
theorem dX8_random_101 : decode cX8_random 101 = .ok (.areturn, 1) := by decide +kernel
set_option maxRecDepth 20000 in
theorem ggX8_text_J4_init_da8c8 : GoodIn wsX8_text wsJ4_init_da8c8 := goodIn_r _ [10, 11, 12, 13, 14, 15, 16, 17, 18, 19, 20, 21, 22, 23, 24, 25, 26, 27, 28, 29, 248, 249, 250, 251] rfl (by decide +kernel)
set_option maxRecDepth 20000 in
theorem gX8_text_J4_init_da8c8 : GoodIn wsX8_text (wsJ4_init_da8c8) := ggX8_text_J4_init_da8c8
set_option maxRecDepth 20000 in
theorem ggX8_text_J4_append_15ec4 : GoodIn wsX8_text wsJ4_append_15ec4 := goodIn_r _ [33, 34, 35, 36, 37, 13, 38, 39, 40, 41, 42, 43, 44, 20, 45, 46, 47, 48, 49, 21, 50, 51, 52, 53, 54, 55, 56, 57, 58, 59, 60, 61, 62, 63, 64, 65, 66, 67, 68, 69, 70, 71, 72, 73, 74, 75, 76, 77, 19, 78, 79, 80, 81, 82, 83, 84, 85, 86, 87, 88, 89, 18, 90, 91, 24, 92, 93, 94, 95, 96, 97, 98, 99, 100, 101, 102, 103, 104, 105, 106, 107, 108, 109, 110, 111, 112, 113, 114, 115, 116, 117, 118, 119, 120, 121, 122, 123, 124, 125, 126, 127, 128, 129, 130, 131, 132, 133, 134, 135, 136, 137, 138, 139, 140, 22, 23, 25, 26, 27, 28, 29, 141, 142, 143, 144, 145, 146, 147, 148, 149, 150, 151, 152, 153, 154, 155, 156, 157, 158, 159, 160, 161, 162, 248, 249, 250, 251, 252, 253, 254, 255] rfl (by decide +kernel)
set_option maxRecDepth 20000 in
theorem gX8_text_J4_append_15ec4 : GoodIn wsX8_text (wsV RX8 39 RJ4 yJ4_append_15ec4 wsJ4_append_15ec4) := goodIn_app (goodIn_of _ (by decide +kernel)) ggX8_text_J4_append_15ec4
set_option maxRecDepth 20000 in
theorem ggX8_text_J4_append_bf812 : GoodIn wsX8_text wsJ4_append_bf812 := goodIn_r _ [166, 167, 168, 36, 169, 13, 170, 39, 20, 171, 172, 173, 174, 45, 46, 47, 48, 49, 21, 50, 51, 52, 53, 54, 55, 56, 57, 58, 59, 60, 61, 62, 63, 64, 65, 66, 67, 68, 69, 70, 71, 72, 73, 74, 75, 76, 77, 19, 78, 79, 80, 81, 82, 83, 84, 85, 86, 87, 88, 89, 18, 175, 176, 177, 178, 179, 180, 181, 24, 182, 93, 94, 95, 96, 97, 98, 99, 100, 101, 102, 103, 104, 105, 106, 107, 108, 183, 184, 185, 186, 187, 109, 110, 111, 112, 113, 248, 249, 250, 251] rfl (by decide +kernel)
set_option maxRecDepth 20000 in
theorem gX8_text_J4_append_bf812 : GoodIn wsX8_text (wsV RX8 43 RJ4 yJ4_append_bf812 wsJ4_append_bf812) := goodIn_app (goodIn_of _ (by decide +kernel)) ggX8_text_J4_append_bf812
set_option maxRecDepth 20000 in
theorem ggX8_text_J4_toString_0e30d : GoodIn wsX8_text wsJ4_toString_0e30d := goodIn_r _ [191, 192, 193, 102, 194, 195, 196, 197, 198, 199, 200, 16, 17, 124, 118, 123, 201, 202, 203, 204, 205, 13, 206, 20, 207, 208, 209, 210, 211, 4, 212, 213, 36, 214, 215, 39, 216, 86, 87, 88, 89, 18, 21, 217, 218, 70, 219, 72, 73, 74, 75, 76, 77, 220, 221, 222, 19, 78, 79, 62, 80, 81, 82, 83, 84, 223, 224, 225, 226, 3, 227, 228, 24, 229, 230, 231, 232, 148, 149, 150, 97, 98, 99, 151, 152, 153, 104, 154, 155, 107, 156, 233, 234, 235, 93, 112, 113, 26, 27, 28, 29, 236, 237, 238, 239, 252, 253, 254, 255, 248, 249, 250, 251] rfl (by decide +kernel)
set_option maxRecDepth 20000 in
theorem gX8_text_J4_toString_0e30d : GoodIn wsX8_text (wsV RX8 46 RJ4 yJ4_toString_0e30d wsJ4_toString_0e30d) := goodIn_app (goodIn_of _ (by decide +kernel)) ggX8_text_J4_toString_0e30d
set_option maxRecDepth 20000 in
theorem ggX8_text_X8_text : GoodIn wsX8_text wsX8_text := goodIn_r _ [0, 1, 2, 3, 4, 5, 6, 7, 8, 9, 10, 11, 12, 13, 14, 15, 16, 17, 18, 19, 20, 21, 22, 23, 24, 25, 26, 27, 28, 29, 30, 31, 32, 33, 34, 35, 36, 37, 38, 39, 40, 41, 42, 43, 44, 45, 46, 47, 48, 49, 50, 51, 52, 53, 54, 55, 56, 57, 58, 59, 60, 61, 62, 63, 64, 65, 66, 67, 68, 69, 70, 71, 72, 73, 74, 75, 76, 77, 78, 79, 80, 81, 82, 83, 84, 85, 86, 87, 88, 89, 90, 91, 92, 93, 94, 95, 96, 97, 98, 99, 100, 101, 102, 103, 104, 105, 106, 107, 108, 109, 110, 111, 112, 113, 114, 115, 116, 117, 118, 119, 120, 121, 122, 123, 124, 125, 126, 127, 128, 129, 130, 131, 132, 133, 134, 135, 136, 137, 138, 139, 140, 141, 142, 143, 144, 145, 146, 147, 148, 149, 150, 151, 152, 153, 154, 155, 156, 157, 158, 159, 160, 161, 162, 163, 164, 165, 166, 167, 168, 169, 170, 171, 172, 173, 174, 175, 176, 177, 178, 179, 180, 181, 182, 183, 184, 185, 186, 187, 188, 189, 190, 191, 192, 193, 194, 195, 196, 197, 198, 199, 200, 201, 202, 203, 204, 205, 206, 207, 208, 209, 210, 211, 212, 213, 214, 215, 216, 217, 218, 219, 220, 221, 222, 223, 224, 225, 226, 227, 228, 229, 230, 231, 232, 233, 234, 235, 236, 237, 238, 239, 240, 241, 242, 243, 244, 245, 246, 247, 248, 249, 250, 251, 252, 253, 254, 255] rfl (by decide +kernel)
set_option maxRecDepth 20000 in
theorem gX8_text_X8_text : GoodIn wsX8_text (wsV RX8 56 RX8 yX8_text wsX8_text) := goodIn_app (goodIn_of _ (by decide +kernel)) ggX8_text_X8_text
theorem dX8_text_0 : decode cX8_text 0 = .ok (.aload_n 0, 1) := by decide +kernel
theorem dX8_text_1 : decode cX8_text 1 = .ok (.getfield 16, 3) := by decide +kernel
theorem dX8_text_4 : decode cX8_text 4 = .ok (.ifCond .ne 26, 3) := by decide +kernel
theorem dX8_text_7 : decode cX8_text 7 = .ok (.new 34, 3) := by decide +kernel
theorem dX8_text_10 : decode cX8_text 10 = .ok (.dup, 1) := by decide +kernel
theorem dX8_text_11 : decode cX8_text 11 = .ok (.invokespecial 36, 3) := by decide +kernel
theorem dX8_text_14 : decode cX8_text 14 = .ok (.ldc 37, 2) := by decide +kernel
theorem dX8_text_16 : decode cX8_text 16 = .ok (.invokevirtual 39, 3) := by decide +kernel
theorem dX8_text_19 : decode cX8_text 19 = .ok (.aload_n 0, 1) := by decide +kernel
theorem dX8_text_20 : decode cX8_text 20 = .ok (.getfield 20, 3) := by decide +kernel
theorem dX8_text_23 : decode cX8_text 23 = .ok (.invokevirtual 43, 3) := by decide +kernel
theorem dX8_text_26 : decode cX8_text 26 = .ok (.invokevirtual 46, 3) := by decide +kernel
theorem dX8_text_29 : decode cX8_text 29 = .ok (.areturn, 1) := by decide +kernel
theorem dX8_text_30 : decode cX8_text 30 = .ok (.aload_n 0, 1) := by decide +kernel
theorem dX8_text_31 : decode cX8_text 31 = .ok (.getfield 16, 3) := by decide +kernel
theorem dX8_text_34 : decode cX8_text 34 = .ok (.iconst 1, 1) := by decide +kernel
theorem dX8_text_35 : decode cX8_text 35 = .ok (.if_icmp .ne 12, 3) := by decide +kernel
theorem dX8_text_38 : decode cX8_text 38 = .ok (.getstatic 50, 3) := by decide +kernel
theorem dX8_text_41 : decode cX8_text 41 = .ok (.aload_n 0, 1) := by decide +kernel
theorem dX8_text_42 : decode cX8_text 42 = .ok (.getfield 20, 3) := by decide +kernel
theorem dX8_text_45 : decode cX8_text 45 = .ok (.aaload, 1) := by decide +kernel
theorem dX8_text_46 : decode cX8_text 46 = .ok (.areturn, 1) := by decide +kernel
theorem dX8_text_47 : decode cX8_text 47 = .ok (.aload_n 0, 1) := by decide +kernel
theorem dX8_text_48 : decode cX8_text 48 = .ok (.getfield 16, 3) := by decide +kernel
theorem dX8_text_51 : decode cX8_text 51 = .ok (.iconst 4, 1) := by decide +kernel
theorem dX8_text_52 : decode cX8_text 52 = .ok (.if_icmp .ge 7, 3) := by decide +kernel
theorem dX8_text_55 : decode cX8_text 55 = .ok (.iconst 1, 1) := by decide +kernel
theorem dX8_text_56 : decode cX8_text 56 = .ok (.goto 4, 3) := by decide +kernel
theorem dX8_text_59 : decode cX8_text 59 = .ok (.iconst 2, 1) := by decide +kernel
theorem dX8_text_60 : decode cX8_text 60 = .ok (.istore_n 2, 1) := by decide +kernel
theorem dX8_text_61 : decode cX8_text 61 = .ok (.new 34, 3) := by decide +kernel
theorem dX8_text_64 : decode cX8_text 64 = .ok (.dup, 1) := by decide +kernel
theorem dX8_text_65 : decode cX8_text 65 = .ok (.invokespecial 36, 3) := by decide +kernel
theorem dX8_text_68 : decode cX8_text 68 = .ok (.aload_n 0, 1) := by decide +kernel
theorem dX8_text_69 : decode cX8_text 69 = .ok (.getfield 27, 3) := by decide +kernel
theorem dX8_text_72 : decode cX8_text 72 = .ok (.iload_n 2, 1) := by decide +kernel
theorem dX8_text_73 : decode cX8_text 73 = .ok (.invokevirtual 56, 3) := by decide +kernel
theorem dX8_text_76 : decode cX8_text 76 = .ok (.invokevirtual 39, 3) := by decide +kernel
theorem dX8_text_79 : decode cX8_text 79 = .ok (.aload_n 0, 1) := by decide +kernel
theorem dX8_text_80 : decode cX8_text 80 = .ok (.getfield 16, 3) := by decide +kernel
theorem dX8_text_83 : decode cX8_text 83 = .ok (.iconst 2, 1) := by decide +kernel
theorem dX8_text_84 : decode cX8_text 84 = .ok (.if_icmp .ne 8, 3) := by decide +kernel
theorem dX8_text_87 : decode cX8_text 87 = .ok (.ldc 60, 2) := by decide +kernel
theorem dX8_text_89 : decode cX8_text 89 = .ok (.goto 31, 3) := by decide +kernel
theorem dX8_text_92 : decode cX8_text 92 = .ok (.aload_n 0, 1) := by decide +kernel
theorem dX8_text_93 : decode cX8_text 93 = .ok (.getfield 16, 3) := by decide +kernel
theorem dX8_text_96 : decode cX8_text 96 = .ok (.iconst 3, 1) := by decide +kernel
theorem dX8_text_97 : decode cX8_text 97 = .ok (.if_icmp .ne 8, 3) := by decide +kernel
theorem dX8_text_100 : decode cX8_text 100 = .ok (.ldc 62, 2) := by decide +kernel
theorem dX8_text_102 : decode cX8_text 102 = .ok (.goto 18, 3) := by decide +kernel
theorem dX8_text_105 : decode cX8_text 105 = .ok (.aload_n 0, 1) := by decide +kernel
theorem dX8_text_106 : decode cX8_text 106 = .ok (.getfield 16, 3) := by decide +kernel
theorem dX8_text_109 : decode cX8_text 109 = .ok (.iconst 4, 1) := by decide +kernel
theorem dX8_text_110 : decode cX8_text 110 = .ok (.if_icmp .ne 8, 3) := by decide +kernel
theorem dX8_text_113 : decode cX8_text 113 = .ok (.ldc 64, 2) := by decide +kernel
theorem dX8_text_115 : decode cX8_text 115 = .ok (.goto 5, 3) := by decide +kernel
theorem dX8_text_118 : decode cX8_text 118 = .ok (.ldc 66, 2) := by decide +kernel
theorem dX8_text_120 : decode cX8_text 120 = .ok (.invokevirtual 39, 3) := by decide +kernel
theorem dX8_text_123 : decode cX8_text 123 = .ok (.aload_n 0, 1) := by decide +kernel
theorem dX8_text_124 : decode cX8_text 124 = .ok (.getfield 31, 3) := by decide +kernel
theorem dX8_text_127 : decode cX8_text 127 = .ok (.iload_n 2, 1) := by decide +kernel
theorem dX8_text_128 : decode cX8_text 128 = .ok (.iconst 1, 1) := by decide +kernel
theorem dX8_text_129 : decode cX8_text 129 = .ok (.iadd, 1) := by decide +kernel
theorem dX8_text_130 : decode cX8_text 130 = .ok (.invokevirtual 56, 3) := by decide +kernel
theorem dX8_text_133 : decode cX8_text 133 = .ok (.invokevirtual 39, 3) := by decide +kernel
theorem dX8_text_136 : decode cX8_text 136 = .ok (.invokevirtual 46, 3) := by decide +kernel
theorem dX8_text_139 : decode cX8_text 139 = .ok (.astore_n 3, 1) := by decide +kernel
theorem dX8_text_140 : decode cX8_text 140 = .ok (.iload_n 2, 1) := by decide +kernel
theorem dX8_text_141 : decode cX8_text 141 = .ok (.iload_n 1, 1) := by decide +kernel
theorem dX8_text_142 : decode cX8_text 142 = .ok (.if_icmp .ge 30, 3) := by decide +kernel
theorem dX8_text_145 : decode cX8_text 145 = .ok (.new 34, 3) := by decide +kernel
theorem dX8_text_148 : decode cX8_text 148 = .ok (.dup, 1) := by decide +kernel
theorem dX8_text_149 : decode cX8_text 149 = .ok (.invokespecial 36, 3) := by decide +kernel
theorem dX8_text_152 : decode cX8_text 152 = .ok (.ldc 68, 2) := by decide +kernel
theorem dX8_text_154 : decode cX8_text 154 = .ok (.invokevirtual 39, 3) := by decide +kernel
theorem dX8_text_157 : decode cX8_text 157 = .ok (.aload_n 3, 1) := by decide +kernel
theorem dX8_text_158 : decode cX8_text 158 = .ok (.invokevirtual 39, 3) := by decide +kernel
theorem dX8_text_161 : decode cX8_text 161 = .ok (.ldc 70, 2) := by decide +kernel
theorem dX8_text_163 : decode cX8_text 163 = .ok (.invokevirtual 39, 3) := by decide +kernel
theorem dX8_text_166 : decode cX8_text 166 = .ok (.invokevirtual 46, 3) := by decide +kernel
theorem dX8_text_169 : decode cX8_text 169 = .ok (.goto 4, 3) := by decide +kernel
theorem dX8_text_172 : decode cX8_text 172 = .ok (.aload_n 3, 1) := by decide +kernel
theorem dX8_text_173 : decode cX8_text 173 = .ok (.areturn, 1) := by decide +kernel
set_option maxRecDepth 20000 in
theorem ggX8_value_X8_value : GoodIn wsX8_value wsX8_value := goodIn_r _ [0, 1, 2, 3, 4, 5, 6, 7, 8, 9, 10, 11, 12, 13, 14, 15, 16, 17, 18, 19, 20, 21] rfl (by decide +kernel)
set_option maxRecDepth 20000 in
theorem gX8_value_X8_value : GoodIn wsX8_value (wsV RX8 72 RX8 yX8_value wsX8_value) := goodIn_app (goodIn_of _ (by decide +kernel)) ggX8_value_X8_value
theorem dX8_value_0 : decode cX8_value 0 = .ok (.aload_n 0, 1) := by decide +kernel
theorem dX8_value_1 : decode cX8_value 1 = .ok (.getfield 16, 3) := by decide +kernel
theorem dX8_value_4 : decode cX8_value 4 = .ok (.iconst 2, 1) := by decide +kernel
theorem dX8_value_5 : decode cX8_value 5 = .ok (.if_icmp .ge 25, 3) := by decide +kernel
theorem dX8_value_8 : decode cX8_value 8 = .ok (.aload_n 0, 1) := by decide +kernel
theorem dX8_value_9 : decode cX8_value 9 = .ok (.getfield 16, 3) := by decide +kernel
theorem dX8_value_12 : decode cX8_value 12 = .ok (.ifCond .ne 11, 3) := by decide +kernel
theorem dX8_value_15 : decode cX8_value 15 = .ok (.aload_n 0, 1) := by decide +kernel
theorem dX8_value_16 : decode cX8_value 16 = .ok (.getfield 20, 3) := by decide +kernel
theorem dX8_value_19 : decode cX8_value 19 = .ok (.i2l, 1) := by decide +kernel
theorem dX8_value_20 : decode cX8_value 20 = .ok (.goto 9, 3) := by decide +kernel
theorem dX8_value_23 : decode cX8_value 23 = .ok (.aload_n 1, 1) := by decide +kernel
theorem dX8_value_24 : decode cX8_value 24 = .ok (.aload_n 0, 1) := by decide +kernel
theorem dX8_value_25 : decode cX8_value 25 = .ok (.getfield 20, 3) := by decide +kernel
theorem dX8_value_28 : decode cX8_value 28 = .ok (.laload, 1) := by decide +kernel
theorem dX8_value_29 : decode cX8_value 29 = .ok (.lreturn, 1) := by decide +kernel
theorem dX8_value_30 : decode cX8_value 30 = .ok (.aload_n 0, 1) := by decide +kernel
theorem dX8_value_31 : decode cX8_value 31 = .ok (.getfield 27, 3) := by decide +kernel
theorem dX8_value_34 : decode cX8_value 34 = .ok (.aload_n 1, 1) := by decide +kernel
theorem dX8_value_35 : decode cX8_value 35 = .ok (.invokevirtual 72, 3) := by decide +kernel
theorem dX8_value_38 : decode cX8_value 38 = .ok (.lstore_n 2, 1) := by decide +kernel
theorem dX8_value_39 : decode cX8_value 39 = .ok (.aload_n 0, 1) := by decide +kernel
theorem dX8_value_40 : decode cX8_value 40 = .ok (.getfield 31, 3) := by decide +kernel
theorem dX8_value_43 : decode cX8_value 43 = .ok (.aload_n 1, 1) := by decide +kernel
theorem dX8_value_44 : decode cX8_value 44 = .ok (.invokevirtual 72, 3) := by decide +kernel
theorem dX8_value_47 : decode cX8_value 47 = .ok (.lstore 4, 2) := by decide +kernel
theorem dX8_value_49 : decode cX8_value 49 = .ok (.aload_n 0, 1) := by decide +kernel
theorem dX8_value_50 : decode cX8_value 50 = .ok (.getfield 16, 3) := by decide +kernel
theorem dX8_value_53 : decode cX8_value 53 = .ok (.iconst 2, 1) := by decide +kernel
theorem dX8_value_54 : decode cX8_value 54 = .ok (.if_icmp .ne 10, 3) := by decide +kernel
theorem dX8_value_57 : decode cX8_value 57 = .ok (.lload_n 2, 1) := by decide +kernel
theorem dX8_value_58 : decode cX8_value 58 = .ok (.lload 4, 2) := by decide +kernel
theorem dX8_value_60 : decode cX8_value 60 = .ok (.ladd, 1) := by decide +kernel
theorem dX8_value_61 : decode cX8_value 61 = .ok (.goto 48, 3) := by decide +kernel
theorem dX8_value_64 : decode cX8_value 64 = .ok (.aload_n 0, 1) := by decide +kernel
theorem dX8_value_65 : decode cX8_value 65 = .ok (.getfield 16, 3) := by decide +kernel
theorem dX8_value_68 : decode cX8_value 68 = .ok (.iconst 3, 1) := by decide +kernel
theorem dX8_value_69 : decode cX8_value 69 = .ok (.if_icmp .ne 10, 3) := by decide +kernel
theorem dX8_value_72 : decode cX8_value 72 = .ok (.lload_n 2, 1) := by decide +kernel
theorem dX8_value_73 : decode cX8_value 73 = .ok (.lload 4, 2) := by decide +kernel
theorem dX8_value_75 : decode cX8_value 75 = .ok (.lsub, 1) := by decide +kernel
theorem dX8_value_76 : decode cX8_value 76 = .ok (.goto 33, 3) := by decide +kernel
theorem dX8_value_79 : decode cX8_value 79 = .ok (.aload_n 0, 1) := by decide +kernel
theorem dX8_value_80 : decode cX8_value 80 = .ok (.getfield 16, 3) := by decide +kernel
theorem dX8_value_83 : decode cX8_value 83 = .ok (.iconst 4, 1) := by decide +kernel
theorem dX8_value_84 : decode cX8_value 84 = .ok (.if_icmp .ne 10, 3) := by decide +kernel
theorem dX8_value_87 : decode cX8_value 87 = .ok (.lload_n 2, 1) := by decide +kernel
theorem dX8_value_88 : decode cX8_value 88 = .ok (.lload 4, 2) := by decide +kernel
theorem dX8_value_90 : decode cX8_value 90 = .ok (.lmul, 1) := by decide +kernel
theorem dX8_value_91 : decode cX8_value 91 = .ok (.goto 18, 3) := by decide +kernel
theorem dX8_value_94 : decode cX8_value 94 = .ok (.lload 4, 2) := by decide +kernel
theorem dX8_value_96 : decode cX8_value 96 = .ok (.lconst 0, 1) := by decide +kernel
theorem dX8_value_97 : decode cX8_value 97 = .ok (.lcmp, 1) := by decide +kernel
theorem dX8_value_98 : decode cX8_value 98 = .ok (.ifCond .ne 7, 3) := by decide +kernel
theorem dX8_value_101 : decode cX8_value 101 = .ok (.lconst 0, 1) := by decide +kernel
theorem dX8_value_102 : decode cX8_value 102 = .ok (.goto 7, 3) := by decide +kernel
theorem dX8_value_105 : decode cX8_value 105 = .ok (.lload_n 2, 1) := by decide +kernel
theorem dX8_value_106 : decode cX8_value 106 = .ok (.lload 4, 2) := by decide +kernel
theorem dX8_value_108 : decode cX8_value 108 = .ok (.ldiv, 1) := by decide +kernel
theorem dX8_value_109 : decode cX8_value 109 = .ok (.lstore 6, 2) := by decide +kernel
theorem dX8_value_111 : decode cX8_value 111 = .ok (.ldc2_w 76, 3) := by decide +kernel
theorem dX8_value_114 : decode cX8_value 114 = .ok (.ldc2_w 78, 3) := by decide +kernel
theorem dX8_value_117 : decode cX8_value 117 = .ok (.lload 6, 2) := by decide +kernel
theorem dX8_value_119 : decode cX8_value 119 = .ok (.invokestatic 80, 3) := by decide +kernel
theorem dX8_value_122 : decode cX8_value 122 = .ok (.invokestatic 86, 3) := by decide +kernel
theorem dX8_value_125 : decode cX8_value 125 = .ok (.lreturn, 1) := by decide +kernel
theorem dX9_init_0 : decode cX9_init 0 = .ok (.aload_n 0, 1) := by decide +kernel
theorem dX9_init_1 : decode cX9_init 1 = .ok (.invokespecial 1, 3) := by decide +kernel
theorem dX9_init_4 : decode cX9_init 4 = .ok (.aload_n 0, 1) := by decide +kernel
theorem dX9_init_5 : decode cX9_init 5 = .ok (.iload_n 1, 1) := by decide +kernel
theorem dX9_init_6 : decode cX9_init 6 = .ok (.putfield 7, 3) := by decide +kernel
theorem dX9_init_9 : decode cX9_init 9 = .ok (.return_, 1) := by decide +kernel
theorem dX9_below_0 : decode cX9_below 0 = .ok (.aload_n 0, 1) := by decide +kernel
theorem dX9_below_1 : decode cX9_below 1 = .ok (.ldc 13, 2) := by decide +kernel
theorem dX9_below_3 : decode cX9_below 3 = .ok (.aload_n 0, 1) := by decide +kernel
theorem dX9_below_4 : decode cX9_below 4 = .ok (.getfield 7, 3) := by decide +kernel
theorem dX9_below_7 : decode cX9_below 7 = .ok (.imul, 1) := by decide +kernel
theorem dX9_below_8 : decode cX9_below 8 = .ok (.sipush 12345, 3) := by decide +kernel
theorem dX9_below_11 : decode cX9_below 11 = .ok (.iadd, 1) := by decide +kernel
theorem dX9_below_12 : decode cX9_below 12 = .ok (.putfield 7, 3) := by decide +kernel
theorem dX9_below_15 : decode cX9_below 15 = .ok (.aload_n 0, 1) := by decide +kernel
theorem dX9_below_16 : decode cX9_below 16 = .ok (.getfield 7, 3) := by decide +kernel
theorem dX9_below_19 : decode cX9_below 19 = .ok (.bipush 16, 2) := by decide +kernel
theorem dX9_below_21 : decode cX9_below 21 = .ok (.iushr, 1) := by decide +kernel
theorem dX9_below_22 : decode cX9_below 22 = .ok (.iload_n 1, 1) := by decide +kernel
theorem dX9_below_23 : decode cX9_below 23 = .ok (.irem, 1) := by decide +kernel
theorem dX9_below_24 : decode cX9_below 24 = .ok (.ireturn, 1) := by decide +kernel
theorem dX10_init_0 : decode cX10_init 0 = .ok (.aload_n 0, 1) := by decide +kernel
theorem dX10_init_1 : decode cX10_init 1 = .ok (.invokespecial 1, 3) := by decide +kernel
theorem dX10_init_4 : decode cX10_init 4 = .ok (.aload_n 0, 1) := by decide +kernel
theorem dX10_init_5 : decode cX10_init 5 = .ok (.iconst 3, 1) := by decide +kernel
theorem dX10_init_6 : decode cX10_init 6 = .ok (.putfield 7, 3) := by decide +kernel
theorem dX10_init_9 : decode cX10_init 9 = .ok (.aload_n 0, 1) := by decide +kernel
theorem dX10_init_10 : decode cX10_init 10 = .ok (.iconst 1, 1) := by decide +kernel
theorem dX10_init_11 : decode cX10_init 11 = .ok (.putfield 13, 3) := by decide +kernel
theorem dX10_init_14 : decode cX10_init 14 = .ok (.aload_n 0, 1) := by decide +kernel
theorem dX10_init_15 : decode cX10_init 15 = .ok (.iconst 3, 1) := by decide +kernel
theorem dX10_init_16 : decode cX10_init 16 = .ok (.putfield 16, 3) := by decide +kernel
theorem dX10_init_19 : decode cX10_init 19 = .ok (.aload_n 0, 1) := by decide +kernel
theorem dX10_init_20 : decode cX10_init 20 = .ok (.iconst 1, 1) := by decide +kernel
theorem dX10_init_21 : decode cX10_init 21 = .ok (.putfield 19, 3) := by decide +kernel
theorem dX10_init_24 : decode cX10_init 24 = .ok (.aload_n 0, 1) := by decide +kernel
theorem dX10_init_25 : decode cX10_init 25 = .ok (.iconst (-1), 1) := by decide +kernel
theorem dX10_init_26 : decode cX10_init 26 = .ok (.putfield 22, 3) := by decide +kernel
theorem dX10_init_29 : decode cX10_init 29 = .ok (.aload_n 0, 1) := by decide +kernel
theorem dX10_init_30 : decode cX10_init 30 = .ok (.iconst 2, 1) := by decide +kernel
theorem dX10_init_31 : decode cX10_init 31 = .ok (.iconst 0, 1) := by decide +kernel
theorem dX10_init_32 : decode cX10_init 32 = .ok (.multianewarray 25 2, 4) := by decide +kernel
theorem dX10_init_36 : decode cX10_init 36 = .ok (.putfield 27, 3) := by decide +kernel
theorem dX10_init_39 : decode cX10_init 39 = .ok (.aload_n 0, 1) := by decide +kernel
theorem dX10_init_40 : decode cX10_init 40 = .ok (.iconst 2, 1) := by decide +kernel
theorem dX10_init_41 : decode cX10_init 41 = .ok (.newarray .int, 2) := by decide +kernel
theorem dX10_init_43 : decode cX10_init 43 = .ok (.putfield 30, 3) := by decide +kernel
theorem dX10_init_46 : decode cX10_init 46 = .ok (.aload_n 0, 1) := by decide +kernel
theorem dX10_init_47 : decode cX10_init 47 = .ok (.iconst 3, 1) := by decide +kernel
theorem dX10_init_48 : decode cX10_init 48 = .ok (.iconst 0, 1) := by decide +kernel
theorem dX10_init_49 : decode cX10_init 49 = .ok (.multianewarray 25 2, 4) := by decide +kernel
