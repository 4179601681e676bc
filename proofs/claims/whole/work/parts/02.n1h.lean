theorem dX7_auto_29 : decode cX7_auto 29 = .ok (.invokevirtual 147, 3) := by decide +kernel
theorem dX7_auto_32 : decode cX7_auto 32 = .ok (.ireturn, 1) := by decide +kernel
set_option maxRecDepth 20000 in
theorem ggX7_deal_X7_checkAllowed : GoodIn wsX7_deal wsX7_checkAllowed := goodIn_ca (goodIn_r _ [7, 8, 9] (by decide +kernel) (by decide +kernel)) (goodIn_sub (fun _ h => List.mem_cons_of_mem _ (List.mem_append_right _ h)) (by decide +kernel))
set_option maxRecDepth 20000 in
theorem gX7_deal_X7_checkAllowed : GoodIn wsX7_deal (va_wsS RX7 162 yX7_checkAllowed wsX7_checkAllowed) := goodIn_app (goodIn_of _ (by decide +kernel)) ggX7_deal_X7_checkAllowed
set_option maxRecDepth 20000 in
theorem ggX7_deal_X7_remember : GoodIn wsX7_deal wsX7_remember := goodIn_r _ [13, 14, 15, 3, 16, 17, 18, 19, 20, 21, 22, 23, 24, 25, 26, 27, 28, 29, 30, 31, 32, 33, 34, 35, 36, 37, 38, 39, 40, 41, 42, 6, 43, 44, 45, 46, 47, 48, 49, 50, 51, 52, 53, 54, 55, 56, 57, 58, 59, 60, 61, 62, 63, 64, 65, 137, 138, 139, 140, 141, 142, 143, 144, 145, 146, 147, 148, 149, 150, 151, 152, 153, 154, 155, 156, 157, 158, 159, 160, 161, 162, 163, 164, 165, 166, 167] rfl (by decide +kernel)
set_option maxRecDepth 20000 in
theorem gX7_deal_X7_remember : GoodIn wsX7_deal (wsV RX7 61 RX7 yX7_remember wsX7_remember) := goodIn_app (goodIn_of _ (by decide +kernel)) ggX7_deal_X7_remember
set_option maxRecDepth 20000 in
theorem ggX7_deal_X1_clearHands : GoodIn wsX7_deal wsX1_clearHands := goodIn_r _ [69, 38, 70, 71, 72, 73, 144, 145, 146, 147, 148, 149, 150, 151, 152, 153, 154, 155, 156, 157, 158, 159] rfl (by decide +kernel)
set_option maxRecDepth 20000 in
theorem gX7_deal_X1_clearHands : GoodIn wsX7_deal (wsV RX7 201 RX1 yX1_clearHands wsX1_clearHands) := goodIn_app (goodIn_of _ (by decide +kernel)) ggX7_deal_X1_clearHands
set_option maxRecDepth 20000 in
theorem ggX7_deal_X1_dealRound : GoodIn wsX7_deal wsX1_dealRound := goodIn_r _ [77, 40, 30, 27, 41, 29, 31, 32, 33, 34, 36, 78, 79, 80, 51, 81, 54, 55, 82, 83, 84, 24, 85, 26, 86, 6, 87, 88, 89, 90, 91, 92, 93, 94, 95, 96, 97, 38, 98, 99, 100, 101, 102, 103, 104, 105, 53, 106, 107, 108, 109, 110, 111, 112, 113, 114, 115, 116, 117, 118, 28, 119, 120, 121, 122, 123, 124, 125, 126, 127, 128, 129, 130, 131, 132, 133, 59, 134, 63, 64, 65, 135, 71, 72, 73, 144, 145, 146, 147, 148, 149, 150, 151, 152, 153, 154, 155, 156, 157, 158, 159, 160, 161, 162, 163, 164, 165, 166, 167] rfl (by decide +kernel)
set_option maxRecDepth 20000 in
theorem gX7_deal_X1_dealRound : GoodIn wsX7_deal (wsV RX7 37 RX1 yX1_dealRound wsX1_dealRound) := goodIn_app (goodIn_of _ (by decide +kernel)) ggX7_deal_X1_dealRound
set_option maxRecDepth 20000 in
theorem ggX7_deal_X4_size : GoodIn wsX7_deal wsX4_size := goodIn_r _ [126, 55, 54, 160, 161, 162] rfl (by decide +kernel)
set_option maxRecDepth 20000 in
theorem gX7_deal_X4_size : GoodIn wsX7_deal (wsV RX7 73 RX4 yX4_size wsX4_size) := goodIn_app (goodIn_of _ (by decide +kernel)) ggX7_deal_X4_size
theorem dX7_deal_0 : decode cX7_deal 0 = .ok (.iload_n 1, 1) := by decide +kernel
theorem dX7_deal_1 : decode cX7_deal 1 = .ok (.ifCond .lt 25, 3) := by decide +kernel
theorem dX7_deal_4 : decode cX7_deal 4 = .ok (.iload_n 1, 1) := by decide +kernel
theorem dX7_deal_5 : decode cX7_deal 5 = .ok (.aload_n 0, 1) := by decide +kernel
theorem dX7_deal_6 : decode cX7_deal 6 = .ok (.getfield 10, 3) := by decide +kernel
theorem dX7_deal_9 : decode cX7_deal 9 = .ok (.getfield 188, 3) := by decide +kernel
theorem dX7_deal_12 : decode cX7_deal 12 = .ok (.if_icmp .gt 14, 3) := by decide +kernel
theorem dX7_deal_15 : decode cX7_deal 15 = .ok (.iload_n 2, 1) := by decide +kernel
theorem dX7_deal_16 : decode cX7_deal 16 = .ok (.ifCond .lt 10, 3) := by decide +kernel
theorem dX7_deal_19 : decode cX7_deal 19 = .ok (.iload_n 2, 1) := by decide +kernel
theorem dX7_deal_20 : decode cX7_deal 20 = .ok (.sipush 9999, 3) := by decide +kernel
theorem dX7_deal_23 : decode cX7_deal 23 = .ok (.if_icmp .le 11, 3) := by decide +kernel
theorem dX7_deal_26 : decode cX7_deal 26 = .ok (.new 54, 3) := by decide +kernel
theorem dX7_deal_29 : decode cX7_deal 29 = .ok (.dup, 1) := by decide +kernel
theorem dX7_deal_30 : decode cX7_deal 30 = .ok (.invokespecial 56, 3) := by decide +kernel
theorem dX7_deal_33 : decode cX7_deal 33 = .ok (.athrow, 1) := by decide +kernel
theorem dX7_deal_34 : decode cX7_deal 34 = .ok (.aload_n 0, 1) := by decide +kernel
theorem dX7_deal_35 : decode cX7_deal 35 = .ok (.getfield 10, 3) := by decide +kernel
theorem dX7_deal_38 : decode cX7_deal 38 = .ok (.getfield 191, 3) := by decide +kernel
theorem dX7_deal_41 : decode cX7_deal 41 = .ok (.invokestatic 162, 3) := by decide +kernel
theorem dX7_deal_44 : decode cX7_deal 44 = .ok (.aload_n 0, 1) := by decide +kernel
theorem dX7_deal_45 : decode cX7_deal 45 = .ok (.invokevirtual 61, 3) := by decide +kernel
theorem dX7_deal_48 : decode cX7_deal 48 = .ok (.aload_n 0, 1) := by decide +kernel
theorem dX7_deal_49 : decode cX7_deal 49 = .ok (.getfield 10, 3) := by decide +kernel
theorem dX7_deal_52 : decode cX7_deal 52 = .ok (.iload_n 1, 1) := by decide +kernel
theorem dX7_deal_53 : decode cX7_deal 53 = .ok (.putfield 195, 3) := by decide +kernel
theorem dX7_deal_56 : decode cX7_deal 56 = .ok (.aload_n 0, 1) := by decide +kernel
theorem dX7_deal_57 : decode cX7_deal 57 = .ok (.getfield 10, 3) := by decide +kernel
theorem dX7_deal_60 : decode cX7_deal 60 = .ok (.iload_n 2, 1) := by decide +kernel
theorem dX7_deal_61 : decode cX7_deal 61 = .ok (.putfield 198, 3) := by decide +kernel
theorem dX7_deal_64 : decode cX7_deal 64 = .ok (.aload_n 0, 1) := by decide +kernel
theorem dX7_deal_65 : decode cX7_deal 65 = .ok (.getfield 10, 3) := by decide +kernel
theorem dX7_deal_68 : decode cX7_deal 68 = .ok (.invokevirtual 201, 3) := by decide +kernel
theorem dX7_deal_71 : decode cX7_deal 71 = .ok (.aload_n 0, 1) := by decide +kernel
theorem dX7_deal_72 : decode cX7_deal 72 = .ok (.getfield 10, 3) := by decide +kernel
theorem dX7_deal_75 : decode cX7_deal 75 = .ok (.invokevirtual 37, 3) := by decide +kernel
theorem dX7_deal_78 : decode cX7_deal 78 = .ok (.aload_n 0, 1) := by decide +kernel
theorem dX7_deal_79 : decode cX7_deal 79 = .ok (.getfield 10, 3) := by decide +kernel
theorem dX7_deal_82 : decode cX7_deal 82 = .ok (.getfield 69, 3) := by decide +kernel
theorem dX7_deal_85 : decode cX7_deal 85 = .ok (.invokevirtual 73, 3) := by decide +kernel
theorem dX7_deal_88 : decode cX7_deal 88 = .ok (.ireturn, 1) := by decide +kernel
set_option maxRecDepth 20000 in
theorem ggX7_undo_X1_takeOver : GoodIn wsX7_undo wsX1_takeOver := goodIn_r _ [9, 10, 11, 12, 13, 14, 15, 16, 17, 18, 19, 20, 21, 22, 23, 24, 25, 26, 27, 28, 29, 30, 31, 32, 33, 34, 35, 36, 37, 38, 39, 40, 41, 42, 43, 44, 45, 46, 47, 48, 49, 50, 51, 52, 53, 54, 62, 63, 64, 65, 66, 67, 68, 69, 70, 71, 72, 73, 74, 75, 76, 77, 78, 79, 80, 81, 82, 83, 84, 85] rfl (by decide +kernel)
set_option maxRecDepth 20000 in
theorem gX7_undo_X1_takeOver : GoodIn wsX7_undo (wsV RX7 65 RX1 yX1_takeOver wsX1_takeOver) := goodIn_app (goodIn_of _ (by decide +kernel)) ggX7_undo_X1_takeOver
theorem dX7_undo_0 : decode cX7_undo 0 = .ok (.aload_n 0, 1) := by decide +kernel
theorem dX7_undo_1 : decode cX7_undo 1 = .ok (.getfield 204, 3) := by decide +kernel
theorem dX7_undo_4 : decode cX7_undo 4 = .ok (.ifCond .ne 5, 3) := by decide +kernel
theorem dX7_undo_7 : decode cX7_undo 7 = .ok (.iconst (-1), 1) := by decide +kernel
theorem dX7_undo_8 : decode cX7_undo 8 = .ok (.ireturn, 1) := by decide +kernel
theorem dX7_undo_9 : decode cX7_undo 9 = .ok (.aload_n 0, 1) := by decide +kernel
theorem dX7_undo_10 : decode cX7_undo 10 = .ok (.getfield 19, 3) := by decide +kernel
theorem dX7_undo_13 : decode cX7_undo 13 = .ok (.aload_n 0, 1) := by decide +kernel
theorem dX7_undo_14 : decode cX7_undo 14 = .ok (.getfield 207, 3) := by decide +kernel
theorem dX7_undo_17 : decode cX7_undo 17 = .ok (.bipush 7, 2) := by decide +kernel
theorem dX7_undo_19 : decode cX7_undo 19 = .ok (.iand, 1) := by decide +kernel
theorem dX7_undo_20 : decode cX7_undo 20 = .ok (.aaload, 1) := by decide +kernel
theorem dX7_undo_21 : decode cX7_undo 21 = .ok (.astore_n 1, 1) := by decide +kernel
theorem dX7_undo_22 : decode cX7_undo 22 = .ok (.aload_n 1, 1) := by decide +kernel
theorem dX7_undo_23 : decode cX7_undo 23 = .ok (.ifnull 11, 3) := by decide +kernel
theorem dX7_undo_26 : decode cX7_undo 26 = .ok (.aload_n 0, 1) := by decide +kernel
theorem dX7_undo_27 : decode cX7_undo 27 = .ok (.getfield 10, 3) := by decide +kernel
theorem dX7_undo_30 : decode cX7_undo 30 = .ok (.aload_n 1, 1) := by decide +kernel
theorem dX7_undo_31 : decode cX7_undo 31 = .ok (.invokevirtual 65, 3) := by decide +kernel
theorem dX7_undo_34 : decode cX7_undo 34 = .ok (.aload_n 0, 1) := by decide +kernel
theorem dX7_undo_35 : decode cX7_undo 35 = .ok (.dup, 1) := by decide +kernel
theorem dX7_undo_36 : decode cX7_undo 36 = .ok (.getfield 207, 3) := by decide +kernel
theorem dX7_undo_39 : decode cX7_undo 39 = .ok (.iconst 1, 1) := by decide +kernel
theorem dX7_undo_40 : decode cX7_undo 40 = .ok (.isub, 1) := by decide +kernel
theorem dX7_undo_41 : decode cX7_undo 41 = .ok (.putfield 207, 3) := by decide +kernel
theorem dX7_undo_44 : decode cX7_undo 44 = .ok (.aload_n 0, 1) := by decide +kernel
theorem dX7_undo_45 : decode cX7_undo 45 = .ok (.dup, 1) := by decide +kernel
theorem dX7_undo_46 : decode cX7_undo 46 = .ok (.getfield 204, 3) := by decide +kernel
theorem dX7_undo_49 : decode cX7_undo 49 = .ok (.iconst 1, 1) := by decide +kernel
theorem dX7_undo_50 : decode cX7_undo 50 = .ok (.isub, 1) := by decide +kernel
theorem dX7_undo_51 : decode cX7_undo 51 = .ok (.putfield 204, 3) := by decide +kernel
theorem dX7_undo_54 : decode cX7_undo 54 = .ok (.aload_n 0, 1) := by decide +kernel
theorem dX7_undo_55 : decode cX7_undo 55 = .ok (.getfield 204, 3) := by decide +kernel
theorem dX7_undo_58 : decode cX7_undo 58 = .ok (.ireturn, 1) := by decide +kernel
set_option maxRecDepth 20000 in
theorem ggX7_checksum_X1_stateNumber : GoodIn wsX7_checksum wsX1_stateNumber := goodIn_r _ [7, 8, 9, 10, 11, 12, 13, 14, 15, 16, 17, 18, 19, 20, 21, 22, 23, 24, 25, 26, 27, 28, 29, 6, 30, 31, 32, 33, 34, 35, 36, 37, 38, 39, 40, 41, 42, 43, 44, 45, 46, 47, 48, 49, 50, 51, 52, 53, 54, 55, 56, 57, 58, 59, 60, 61, 62, 63, 64, 65, 66, 67, 68, 69, 70, 117, 118, 119, 120, 121, 122, 123, 124, 125, 126, 127, 128, 129, 130, 131, 132, 133, 134, 135, 136, 137, 138, 139, 140] rfl (by decide +kernel)
set_option maxRecDepth 20000 in
theorem gX7_checksum_X1_stateNumber : GoodIn wsX7_checksum (wsV RX7 86 RX1 yX1_stateNumber wsX1_stateNumber) := goodIn_app (goodIn_of _ (by decide +kernel)) ggX7_checksum_X1_stateNumber
set_option maxRecDepth 20000 in
theorem ggX7_checksum_X1_playerNumber : GoodIn wsX7_checksum wsX1_playerNumber := goodIn_r _ [74, 75, 76, 77, 78, 6, 79, 31, 32, 33, 34, 35, 80, 81, 82, 83, 84, 56, 85, 65, 66, 67, 68, 69, 70, 55, 57, 86, 87, 88, 89, 12, 36, 37, 38, 39, 9, 40, 41, 42, 43, 16, 14, 44, 45, 46, 47, 48, 49, 50, 51, 52, 53, 54, 58, 59, 60, 61, 62, 63, 64, 117, 118, 119, 120, 121, 122, 123, 124, 125, 126, 127, 128, 129, 130, 131, 132, 136, 137, 138, 139, 140] rfl (by decide +kernel)
set_option maxRecDepth 20000 in
theorem gX7_checksum_X1_playerNumber : GoodIn wsX7_checksum (wsV RX7 92 RX1 yX1_playerNumber wsX1_playerNumber) := goodIn_app (goodIn_of _ (by decide +kernel)) ggX7_checksum_X1_playerNumber
set_option maxRecDepth 20000 in
theorem ggX7_checksum_X1_holderOf : GoodIn wsX7_checksum wsX1_holderOf := goodIn_r _ [34, 35, 117, 118, 119, 120, 121, 122, 123, 124, 125, 126, 127, 128, 129, 130, 131, 132] rfl (by decide +kernel)
set_option maxRecDepth 20000 in
theorem gX7_checksum_X1_holderOf : GoodIn wsX7_checksum (wsV RX7 212 RX1 yX1_holderOf wsX1_holderOf) := goodIn_app (goodIn_of _ (by decide +kernel)) ggX7_checksum_X1_holderOf
set_option maxRecDepth 20000 in
theorem ggX7_checksum_X1_trainNumber : GoodIn wsX7_checksum wsX1_trainNumber := goodIn_r _ [94, 44, 95, 96, 97, 52, 98, 99, 100, 55, 56, 57, 58, 59, 60, 61, 62, 45, 46, 47, 6, 48, 9, 49, 50, 51, 53, 54, 101, 102, 103, 104, 105, 106, 107, 108, 109, 84, 85, 65, 66, 67, 68, 69, 70, 117, 118, 119, 120, 121, 122, 123, 124, 125, 126, 127, 128, 129, 130, 131, 132, 136, 137, 138, 139, 140] rfl (by decide +kernel)
set_option maxRecDepth 20000 in
theorem gX7_checksum_X1_trainNumber : GoodIn wsX7_checksum (wsV RX7 105 RX1 yX1_trainNumber wsX1_trainNumber) := goodIn_app (goodIn_of _ (by decide +kernel)) ggX7_checksum_X1_trainNumber
theorem dX7_checksum_0 : decode cX7_checksum 0 = .ok (.lconst 0, 1) := by decide +kernel
theorem dX7_checksum_1 : decode cX7_checksum 1 = .ok (.lstore_n 1, 1) := by decide +kernel
theorem dX7_checksum_2 : decode cX7_checksum 2 = .ok (.iconst 0, 1) := by decide +kernel
theorem dX7_checksum_3 : decode cX7_checksum 3 = .ok (.istore_n 3, 1) := by decide +kernel
theorem dX7_checksum_4 : decode cX7_checksum 4 = .ok (.iload_n 3, 1) := by decide +kernel
theorem dX7_checksum_5 : decode cX7_checksum 5 = .ok (.bipush 13, 2) := by decide +kernel
theorem dX7_checksum_7 : decode cX7_checksum 7 = .ok (.if_icmp .ge 25, 3) := by decide +kernel
theorem dX7_checksum_10 : decode cX7_checksum 10 = .ok (.ldc2_w 210, 3) := by decide +kernel
theorem dX7_checksum_13 : decode cX7_checksum 13 = .ok (.lload_n 1, 1) := by decide +kernel
theorem dX7_checksum_14 : decode cX7_checksum 14 = .ok (.lmul, 1) := by decide +kernel
theorem dX7_checksum_15 : decode cX7_checksum 15 = .ok (.aload_n 0, 1) := by decide +kernel
theorem dX7_checksum_16 : decode cX7_checksum 16 = .ok (.getfield 10, 3) := by decide +kernel
theorem dX7_checksum_19 : decode cX7_checksum 19 = .ok (.iload_n 3, 1) := by decide +kernel
theorem dX7_checksum_20 : decode cX7_checksum 20 = .ok (.invokevirtual 86, 3) := by decide +kernel
theorem dX7_checksum_23 : decode cX7_checksum 23 = .ok (.i2l, 1) := by decide +kernel
theorem dX7_checksum_24 : decode cX7_checksum 24 = .ok (.ladd, 1) := by decide +kernel
theorem dX7_checksum_25 : decode cX7_checksum 25 = .ok (.lstore_n 1, 1) := by decide +kernel
theorem dX7_checksum_26 : decode cX7_checksum 26 = .ok (.iinc 3 1, 3) := by decide +kernel
theorem dX7_checksum_29 : decode cX7_checksum 29 = .ok (.goto (-25), 3) := by decide +kernel
theorem dX7_checksum_32 : decode cX7_checksum 32 = .ok (.iconst 0, 1) := by decide +kernel
theorem dX7_checksum_33 : decode cX7_checksum 33 = .ok (.istore_n 3, 1) := by decide +kernel
theorem dX7_checksum_34 : decode cX7_checksum 34 = .ok (.iload_n 3, 1) := by decide +kernel
theorem dX7_checksum_35 : decode cX7_checksum 35 = .ok (.aload_n 0, 1) := by decide +kernel
theorem dX7_checksum_36 : decode cX7_checksum 36 = .ok (.getfield 10, 3) := by decide +kernel
theorem dX7_checksum_39 : decode cX7_checksum 39 = .ok (.getfield 153, 3) := by decide +kernel
theorem dX7_checksum_42 : decode cX7_checksum 42 = .ok (.if_icmp .ge 81, 3) := by decide +kernel
theorem dX7_checksum_45 : decode cX7_checksum 45 = .ok (.iconst 0, 1) := by decide +kernel
theorem dX7_checksum_46 : decode cX7_checksum 46 = .ok (.istore 4, 2) := by decide +kernel
theorem dX7_checksum_48 : decode cX7_checksum 48 = .ok (.iload 4, 2) := by decide +kernel
theorem dX7_checksum_50 : decode cX7_checksum 50 = .ok (.iconst 4, 1) := by decide +kernel
theorem dX7_checksum_51 : decode cX7_checksum 51 = .ok (.if_icmp .ge 27, 3) := by decide +kernel
theorem dX7_checksum_54 : decode cX7_checksum 54 = .ok (.ldc2_w 210, 3) := by decide +kernel
theorem dX7_checksum_57 : decode cX7_checksum 57 = .ok (.lload_n 1, 1) := by decide +kernel
theorem dX7_checksum_58 : decode cX7_checksum 58 = .ok (.lmul, 1) := by decide +kernel
theorem dX7_checksum_59 : decode cX7_checksum 59 = .ok (.aload_n 0, 1) := by decide +kernel
theorem dX7_checksum_60 : decode cX7_checksum 60 = .ok (.getfield 10, 3) := by decide +kernel
theorem dX7_checksum_63 : decode cX7_checksum 63 = .ok (.iload_n 3, 1) := by decide +kernel
theorem dX7_checksum_64 : decode cX7_checksum 64 = .ok (.iload 4, 2) := by decide +kernel
theorem dX7_checksum_66 : decode cX7_checksum 66 = .ok (.invokevirtual 92, 3) := by decide +kernel
theorem dX7_checksum_69 : decode cX7_checksum 69 = .ok (.i2l, 1) := by decide +kernel
theorem dX7_checksum_70 : decode cX7_checksum 70 = .ok (.ladd, 1) := by decide +kernel
theorem dX7_checksum_71 : decode cX7_checksum 71 = .ok (.lstore_n 1, 1) := by decide +kernel
theorem dX7_checksum_72 : decode cX7_checksum 72 = .ok (.iinc 4 1, 3) := by decide +kernel
theorem dX7_checksum_75 : decode cX7_checksum 75 = .ok (.goto (-27), 3) := by decide +kernel
theorem dX7_checksum_78 : decode cX7_checksum 78 = .ok (.iconst 0, 1) := by decide +kernel
theorem dX7_checksum_79 : decode cX7_checksum 79 = .ok (.istore 4, 2) := by decide +kernel
theorem dX7_checksum_81 : decode cX7_checksum 81 = .ok (.iload 4, 2) := by decide +kernel
theorem dX7_checksum_83 : decode cX7_checksum 83 = .ok (.bipush 100, 2) := by decide +kernel
theorem dX7_checksum_85 : decode cX7_checksum 85 = .ok (.if_icmp .ge 32, 3) := by decide +kernel
theorem dX7_checksum_88 : decode cX7_checksum 88 = .ok (.aload_n 0, 1) := by decide +kernel
theorem dX7_checksum_89 : decode cX7_checksum 89 = .ok (.getfield 10, 3) := by decide +kernel
theorem dX7_checksum_92 : decode cX7_checksum 92 = .ok (.iload 4, 2) := by decide +kernel
theorem dX7_checksum_94 : decode cX7_checksum 94 = .ok (.invokevirtual 212, 3) := by decide +kernel
theorem dX7_checksum_97 : decode cX7_checksum 97 = .ok (.iload_n 3, 1) := by decide +kernel
theorem dX7_checksum_98 : decode cX7_checksum 98 = .ok (.if_icmp .ne 13, 3) := by decide +kernel
theorem dX7_checksum_101 : decode cX7_checksum 101 = .ok (.ldc2_w 210, 3) := by decide +kernel
theorem dX7_checksum_104 : decode cX7_checksum 104 = .ok (.lload_n 1, 1) := by decide +kernel
theorem dX7_checksum_105 : decode cX7_checksum 105 = .ok (.lmul, 1) := by decide +kernel
theorem dX7_checksum_106 : decode cX7_checksum 106 = .ok (.iload 4, 2) := by decide +kernel
theorem dX7_checksum_108 : decode cX7_checksum 108 = .ok (.i2l, 1) := by decide +kernel
theorem dX7_checksum_109 : decode cX7_checksum 109 = .ok (.ladd, 1) := by decide +kernel
theorem dX7_checksum_110 : decode cX7_checksum 110 = .ok (.lstore_n 1, 1) := by decide +kernel
theorem dX7_checksum_111 : decode cX7_checksum 111 = .ok (.iinc 4 1, 3) := by decide +kernel
theorem dX7_checksum_114 : decode cX7_checksum 114 = .ok (.goto (-33), 3) := by decide +kernel
theorem dX7_checksum_117 : decode cX7_checksum 117 = .ok (.iinc 3 1, 3) := by decide +kernel
theorem dX7_checksum_120 : decode cX7_checksum 120 = .ok (.goto (-86), 3) := by decide +kernel
theorem dX7_checksum_123 : decode cX7_checksum 123 = .ok (.iconst 0, 1) := by decide +kernel
theorem dX7_checksum_124 : decode cX7_checksum 124 = .ok (.istore_n 3, 1) := by decide +kernel
theorem dX7_checksum_125 : decode cX7_checksum 125 = .ok (.iload_n 3, 1) := by decide +kernel
theorem dX7_checksum_126 : decode cX7_checksum 126 = .ok (.aload_n 0, 1) := by decide +kernel
theorem dX7_checksum_127 : decode cX7_checksum 127 = .ok (.getfield 10, 3) := by decide +kernel
theorem dX7_checksum_130 : decode cX7_checksum 130 = .ok (.getfield 153, 3) := by decide +kernel
theorem dX7_checksum_133 : decode cX7_checksum 133 = .ok (.if_icmp .gt 42, 3) := by decide +kernel
theorem dX7_checksum_136 : decode cX7_checksum 136 = .ok (.iconst 0, 1) := by decide +kernel
theorem dX7_checksum_137 : decode cX7_checksum 137 = .ok (.istore 4, 2) := by decide +kernel
theorem dX7_checksum_139 : decode cX7_checksum 139 = .ok (.iload 4, 2) := by decide +kernel
theorem dX7_checksum_141 : decode cX7_checksum 141 = .ok (.iconst 5, 1) := by decide +kernel
theorem dX7_checksum_142 : decode cX7_checksum 142 = .ok (.if_icmp .ge 27, 3) := by decide +kernel
theorem dX7_checksum_145 : decode cX7_checksum 145 = .ok (.ldc2_w 210, 3) := by decide +kernel
theorem dX7_checksum_148 : decode cX7_checksum 148 = .ok (.lload_n 1, 1) := by decide +kernel
theorem dX7_checksum_149 : decode cX7_checksum 149 = .ok (.lmul, 1) := by decide +kernel
theorem dX7_checksum_150 : decode cX7_checksum 150 = .ok (.aload_n 0, 1) := by decide +kernel
theorem dX7_checksum_151 : decode cX7_checksum 151 = .ok (.getfield 10, 3) := by decide +kernel
theorem dX7_checksum_154 : decode cX7_checksum 154 = .ok (.iload_n 3, 1) := by decide +kernel
theorem dX7_checksum_155 : decode cX7_checksum 155 = .ok (.iload 4, 2) := by decide +kernel
theorem dX7_checksum_157 : decode cX7_checksum 157 = .ok (.invokevirtual 105, 3) := by decide +kernel
theorem dX7_checksum_160 : decode cX7_checksum 160 = .ok (.i2l, 1) := by decide +kernel
theorem dX7_checksum_161 : decode cX7_checksum 161 = .ok (.ladd, 1) := by decide +kernel
theorem dX7_checksum_162 : decode cX7_checksum 162 = .ok (.lstore_n 1, 1) := by decide +kernel
theorem dX7_checksum_163 : decode cX7_checksum 163 = .ok (.iinc 4 1, 3) := by decide +kernel
theorem dX7_checksum_166 : decode cX7_checksum 166 = .ok (.goto (-27), 3) := by decide +kernel
theorem dX7_checksum_169 : decode cX7_checksum 169 = .ok (.iinc 3 1, 3) := by decide +kernel
theorem dX7_checksum_172 : decode cX7_checksum 172 = .ok (.goto (-47), 3) := by decide +kernel
theorem dX7_checksum_175 : decode cX7_checksum 175 = .ok (.lload_n 1, 1) := by decide +kernel
theorem dX7_checksum_176 : decode cX7_checksum 176 = .ok (.lreturn, 1) := by decide +kernel
set_option maxRecDepth 20000 in
theorem ggX7_remember_X1_takeOver : GoodIn wsX7_remember wsX1_takeOver := goodIn_r _ [13, 14, 15, 16, 17, 18, 19, 20, 21, 22, 23, 24, 25, 26, 27, 28, 29, 30, 31, 32, 5, 6, 7, 8, 33, 34, 35, 36, 37, 38, 39, 40, 41, 42, 43, 44, 45, 46, 47, 48, 49, 50, 51, 52, 53, 54, 62, 63, 64, 65, 66, 67, 68, 69, 70, 71, 72, 73, 74, 75, 76, 77, 78, 79, 80, 81, 82, 83, 84, 85] rfl (by decide +kernel)
set_option maxRecDepth 20000 in
theorem gX7_remember_X1_takeOver : GoodIn wsX7_remember (wsV RX7 65 RX1 yX1_takeOver wsX1_takeOver) := goodIn_app (goodIn_of _ (by decide +kernel)) ggX7_remember_X1_takeOver
theorem dX7_remember_0 : decode cX7_remember 0 = .ok (.aload_n 0, 1) := by decide +kernel
theorem dX7_remember_1 : decode cX7_remember 1 = .ok (.dup, 1) := by decide +kernel
theorem dX7_remember_2 : decode cX7_remember 2 = .ok (.getfield 207, 3) := by decide +kernel
theorem dX7_remember_5 : decode cX7_remember 5 = .ok (.iconst 1, 1) := by decide +kernel
theorem dX7_remember_6 : decode cX7_remember 6 = .ok (.iadd, 1) := by decide +kernel
theorem dX7_remember_7 : decode cX7_remember 7 = .ok (.putfield 207, 3) := by decide +kernel
theorem dX7_remember_10 : decode cX7_remember 10 = .ok (.aload_n 0, 1) := by decide +kernel
theorem dX7_remember_11 : decode cX7_remember 11 = .ok (.getfield 19, 3) := by decide +kernel
theorem dX7_remember_14 : decode cX7_remember 14 = .ok (.aload_n 0, 1) := by decide +kernel
theorem dX7_remember_15 : decode cX7_remember 15 = .ok (.getfield 207, 3) := by decide +kernel
theorem dX7_remember_18 : decode cX7_remember 18 = .ok (.bipush 7, 2) := by decide +kernel
theorem dX7_remember_20 : decode cX7_remember 20 = .ok (.iand, 1) := by decide +kernel
theorem dX7_remember_21 : decode cX7_remember 21 = .ok (.aaload, 1) := by decide +kernel
theorem dX7_remember_22 : decode cX7_remember 22 = .ok (.astore_n 1, 1) := by decide +kernel
theorem dX7_remember_23 : decode cX7_remember 23 = .ok (.aload_n 1, 1) := by decide +kernel
theorem dX7_remember_24 : decode cX7_remember 24 = .ok (.ifnull 11, 3) := by decide +kernel
theorem dX7_remember_27 : decode cX7_remember 27 = .ok (.aload_n 1, 1) := by decide +kernel
theorem dX7_remember_28 : decode cX7_remember 28 = .ok (.aload_n 0, 1) := by decide +kernel
theorem dX7_remember_29 : decode cX7_remember 29 = .ok (.getfield 10, 3) := by decide +kernel
theorem dX7_remember_32 : decode cX7_remember 32 = .ok (.invokevirtual 65, 3) := by decide +kernel
theorem dX7_remember_35 : decode cX7_remember 35 = .ok (.aload_n 0, 1) := by decide +kernel
theorem dX7_remember_36 : decode cX7_remember 36 = .ok (.aload_n 0, 1) := by decide +kernel
theorem dX7_remember_37 : decode cX7_remember 37 = .ok (.getfield 204, 3) := by decide +kernel
theorem dX7_remember_40 : decode cX7_remember 40 = .ok (.iconst 1, 1) := by decide +kernel
theorem dX7_remember_41 : decode cX7_remember 41 = .ok (.iadd, 1) := by decide +kernel
theorem dX7_remember_42 : decode cX7_remember 42 = .ok (.bipush 8, 2) := by decide +kernel
theorem dX7_remember_44 : decode cX7_remember 44 = .ok (.invokestatic 215, 3) := by decide +kernel
theorem dX7_remember_47 : decode cX7_remember 47 = .ok (.putfield 204, 3) := by decide +kernel
theorem dX7_remember_50 : decode cX7_remember 50 = .ok (.return_, 1) := by decide +kernel
set_option maxRecDepth 20000 in
theorem ggX7_exploreRows_X1_handCount : GoodIn wsX7_exploreRows wsX1_handCount := goodIn_r _ [7, 8, 9, 10, 6, 11, 12, 63, 64, 65, 66, 67, 68, 69, 70, 71, 72, 73, 74, 75, 76, 77, 78] rfl (by decide +kernel)
set_option maxRecDepth 20000 in
theorem gX7_exploreRows_X1_handCount : GoodIn wsX7_exploreRows (wsV RX7 159 RX1 yX1_handCount wsX1_handCount) := goodIn_app (goodIn_of _ (by decide +kernel)) ggX7_exploreRows_X1_handCount
set_option maxRecDepth 20000 in
theorem ggX7_exploreRows_X2_explore : GoodIn wsX7_exploreRows wsX2_explore := goodIn_r _ [17, 18, 19, 20, 21, 22, 23, 24, 25, 16, 26, 27, 28, 29, 30, 31, 32, 33, 34, 9, 10, 6, 11, 12, 35, 36, 37, 38, 39, 40, 41, 42, 43, 44, 45, 46, 47, 48, 49, 50, 51, 52, 53, 54, 55, 79, 80, 81, 82, 83, 84, 85, 63, 64, 65, 66, 67, 68, 69, 70, 71, 72, 73, 74, 75, 76, 77, 78, 86, 87, 88, 89, 90] rfl (by decide +kernel)
set_option maxRecDepth 20000 in
theorem gX7_exploreRows_X2_explore : GoodIn wsX7_exploreRows (wsV RX7 220 RX2 yX2_explore wsX2_explore) := goodIn_app (goodIn_of _ (by decide +kernel)) ggX7_exploreRows_X2_explore
theorem dX7_exploreRows_0 : decode cX7_exploreRows 0 = .ok (.aload_n 0, 1) := by decide +kernel
theorem dX7_exploreRows_1 : decode cX7_exploreRows 1 = .ok (.getfield 10, 3) := by decide +kernel
theorem dX7_exploreRows_4 : decode cX7_exploreRows 4 = .ok (.iload_n 1, 1) := by decide +kernel
theorem dX7_exploreRows_5 : decode cX7_exploreRows 5 = .ok (.invokevirtual 159, 3) := by decide +kernel
theorem dX7_exploreRows_8 : decode cX7_exploreRows 8 = .ok (.bipush 12, 2) := by decide +kernel
theorem dX7_exploreRows_10 : decode cX7_exploreRows 10 = .ok (.if_icmp .le 5, 3) := by decide +kernel
theorem dX7_exploreRows_13 : decode cX7_exploreRows 13 = .ok (.iconst 0, 1) := by decide +kernel
theorem dX7_exploreRows_14 : decode cX7_exploreRows 14 = .ok (.ireturn, 1) := by decide +kernel
theorem dX7_exploreRows_15 : decode cX7_exploreRows 15 = .ok (.aload_n 0, 1) := by decide +kernel
theorem dX7_exploreRows_16 : decode cX7_exploreRows 16 = .ok (.getfield 33, 3) := by decide +kernel
theorem dX7_exploreRows_19 : decode cX7_exploreRows 19 = .ok (.aload_n 0, 1) := by decide +kernel
theorem dX7_exploreRows_20 : decode cX7_exploreRows 20 = .ok (.getfield 10, 3) := by decide +kernel
theorem dX7_exploreRows_23 : decode cX7_exploreRows 23 = .ok (.iload_n 1, 1) := by decide +kernel
theorem dX7_exploreRows_24 : decode cX7_exploreRows 24 = .ok (.invokevirtual 220, 3) := by decide +kernel
theorem dX7_exploreRows_27 : decode cX7_exploreRows 27 = .ok (.iconst 1, 1) := by decide +kernel
theorem dX7_exploreRows_28 : decode cX7_exploreRows 28 = .ok (.ireturn, 1) := by decide +kernel
theorem dX7_checkPlayer_0 : decode cX7_checkPlayer 0 = .ok (.iload_n 1, 1) := by decide +kernel
theorem dX7_checkPlayer_1 : decode cX7_checkPlayer 1 = .ok (.ifCond .lt 14, 3) := by decide +kernel
theorem dX7_checkPlayer_4 : decode cX7_checkPlayer 4 = .ok (.iload_n 1, 1) := by decide +kernel
theorem dX7_checkPlayer_5 : decode cX7_checkPlayer 5 = .ok (.aload_n 0, 1) := by decide +kernel
theorem dX7_checkPlayer_6 : decode cX7_checkPlayer 6 = .ok (.getfield 10, 3) := by decide +kernel
theorem dX7_checkPlayer_9 : decode cX7_checkPlayer 9 = .ok (.getfield 153, 3) := by decide +kernel
theorem dX7_checkPlayer_12 : decode cX7_checkPlayer 12 = .ok (.if_icmp .lt 11, 3) := by decide +kernel
theorem dX7_checkPlayer_15 : decode cX7_checkPlayer 15 = .ok (.new 224, 3) := by decide +kernel
theorem dX7_checkPlayer_18 : decode cX7_checkPlayer 18 = .ok (.dup, 1) := by decide +kernel
theorem dX7_checkPlayer_19 : decode cX7_checkPlayer 19 = .ok (.invokespecial 226, 3) := by decide +kernel
theorem dX7_checkPlayer_22 : decode cX7_checkPlayer 22 = .ok (.athrow, 1) := by decide +kernel
theorem dX7_checkPlayer_23 : decode cX7_checkPlayer 23 = .ok (.return_, 1) := by decide +kernel
theorem dX7_checkTrain_0 : decode cX7_checkTrain 0 = .ok (.iload_n 1, 1) := by decide +kernel
theorem dX7_checkTrain_1 : decode cX7_checkTrain 1 = .ok (.ifCond .lt 14, 3) := by decide +kernel
theorem dX7_checkTrain_4 : decode cX7_checkTrain 4 = .ok (.iload_n 1, 1) := by decide +kernel
theorem dX7_checkTrain_5 : decode cX7_checkTrain 5 = .ok (.aload_n 0, 1) := by decide +kernel
theorem dX7_checkTrain_6 : decode cX7_checkTrain 6 = .ok (.getfield 10, 3) := by decide +kernel
theorem dX7_checkTrain_9 : decode cX7_checkTrain 9 = .ok (.getfield 153, 3) := by decide +kernel
theorem dX7_checkTrain_12 : decode cX7_checkTrain 12 = .ok (.if_icmp .le 11, 3) := by decide +kernel
theorem dX7_checkTrain_15 : decode cX7_checkTrain 15 = .ok (.new 224, 3) := by decide +kernel
theorem dX7_checkTrain_18 : decode cX7_checkTrain 18 = .ok (.dup, 1) := by decide +kernel
theorem dX7_checkTrain_19 : decode cX7_checkTrain 19 = .ok (.invokespecial 226, 3) := by decide +kernel
theorem dX7_checkTrain_22 : decode cX7_checkTrain 22 = .ok (.athrow, 1) := by decide +kernel
theorem dX7_checkTrain_23 : decode cX7_checkTrain 23 = .ok (.return_, 1) := by decide +kernel
set_option maxRecDepth 20000 in
theorem ggX7_checkTile_X1_isInSet : GoodIn wsX7_checkTile wsX1_isInSet := goodIn_r _ [8, 9, 10, 11, 12, 13, 14, 22, 23, 24, 25, 26, 27, 28, 29, 30, 31, 32, 33, 34, 35, 36, 37] rfl (by decide +kernel)
set_option maxRecDepth 20000 in
theorem gX7_checkTile_X1_isInSet : GoodIn wsX7_checkTile (wsV RX7 227 RX1 yX1_isInSet wsX1_isInSet) := goodIn_app (goodIn_of _ (by decide +kernel)) ggX7_checkTile_X1_isInSet
theorem dX7_checkTile_0 : decode cX7_checkTile 0 = .ok (.aload_n 0, 1) := by decide +kernel
theorem dX7_checkTile_1 : decode cX7_checkTile 1 = .ok (.getfield 10, 3) := by decide +kernel
theorem dX7_checkTile_4 : decode cX7_checkTile 4 = .ok (.iload_n 1, 1) := by decide +kernel
theorem dX7_checkTile_5 : decode cX7_checkTile 5 = .ok (.invokevirtual 227, 3) := by decide +kernel
theorem dX7_checkTile_8 : decode cX7_checkTile 8 = .ok (.ifCond .ne 11, 3) := by decide +kernel
theorem dX7_checkTile_11 : decode cX7_checkTile 11 = .ok (.new 54, 3) := by decide +kernel
theorem dX7_checkTile_14 : decode cX7_checkTile 14 = .ok (.dup, 1) := by decide +kernel
theorem dX7_checkTile_15 : decode cX7_checkTile 15 = .ok (.invokespecial 56, 3) := by decide +kernel
theorem dX7_checkTile_18 : decode cX7_checkTile 18 = .ok (.athrow, 1) := by decide +kernel
theorem dX7_checkTile_19 : decode cX7_checkTile 19 = .ok (.return_, 1) := by decide +kernel
theorem dX7_checkWhat_0 : decode cX7_checkWhat 0 = .ok (.iload_n 0, 1) := by decide +kernel
theorem dX7_checkWhat_1 : decode cX7_checkWhat 1 = .ok (.ifCond .lt 8, 3) := by decide +kernel
theorem dX7_checkWhat_4 : decode cX7_checkWhat 4 = .ok (.iload_n 0, 1) := by decide +kernel
theorem dX7_checkWhat_5 : decode cX7_checkWhat 5 = .ok (.iload_n 1, 1) := by decide +kernel
theorem dX7_checkWhat_6 : decode cX7_checkWhat 6 = .ok (.if_icmp .lt 11, 3) := by decide +kernel
theorem dX7_checkWhat_9 : decode cX7_checkWhat 9 = .ok (.new 54, 3) := by decide +kernel
theorem dX7_checkWhat_12 : decode cX7_checkWhat 12 = .ok (.dup, 1) := by decide +kernel
theorem dX7_checkWhat_13 : decode cX7_checkWhat 13 = .ok (.invokespecial 56, 3) := by decide +kernel
theorem dX7_checkWhat_16 : decode cX7_checkWhat 16 = .ok (.athrow, 1) := by decide +kernel
theorem dX7_checkWhat_17 : decode cX7_checkWhat 17 = .ok (.return_, 1) := by decide +kernel
theorem dX7_checkAllowed_0 : decode cX7_checkAllowed 0 = .ok (.iload_n 0, 1) := by decide +kernel
theorem dX7_checkAllowed_1 : decode cX7_checkAllowed 1 = .ok (.ifCond .ne 11, 3) := by decide +kernel
theorem dX7_checkAllowed_4 : decode cX7_checkAllowed 4 = .ok (.new 230, 3) := by decide +kernel
theorem dX7_checkAllowed_7 : decode cX7_checkAllowed 7 = .ok (.dup, 1) := by decide +kernel
theorem dX7_checkAllowed_8 : decode cX7_checkAllowed 8 = .ok (.invokespecial 232, 3) := by decide +kernel
theorem dX7_checkAllowed_11 : decode cX7_checkAllowed 11 = .ok (.athrow, 1) := by decide +kernel
theorem dX7_checkAllowed_12 : decode cX7_checkAllowed 12 = .ok (.return_, 1) := by decide +kernel
theorem dX7_lowNumber_0 : decode cX7_lowNumber 0 = .ok (.iload_n 0, 1) := by decide +kernel
theorem dX7_lowNumber_1 : decode cX7_lowNumber 1 = .ok (.bipush 10, 2) := by decide +kernel
theorem dX7_lowNumber_3 : decode cX7_lowNumber 3 = .ok (.idiv, 1) := by decide +kernel
theorem dX7_lowNumber_4 : decode cX7_lowNumber 4 = .ok (.ireturn, 1) := by decide +kernel
theorem dX7_highNumber_0 : decode cX7_highNumber 0 = .ok (.iload_n 0, 1) := by decide +kernel
theorem dX7_highNumber_1 : decode cX7_highNumber 1 = .ok (.bipush 10, 2) := by decide +kernel
theorem dX7_highNumber_3 : decode cX7_highNumber 3 = .ok (.irem, 1) := by decide +kernel
theorem dX7_highNumber_4 : decode cX7_highNumber 4 = .ok (.ireturn, 1) := by decide +kernel
set_option maxRecDepth 20000 in
theorem ggX7_isDouble_X7_lowNumber : GoodIn wsX7_isDouble wsX7_lowNumber := goodIn_r _ [4] rfl (by decide +kernel)
set_option maxRecDepth 20000 in
theorem gX7_isDouble_X7_lowNumber : GoodIn wsX7_isDouble (va_wsS RX7 233 yX7_lowNumber wsX7_lowNumber) := goodIn_app (goodIn_of _ (by decide +kernel)) ggX7_isDouble_X7_lowNumber
set_option maxRecDepth 20000 in
theorem ggX7_isDouble_X7_highNumber : GoodIn wsX7_isDouble wsX7_highNumber := goodIn_r _ [7] rfl (by decide +kernel)
set_option maxRecDepth 20000 in
theorem gX7_isDouble_X7_highNumber : GoodIn wsX7_isDouble (va_wsS RX7 236 yX7_highNumber wsX7_highNumber) := goodIn_app (goodIn_of _ (by decide +kernel)) ggX7_isDouble_X7_highNumber
theorem dX7_isDouble_0 : decode cX7_isDouble 0 = .ok (.iload_n 0, 1) := by decide +kernel
theorem dX7_isDouble_1 : decode cX7_isDouble 1 = .ok (.invokestatic 233, 3) := by decide +kernel
theorem dX7_isDouble_4 : decode cX7_isDouble 4 = .ok (.iload_n 0, 1) := by decide +kernel
theorem dX7_isDouble_5 : decode cX7_isDouble 5 = .ok (.invokestatic 236, 3) := by decide +kernel
theorem dX7_isDouble_8 : decode cX7_isDouble 8 = .ok (.if_icmp .ne 7, 3) := by decide +kernel
theorem dX7_isDouble_11 : decode cX7_isDouble 11 = .ok (.iconst 1, 1) := by decide +kernel
theorem dX7_isDouble_12 : decode cX7_isDouble 12 = .ok (.goto 4, 3) := by decide +kernel
theorem dX7_isDouble_15 : decode cX7_isDouble 15 = .ok (.iconst 0, 1) := by decide +kernel
theorem dX7_isDouble_16 : decode cX7_isDouble 16 = .ok (.ireturn, 1) := by decide +kernel
set_option maxRecDepth 20000 in
theorem ggX7_pipsOf_X7_lowNumber : GoodIn wsX7_pipsOf wsX7_lowNumber := goodIn_r _ [4] rfl (by decide +kernel)
set_option maxRecDepth 20000 in
theorem gX7_pipsOf_X7_lowNumber : GoodIn wsX7_pipsOf (va_wsS RX7 233 yX7_lowNumber wsX7_lowNumber) := goodIn_app (goodIn_of _ (by decide +kernel)) ggX7_pipsOf_X7_lowNumber
set_option maxRecDepth 20000 in
theorem ggX7_pipsOf_X7_highNumber : GoodIn wsX7_pipsOf wsX7_highNumber := goodIn_r _ [7] rfl (by decide +kernel)
set_option maxRecDepth 20000 in
theorem gX7_pipsOf_X7_highNumber : GoodIn wsX7_pipsOf (va_wsS RX7 236 yX7_highNumber wsX7_highNumber) := goodIn_app (goodIn_of _ (by decide +kernel)) ggX7_pipsOf_X7_highNumber
theorem dX7_pipsOf_0 : decode cX7_pipsOf 0 = .ok (.iload_n 0, 1) := by decide +kernel
theorem dX7_pipsOf_1 : decode cX7_pipsOf 1 = .ok (.invokestatic 233, 3) := by decide +kernel
theorem dX7_pipsOf_4 : decode cX7_pipsOf 4 = .ok (.iload_n 0, 1) := by decide +kernel
theorem dX7_pipsOf_5 : decode cX7_pipsOf 5 = .ok (.invokestatic 236, 3) := by decide +kernel
theorem dX7_pipsOf_8 : decode cX7_pipsOf 8 = .ok (.iadd, 1) := by decide +kernel
theorem dX7_pipsOf_9 : decode cX7_pipsOf 9 = .ok (.ireturn, 1) := by decide +kernel
set_option maxRecDepth 20000 in
theorem ggX7_hasNumber_X7_lowNumber : GoodIn wsX7_hasNumber wsX7_lowNumber := goodIn_r _ [4] rfl (by decide +kernel)
set_option maxRecDepth 20000 in
theorem gX7_hasNumber_X7_lowNumber : GoodIn wsX7_hasNumber (va_wsS RX7 233 yX7_lowNumber wsX7_lowNumber) := goodIn_app (goodIn_of _ (by decide +kernel)) ggX7_hasNumber_X7_lowNumber
set_option maxRecDepth 20000 in
theorem ggX7_hasNumber_X7_highNumber : GoodIn wsX7_hasNumber wsX7_highNumber := goodIn_r _ [7] rfl (by decide +kernel)
set_option maxRecDepth 20000 in
theorem gX7_hasNumber_X7_highNumber : GoodIn wsX7_hasNumber (va_wsS RX7 236 yX7_highNumber wsX7_highNumber) := goodIn_app (goodIn_of _ (by decide +kernel)) ggX7_hasNumber_X7_highNumber
theorem dX7_hasNumber_0 : decode cX7_hasNumber 0 = .ok (.iload_n 0, 1) := by decide +kernel
theorem dX7_hasNumber_1 : decode cX7_hasNumber 1 = .ok (.invokestatic 233, 3) := by decide +kernel
theorem dX7_hasNumber_4 : decode cX7_hasNumber 4 = .ok (.iload_n 1, 1) := by decide +kernel
theorem dX7_hasNumber_5 : decode cX7_hasNumber 5 = .ok (.if_icmp .eq 11, 3) := by decide +kernel
theorem dX7_hasNumber_8 : decode cX7_hasNumber 8 = .ok (.iload_n 0, 1) := by decide +kernel
theorem dX7_hasNumber_9 : decode cX7_hasNumber 9 = .ok (.invokestatic 236, 3) := by decide +kernel
theorem dX7_hasNumber_12 : decode cX7_hasNumber 12 = .ok (.iload_n 1, 1) := by decide +kernel
theorem dX7_hasNumber_13 : decode cX7_hasNumber 13 = .ok (.if_icmp .ne 7, 3) := by decide +kernel
theorem dX7_hasNumber_16 : decode cX7_hasNumber 16 = .ok (.iconst 1, 1) := by decide +kernel
theorem dX7_hasNumber_17 : decode cX7_hasNumber 17 = .ok (.goto 4, 3) := by decide +kernel
theorem dX7_hasNumber_20 : decode cX7_hasNumber 20 = .ok (.iconst 0, 1) := by decide +kernel
theorem dX7_hasNumber_21 : decode cX7_hasNumber 21 = .ok (.ireturn, 1) := by decide +kernel
theorem dX7_look_0 : decode cX7_look 0 = .ok (.iload_n 1, 1) := by decide +kernel
theorem dX7_look_1 : decode cX7_look 1 = .ok (.ifCond .lt 15, 3) := by decide +kernel
theorem dX7_look_4 : decode cX7_look 4 = .ok (.iload_n 1, 1) := by decide +kernel
theorem dX7_look_5 : decode cX7_look 5 = .ok (.aload_n 0, 1) := by decide +kernel
theorem dX7_look_6 : decode cX7_look 6 = .ok (.arraylength, 1) := by decide +kernel
theorem dX7_look_7 : decode cX7_look 7 = .ok (.if_icmp .ge 9, 3) := by decide +kernel
theorem dX7_look_10 : decode cX7_look 10 = .ok (.aload_n 0, 1) := by decide +kernel
theorem dX7_look_11 : decode cX7_look 11 = .ok (.iload_n 1, 1) := by decide +kernel
theorem dX7_look_12 : decode cX7_look 12 = .ok (.iaload, 1) := by decide +kernel
theorem dX7_look_13 : decode cX7_look 13 = .ok (.goto 4, 3) := by decide +kernel
theorem dX7_look_16 : decode cX7_look 16 = .ok (.iconst 0, 1) := by decide +kernel
theorem dX7_look_17 : decode cX7_look 17 = .ok (.ireturn, 1) := by decide +kernel
theorem dX7_put_0 : decode cX7_put 0 = .ok (.iload_n 1, 1) := by decide +kernel
theorem dX7_put_1 : decode cX7_put 1 = .ok (.ifCond .lt 13, 3) := by decide +kernel
theorem dX7_put_4 : decode cX7_put 4 = .ok (.iload_n 1, 1) := by decide +kernel
theorem dX7_put_5 : decode cX7_put 5 = .ok (.aload_n 0, 1) := by decide +kernel
theorem dX7_put_6 : decode cX7_put 6 = .ok (.arraylength, 1) := by decide +kernel
theorem dX7_put_7 : decode cX7_put 7 = .ok (.if_icmp .ge 7, 3) := by decide +kernel
theorem dX7_put_10 : decode cX7_put 10 = .ok (.aload_n 0, 1) := by decide +kernel
theorem dX7_put_11 : decode cX7_put 11 = .ok (.iload_n 1, 1) := by decide +kernel
theorem dX7_put_12 : decode cX7_put 12 = .ok (.iload_n 2, 1) := by decide +kernel
theorem dX7_put_13 : decode cX7_put 13 = .ok (.iastore, 1) := by decide +kernel
theorem dX7_put_14 : decode cX7_put 14 = .ok (.return_, 1) := by decide +kernel
theorem dX7_copy_0 : decode cX7_copy 0 = .ok (.aload_n 0, 1) := by decide +kernel
theorem dX7_copy_1 : decode cX7_copy 1 = .ok (.iconst 0, 1) := by decide +kernel
theorem dX7_copy_2 : decode cX7_copy 2 = .ok (.aload_n 1, 1) := by decide +kernel
theorem dX7_copy_3 : decode cX7_copy 3 = .ok (.iconst 0, 1) := by decide +kernel
theorem dX7_copy_4 : decode cX7_copy 4 = .ok (.aload_n 0, 1) := by decide +kernel
theorem dX7_copy_5 : decode cX7_copy 5 = .ok (.arraylength, 1) := by decide +kernel
theorem dX7_copy_6 : decode cX7_copy 6 = .ok (.aload_n 1, 1) := by decide +kernel
theorem dX7_copy_7 : decode cX7_copy 7 = .ok (.arraylength, 1) := by decide +kernel
theorem dX7_copy_8 : decode cX7_copy 8 = .ok (.invokestatic 215, 3) := by decide +kernel
theorem dX7_copy_11 : decode cX7_copy 11 = .ok (.invokestatic 239, 3) := by decide +kernel
theorem dX7_copy_14 : decode cX7_copy 14 = .ok (.return_, 1) := by decide +kernel
set_option maxRecDepth 20000 in
theorem ggX8_init_X8_layGame : GoodIn wsX8_init wsX8_layGame := goodIn_r _ [21] rfl (by decide +kernel)
set_option maxRecDepth 20000 in
theorem gX8_init_X8_layGame : GoodIn wsX8_init (va_wsS RX8 45 yX8_layGame wsX8_layGame) := goodIn_app (goodIn_of _ (by decide +kernel)) ggX8_init_X8_layGame
set_option maxRecDepth 20000 in
theorem ggX8_init_X8_deal : GoodIn wsX8_init wsX8_deal := goodIn_r _ [24, 25, 26, 27, 20, 28, 29, 30, 31, 32, 33, 34, 35, 36, 37] rfl (by decide +kernel)
set_option maxRecDepth 20000 in
theorem gX8_init_X8_deal : GoodIn wsX8_init (va_wsS RX8 49 yX8_deal wsX8_deal) := goodIn_app (goodIn_of _ (by decide +kernel)) ggX8_init_X8_deal
theorem dX8_init_0 : decode cX8_init 0 = .ok (.aload_n 0, 1) := by decide +kernel
theorem dX8_init_1 : decode cX8_init 1 = .ok (.invokespecial 3, 3) := by decide +kernel
theorem dX8_init_4 : decode cX8_init 4 = .ok (.aload_n 0, 1) := by decide +kernel
theorem dX8_init_5 : decode cX8_init 5 = .ok (.sipush 500, 3) := by decide +kernel
theorem dX8_init_8 : decode cX8_init 8 = .ok (.newarray .int, 2) := by decide +kernel
theorem dX8_init_10 : decode cX8_init 10 = .ok (.putfield 9, 3) := by decide +kernel
theorem dX8_init_13 : decode cX8_init 13 = .ok (.aload_n 0, 1) := by decide +kernel
theorem dX8_init_14 : decode cX8_init 14 = .ok (.iconst (-1), 1) := by decide +kernel
theorem dX8_init_15 : decode cX8_init 15 = .ok (.putfield 13, 3) := by decide +kernel
theorem dX8_init_18 : decode cX8_init 18 = .ok (.aload_n 0, 1) := by decide +kernel
theorem dX8_init_19 : decode cX8_init 19 = .ok (.sipush 1464, 3) := by decide +kernel
theorem dX8_init_22 : decode cX8_init 22 = .ok (.newarray .int, 2) := by decide +kernel
theorem dX8_init_24 : decode cX8_init 24 = .ok (.putfield 17, 3) := by decide +kernel
theorem dX8_init_27 : decode cX8_init 27 = .ok (.aload_n 0, 1) := by decide +kernel
theorem dX8_init_28 : decode cX8_init 28 = .ok (.sipush 1464, 3) := by decide +kernel
theorem dX8_init_31 : decode cX8_init 31 = .ok (.newarray .int, 2) := by decide +kernel
theorem dX8_init_33 : decode cX8_init 33 = .ok (.putfield 20, 3) := by decide +kernel
theorem dX8_init_36 : decode cX8_init 36 = .ok (.aload_n 0, 1) := by decide +kernel
theorem dX8_init_37 : decode cX8_init 37 = .ok (.sipush 464, 3) := by decide +kernel
theorem dX8_init_40 : decode cX8_init 40 = .ok (.newarray .int, 2) := by decide +kernel
theorem dX8_init_42 : decode cX8_init 42 = .ok (.putfield 23, 3) := by decide +kernel
theorem dX8_init_45 : decode cX8_init 45 = .ok (.aload_n 0, 1) := by decide +kernel
theorem dX8_init_46 : decode cX8_init 46 = .ok (.bipush 8, 2) := by decide +kernel
theorem dX8_init_48 : decode cX8_init 48 = .ok (.sipush 1464, 3) := by decide +kernel
theorem dX8_init_51 : decode cX8_init 51 = .ok (.multianewarray 26 2, 4) := by decide +kernel
theorem dX8_init_55 : decode cX8_init 55 = .ok (.putfield 28, 3) := by decide +kernel
theorem dX8_init_58 : decode cX8_init 58 = .ok (.aload_n 0, 1) := by decide +kernel
theorem dX8_init_59 : decode cX8_init 59 = .ok (.sipush 1000, 3) := by decide +kernel
theorem dX8_init_62 : decode cX8_init 62 = .ok (.newarray .long, 2) := by decide +kernel
theorem dX8_init_64 : decode cX8_init 64 = .ok (.putfield 31, 3) := by decide +kernel
theorem dX8_init_67 : decode cX8_init 67 = .ok (.aload_n 0, 1) := by decide +kernel
theorem dX8_init_68 : decode cX8_init 68 = .ok (.bipush 12, 2) := by decide +kernel
theorem dX8_init_70 : decode cX8_init 70 = .ok (.newarray .int, 2) := by decide +kernel
theorem dX8_init_72 : decode cX8_init 72 = .ok (.putfield 35, 3) := by decide +kernel
theorem dX8_init_75 : decode cX8_init 75 = .ok (.aload_n 0, 1) := by decide +kernel
theorem dX8_init_76 : decode cX8_init 76 = .ok (.ldc 38, 2) := by decide +kernel
theorem dX8_init_78 : decode cX8_init 78 = .ok (.newarray .int, 2) := by decide +kernel
theorem dX8_init_80 : decode cX8_init 80 = .ok (.putfield 39, 3) := by decide +kernel
theorem dX8_init_83 : decode cX8_init 83 = .ok (.aload_n 0, 1) := by decide +kernel
theorem dX8_init_84 : decode cX8_init 84 = .ok (.ldc 38, 2) := by decide +kernel
theorem dX8_init_86 : decode cX8_init 86 = .ok (.newarray .int, 2) := by decide +kernel
theorem dX8_init_88 : decode cX8_init 88 = .ok (.putfield 42, 3) := by decide +kernel
theorem dX8_init_91 : decode cX8_init 91 = .ok (.aload_n 0, 1) := by decide +kernel
theorem dX8_init_92 : decode cX8_init 92 = .ok (.getfield 17, 3) := by decide +kernel
theorem dX8_init_95 : decode cX8_init 95 = .ok (.iconst 3, 1) := by decide +kernel
theorem dX8_init_96 : decode cX8_init 96 = .ok (.iconst 2, 1) := by decide +kernel
theorem dX8_init_97 : decode cX8_init 97 = .ok (.iconst 1, 1) := by decide +kernel
theorem dX8_init_98 : decode cX8_init 98 = .ok (.invokestatic 45, 3) := by decide +kernel
theorem dX8_init_101 : decode cX8_init 101 = .ok (.aload_n 0, 1) := by decide +kernel
theorem dX8_init_102 : decode cX8_init 102 = .ok (.getfield 17, 3) := by decide +kernel
theorem dX8_init_105 : decode cX8_init 105 = .ok (.invokestatic 49, 3) := by decide +kernel
theorem dX8_init_108 : decode cX8_init 108 = .ok (.return_, 1) := by decide +kernel
theorem dX8_thrown_0 : decode cX8_thrown 0 = .ok (.aload_n 0, 1) := by decide +kernel
theorem dX8_thrown_1 : decode cX8_thrown 1 = .ok (.getfield 53, 3) := by decide +kernel
theorem dX8_thrown_4 : decode cX8_thrown 4 = .ok (.ireturn, 1) := by decide +kernel
theorem dX8_fails_0 : decode cX8_fails 0 = .ok (.iload_n 1, 1) := by decide +kernel
theorem dX8_fails_1 : decode cX8_fails 1 = .ok (.ifCond .eq 15, 3) := by decide +kernel
theorem dX8_fails_4 : decode cX8_fails 4 = .ok (.aload_n 0, 1) := by decide +kernel
theorem dX8_fails_5 : decode cX8_fails 5 = .ok (.getfield 53, 3) := by decide +kernel
theorem dX8_fails_8 : decode cX8_fails 8 = .ok (.ifCond .ne 8, 3) := by decide +kernel
theorem dX8_fails_11 : decode cX8_fails 11 = .ok (.aload_n 0, 1) := by decide +kernel
theorem dX8_fails_12 : decode cX8_fails 12 = .ok (.iload_n 2, 1) := by decide +kernel
theorem dX8_fails_13 : decode cX8_fails 13 = .ok (.putfield 53, 3) := by decide +kernel
theorem dX8_fails_16 : decode cX8_fails 16 = .ok (.aload_n 0, 1) := by decide +kernel
theorem dX8_fails_17 : decode cX8_fails 17 = .ok (.getfield 53, 3) := by decide +kernel
theorem dX8_fails_20 : decode cX8_fails 20 = .ok (.ifCond .eq 7, 3) := by decide +kernel
theorem dX8_fails_23 : decode cX8_fails 23 = .ok (.iconst 1, 1) := by decide +kernel
theorem dX8_fails_24 : decode cX8_fails 24 = .ok (.goto 4, 3) := by decide +kernel
theorem dX8_fails_27 : decode cX8_fails 27 = .ok (.iconst 0, 1) := by decide +kernel
theorem dX8_fails_28 : decode cX8_fails 28 = .ok (.ireturn, 1) := by decide +kernel
theorem dX8_in_0 : decode cX8_in 0 = .ok (.iload_n 0, 1) := by decide +kernel
theorem dX8_in_1 : decode cX8_in 1 = .ok (.iload_n 1, 1) := by decide +kernel
theorem dX8_in_2 : decode cX8_in 2 = .ok (.if_icmp .lt 12, 3) := by decide +kernel
theorem dX8_in_5 : decode cX8_in 5 = .ok (.iload_n 0, 1) := by decide +kernel
theorem dX8_in_6 : decode cX8_in 6 = .ok (.iload_n 2, 1) := by decide +kernel
theorem dX8_in_7 : decode cX8_in 7 = .ok (.if_icmp .gt 7, 3) := by decide +kernel
theorem dX8_in_10 : decode cX8_in 10 = .ok (.iconst 1, 1) := by decide +kernel
theorem dX8_in_11 : decode cX8_in 11 = .ok (.goto 4, 3) := by decide +kernel
theorem dX8_in_14 : decode cX8_in 14 = .ok (.iconst 0, 1) := by decide +kernel
theorem dX8_in_15 : decode cX8_in 15 = .ok (.ireturn, 1) := by decide +kernel
theorem dX8_min_0 : decode cX8_min 0 = .ok (.iload_n 0, 1) := by decide +kernel
theorem dX8_min_1 : decode cX8_min 1 = .ok (.iload_n 1, 1) := by decide +kernel
theorem dX8_min_2 : decode cX8_min 2 = .ok (.if_icmp .ge 7, 3) := by decide +kernel
theorem dX8_min_5 : decode cX8_min 5 = .ok (.iload_n 0, 1) := by decide +kernel
theorem dX8_min_6 : decode cX8_min 6 = .ok (.goto 4, 3) := by decide +kernel
theorem dX8_min_9 : decode cX8_min 9 = .ok (.iload_n 1, 1) := by decide +kernel
theorem dX8_min_10 : decode cX8_min 10 = .ok (.ireturn, 1) := by decide +kernel
theorem dX8_copy_0 : decode cX8_copy 0 = .ok (.iconst 0, 1) := by decide +kernel
theorem dX8_copy_1 : decode cX8_copy 1 = .ok (.istore_n 3, 1) := by decide +kernel
theorem dX8_copy_2 : decode cX8_copy 2 = .ok (.iload_n 3, 1) := by decide +kernel
theorem dX8_copy_3 : decode cX8_copy 3 = .ok (.iload_n 2, 1) := by decide +kernel
theorem dX8_copy_4 : decode cX8_copy 4 = .ok (.if_icmp .ge 15, 3) := by decide +kernel
theorem dX8_copy_7 : decode cX8_copy 7 = .ok (.aload_n 1, 1) := by decide +kernel
theorem dX8_copy_8 : decode cX8_copy 8 = .ok (.iload_n 3, 1) := by decide +kernel
theorem dX8_copy_9 : decode cX8_copy 9 = .ok (.aload_n 0, 1) := by decide +kernel
theorem dX8_copy_10 : decode cX8_copy 10 = .ok (.iload_n 3, 1) := by decide +kernel
theorem dX8_copy_11 : decode cX8_copy 11 = .ok (.iaload, 1) := by decide +kernel
theorem dX8_copy_12 : decode cX8_copy 12 = .ok (.iastore, 1) := by decide +kernel
theorem dX8_copy_13 : decode cX8_copy 13 = .ok (.iinc 3 1, 3) := by decide +kernel
theorem dX8_copy_16 : decode cX8_copy 16 = .ok (.goto (-14), 3) := by decide +kernel
theorem dX8_copy_19 : decode cX8_copy 19 = .ok (.return_, 1) := by decide +kernel
theorem dX8_layGame_0 : decode cX8_layGame 0 = .ok (.iconst 0, 1) := by decide +kernel
theorem dX8_layGame_1 : decode cX8_layGame 1 = .ok (.istore 4, 2) := by decide +kernel
theorem dX8_layGame_3 : decode cX8_layGame 3 = .ok (.iload 4, 2) := by decide +kernel
theorem dX8_layGame_5 : decode cX8_layGame 5 = .ok (.sipush 1464, 3) := by decide +kernel
theorem dX8_layGame_8 : decode cX8_layGame 8 = .ok (.if_icmp .ge 14, 3) := by decide +kernel
theorem dX8_layGame_11 : decode cX8_layGame 11 = .ok (.aload_n 0, 1) := by decide +kernel
theorem dX8_layGame_12 : decode cX8_layGame 12 = .ok (.iload 4, 2) := by decide +kernel
theorem dX8_layGame_14 : decode cX8_layGame 14 = .ok (.iconst 0, 1) := by decide +kernel
theorem dX8_layGame_15 : decode cX8_layGame 15 = .ok (.iastore, 1) := by decide +kernel
theorem dX8_layGame_16 : decode cX8_layGame 16 = .ok (.iinc 4 1, 3) := by decide +kernel
theorem dX8_layGame_19 : decode cX8_layGame 19 = .ok (.goto (-16), 3) := by decide +kernel
theorem dX8_layGame_22 : decode cX8_layGame 22 = .ok (.aload_n 0, 1) := by decide +kernel
theorem dX8_layGame_23 : decode cX8_layGame 23 = .ok (.iconst 0, 1) := by decide +kernel
theorem dX8_layGame_24 : decode cX8_layGame 24 = .ok (.iload_n 1, 1) := by decide +kernel
theorem dX8_layGame_25 : decode cX8_layGame 25 = .ok (.iastore, 1) := by decide +kernel
theorem dX8_layGame_26 : decode cX8_layGame 26 = .ok (.aload_n 0, 1) := by decide +kernel
theorem dX8_layGame_27 : decode cX8_layGame 27 = .ok (.iconst 1, 1) := by decide +kernel
theorem dX8_layGame_28 : decode cX8_layGame 28 = .ok (.iload_n 2, 1) := by decide +kernel
theorem dX8_layGame_29 : decode cX8_layGame 29 = .ok (.iastore, 1) := by decide +kernel
theorem dX8_layGame_30 : decode cX8_layGame 30 = .ok (.aload_n 0, 1) := by decide +kernel
theorem dX8_layGame_31 : decode cX8_layGame 31 = .ok (.iconst 2, 1) := by decide +kernel
theorem dX8_layGame_32 : decode cX8_layGame 32 = .ok (.iload_n 3, 1) := by decide +kernel
theorem dX8_layGame_33 : decode cX8_layGame 33 = .ok (.iastore, 1) := by decide +kernel
theorem dX8_layGame_34 : decode cX8_layGame 34 = .ok (.aload_n 0, 1) := by decide +kernel
theorem dX8_layGame_35 : decode cX8_layGame 35 = .ok (.iconst 3, 1) := by decide +kernel
theorem dX8_layGame_36 : decode cX8_layGame 36 = .ok (.iload_n 1, 1) := by decide +kernel
theorem dX8_layGame_37 : decode cX8_layGame 37 = .ok (.iastore, 1) := by decide +kernel
theorem dX8_layGame_38 : decode cX8_layGame 38 = .ok (.aload_n 0, 1) := by decide +kernel
theorem dX8_layGame_39 : decode cX8_layGame 39 = .ok (.bipush 11, 2) := by decide +kernel
theorem dX8_layGame_41 : decode cX8_layGame 41 = .ok (.iconst 1, 1) := by decide +kernel
theorem dX8_layGame_42 : decode cX8_layGame 42 = .ok (.iastore, 1) := by decide +kernel
theorem dX8_layGame_43 : decode cX8_layGame 43 = .ok (.iconst 0, 1) := by decide +kernel
theorem dX8_layGame_44 : decode cX8_layGame 44 = .ok (.istore 4, 2) := by decide +kernel
theorem dX8_layGame_46 : decode cX8_layGame 46 = .ok (.iload 4, 2) := by decide +kernel
theorem dX8_layGame_48 : decode cX8_layGame 48 = .ok (.bipush 100, 2) := by decide +kernel
theorem dX8_layGame_50 : decode cX8_layGame 50 = .ok (.if_icmp .ge 17, 3) := by decide +kernel
theorem dX8_layGame_53 : decode cX8_layGame 53 = .ok (.aload_n 0, 1) := by decide +kernel
theorem dX8_layGame_54 : decode cX8_layGame 54 = .ok (.bipush 19, 2) := by decide +kernel
theorem dX8_layGame_56 : decode cX8_layGame 56 = .ok (.iload 4, 2) := by decide +kernel
theorem dX8_layGame_58 : decode cX8_layGame 58 = .ok (.iadd, 1) := by decide +kernel
theorem dX8_layGame_59 : decode cX8_layGame 59 = .ok (.iconst (-1), 1) := by decide +kernel
theorem dX8_layGame_60 : decode cX8_layGame 60 = .ok (.iastore, 1) := by decide +kernel
theorem dX8_layGame_61 : decode cX8_layGame 61 = .ok (.iinc 4 1, 3) := by decide +kernel
theorem dX8_layGame_64 : decode cX8_layGame 64 = .ok (.goto (-18), 3) := by decide +kernel
theorem dX8_layGame_67 : decode cX8_layGame 67 = .ok (.return_, 1) := by decide +kernel
set_option maxRecDepth 20000 in
theorem ggX8_isTile_X8_in : GoodIn wsX8_isTile wsX8_in := goodIn_r _ [4] rfl (by decide +kernel)
set_option maxRecDepth 20000 in
theorem gX8_isTile_X8_in : GoodIn wsX8_isTile (va_wsS RX8 56 yX8_in wsX8_in) := goodIn_app (goodIn_of _ (by decide +kernel)) ggX8_isTile_X8_in
theorem dX8_isTile_0 : decode cX8_isTile 0 = .ok (.iload_n 1, 1) := by decide +kernel
theorem dX8_isTile_1 : decode cX8_isTile 1 = .ok (.iconst 0, 1) := by decide +kernel
theorem dX8_isTile_2 : decode cX8_isTile 2 = .ok (.bipush 99, 2) := by decide +kernel
theorem dX8_isTile_4 : decode cX8_isTile 4 = .ok (.invokestatic 56, 3) := by decide +kernel
theorem dX8_isTile_7 : decode cX8_isTile 7 = .ok (.ifCond .eq 28, 3) := by decide +kernel
theorem dX8_isTile_10 : decode cX8_isTile 10 = .ok (.iload_n 1, 1) := by decide +kernel
theorem dX8_isTile_11 : decode cX8_isTile 11 = .ok (.bipush 10, 2) := by decide +kernel
theorem dX8_isTile_13 : decode cX8_isTile 13 = .ok (.idiv, 1) := by decide +kernel
theorem dX8_isTile_14 : decode cX8_isTile 14 = .ok (.iload_n 1, 1) := by decide +kernel
theorem dX8_isTile_15 : decode cX8_isTile 15 = .ok (.bipush 10, 2) := by decide +kernel
theorem dX8_isTile_17 : decode cX8_isTile 17 = .ok (.irem, 1) := by decide +kernel
theorem dX8_isTile_18 : decode cX8_isTile 18 = .ok (.if_icmp .gt 17, 3) := by decide +kernel
theorem dX8_isTile_21 : decode cX8_isTile 21 = .ok (.iload_n 1, 1) := by decide +kernel
theorem dX8_isTile_22 : decode cX8_isTile 22 = .ok (.bipush 10, 2) := by decide +kernel
theorem dX8_isTile_24 : decode cX8_isTile 24 = .ok (.irem, 1) := by decide +kernel
theorem dX8_isTile_25 : decode cX8_isTile 25 = .ok (.aload_n 0, 1) := by decide +kernel
theorem dX8_isTile_26 : decode cX8_isTile 26 = .ok (.iconst 0, 1) := by decide +kernel
theorem dX8_isTile_27 : decode cX8_isTile 27 = .ok (.iaload, 1) := by decide +kernel
theorem dX8_isTile_28 : decode cX8_isTile 28 = .ok (.if_icmp .gt 7, 3) := by decide +kernel
theorem dX8_isTile_31 : decode cX8_isTile 31 = .ok (.iconst 1, 1) := by decide +kernel
theorem dX8_isTile_32 : decode cX8_isTile 32 = .ok (.goto 4, 3) := by decide +kernel
theorem dX8_isTile_35 : decode cX8_isTile 35 = .ok (.iconst 0, 1) := by decide +kernel
theorem dX8_isTile_36 : decode cX8_isTile 36 = .ok (.ireturn, 1) := by decide +kernel
theorem dX8_pipsOf_0 : decode cX8_pipsOf 0 = .ok (.iload_n 0, 1) := by decide +kernel
theorem dX8_pipsOf_1 : decode cX8_pipsOf 1 = .ok (.bipush 10, 2) := by decide +kernel
