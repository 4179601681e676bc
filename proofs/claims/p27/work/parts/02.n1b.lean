theorem dX1_isOpen_9 : decode cX1_isOpen 9 = .ok (.getfield 47, 3) := by decide +kernel
theorem dX1_isOpen_12 : decode cX1_isOpen 12 = .ok (.iload_n 1, 1) := by decide +kernel
theorem dX1_isOpen_13 : decode cX1_isOpen 13 = .ok (.invokevirtual 155, 3) := by decide +kernel
theorem dX1_isOpen_16 : decode cX1_isOpen 16 = .ok (.ifCond .eq 7, 3) := by decide +kernel
theorem dX1_isOpen_19 : decode cX1_isOpen 19 = .ok (.iconst 1, 1) := by decide +kernel
theorem dX1_isOpen_20 : decode cX1_isOpen 20 = .ok (.goto 4, 3) := by decide +kernel
theorem dX1_isOpen_23 : decode cX1_isOpen 23 = .ok (.iconst 0, 1) := by decide +kernel
theorem dX1_isOpen_24 : decode cX1_isOpen 24 = .ok (.ireturn, 1) := by decide +kernel
set_option maxRecDepth 20000 in
theorem ggX1_playsOf_X1_obstacle : GoodIn wsX1_playsOf wsX1_obstacle := goodIn_r _ [6, 7, 8, 9, 10, 11, 12, 13, 5, 14, 15, 16, 17, 18, 19, 1, 20, 21, 22, 23, 24, 25, 26, 27, 28, 29, 30, 31, 32, 33, 34, 35, 36, 37, 38, 39, 40, 41, 42, 43, 44, 45, 46, 47, 48, 49, 50, 51, 52, 53, 54, 55, 56, 57, 58, 59, 60, 61, 62] rfl (by decide +kernel)
set_option maxRecDepth 20000 in
theorem gX1_playsOf_X1_obstacle : GoodIn wsX1_playsOf (wsV RX1 151 RX1 yX1_obstacle wsX1_obstacle) := goodIn_app (goodIn_of _ (by decide +kernel)) ggX1_playsOf_X1_obstacle
theorem dX1_playsOf_0 : decode cX1_playsOf 0 = .ok (.iconst 0, 1) := by decide +kernel
theorem dX1_playsOf_1 : decode cX1_playsOf 1 = .ok (.istore_n 2, 1) := by decide +kernel
theorem dX1_playsOf_2 : decode cX1_playsOf 2 = .ok (.iconst 0, 1) := by decide +kernel
theorem dX1_playsOf_3 : decode cX1_playsOf 3 = .ok (.istore_n 3, 1) := by decide +kernel
theorem dX1_playsOf_4 : decode cX1_playsOf 4 = .ok (.iload_n 3, 1) := by decide +kernel
theorem dX1_playsOf_5 : decode cX1_playsOf 5 = .ok (.aload_n 0, 1) := by decide +kernel
theorem dX1_playsOf_6 : decode cX1_playsOf 6 = .ok (.getfield 15, 3) := by decide +kernel
theorem dX1_playsOf_9 : decode cX1_playsOf 9 = .ok (.if_icmp .gt 21, 3) := by decide +kernel
theorem dX1_playsOf_12 : decode cX1_playsOf 12 = .ok (.aload_n 0, 1) := by decide +kernel
theorem dX1_playsOf_13 : decode cX1_playsOf 13 = .ok (.iload_n 1, 1) := by decide +kernel
theorem dX1_playsOf_14 : decode cX1_playsOf 14 = .ok (.iload_n 3, 1) := by decide +kernel
theorem dX1_playsOf_15 : decode cX1_playsOf 15 = .ok (.invokevirtual 151, 3) := by decide +kernel
theorem dX1_playsOf_18 : decode cX1_playsOf 18 = .ok (.ifCond .ne 6, 3) := by decide +kernel
theorem dX1_playsOf_21 : decode cX1_playsOf 21 = .ok (.iinc 2 1, 3) := by decide +kernel
theorem dX1_playsOf_24 : decode cX1_playsOf 24 = .ok (.iinc 3 1, 3) := by decide +kernel
theorem dX1_playsOf_27 : decode cX1_playsOf 27 = .ok (.goto (-23), 3) := by decide +kernel
theorem dX1_playsOf_30 : decode cX1_playsOf 30 = .ok (.iload_n 2, 1) := by decide +kernel
theorem dX1_playsOf_31 : decode cX1_playsOf 31 = .ok (.ireturn, 1) := by decide +kernel
set_option maxRecDepth 20000 in
theorem ggX1_playsNow_X1_holderOf : GoodIn wsX1_playsNow wsX1_holderOf := goodIn_r _ [6, 7, 46, 47, 48, 49, 50, 51, 52, 53, 54, 55, 56, 57, 58, 59, 60, 61] rfl (by decide +kernel)
set_option maxRecDepth 20000 in
theorem gX1_playsNow_X1_holderOf : GoodIn wsX1_playsNow (wsV RX1 132 RX1 yX1_holderOf wsX1_holderOf) := goodIn_app (goodIn_of _ (by decide +kernel)) ggX1_playsNow_X1_holderOf
set_option maxRecDepth 20000 in
theorem ggX1_playsNow_X1_playsOf : GoodIn wsX1_playsNow wsX1_playsOf := goodIn_r _ [11, 12, 13, 14, 15, 5, 16, 17, 1, 18, 19, 2, 3, 4, 6, 7, 20, 21, 22, 23, 24, 25, 26, 27, 28, 29, 30, 31, 32, 33, 34, 35, 36, 37, 38, 39, 40, 41, 42, 43, 44, 45, 46, 47, 48, 49, 50, 51, 52, 53, 54, 55, 56, 57, 58, 59, 60, 61, 62, 63, 64, 65, 66] rfl (by decide +kernel)
set_option maxRecDepth 20000 in
theorem gX1_playsNow_X1_playsOf : GoodIn wsX1_playsNow (wsV RX1 156 RX1 yX1_playsOf wsX1_playsOf) := goodIn_app (goodIn_of _ (by decide +kernel)) ggX1_playsNow_X1_playsOf
theorem dX1_playsNow_0 : decode cX1_playsNow 0 = .ok (.iconst 0, 1) := by decide +kernel
theorem dX1_playsNow_1 : decode cX1_playsNow 1 = .ok (.istore_n 1, 1) := by decide +kernel
theorem dX1_playsNow_2 : decode cX1_playsNow 2 = .ok (.iconst 0, 1) := by decide +kernel
theorem dX1_playsNow_3 : decode cX1_playsNow 3 = .ok (.istore_n 2, 1) := by decide +kernel
theorem dX1_playsNow_4 : decode cX1_playsNow 4 = .ok (.iload_n 2, 1) := by decide +kernel
theorem dX1_playsNow_5 : decode cX1_playsNow 5 = .ok (.bipush 100, 2) := by decide +kernel
theorem dX1_playsNow_7 : decode cX1_playsNow 7 = .ok (.if_icmp .ge 29, 3) := by decide +kernel
theorem dX1_playsNow_10 : decode cX1_playsNow 10 = .ok (.aload_n 0, 1) := by decide +kernel
theorem dX1_playsNow_11 : decode cX1_playsNow 11 = .ok (.iload_n 2, 1) := by decide +kernel
theorem dX1_playsNow_12 : decode cX1_playsNow 12 = .ok (.invokevirtual 132, 3) := by decide +kernel
theorem dX1_playsNow_15 : decode cX1_playsNow 15 = .ok (.aload_n 0, 1) := by decide +kernel
theorem dX1_playsNow_16 : decode cX1_playsNow 16 = .ok (.getfield 57, 3) := by decide +kernel
theorem dX1_playsNow_19 : decode cX1_playsNow 19 = .ok (.if_icmp .ne 11, 3) := by decide +kernel
theorem dX1_playsNow_22 : decode cX1_playsNow 22 = .ok (.iload_n 1, 1) := by decide +kernel
theorem dX1_playsNow_23 : decode cX1_playsNow 23 = .ok (.aload_n 0, 1) := by decide +kernel
theorem dX1_playsNow_24 : decode cX1_playsNow 24 = .ok (.iload_n 2, 1) := by decide +kernel
theorem dX1_playsNow_25 : decode cX1_playsNow 25 = .ok (.invokevirtual 156, 3) := by decide +kernel
theorem dX1_playsNow_28 : decode cX1_playsNow 28 = .ok (.iadd, 1) := by decide +kernel
theorem dX1_playsNow_29 : decode cX1_playsNow 29 = .ok (.istore_n 1, 1) := by decide +kernel
theorem dX1_playsNow_30 : decode cX1_playsNow 30 = .ok (.iinc 2 1, 3) := by decide +kernel
theorem dX1_playsNow_33 : decode cX1_playsNow 33 = .ok (.goto (-29), 3) := by decide +kernel
theorem dX1_playsNow_36 : decode cX1_playsNow 36 = .ok (.iload_n 1, 1) := by decide +kernel
theorem dX1_playsNow_37 : decode cX1_playsNow 37 = .ok (.ireturn, 1) := by decide +kernel
set_option maxRecDepth 20000 in
theorem ggX1_playableTiles_X1_holderOf : GoodIn wsX1_playableTiles wsX1_holderOf := goodIn_r _ [6, 7, 46, 47, 48, 49, 50, 51, 52, 53, 54, 55, 56, 57, 58, 59, 60, 61] rfl (by decide +kernel)
set_option maxRecDepth 20000 in
theorem gX1_playableTiles_X1_holderOf : GoodIn wsX1_playableTiles (wsV RX1 132 RX1 yX1_holderOf wsX1_holderOf) := goodIn_app (goodIn_of _ (by decide +kernel)) ggX1_playableTiles_X1_holderOf
set_option maxRecDepth 20000 in
theorem ggX1_playableTiles_X1_playsOf : GoodIn wsX1_playableTiles wsX1_playsOf := goodIn_r _ [11, 12, 13, 14, 15, 5, 16, 17, 1, 18, 19, 2, 3, 4, 6, 7, 20, 21, 22, 23, 24, 25, 26, 27, 28, 29, 30, 31, 32, 33, 34, 35, 36, 37, 38, 39, 40, 41, 42, 43, 44, 45, 46, 47, 48, 49, 50, 51, 52, 53, 54, 55, 56, 57, 58, 59, 60, 61, 62, 63, 64, 65, 66] rfl (by decide +kernel)
set_option maxRecDepth 20000 in
theorem gX1_playableTiles_X1_playsOf : GoodIn wsX1_playableTiles (wsV RX1 156 RX1 yX1_playsOf wsX1_playsOf) := goodIn_app (goodIn_of _ (by decide +kernel)) ggX1_playableTiles_X1_playsOf
theorem dX1_playableTiles_0 : decode cX1_playableTiles 0 = .ok (.iconst 0, 1) := by decide +kernel
theorem dX1_playableTiles_1 : decode cX1_playableTiles 1 = .ok (.istore_n 2, 1) := by decide +kernel
theorem dX1_playableTiles_2 : decode cX1_playableTiles 2 = .ok (.iconst 0, 1) := by decide +kernel
theorem dX1_playableTiles_3 : decode cX1_playableTiles 3 = .ok (.istore_n 3, 1) := by decide +kernel
theorem dX1_playableTiles_4 : decode cX1_playableTiles 4 = .ok (.iload_n 3, 1) := by decide +kernel
theorem dX1_playableTiles_5 : decode cX1_playableTiles 5 = .ok (.bipush 100, 2) := by decide +kernel
theorem dX1_playableTiles_7 : decode cX1_playableTiles 7 = .ok (.if_icmp .ge 37, 3) := by decide +kernel
theorem dX1_playableTiles_10 : decode cX1_playableTiles 10 = .ok (.iload_n 1, 1) := by decide +kernel
theorem dX1_playableTiles_11 : decode cX1_playableTiles 11 = .ok (.aload_n 0, 1) := by decide +kernel
theorem dX1_playableTiles_12 : decode cX1_playableTiles 12 = .ok (.getfield 57, 3) := by decide +kernel
theorem dX1_playableTiles_15 : decode cX1_playableTiles 15 = .ok (.if_icmp .ne 23, 3) := by decide +kernel
theorem dX1_playableTiles_18 : decode cX1_playableTiles 18 = .ok (.aload_n 0, 1) := by decide +kernel
theorem dX1_playableTiles_19 : decode cX1_playableTiles 19 = .ok (.iload_n 3, 1) := by decide +kernel
theorem dX1_playableTiles_20 : decode cX1_playableTiles 20 = .ok (.invokevirtual 132, 3) := by decide +kernel
theorem dX1_playableTiles_23 : decode cX1_playableTiles 23 = .ok (.iload_n 1, 1) := by decide +kernel
theorem dX1_playableTiles_24 : decode cX1_playableTiles 24 = .ok (.if_icmp .ne 14, 3) := by decide +kernel
theorem dX1_playableTiles_27 : decode cX1_playableTiles 27 = .ok (.aload_n 0, 1) := by decide +kernel
theorem dX1_playableTiles_28 : decode cX1_playableTiles 28 = .ok (.iload_n 3, 1) := by decide +kernel
theorem dX1_playableTiles_29 : decode cX1_playableTiles 29 = .ok (.invokevirtual 156, 3) := by decide +kernel
theorem dX1_playableTiles_32 : decode cX1_playableTiles 32 = .ok (.ifCond .le 6, 3) := by decide +kernel
theorem dX1_playableTiles_35 : decode cX1_playableTiles 35 = .ok (.iinc 2 1, 3) := by decide +kernel
theorem dX1_playableTiles_38 : decode cX1_playableTiles 38 = .ok (.iinc 3 1, 3) := by decide +kernel
theorem dX1_playableTiles_41 : decode cX1_playableTiles 41 = .ok (.goto (-37), 3) := by decide +kernel
theorem dX1_playableTiles_44 : decode cX1_playableTiles 44 = .ok (.iload_n 2, 1) := by decide +kernel
theorem dX1_playableTiles_45 : decode cX1_playableTiles 45 = .ok (.ireturn, 1) := by decide +kernel
set_option maxRecDepth 20000 in
theorem ggX1_rankOf_X7_pipsOf : GoodIn wsX1_rankOf wsX7_pipsOf := goodIn_r _ [6, 7, 8, 5, 9, 10, 11, 12] rfl (by decide +kernel)
set_option maxRecDepth 20000 in
theorem gX1_rankOf_X7_pipsOf_n138 : GoodIn wsX1_rankOf (wsX7_pipsOf) := ggX1_rankOf_X7_pipsOf
set_option maxRecDepth 20000 in
theorem ggX1_rankOf_X1_handCount : GoodIn wsX1_rankOf wsX1_handCount := goodIn_r _ [17, 18, 19, 20, 16, 21, 22, 51, 52, 53, 54, 55, 56, 57, 58, 59, 60, 61, 62, 63, 64, 65, 66] rfl (by decide +kernel)
set_option maxRecDepth 20000 in
theorem gX1_rankOf_X1_handCount : GoodIn wsX1_rankOf (wsV RX1 112 RX1 yX1_handCount wsX1_handCount) := goodIn_app (goodIn_of _ (by decide +kernel)) ggX1_rankOf_X1_handCount
set_option maxRecDepth 20000 in
theorem ggX1_rankOf_X7_isDouble : GoodIn wsX1_rankOf wsX7_isDouble := goodIn_r _ [24, 7, 8, 5, 9, 10, 11, 12] rfl (by decide +kernel)
set_option maxRecDepth 20000 in
theorem gX1_rankOf_X7_isDouble_n135 : GoodIn wsX1_rankOf (wsX7_isDouble) := ggX1_rankOf_X7_isDouble
set_option maxRecDepth 20000 in
theorem ggX1_rankOf_X0_value : GoodIn wsX1_rankOf wsX0_value := goodIn_r _ [29, 30, 31, 32, 5, 33, 34, 35, 28, 36, 37, 38, 39, 40, 41, 42, 43, 44, 45, 46, 47, 48, 49, 50, 67, 68] rfl (by decide +kernel)
set_option maxRecDepth 20000 in
theorem gX1_rankOf_X0_value : GoodIn wsX1_rankOf (wsV RX1 159 RX0 yX0_value wsX0_value) := goodIn_app (goodIn_of _ (by decide +kernel)) ggX1_rankOf_X0_value
theorem dX1_rankOf_0 : decode cX1_rankOf 0 = .ok (.aload_n 0, 1) := by decide +kernel
theorem dX1_rankOf_1 : decode cX1_rankOf 1 = .ok (.getfield 73, 3) := by decide +kernel
theorem dX1_rankOf_4 : decode cX1_rankOf 4 = .ok (.astore_n 3, 1) := by decide +kernel
theorem dX1_rankOf_5 : decode cX1_rankOf 5 = .ok (.aload_n 3, 1) := by decide +kernel
theorem dX1_rankOf_6 : decode cX1_rankOf 6 = .ok (.ifnonnull 8, 3) := by decide +kernel
theorem dX1_rankOf_9 : decode cX1_rankOf 9 = .ok (.iload_n 1, 1) := by decide +kernel
theorem dX1_rankOf_10 : decode cX1_rankOf 10 = .ok (.invokestatic 138, 3) := by decide +kernel
theorem dX1_rankOf_13 : decode cX1_rankOf 13 = .ok (.ireturn, 1) := by decide +kernel
theorem dX1_rankOf_14 : decode cX1_rankOf 14 = .ok (.aload_n 0, 1) := by decide +kernel
theorem dX1_rankOf_15 : decode cX1_rankOf 15 = .ok (.aload_n 0, 1) := by decide +kernel
theorem dX1_rankOf_16 : decode cX1_rankOf 16 = .ok (.getfield 57, 3) := by decide +kernel
theorem dX1_rankOf_19 : decode cX1_rankOf 19 = .ok (.invokevirtual 112, 3) := by decide +kernel
theorem dX1_rankOf_22 : decode cX1_rankOf 22 = .ok (.iconst 1, 1) := by decide +kernel
theorem dX1_rankOf_23 : decode cX1_rankOf 23 = .ok (.isub, 1) := by decide +kernel
theorem dX1_rankOf_24 : decode cX1_rankOf 24 = .ok (.istore 4, 2) := by decide +kernel
theorem dX1_rankOf_26 : decode cX1_rankOf 26 = .ok (.aload_n 3, 1) := by decide +kernel
theorem dX1_rankOf_27 : decode cX1_rankOf 27 = .ok (.iload_n 1, 1) := by decide +kernel
theorem dX1_rankOf_28 : decode cX1_rankOf 28 = .ok (.invokestatic 138, 3) := by decide +kernel
theorem dX1_rankOf_31 : decode cX1_rankOf 31 = .ok (.iload_n 1, 1) := by decide +kernel
theorem dX1_rankOf_32 : decode cX1_rankOf 32 = .ok (.invokestatic 135, 3) := by decide +kernel
theorem dX1_rankOf_35 : decode cX1_rankOf 35 = .ok (.iload_n 2, 1) := by decide +kernel
theorem dX1_rankOf_36 : decode cX1_rankOf 36 = .ok (.aload_n 0, 1) := by decide +kernel
theorem dX1_rankOf_37 : decode cX1_rankOf 37 = .ok (.getfield 57, 3) := by decide +kernel
theorem dX1_rankOf_40 : decode cX1_rankOf 40 = .ok (.if_icmp .ne 7, 3) := by decide +kernel
theorem dX1_rankOf_43 : decode cX1_rankOf 43 = .ok (.iconst 1, 1) := by decide +kernel
theorem dX1_rankOf_44 : decode cX1_rankOf 44 = .ok (.goto 4, 3) := by decide +kernel
theorem dX1_rankOf_47 : decode cX1_rankOf 47 = .ok (.iconst 0, 1) := by decide +kernel
theorem dX1_rankOf_48 : decode cX1_rankOf 48 = .ok (.iload_n 2, 1) := by decide +kernel
theorem dX1_rankOf_49 : decode cX1_rankOf 49 = .ok (.aload_n 0, 1) := by decide +kernel
theorem dX1_rankOf_50 : decode cX1_rankOf 50 = .ok (.getfield 15, 3) := by decide +kernel
theorem dX1_rankOf_53 : decode cX1_rankOf 53 = .ok (.if_icmp .ne 7, 3) := by decide +kernel
theorem dX1_rankOf_56 : decode cX1_rankOf 56 = .ok (.iconst 1, 1) := by decide +kernel
theorem dX1_rankOf_57 : decode cX1_rankOf 57 = .ok (.goto 4, 3) := by decide +kernel
theorem dX1_rankOf_60 : decode cX1_rankOf 60 = .ok (.iconst 0, 1) := by decide +kernel
theorem dX1_rankOf_61 : decode cX1_rankOf 61 = .ok (.iload 4, 2) := by decide +kernel
theorem dX1_rankOf_63 : decode cX1_rankOf 63 = .ok (.invokevirtual 159, 3) := by decide +kernel
theorem dX1_rankOf_66 : decode cX1_rankOf 66 = .ok (.ireturn, 1) := by decide +kernel
set_option maxRecDepth 20000 in
theorem ggX1_bestPlay_X1_holderOf : GoodIn wsX1_bestPlay wsX1_holderOf := goodIn_r _ [7, 8, 79, 80, 81, 82, 83, 84, 85, 86, 87, 88, 89, 90, 91, 92, 93, 94] rfl (by decide +kernel)
set_option maxRecDepth 20000 in
theorem gX1_bestPlay_X1_holderOf : GoodIn wsX1_bestPlay (wsV RX1 132 RX1 yX1_holderOf wsX1_holderOf) := goodIn_app (goodIn_of _ (by decide +kernel)) ggX1_bestPlay_X1_holderOf
set_option maxRecDepth 20000 in
theorem ggX1_bestPlay_X1_obstacle : GoodIn wsX1_bestPlay wsX1_obstacle := goodIn_r _ [12, 13, 1, 14, 15, 3, 4, 5, 6, 7, 8, 16, 17, 18, 19, 2, 20, 21, 22, 23, 24, 25, 26, 27, 28, 29, 30, 31, 32, 33, 34, 35, 36, 37, 38, 39, 40, 41, 79, 80, 81, 82, 83, 84, 85, 86, 87, 88, 89, 90, 91, 92, 93, 94, 95, 96, 97, 98, 99] rfl (by decide +kernel)
set_option maxRecDepth 20000 in
theorem gX1_bestPlay_X1_obstacle : GoodIn wsX1_bestPlay (wsV RX1 151 RX1 yX1_obstacle wsX1_obstacle) := goodIn_app (goodIn_of _ (by decide +kernel)) ggX1_bestPlay_X1_obstacle
set_option maxRecDepth 20000 in
theorem ggX1_bestPlay_X1_rankOf : GoodIn wsX1_bestPlay wsX1_rankOf := goodIn_r _ [45, 46, 1, 2, 47, 27, 48, 36, 37, 38, 39, 40, 41, 49, 50, 51, 6, 52, 3, 4, 5, 7, 8, 53, 54, 55, 56, 57, 58, 59, 60, 61, 26, 28, 62, 63, 64, 65, 66, 67, 68, 69, 70, 71, 72, 73, 74, 75, 76, 77, 78, 79, 80, 81, 82, 83, 84, 85, 86, 87, 88, 89, 90, 91, 92, 93, 94, 100, 101] rfl (by decide +kernel)
set_option maxRecDepth 20000 in
theorem gX1_bestPlay_X1_rankOf : GoodIn wsX1_bestPlay (wsV RX1 165 RX1 yX1_rankOf wsX1_rankOf) := goodIn_app (goodIn_of _ (by decide +kernel)) ggX1_bestPlay_X1_rankOf
theorem dX1_bestPlay_0 : decode cX1_bestPlay 0 = .ok (.iconst (-1), 1) := by decide +kernel
theorem dX1_bestPlay_1 : decode cX1_bestPlay 1 = .ok (.istore_n 1, 1) := by decide +kernel
theorem dX1_bestPlay_2 : decode cX1_bestPlay 2 = .ok (.iconst 0, 1) := by decide +kernel
theorem dX1_bestPlay_3 : decode cX1_bestPlay 3 = .ok (.istore_n 2, 1) := by decide +kernel
theorem dX1_bestPlay_4 : decode cX1_bestPlay 4 = .ok (.iconst 0, 1) := by decide +kernel
theorem dX1_bestPlay_5 : decode cX1_bestPlay 5 = .ok (.istore_n 3, 1) := by decide +kernel
theorem dX1_bestPlay_6 : decode cX1_bestPlay 6 = .ok (.iload_n 3, 1) := by decide +kernel
theorem dX1_bestPlay_7 : decode cX1_bestPlay 7 = .ok (.bipush 100, 2) := by decide +kernel
theorem dX1_bestPlay_9 : decode cX1_bestPlay 9 = .ok (.if_icmp .ge 83, 3) := by decide +kernel
theorem dX1_bestPlay_12 : decode cX1_bestPlay 12 = .ok (.aload_n 0, 1) := by decide +kernel
theorem dX1_bestPlay_13 : decode cX1_bestPlay 13 = .ok (.iload_n 3, 1) := by decide +kernel
theorem dX1_bestPlay_14 : decode cX1_bestPlay 14 = .ok (.invokevirtual 132, 3) := by decide +kernel
theorem dX1_bestPlay_17 : decode cX1_bestPlay 17 = .ok (.aload_n 0, 1) := by decide +kernel
theorem dX1_bestPlay_18 : decode cX1_bestPlay 18 = .ok (.getfield 57, 3) := by decide +kernel
theorem dX1_bestPlay_21 : decode cX1_bestPlay 21 = .ok (.if_icmp .eq 6, 3) := by decide +kernel
theorem dX1_bestPlay_24 : decode cX1_bestPlay 24 = .ok (.goto 62, 3) := by decide +kernel
theorem dX1_bestPlay_27 : decode cX1_bestPlay 27 = .ok (.iconst 0, 1) := by decide +kernel
theorem dX1_bestPlay_28 : decode cX1_bestPlay 28 = .ok (.istore 4, 2) := by decide +kernel
theorem dX1_bestPlay_30 : decode cX1_bestPlay 30 = .ok (.iload 4, 2) := by decide +kernel
theorem dX1_bestPlay_32 : decode cX1_bestPlay 32 = .ok (.aload_n 0, 1) := by decide +kernel
theorem dX1_bestPlay_33 : decode cX1_bestPlay 33 = .ok (.getfield 15, 3) := by decide +kernel
theorem dX1_bestPlay_36 : decode cX1_bestPlay 36 = .ok (.if_icmp .gt 50, 3) := by decide +kernel
theorem dX1_bestPlay_39 : decode cX1_bestPlay 39 = .ok (.aload_n 0, 1) := by decide +kernel
theorem dX1_bestPlay_40 : decode cX1_bestPlay 40 = .ok (.iload_n 3, 1) := by decide +kernel
theorem dX1_bestPlay_41 : decode cX1_bestPlay 41 = .ok (.iload 4, 2) := by decide +kernel
theorem dX1_bestPlay_43 : decode cX1_bestPlay 43 = .ok (.invokevirtual 151, 3) := by decide +kernel
theorem dX1_bestPlay_46 : decode cX1_bestPlay 46 = .ok (.ifCond .ne 34, 3) := by decide +kernel
theorem dX1_bestPlay_49 : decode cX1_bestPlay 49 = .ok (.aload_n 0, 1) := by decide +kernel
theorem dX1_bestPlay_50 : decode cX1_bestPlay 50 = .ok (.iload_n 3, 1) := by decide +kernel
theorem dX1_bestPlay_51 : decode cX1_bestPlay 51 = .ok (.iload 4, 2) := by decide +kernel
theorem dX1_bestPlay_53 : decode cX1_bestPlay 53 = .ok (.invokevirtual 165, 3) := by decide +kernel
theorem dX1_bestPlay_56 : decode cX1_bestPlay 56 = .ok (.istore 5, 2) := by decide +kernel
theorem dX1_bestPlay_58 : decode cX1_bestPlay 58 = .ok (.iload_n 1, 1) := by decide +kernel
theorem dX1_bestPlay_59 : decode cX1_bestPlay 59 = .ok (.iconst (-1), 1) := by decide +kernel
theorem dX1_bestPlay_60 : decode cX1_bestPlay 60 = .ok (.if_icmp .eq 9, 3) := by decide +kernel
theorem dX1_bestPlay_63 : decode cX1_bestPlay 63 = .ok (.iload 5, 2) := by decide +kernel
theorem dX1_bestPlay_65 : decode cX1_bestPlay 65 = .ok (.iload_n 2, 1) := by decide +kernel
theorem dX1_bestPlay_66 : decode cX1_bestPlay 66 = .ok (.if_icmp .le 14, 3) := by decide +kernel
theorem dX1_bestPlay_69 : decode cX1_bestPlay 69 = .ok (.bipush 10, 2) := by decide +kernel
theorem dX1_bestPlay_71 : decode cX1_bestPlay 71 = .ok (.iload_n 3, 1) := by decide +kernel
theorem dX1_bestPlay_72 : decode cX1_bestPlay 72 = .ok (.imul, 1) := by decide +kernel
theorem dX1_bestPlay_73 : decode cX1_bestPlay 73 = .ok (.iload 4, 2) := by decide +kernel
theorem dX1_bestPlay_75 : decode cX1_bestPlay 75 = .ok (.iadd, 1) := by decide +kernel
theorem dX1_bestPlay_76 : decode cX1_bestPlay 76 = .ok (.istore_n 1, 1) := by decide +kernel
theorem dX1_bestPlay_77 : decode cX1_bestPlay 77 = .ok (.iload 5, 2) := by decide +kernel
theorem dX1_bestPlay_79 : decode cX1_bestPlay 79 = .ok (.istore_n 2, 1) := by decide +kernel
theorem dX1_bestPlay_80 : decode cX1_bestPlay 80 = .ok (.iinc 4 1, 3) := by decide +kernel
theorem dX1_bestPlay_83 : decode cX1_bestPlay 83 = .ok (.goto (-53), 3) := by decide +kernel
theorem dX1_bestPlay_86 : decode cX1_bestPlay 86 = .ok (.iinc 3 1, 3) := by decide +kernel
theorem dX1_bestPlay_89 : decode cX1_bestPlay 89 = .ok (.goto (-83), 3) := by decide +kernel
theorem dX1_bestPlay_92 : decode cX1_bestPlay 92 = .ok (.iload_n 1, 1) := by decide +kernel
theorem dX1_bestPlay_93 : decode cX1_bestPlay 93 = .ok (.ireturn, 1) := by decide +kernel
set_option maxRecDepth 20000 in
theorem ggX1_layTile_X7_put : GoodIn wsX1_layTile wsX7_put := goodIn_r _ [9] rfl (by decide +kernel)
set_option maxRecDepth 20000 in
theorem gX1_layTile_X7_put_n122 : GoodIn wsX1_layTile (wsX7_put) := ggX1_layTile_X7_put
set_option maxRecDepth 20000 in
theorem ggX1_layTile_X6_lay : GoodIn wsX1_layTile wsX6_lay := goodIn_r _ [14, 15, 16, 17, 18, 7, 8, 9, 19, 20, 21, 22, 23, 24, 25, 26, 27, 28, 29, 13, 30, 31, 32, 81, 82, 83, 84, 85] rfl (by decide +kernel)
set_option maxRecDepth 20000 in
theorem gX1_layTile_X6_lay : GoodIn wsX1_layTile (wsV RX1 168 RX6 yX6_lay wsX6_lay) := goodIn_app (goodIn_of _ (by decide +kernel)) ggX1_layTile_X6_lay
set_option maxRecDepth 20000 in
theorem ggX1_layTile_X6_setOpen : GoodIn wsX1_layTile wsX6_setOpen := goodIn_r _ [36, 37, 7, 8, 9, 81, 82, 83, 84, 85] rfl (by decide +kernel)
set_option maxRecDepth 20000 in
theorem gX1_layTile_X6_setOpen : GoodIn wsX1_layTile (wsV RX1 172 RX6 yX6_setOpen wsX6_setOpen) := goodIn_app (goodIn_of _ (by decide +kernel)) ggX1_layTile_X6_setOpen
set_option maxRecDepth 20000 in
theorem ggX1_layTile_X7_isDouble : GoodIn wsX1_layTile wsX7_isDouble := goodIn_r _ [39, 21, 22, 8, 23, 24, 25, 26] rfl (by decide +kernel)
set_option maxRecDepth 20000 in
theorem gX1_layTile_X7_isDouble_n135 : GoodIn wsX1_layTile (wsX7_isDouble) := ggX1_layTile_X7_isDouble
set_option maxRecDepth 20000 in
theorem ggX1_layTile_X1_handCount : GoodIn wsX1_layTile wsX1_handCount := goodIn_r _ [44, 45, 46, 47, 43, 48, 1, 65, 66, 67, 68, 69, 70, 71, 72, 73, 74, 75, 76, 77, 78, 79, 80] rfl (by decide +kernel)
set_option maxRecDepth 20000 in
theorem gX1_layTile_X1_handCount : GoodIn wsX1_layTile (wsV RX1 112 RX1 yX1_handCount wsX1_handCount) := goodIn_app (goodIn_of _ (by decide +kernel)) ggX1_layTile_X1_handCount
set_option maxRecDepth 20000 in
theorem ggX1_layTile_X1_endRound : GoodIn wsX1_layTile wsX1_endRound := goodIn_r _ [52, 53, 54, 55, 56, 31, 8, 32, 57, 58, 59, 43, 60, 45, 46, 47, 48, 1, 19, 20, 21, 22, 23, 24, 25, 26, 7, 9, 65, 66, 67, 68, 69, 70, 71, 72, 73, 74, 75, 76, 77, 78, 79, 80] rfl (by decide +kernel)
set_option maxRecDepth 20000 in
theorem gX1_layTile_X1_endRound : GoodIn wsX1_layTile (wsV RX1 176 RX1 yX1_endRound wsX1_endRound) := goodIn_app (goodIn_of _ (by decide +kernel)) ggX1_layTile_X1_endRound
set_option maxRecDepth 20000 in
theorem ggX1_layTile_X1_nextTurn : GoodIn wsX1_layTile wsX1_nextTurn := goodIn_r _ [64, 3, 55, 6, 65, 66, 67, 68, 69, 70, 71, 72, 73, 74, 75, 76, 77, 78, 79, 80] rfl (by decide +kernel)
set_option maxRecDepth 20000 in
theorem gX1_layTile_X1_nextTurn : GoodIn wsX1_layTile (wsV RX1 179 RX1 yX1_nextTurn wsX1_nextTurn) := goodIn_app (goodIn_of _ (by decide +kernel)) ggX1_layTile_X1_nextTurn
theorem dX1_layTile_0 : decode cX1_layTile 0 = .ok (.aload_n 0, 1) := by decide +kernel
theorem dX1_layTile_1 : decode cX1_layTile 1 = .ok (.getfield 30, 3) := by decide +kernel
theorem dX1_layTile_4 : decode cX1_layTile 4 = .ok (.iload_n 1, 1) := by decide +kernel
theorem dX1_layTile_5 : decode cX1_layTile 5 = .ok (.iconst (-1), 1) := by decide +kernel
theorem dX1_layTile_6 : decode cX1_layTile 6 = .ok (.invokestatic 122, 3) := by decide +kernel
theorem dX1_layTile_9 : decode cX1_layTile 9 = .ok (.aload_n 0, 1) := by decide +kernel
theorem dX1_layTile_10 : decode cX1_layTile 10 = .ok (.getfield 47, 3) := by decide +kernel
theorem dX1_layTile_13 : decode cX1_layTile 13 = .ok (.iload_n 1, 1) := by decide +kernel
theorem dX1_layTile_14 : decode cX1_layTile 14 = .ok (.iload_n 2, 1) := by decide +kernel
theorem dX1_layTile_15 : decode cX1_layTile 15 = .ok (.invokevirtual 168, 3) := by decide +kernel
theorem dX1_layTile_18 : decode cX1_layTile 18 = .ok (.iload_n 2, 1) := by decide +kernel
theorem dX1_layTile_19 : decode cX1_layTile 19 = .ok (.aload_n 0, 1) := by decide +kernel
theorem dX1_layTile_20 : decode cX1_layTile 20 = .ok (.getfield 57, 3) := by decide +kernel
theorem dX1_layTile_23 : decode cX1_layTile 23 = .ok (.if_icmp .ne 12, 3) := by decide +kernel
theorem dX1_layTile_26 : decode cX1_layTile 26 = .ok (.aload_n 0, 1) := by decide +kernel
theorem dX1_layTile_27 : decode cX1_layTile 27 = .ok (.getfield 47, 3) := by decide +kernel
theorem dX1_layTile_30 : decode cX1_layTile 30 = .ok (.iload_n 2, 1) := by decide +kernel
theorem dX1_layTile_31 : decode cX1_layTile 31 = .ok (.iconst 0, 1) := by decide +kernel
theorem dX1_layTile_32 : decode cX1_layTile 32 = .ok (.invokevirtual 172, 3) := by decide +kernel
theorem dX1_layTile_35 : decode cX1_layTile 35 = .ok (.aload_n 0, 1) := by decide +kernel
theorem dX1_layTile_36 : decode cX1_layTile 36 = .ok (.iload_n 1, 1) := by decide +kernel
theorem dX1_layTile_37 : decode cX1_layTile 37 = .ok (.invokestatic 135, 3) := by decide +kernel
theorem dX1_layTile_40 : decode cX1_layTile 40 = .ok (.ifCond .eq 7, 3) := by decide +kernel
theorem dX1_layTile_43 : decode cX1_layTile 43 = .ok (.iload_n 2, 1) := by decide +kernel
theorem dX1_layTile_44 : decode cX1_layTile 44 = .ok (.goto 4, 3) := by decide +kernel
theorem dX1_layTile_47 : decode cX1_layTile 47 = .ok (.iconst (-1), 1) := by decide +kernel
theorem dX1_layTile_48 : decode cX1_layTile 48 = .ok (.putfield 27, 3) := by decide +kernel
theorem dX1_layTile_51 : decode cX1_layTile 51 = .ok (.aload_n 0, 1) := by decide +kernel
theorem dX1_layTile_52 : decode cX1_layTile 52 = .ok (.iconst 0, 1) := by decide +kernel
theorem dX1_layTile_53 : decode cX1_layTile 53 = .ok (.putfield 70, 3) := by decide +kernel
theorem dX1_layTile_56 : decode cX1_layTile 56 = .ok (.aload_n 0, 1) := by decide +kernel
theorem dX1_layTile_57 : decode cX1_layTile 57 = .ok (.aload_n 0, 1) := by decide +kernel
theorem dX1_layTile_58 : decode cX1_layTile 58 = .ok (.getfield 57, 3) := by decide +kernel
theorem dX1_layTile_61 : decode cX1_layTile 61 = .ok (.invokevirtual 112, 3) := by decide +kernel
theorem dX1_layTile_64 : decode cX1_layTile 64 = .ok (.ifCond .ne 10, 3) := by decide +kernel
theorem dX1_layTile_67 : decode cX1_layTile 67 = .ok (.aload_n 0, 1) := by decide +kernel
theorem dX1_layTile_68 : decode cX1_layTile 68 = .ok (.invokevirtual 176, 3) := by decide +kernel
theorem dX1_layTile_71 : decode cX1_layTile 71 = .ok (.goto 22, 3) := by decide +kernel
theorem dX1_layTile_74 : decode cX1_layTile 74 = .ok (.iload_n 1, 1) := by decide +kernel
theorem dX1_layTile_75 : decode cX1_layTile 75 = .ok (.invokestatic 135, 3) := by decide +kernel
theorem dX1_layTile_78 : decode cX1_layTile 78 = .ok (.ifCond .eq 11, 3) := by decide +kernel
theorem dX1_layTile_81 : decode cX1_layTile 81 = .ok (.aload_n 0, 1) := by decide +kernel
theorem dX1_layTile_82 : decode cX1_layTile 82 = .ok (.iconst 0, 1) := by decide +kernel
theorem dX1_layTile_83 : decode cX1_layTile 83 = .ok (.putfield 60, 3) := by decide +kernel
theorem dX1_layTile_86 : decode cX1_layTile 86 = .ok (.goto 7, 3) := by decide +kernel
theorem dX1_layTile_89 : decode cX1_layTile 89 = .ok (.aload_n 0, 1) := by decide +kernel
theorem dX1_layTile_90 : decode cX1_layTile 90 = .ok (.invokevirtual 179, 3) := by decide +kernel
theorem dX1_layTile_93 : decode cX1_layTile 93 = .ok (.return_, 1) := by decide +kernel
set_option maxRecDepth 20000 in
theorem ggX1_mayDraw_X4_size : GoodIn wsX1_mayDraw wsX4_size := goodIn_r _ [8, 9, 10, 75, 76, 77] rfl (by decide +kernel)
set_option maxRecDepth 20000 in
theorem gX1_mayDraw_X4_size : GoodIn wsX1_mayDraw (wsV RX1 115 RX4 yX4_size wsX4_size) := goodIn_app (goodIn_of _ (by decide +kernel)) ggX1_mayDraw_X4_size
set_option maxRecDepth 20000 in
theorem ggX1_mayDraw_X1_playsNow : GoodIn wsX1_mayDraw wsX1_playsNow := goodIn_r _ [15, 16, 17, 18, 19, 14, 20, 21, 22, 23, 24, 25, 26, 27, 28, 29, 30, 1, 31, 32, 33, 34, 35, 36, 37, 38, 39, 40, 41, 42, 43, 44, 45, 46, 47, 48, 49, 50, 51, 52, 53, 54, 55, 56, 57, 58, 59, 60, 61, 62, 63, 64, 65, 66, 67, 68, 69, 70, 71, 72, 73, 74, 78, 79, 80, 81, 82] rfl (by decide +kernel)
set_option maxRecDepth 20000 in
theorem gX1_mayDraw_X1_playsNow : GoodIn wsX1_mayDraw (wsV RX1 182 RX1 yX1_playsNow wsX1_playsNow) := goodIn_app (goodIn_of _ (by decide +kernel)) ggX1_mayDraw_X1_playsNow
theorem dX1_mayDraw_0 : decode cX1_mayDraw 0 = .ok (.aload_n 0, 1) := by decide +kernel
theorem dX1_mayDraw_1 : decode cX1_mayDraw 1 = .ok (.getfield 64, 3) := by decide +kernel
theorem dX1_mayDraw_4 : decode cX1_mayDraw 4 = .ok (.ifCond .ne 31, 3) := by decide +kernel
theorem dX1_mayDraw_7 : decode cX1_mayDraw 7 = .ok (.aload_n 0, 1) := by decide +kernel
theorem dX1_mayDraw_8 : decode cX1_mayDraw 8 = .ok (.getfield 60, 3) := by decide +kernel
theorem dX1_mayDraw_11 : decode cX1_mayDraw 11 = .ok (.ifCond .ne 24, 3) := by decide +kernel
theorem dX1_mayDraw_14 : decode cX1_mayDraw 14 = .ok (.aload_n 0, 1) := by decide +kernel
theorem dX1_mayDraw_15 : decode cX1_mayDraw 15 = .ok (.getfield 40, 3) := by decide +kernel
theorem dX1_mayDraw_18 : decode cX1_mayDraw 18 = .ok (.invokevirtual 115, 3) := by decide +kernel
theorem dX1_mayDraw_21 : decode cX1_mayDraw 21 = .ok (.ifCond .le 14, 3) := by decide +kernel
theorem dX1_mayDraw_24 : decode cX1_mayDraw 24 = .ok (.aload_n 0, 1) := by decide +kernel
theorem dX1_mayDraw_25 : decode cX1_mayDraw 25 = .ok (.invokevirtual 182, 3) := by decide +kernel
theorem dX1_mayDraw_28 : decode cX1_mayDraw 28 = .ok (.ifCond .ne 7, 3) := by decide +kernel
theorem dX1_mayDraw_31 : decode cX1_mayDraw 31 = .ok (.iconst 1, 1) := by decide +kernel
theorem dX1_mayDraw_32 : decode cX1_mayDraw 32 = .ok (.goto 4, 3) := by decide +kernel
theorem dX1_mayDraw_35 : decode cX1_mayDraw 35 = .ok (.iconst 0, 1) := by decide +kernel
theorem dX1_mayDraw_36 : decode cX1_mayDraw 36 = .ok (.ireturn, 1) := by decide +kernel
set_option maxRecDepth 20000 in
theorem ggX1_mayPass_X4_size : GoodIn wsX1_mayPass wsX4_size := goodIn_r _ [8, 9, 10, 75, 76, 77] rfl (by decide +kernel)
set_option maxRecDepth 20000 in
theorem gX1_mayPass_X4_size : GoodIn wsX1_mayPass (wsV RX1 115 RX4 yX4_size wsX4_size) := goodIn_app (goodIn_of _ (by decide +kernel)) ggX1_mayPass_X4_size
set_option maxRecDepth 20000 in
theorem ggX1_mayPass_X1_playsNow : GoodIn wsX1_mayPass wsX1_playsNow := goodIn_r _ [15, 16, 17, 18, 19, 14, 20, 21, 22, 23, 24, 25, 26, 27, 28, 29, 30, 1, 31, 32, 33, 34, 35, 36, 37, 38, 39, 40, 41, 42, 43, 44, 45, 46, 47, 48, 49, 50, 51, 52, 53, 54, 55, 56, 57, 58, 59, 60, 61, 62, 63, 64, 65, 66, 67, 68, 69, 70, 71, 72, 73, 74, 78, 79, 80, 81, 82] rfl (by decide +kernel)
set_option maxRecDepth 20000 in
theorem gX1_mayPass_X1_playsNow : GoodIn wsX1_mayPass (wsV RX1 182 RX1 yX1_playsNow wsX1_playsNow) := goodIn_app (goodIn_of _ (by decide +kernel)) ggX1_mayPass_X1_playsNow
theorem dX1_mayPass_0 : decode cX1_mayPass 0 = .ok (.aload_n 0, 1) := by decide +kernel
theorem dX1_mayPass_1 : decode cX1_mayPass 1 = .ok (.getfield 64, 3) := by decide +kernel
theorem dX1_mayPass_4 : decode cX1_mayPass 4 = .ok (.ifCond .ne 31, 3) := by decide +kernel
theorem dX1_mayPass_7 : decode cX1_mayPass 7 = .ok (.aload_n 0, 1) := by decide +kernel
theorem dX1_mayPass_8 : decode cX1_mayPass 8 = .ok (.getfield 60, 3) := by decide +kernel
theorem dX1_mayPass_11 : decode cX1_mayPass 11 = .ok (.ifCond .ne 13, 3) := by decide +kernel
theorem dX1_mayPass_14 : decode cX1_mayPass 14 = .ok (.aload_n 0, 1) := by decide +kernel
theorem dX1_mayPass_15 : decode cX1_mayPass 15 = .ok (.getfield 40, 3) := by decide +kernel
theorem dX1_mayPass_18 : decode cX1_mayPass 18 = .ok (.invokevirtual 115, 3) := by decide +kernel
theorem dX1_mayPass_21 : decode cX1_mayPass 21 = .ok (.ifCond .ne 14, 3) := by decide +kernel
theorem dX1_mayPass_24 : decode cX1_mayPass 24 = .ok (.aload_n 0, 1) := by decide +kernel
theorem dX1_mayPass_25 : decode cX1_mayPass 25 = .ok (.invokevirtual 182, 3) := by decide +kernel
theorem dX1_mayPass_28 : decode cX1_mayPass 28 = .ok (.ifCond .ne 7, 3) := by decide +kernel
theorem dX1_mayPass_31 : decode cX1_mayPass 31 = .ok (.iconst 1, 1) := by decide +kernel
theorem dX1_mayPass_32 : decode cX1_mayPass 32 = .ok (.goto 4, 3) := by decide +kernel
theorem dX1_mayPass_35 : decode cX1_mayPass 35 = .ok (.iconst 0, 1) := by decide +kernel
theorem dX1_mayPass_36 : decode cX1_mayPass 36 = .ok (.ireturn, 1) := by decide +kernel
set_option maxRecDepth 20000 in
theorem ggX1_drawTile_X4_takeFirst : GoodIn wsX1_drawTile wsX4_takeFirst := goodIn_r _ [10, 11, 12, 13, 14, 15, 16, 35, 36, 37] rfl (by decide +kernel)
set_option maxRecDepth 20000 in
theorem gX1_drawTile_X4_takeFirst : GoodIn wsX1_drawTile (wsV RX1 119 RX4 yX4_takeFirst wsX4_takeFirst) := goodIn_app (goodIn_of _ (by decide +kernel)) ggX1_drawTile_X4_takeFirst
set_option maxRecDepth 20000 in
theorem ggX1_drawTile_X7_put : GoodIn wsX1_drawTile wsX7_put := goodIn_r _ [18] rfl (by decide +kernel)
set_option maxRecDepth 20000 in
theorem gX1_drawTile_X7_put_n122 : GoodIn wsX1_drawTile (wsX7_put) := ggX1_drawTile_X7_put
theorem dX1_drawTile_0 : decode cX1_drawTile 0 = .ok (.aload_n 0, 1) := by decide +kernel
theorem dX1_drawTile_1 : decode cX1_drawTile 1 = .ok (.getfield 40, 3) := by decide +kernel
theorem dX1_drawTile_4 : decode cX1_drawTile 4 = .ok (.invokevirtual 119, 3) := by decide +kernel
theorem dX1_drawTile_7 : decode cX1_drawTile 7 = .ok (.istore_n 1, 1) := by decide +kernel
theorem dX1_drawTile_8 : decode cX1_drawTile 8 = .ok (.aload_n 0, 1) := by decide +kernel
theorem dX1_drawTile_9 : decode cX1_drawTile 9 = .ok (.getfield 30, 3) := by decide +kernel
theorem dX1_drawTile_12 : decode cX1_drawTile 12 = .ok (.iload_n 1, 1) := by decide +kernel
theorem dX1_drawTile_13 : decode cX1_drawTile 13 = .ok (.aload_n 0, 1) := by decide +kernel
theorem dX1_drawTile_14 : decode cX1_drawTile 14 = .ok (.getfield 57, 3) := by decide +kernel
theorem dX1_drawTile_17 : decode cX1_drawTile 17 = .ok (.invokestatic 122, 3) := by decide +kernel
theorem dX1_drawTile_20 : decode cX1_drawTile 20 = .ok (.aload_n 0, 1) := by decide +kernel
theorem dX1_drawTile_21 : decode cX1_drawTile 21 = .ok (.iconst 1, 1) := by decide +kernel
theorem dX1_drawTile_22 : decode cX1_drawTile 22 = .ok (.putfield 60, 3) := by decide +kernel
theorem dX1_drawTile_25 : decode cX1_drawTile 25 = .ok (.aload_n 0, 1) := by decide +kernel
theorem dX1_drawTile_26 : decode cX1_drawTile 26 = .ok (.iconst 0, 1) := by decide +kernel
theorem dX1_drawTile_27 : decode cX1_drawTile 27 = .ok (.putfield 70, 3) := by decide +kernel
theorem dX1_drawTile_30 : decode cX1_drawTile 30 = .ok (.iload_n 1, 1) := by decide +kernel
theorem dX1_drawTile_31 : decode cX1_drawTile 31 = .ok (.ireturn, 1) := by decide +kernel
set_option maxRecDepth 20000 in
theorem ggX1_passTurn_X6_setOpen : GoodIn wsX1_passTurn wsX6_setOpen := goodIn_r _ [9, 10, 11, 12, 13, 62, 63, 64, 65, 66] rfl (by decide +kernel)
set_option maxRecDepth 20000 in
theorem gX1_passTurn_X6_setOpen : GoodIn wsX1_passTurn (wsV RX1 172 RX6 yX6_setOpen wsX6_setOpen) := goodIn_app (goodIn_of _ (by decide +kernel)) ggX1_passTurn_X6_setOpen
set_option maxRecDepth 20000 in
theorem ggX1_passTurn_X1_endRound : GoodIn wsX1_passTurn wsX1_endRound := goodIn_r _ [18, 19, 20, 4, 21, 22, 12, 23, 24, 25, 26, 17, 27, 28, 29, 30, 31, 32, 33, 34, 35, 36, 37, 38, 39, 40, 11, 13, 46, 47, 48, 49, 50, 51, 52, 53, 54, 55, 56, 57, 58, 59, 60, 61] rfl (by decide +kernel)
set_option maxRecDepth 20000 in
theorem gX1_passTurn_X1_endRound : GoodIn wsX1_passTurn (wsV RX1 176 RX1 yX1_endRound wsX1_endRound) := goodIn_app (goodIn_of _ (by decide +kernel)) ggX1_passTurn_X1_endRound
set_option maxRecDepth 20000 in
theorem ggX1_passTurn_X1_nextTurn : GoodIn wsX1_passTurn wsX1_nextTurn := goodIn_r _ [44, 2, 4, 45, 46, 47, 48, 49, 50, 51, 52, 53, 54, 55, 56, 57, 58, 59, 60, 61] rfl (by decide +kernel)
set_option maxRecDepth 20000 in
theorem gX1_passTurn_X1_nextTurn : GoodIn wsX1_passTurn (wsV RX1 179 RX1 yX1_nextTurn wsX1_nextTurn) := goodIn_app (goodIn_of _ (by decide +kernel)) ggX1_passTurn_X1_nextTurn
theorem dX1_passTurn_0 : decode cX1_passTurn 0 = .ok (.aload_n 0, 1) := by decide +kernel
theorem dX1_passTurn_1 : decode cX1_passTurn 1 = .ok (.getfield 47, 3) := by decide +kernel
theorem dX1_passTurn_4 : decode cX1_passTurn 4 = .ok (.aload_n 0, 1) := by decide +kernel
theorem dX1_passTurn_5 : decode cX1_passTurn 5 = .ok (.getfield 57, 3) := by decide +kernel
theorem dX1_passTurn_8 : decode cX1_passTurn 8 = .ok (.iconst 1, 1) := by decide +kernel
theorem dX1_passTurn_9 : decode cX1_passTurn 9 = .ok (.invokevirtual 172, 3) := by decide +kernel
theorem dX1_passTurn_12 : decode cX1_passTurn 12 = .ok (.aload_n 0, 1) := by decide +kernel
theorem dX1_passTurn_13 : decode cX1_passTurn 13 = .ok (.dup, 1) := by decide +kernel
theorem dX1_passTurn_14 : decode cX1_passTurn 14 = .ok (.getfield 70, 3) := by decide +kernel
theorem dX1_passTurn_17 : decode cX1_passTurn 17 = .ok (.iconst 1, 1) := by decide +kernel
theorem dX1_passTurn_18 : decode cX1_passTurn 18 = .ok (.iadd, 1) := by decide +kernel
theorem dX1_passTurn_19 : decode cX1_passTurn 19 = .ok (.putfield 70, 3) := by decide +kernel
theorem dX1_passTurn_22 : decode cX1_passTurn 22 = .ok (.aload_n 0, 1) := by decide +kernel
theorem dX1_passTurn_23 : decode cX1_passTurn 23 = .ok (.getfield 70, 3) := by decide +kernel
theorem dX1_passTurn_26 : decode cX1_passTurn 26 = .ok (.aload_n 0, 1) := by decide +kernel
theorem dX1_passTurn_27 : decode cX1_passTurn 27 = .ok (.getfield 15, 3) := by decide +kernel
theorem dX1_passTurn_30 : decode cX1_passTurn 30 = .ok (.if_icmp .lt 10, 3) := by decide +kernel
theorem dX1_passTurn_33 : decode cX1_passTurn 33 = .ok (.aload_n 0, 1) := by decide +kernel
theorem dX1_passTurn_34 : decode cX1_passTurn 34 = .ok (.invokevirtual 176, 3) := by decide +kernel
theorem dX1_passTurn_37 : decode cX1_passTurn 37 = .ok (.goto 7, 3) := by decide +kernel
theorem dX1_passTurn_40 : decode cX1_passTurn 40 = .ok (.aload_n 0, 1) := by decide +kernel
theorem dX1_passTurn_41 : decode cX1_passTurn 41 = .ok (.invokevirtual 179, 3) := by decide +kernel
theorem dX1_passTurn_44 : decode cX1_passTurn 44 = .ok (.return_, 1) := by decide +kernel
theorem dX1_nextTurn_0 : decode cX1_nextTurn 0 = .ok (.aload_n 0, 1) := by decide +kernel
theorem dX1_nextTurn_1 : decode cX1_nextTurn 1 = .ok (.aload_n 0, 1) := by decide +kernel
theorem dX1_nextTurn_2 : decode cX1_nextTurn 2 = .ok (.getfield 57, 3) := by decide +kernel
theorem dX1_nextTurn_5 : decode cX1_nextTurn 5 = .ok (.iconst 1, 1) := by decide +kernel
theorem dX1_nextTurn_6 : decode cX1_nextTurn 6 = .ok (.iadd, 1) := by decide +kernel
theorem dX1_nextTurn_7 : decode cX1_nextTurn 7 = .ok (.aload_n 0, 1) := by decide +kernel
theorem dX1_nextTurn_8 : decode cX1_nextTurn 8 = .ok (.getfield 15, 3) := by decide +kernel
theorem dX1_nextTurn_11 : decode cX1_nextTurn 11 = .ok (.if_icmp .ge 12, 3) := by decide +kernel
theorem dX1_nextTurn_14 : decode cX1_nextTurn 14 = .ok (.aload_n 0, 1) := by decide +kernel
theorem dX1_nextTurn_15 : decode cX1_nextTurn 15 = .ok (.getfield 57, 3) := by decide +kernel
theorem dX1_nextTurn_18 : decode cX1_nextTurn 18 = .ok (.iconst 1, 1) := by decide +kernel
theorem dX1_nextTurn_19 : decode cX1_nextTurn 19 = .ok (.iadd, 1) := by decide +kernel
theorem dX1_nextTurn_20 : decode cX1_nextTurn 20 = .ok (.goto 4, 3) := by decide +kernel
theorem dX1_nextTurn_23 : decode cX1_nextTurn 23 = .ok (.iconst 0, 1) := by decide +kernel
theorem dX1_nextTurn_24 : decode cX1_nextTurn 24 = .ok (.putfield 57, 3) := by decide +kernel
theorem dX1_nextTurn_27 : decode cX1_nextTurn 27 = .ok (.aload_n 0, 1) := by decide +kernel
theorem dX1_nextTurn_28 : decode cX1_nextTurn 28 = .ok (.iconst 0, 1) := by decide +kernel
theorem dX1_nextTurn_29 : decode cX1_nextTurn 29 = .ok (.putfield 60, 3) := by decide +kernel
theorem dX1_nextTurn_32 : decode cX1_nextTurn 32 = .ok (.return_, 1) := by decide +kernel
set_option maxRecDepth 20000 in
theorem ggX1_endRound_X7_look : GoodIn wsX1_endRound wsX7_look := goodIn_r _ [7] rfl (by decide +kernel)
set_option maxRecDepth 20000 in
theorem gX1_endRound_X7_look_n185 : GoodIn wsX1_endRound (wsX7_look) := ggX1_endRound_X7_look
set_option maxRecDepth 20000 in
theorem ggX1_endRound_X1_handPips : GoodIn wsX1_endRound wsX1_handPips := goodIn_r _ [12, 13, 14, 15, 11, 16, 17, 18, 6, 19, 20, 21, 22, 23, 24, 25, 28, 29, 30, 31, 32, 33, 34, 35, 36, 37, 38, 39, 40, 41, 42, 43] rfl (by decide +kernel)
set_option maxRecDepth 20000 in
theorem gX1_endRound_X1_handPips : GoodIn wsX1_endRound (wsV RX1 189 RX1 yX1_handPips wsX1_handPips) := goodIn_app (goodIn_of _ (by decide +kernel)) ggX1_endRound_X1_handPips
set_option maxRecDepth 20000 in
theorem ggX1_endRound_X7_put : GoodIn wsX1_endRound wsX7_put := goodIn_r _ [27] rfl (by decide +kernel)
set_option maxRecDepth 20000 in
theorem gX1_endRound_X7_put_n122 : GoodIn wsX1_endRound (wsX7_put) := ggX1_endRound_X7_put
theorem dX1_endRound_0 : decode cX1_endRound 0 = .ok (.aload_n 0, 1) := by decide +kernel
theorem dX1_endRound_1 : decode cX1_endRound 1 = .ok (.iconst 1, 1) := by decide +kernel
theorem dX1_endRound_2 : decode cX1_endRound 2 = .ok (.putfield 64, 3) := by decide +kernel
theorem dX1_endRound_5 : decode cX1_endRound 5 = .ok (.aload_n 0, 1) := by decide +kernel
theorem dX1_endRound_6 : decode cX1_endRound 6 = .ok (.dup, 1) := by decide +kernel
theorem dX1_endRound_7 : decode cX1_endRound 7 = .ok (.getfield 67, 3) := by decide +kernel
theorem dX1_endRound_10 : decode cX1_endRound 10 = .ok (.iconst 1, 1) := by decide +kernel
theorem dX1_endRound_11 : decode cX1_endRound 11 = .ok (.iadd, 1) := by decide +kernel
theorem dX1_endRound_12 : decode cX1_endRound 12 = .ok (.putfield 67, 3) := by decide +kernel
theorem dX1_endRound_15 : decode cX1_endRound 15 = .ok (.iconst 0, 1) := by decide +kernel
theorem dX1_endRound_16 : decode cX1_endRound 16 = .ok (.istore_n 1, 1) := by decide +kernel
theorem dX1_endRound_17 : decode cX1_endRound 17 = .ok (.iload_n 1, 1) := by decide +kernel
theorem dX1_endRound_18 : decode cX1_endRound 18 = .ok (.aload_n 0, 1) := by decide +kernel
theorem dX1_endRound_19 : decode cX1_endRound 19 = .ok (.getfield 15, 3) := by decide +kernel
theorem dX1_endRound_22 : decode cX1_endRound 22 = .ok (.if_icmp .ge 31, 3) := by decide +kernel
theorem dX1_endRound_25 : decode cX1_endRound 25 = .ok (.aload_n 0, 1) := by decide +kernel
theorem dX1_endRound_26 : decode cX1_endRound 26 = .ok (.getfield 34, 3) := by decide +kernel
theorem dX1_endRound_29 : decode cX1_endRound 29 = .ok (.iload_n 1, 1) := by decide +kernel
theorem dX1_endRound_30 : decode cX1_endRound 30 = .ok (.aload_n 0, 1) := by decide +kernel
theorem dX1_endRound_31 : decode cX1_endRound 31 = .ok (.getfield 34, 3) := by decide +kernel
theorem dX1_endRound_34 : decode cX1_endRound 34 = .ok (.iload_n 1, 1) := by decide +kernel
theorem dX1_endRound_35 : decode cX1_endRound 35 = .ok (.invokestatic 185, 3) := by decide +kernel
theorem dX1_endRound_38 : decode cX1_endRound 38 = .ok (.aload_n 0, 1) := by decide +kernel
theorem dX1_endRound_39 : decode cX1_endRound 39 = .ok (.iload_n 1, 1) := by decide +kernel
theorem dX1_endRound_40 : decode cX1_endRound 40 = .ok (.invokevirtual 189, 3) := by decide +kernel
theorem dX1_endRound_43 : decode cX1_endRound 43 = .ok (.iadd, 1) := by decide +kernel
theorem dX1_endRound_44 : decode cX1_endRound 44 = .ok (.invokestatic 122, 3) := by decide +kernel
theorem dX1_endRound_47 : decode cX1_endRound 47 = .ok (.iinc 1 1, 3) := by decide +kernel
theorem dX1_endRound_50 : decode cX1_endRound 50 = .ok (.goto (-33), 3) := by decide +kernel
theorem dX1_endRound_53 : decode cX1_endRound 53 = .ok (.return_, 1) := by decide +kernel
set_option maxRecDepth 20000 in
theorem ggX1_playOn_X1_makeStep : GoodIn wsX1_playOn wsX1_makeStep := goodIn_r _ [6, 7, 8, 9, 10, 11, 5, 12, 13, 14, 15, 16, 17, 18, 19, 20, 21, 22, 23, 1, 24, 25, 26, 27, 28, 29, 30, 31, 32, 33, 34, 35, 36, 37, 38, 39, 40, 41, 42, 43, 44, 45, 46, 47, 48, 49, 50, 51, 52, 53, 54, 55, 56, 57, 58, 59, 60, 61, 62, 63, 64, 65, 66, 67, 68, 69, 70, 71, 72, 73, 74, 75, 76, 77, 78, 79, 80, 81, 82, 83, 84, 85, 86, 87, 88, 89, 90, 91, 92, 93, 94, 95, 96, 97, 98, 99, 100, 101, 102, 103, 104, 105, 106, 107, 108, 109, 110, 111, 112, 113, 114, 115, 116, 117, 118, 119, 120, 121, 122, 123, 124, 125, 126, 127, 128, 129, 130, 131, 132, 133, 134, 135, 136, 137, 138, 139, 140, 141, 142, 143, 144, 145, 146, 147, 148, 149, 150, 151, 152, 153, 154, 155, 156, 157, 158, 159, 160, 161, 162, 163, 164, 165] rfl (by decide +kernel)
set_option maxRecDepth 20000 in
theorem gX1_playOn_X1_makeStep : GoodIn wsX1_playOn (wsV RX1 192 RX1 yX1_makeStep wsX1_makeStep) := goodIn_app (goodIn_of _ (by decide +kernel)) ggX1_playOn_X1_makeStep
theorem dX1_playOn_0 : decode cX1_playOn 0 = .ok (.iconst 0, 1) := by decide +kernel
theorem dX1_playOn_1 : decode cX1_playOn 1 = .ok (.istore_n 2, 1) := by decide +kernel
theorem dX1_playOn_2 : decode cX1_playOn 2 = .ok (.iload_n 2, 1) := by decide +kernel
theorem dX1_playOn_3 : decode cX1_playOn 3 = .ok (.iload_n 1, 1) := by decide +kernel
theorem dX1_playOn_4 : decode cX1_playOn 4 = .ok (.if_icmp .ge 20, 3) := by decide +kernel
theorem dX1_playOn_7 : decode cX1_playOn 7 = .ok (.aload_n 0, 1) := by decide +kernel
theorem dX1_playOn_8 : decode cX1_playOn 8 = .ok (.getfield 64, 3) := by decide +kernel
theorem dX1_playOn_11 : decode cX1_playOn 11 = .ok (.ifCond .ne 13, 3) := by decide +kernel
theorem dX1_playOn_14 : decode cX1_playOn 14 = .ok (.aload_n 0, 1) := by decide +kernel
theorem dX1_playOn_15 : decode cX1_playOn 15 = .ok (.invokevirtual 192, 3) := by decide +kernel
theorem dX1_playOn_18 : decode cX1_playOn 18 = .ok (.iinc 2 1, 3) := by decide +kernel
theorem dX1_playOn_21 : decode cX1_playOn 21 = .ok (.goto (-19), 3) := by decide +kernel
theorem dX1_playOn_24 : decode cX1_playOn 24 = .ok (.iload_n 2, 1) := by decide +kernel
theorem dX1_playOn_25 : decode cX1_playOn 25 = .ok (.ireturn, 1) := by decide +kernel
set_option maxRecDepth 20000 in
theorem ggX1_makeStep_X1_bestPlay : GoodIn wsX1_makeStep wsX1_bestPlay := goodIn_r _ [7, 8, 9, 10, 11, 12, 6, 13, 14, 15, 16, 17, 18, 19, 20, 21, 22, 23, 24, 25, 26, 27, 28, 29, 30, 31, 32, 33, 34, 35, 36, 37, 38, 39, 40, 41, 42, 43, 44, 45, 46, 47, 48, 49, 50, 51, 52, 53, 54, 55, 56, 57, 58, 59, 60, 61, 62, 63, 64, 65, 66, 67, 68, 69, 70, 71, 72, 73, 74, 75, 76, 77, 78, 79, 80, 81, 82, 83, 84, 136, 137, 138, 139, 140, 141, 142, 143, 144, 145, 146, 147, 148, 149, 150, 151, 152, 153, 154, 155, 156, 157, 158] rfl (by decide +kernel)
set_option maxRecDepth 20000 in
theorem gX1_makeStep_X1_bestPlay : GoodIn wsX1_makeStep (wsV RX1 195 RX1 yX1_bestPlay wsX1_bestPlay) := goodIn_app (goodIn_of _ (by decide +kernel)) ggX1_makeStep_X1_bestPlay
set_option maxRecDepth 20000 in
theorem ggX1_makeStep_X1_layTile : GoodIn wsX1_makeStep wsX1_layTile := goodIn_r _ [88, 14, 21, 8, 20, 89, 1, 80, 33, 81, 90, 91, 92, 29, 93, 94, 95, 96, 39, 53, 54, 42, 43, 44, 45, 46, 47, 97, 36, 37, 38, 32, 34, 98, 99, 100, 101, 31, 59, 60, 55, 56, 57, 6, 58, 10, 11, 12, 13, 102, 103, 104, 105, 19, 106, 9, 107, 108, 109, 110, 111, 112, 113, 114, 115, 136, 137, 138, 139, 140, 141, 142, 143, 144, 145, 146, 147, 148, 149, 150, 151, 152, 153, 154, 155, 156] rfl (by decide +kernel)
set_option maxRecDepth 20000 in
theorem gX1_makeStep_X1_layTile : GoodIn wsX1_makeStep (wsV RX1 198 RX1 yX1_layTile wsX1_layTile) := goodIn_app (goodIn_of _ (by decide +kernel)) ggX1_makeStep_X1_layTile
set_option maxRecDepth 20000 in
theorem ggX1_makeStep_X4_size : GoodIn wsX1_makeStep wsX4_size := goodIn_r _ [120, 121, 122, 159, 160, 161] rfl (by decide +kernel)
set_option maxRecDepth 20000 in
theorem gX1_makeStep_X4_size : GoodIn wsX1_makeStep (wsV RX1 115 RX4 yX4_size wsX4_size) := goodIn_app (goodIn_of _ (by decide +kernel)) ggX1_makeStep_X4_size
set_option maxRecDepth 20000 in
theorem ggX1_makeStep_X1_drawTile : GoodIn wsX1_makeStep wsX1_drawTile := goodIn_r _ [126, 2, 14, 8, 1, 89, 127, 128, 129, 119, 130, 122, 121, 131, 32, 33, 34, 80, 81, 136, 137, 138, 139, 140, 141, 142, 143, 144, 145, 146, 147, 148, 149, 150, 151, 159, 160, 161] rfl (by decide +kernel)
set_option maxRecDepth 20000 in
theorem gX1_makeStep_X1_drawTile : GoodIn wsX1_makeStep (wsV RX1 201 RX1 yX1_drawTile wsX1_drawTile) := goodIn_app (goodIn_of _ (by decide +kernel)) ggX1_makeStep_X1_drawTile
set_option maxRecDepth 20000 in
theorem ggX1_makeStep_X1_passTurn : GoodIn wsX1_makeStep wsX1_passTurn := goodIn_r _ [135, 21, 8, 89, 9, 98, 99, 100, 29, 101, 31, 80, 33, 81, 102, 103, 104, 6, 105, 19, 106, 107, 32, 34, 108, 109, 110, 111, 10, 11, 12, 13, 14, 53, 54, 42, 43, 44, 45, 46, 47, 112, 113, 114, 115, 1, 136, 137, 138, 139, 140, 141, 142, 143, 144, 145, 146, 147, 148, 149, 150, 151, 152, 153, 154, 155, 156] rfl (by decide +kernel)
set_option maxRecDepth 20000 in
theorem gX1_makeStep_X1_passTurn : GoodIn wsX1_makeStep (wsV RX1 204 RX1 yX1_passTurn wsX1_passTurn) := goodIn_app (goodIn_of _ (by decide +kernel)) ggX1_makeStep_X1_passTurn
theorem dX1_makeStep_0 : decode cX1_makeStep 0 = .ok (.aload_n 0, 1) := by decide +kernel
theorem dX1_makeStep_1 : decode cX1_makeStep 1 = .ok (.invokevirtual 195, 3) := by decide +kernel
theorem dX1_makeStep_4 : decode cX1_makeStep 4 = .ok (.istore_n 1, 1) := by decide +kernel
theorem dX1_makeStep_5 : decode cX1_makeStep 5 = .ok (.iload_n 1, 1) := by decide +kernel
theorem dX1_makeStep_6 : decode cX1_makeStep 6 = .ok (.iconst (-1), 1) := by decide +kernel
theorem dX1_makeStep_7 : decode cX1_makeStep 7 = .ok (.if_icmp .eq 18, 3) := by decide +kernel
theorem dX1_makeStep_10 : decode cX1_makeStep 10 = .ok (.aload_n 0, 1) := by decide +kernel
theorem dX1_makeStep_11 : decode cX1_makeStep 11 = .ok (.iload_n 1, 1) := by decide +kernel
theorem dX1_makeStep_12 : decode cX1_makeStep 12 = .ok (.bipush 10, 2) := by decide +kernel
theorem dX1_makeStep_14 : decode cX1_makeStep 14 = .ok (.idiv, 1) := by decide +kernel
theorem dX1_makeStep_15 : decode cX1_makeStep 15 = .ok (.iload_n 1, 1) := by decide +kernel
theorem dX1_makeStep_16 : decode cX1_makeStep 16 = .ok (.bipush 10, 2) := by decide +kernel
theorem dX1_makeStep_18 : decode cX1_makeStep 18 = .ok (.irem, 1) := by decide +kernel
theorem dX1_makeStep_19 : decode cX1_makeStep 19 = .ok (.invokevirtual 198, 3) := by decide +kernel
theorem dX1_makeStep_22 : decode cX1_makeStep 22 = .ok (.goto 32, 3) := by decide +kernel
theorem dX1_makeStep_25 : decode cX1_makeStep 25 = .ok (.aload_n 0, 1) := by decide +kernel
theorem dX1_makeStep_26 : decode cX1_makeStep 26 = .ok (.getfield 60, 3) := by decide +kernel
theorem dX1_makeStep_29 : decode cX1_makeStep 29 = .ok (.ifCond .ne 21, 3) := by decide +kernel
theorem dX1_makeStep_32 : decode cX1_makeStep 32 = .ok (.aload_n 0, 1) := by decide +kernel
theorem dX1_makeStep_33 : decode cX1_makeStep 33 = .ok (.getfield 40, 3) := by decide +kernel
theorem dX1_makeStep_36 : decode cX1_makeStep 36 = .ok (.invokevirtual 115, 3) := by decide +kernel
theorem dX1_makeStep_39 : decode cX1_makeStep 39 = .ok (.ifCond .le 11, 3) := by decide +kernel
theorem dX1_makeStep_42 : decode cX1_makeStep 42 = .ok (.aload_n 0, 1) := by decide +kernel
theorem dX1_makeStep_43 : decode cX1_makeStep 43 = .ok (.invokevirtual 201, 3) := by decide +kernel
theorem dX1_makeStep_46 : decode cX1_makeStep 46 = .ok (.pop, 1) := by decide +kernel
theorem dX1_makeStep_47 : decode cX1_makeStep 47 = .ok (.goto 7, 3) := by decide +kernel
theorem dX1_makeStep_50 : decode cX1_makeStep 50 = .ok (.aload_n 0, 1) := by decide +kernel
theorem dX1_makeStep_51 : decode cX1_makeStep 51 = .ok (.invokevirtual 204, 3) := by decide +kernel
theorem dX1_makeStep_54 : decode cX1_makeStep 54 = .ok (.return_, 1) := by decide +kernel
set_option maxRecDepth 20000 in
theorem ggX1_stateNumber_X4_size : GoodIn wsX1_stateNumber wsX4_size := goodIn_r _ [17, 18, 19, 81, 82, 83] rfl (by decide +kernel)
set_option maxRecDepth 20000 in
theorem gX1_stateNumber_X4_size : GoodIn wsX1_stateNumber (wsV RX1 115 RX4 yX4_size wsX4_size) := goodIn_app (goodIn_of _ (by decide +kernel)) ggX1_stateNumber_X4_size
set_option maxRecDepth 20000 in
theorem ggX1_stateNumber_X1_playsNow : GoodIn wsX1_stateNumber wsX1_playsNow := goodIn_r _ [24, 5, 25, 26, 27, 23, 28, 29, 30, 31, 32, 33, 2, 34, 35, 36, 37, 9, 7, 38, 39, 40, 41, 42, 43, 44, 45, 46, 47, 48, 49, 50, 51, 52, 53, 54, 55, 56, 57, 58, 59, 60, 61, 62, 63, 64, 65, 66, 67, 68, 69, 70, 71, 72, 73, 74, 75, 76, 77, 78, 79, 80, 84, 85, 86, 87, 88] rfl (by decide +kernel)
set_option maxRecDepth 20000 in
theorem gX1_stateNumber_X1_playsNow : GoodIn wsX1_stateNumber (wsV RX1 182 RX1 yX1_playsNow wsX1_playsNow) := goodIn_app (goodIn_of _ (by decide +kernel)) ggX1_stateNumber_X1_playsNow
theorem dX1_stateNumber_0 : decode cX1_stateNumber 0 = .ok (.iload_n 1, 1) := by decide +kernel
theorem dX1_stateNumber_1 : decode cX1_stateNumber 1 = .ok (.tableswitch 142 0 11 #[63, 68, 73, 78, 83, 88, 101, 106, 114, 127, 132, 137], 63) := by decide +kernel
theorem dX1_stateNumber_64 : decode cX1_stateNumber 64 = .ok (.aload_n 0, 1) := by decide +kernel
theorem dX1_stateNumber_65 : decode cX1_stateNumber 65 = .ok (.getfield 9, 3) := by decide +kernel
theorem dX1_stateNumber_68 : decode cX1_stateNumber 68 = .ok (.ireturn, 1) := by decide +kernel
theorem dX1_stateNumber_69 : decode cX1_stateNumber 69 = .ok (.aload_n 0, 1) := by decide +kernel
theorem dX1_stateNumber_70 : decode cX1_stateNumber 70 = .ok (.getfield 15, 3) := by decide +kernel
theorem dX1_stateNumber_73 : decode cX1_stateNumber 73 = .ok (.ireturn, 1) := by decide +kernel
theorem dX1_stateNumber_74 : decode cX1_stateNumber 74 = .ok (.aload_n 0, 1) := by decide +kernel
theorem dX1_stateNumber_75 : decode cX1_stateNumber 75 = .ok (.getfield 18, 3) := by decide +kernel
theorem dX1_stateNumber_78 : decode cX1_stateNumber 78 = .ok (.ireturn, 1) := by decide +kernel
theorem dX1_stateNumber_79 : decode cX1_stateNumber 79 = .ok (.aload_n 0, 1) := by decide +kernel
theorem dX1_stateNumber_80 : decode cX1_stateNumber 80 = .ok (.getfield 21, 3) := by decide +kernel
theorem dX1_stateNumber_83 : decode cX1_stateNumber 83 = .ok (.ireturn, 1) := by decide +kernel
theorem dX1_stateNumber_84 : decode cX1_stateNumber 84 = .ok (.aload_n 0, 1) := by decide +kernel
theorem dX1_stateNumber_85 : decode cX1_stateNumber 85 = .ok (.getfield 57, 3) := by decide +kernel
theorem dX1_stateNumber_88 : decode cX1_stateNumber 88 = .ok (.ireturn, 1) := by decide +kernel
theorem dX1_stateNumber_89 : decode cX1_stateNumber 89 = .ok (.aload_n 0, 1) := by decide +kernel
theorem dX1_stateNumber_90 : decode cX1_stateNumber 90 = .ok (.getfield 60, 3) := by decide +kernel
theorem dX1_stateNumber_93 : decode cX1_stateNumber 93 = .ok (.ifCond .eq 7, 3) := by decide +kernel
theorem dX1_stateNumber_96 : decode cX1_stateNumber 96 = .ok (.iconst 1, 1) := by decide +kernel
theorem dX1_stateNumber_97 : decode cX1_stateNumber 97 = .ok (.goto 4, 3) := by decide +kernel
theorem dX1_stateNumber_100 : decode cX1_stateNumber 100 = .ok (.iconst 0, 1) := by decide +kernel
theorem dX1_stateNumber_101 : decode cX1_stateNumber 101 = .ok (.ireturn, 1) := by decide +kernel
theorem dX1_stateNumber_102 : decode cX1_stateNumber 102 = .ok (.aload_n 0, 1) := by decide +kernel
theorem dX1_stateNumber_103 : decode cX1_stateNumber 103 = .ok (.getfield 27, 3) := by decide +kernel
theorem dX1_stateNumber_106 : decode cX1_stateNumber 106 = .ok (.ireturn, 1) := by decide +kernel
theorem dX1_stateNumber_107 : decode cX1_stateNumber 107 = .ok (.aload_n 0, 1) := by decide +kernel
theorem dX1_stateNumber_108 : decode cX1_stateNumber 108 = .ok (.getfield 40, 3) := by decide +kernel
theorem dX1_stateNumber_111 : decode cX1_stateNumber 111 = .ok (.invokevirtual 115, 3) := by decide +kernel
theorem dX1_stateNumber_114 : decode cX1_stateNumber 114 = .ok (.ireturn, 1) := by decide +kernel
theorem dX1_stateNumber_115 : decode cX1_stateNumber 115 = .ok (.aload_n 0, 1) := by decide +kernel
theorem dX1_stateNumber_116 : decode cX1_stateNumber 116 = .ok (.getfield 64, 3) := by decide +kernel
theorem dX1_stateNumber_119 : decode cX1_stateNumber 119 = .ok (.ifCond .eq 7, 3) := by decide +kernel
theorem dX1_stateNumber_122 : decode cX1_stateNumber 122 = .ok (.iconst 1, 1) := by decide +kernel
theorem dX1_stateNumber_123 : decode cX1_stateNumber 123 = .ok (.goto 4, 3) := by decide +kernel
theorem dX1_stateNumber_126 : decode cX1_stateNumber 126 = .ok (.iconst 0, 1) := by decide +kernel
theorem dX1_stateNumber_127 : decode cX1_stateNumber 127 = .ok (.ireturn, 1) := by decide +kernel
theorem dX1_stateNumber_128 : decode cX1_stateNumber 128 = .ok (.aload_n 0, 1) := by decide +kernel
theorem dX1_stateNumber_129 : decode cX1_stateNumber 129 = .ok (.getfield 67, 3) := by decide +kernel
theorem dX1_stateNumber_132 : decode cX1_stateNumber 132 = .ok (.ireturn, 1) := by decide +kernel
theorem dX1_stateNumber_133 : decode cX1_stateNumber 133 = .ok (.aload_n 0, 1) := by decide +kernel
theorem dX1_stateNumber_134 : decode cX1_stateNumber 134 = .ok (.invokevirtual 182, 3) := by decide +kernel
theorem dX1_stateNumber_137 : decode cX1_stateNumber 137 = .ok (.ireturn, 1) := by decide +kernel
theorem dX1_stateNumber_138 : decode cX1_stateNumber 138 = .ok (.aload_n 0, 1) := by decide +kernel
theorem dX1_stateNumber_139 : decode cX1_stateNumber 139 = .ok (.getfield 70, 3) := by decide +kernel
theorem dX1_stateNumber_142 : decode cX1_stateNumber 142 = .ok (.ireturn, 1) := by decide +kernel
theorem dX1_stateNumber_143 : decode cX1_stateNumber 143 = .ok (.aload_n 0, 1) := by decide +kernel
theorem dX1_stateNumber_144 : decode cX1_stateNumber 144 = .ok (.getfield 24, 3) := by decide +kernel
theorem dX1_stateNumber_147 : decode cX1_stateNumber 147 = .ok (.ireturn, 1) := by decide +kernel
set_option maxRecDepth 20000 in
theorem ggX1_playerNumber_X1_handCount : GoodIn wsX1_playerNumber wsX1_handCount := goodIn_r _ [6, 7, 8, 9, 5, 10, 11, 61, 62, 63, 64, 65, 66, 67, 68, 69, 70, 71, 72, 73, 74, 75, 76] rfl (by decide +kernel)
set_option maxRecDepth 20000 in
theorem gX1_playerNumber_X1_handCount : GoodIn wsX1_playerNumber (wsV RX1 112 RX1 yX1_handCount wsX1_handCount) := goodIn_app (goodIn_of _ (by decide +kernel)) ggX1_playerNumber_X1_handCount
set_option maxRecDepth 20000 in
theorem ggX1_playerNumber_X1_handPips : GoodIn wsX1_playerNumber wsX1_handPips := goodIn_r _ [15, 7, 8, 9, 5, 10, 11, 16, 17, 18, 19, 20, 21, 22, 23, 24, 61, 62, 63, 64, 65, 66, 67, 68, 69, 70, 71, 72, 73, 74, 75, 76] rfl (by decide +kernel)
set_option maxRecDepth 20000 in
theorem gX1_playerNumber_X1_handPips : GoodIn wsX1_playerNumber (wsV RX1 189 RX1 yX1_handPips wsX1_handPips) := goodIn_app (goodIn_of _ (by decide +kernel)) ggX1_playerNumber_X1_handPips
set_option maxRecDepth 20000 in
theorem ggX1_playerNumber_X7_look : GoodIn wsX1_playerNumber wsX7_look := goodIn_r _ [26] rfl (by decide +kernel)
set_option maxRecDepth 20000 in
theorem gX1_playerNumber_X7_look_n185 : GoodIn wsX1_playerNumber (wsX7_look) := ggX1_playerNumber_X7_look
set_option maxRecDepth 20000 in
theorem ggX1_playerNumber_X1_playableTiles : GoodIn wsX1_playerNumber wsX1_playableTiles := goodIn_r _ [30, 31, 7, 8, 9, 5, 10, 11, 32, 33, 34, 35, 36, 37, 38, 39, 40, 41, 42, 43, 44, 45, 46, 47, 48, 49, 50, 51, 52, 53, 25, 17, 26, 54, 55, 56, 57, 58, 59, 60, 19, 20, 21, 22, 23, 24, 61, 62, 63, 64, 65, 66, 67, 68, 69, 70, 71, 72, 73, 74, 75, 76, 77, 78, 79, 80, 81] rfl (by decide +kernel)
set_option maxRecDepth 20000 in
theorem gX1_playerNumber_X1_playableTiles : GoodIn wsX1_playerNumber (wsV RX1 207 RX1 yX1_playableTiles wsX1_playableTiles) := goodIn_app (goodIn_of _ (by decide +kernel)) ggX1_playerNumber_X1_playableTiles
theorem dX1_playerNumber_0 : decode cX1_playerNumber 0 = .ok (.iload_n 2, 1) := by decide +kernel
theorem dX1_playerNumber_1 : decode cX1_playerNumber 1 = .ok (.tableswitch 48 0 2 #[27, 33, 39], 27) := by decide +kernel
theorem dX1_playerNumber_28 : decode cX1_playerNumber 28 = .ok (.aload_n 0, 1) := by decide +kernel
theorem dX1_playerNumber_29 : decode cX1_playerNumber 29 = .ok (.iload_n 1, 1) := by decide +kernel
theorem dX1_playerNumber_30 : decode cX1_playerNumber 30 = .ok (.invokevirtual 112, 3) := by decide +kernel
theorem dX1_playerNumber_33 : decode cX1_playerNumber 33 = .ok (.ireturn, 1) := by decide +kernel
theorem dX1_playerNumber_34 : decode cX1_playerNumber 34 = .ok (.aload_n 0, 1) := by decide +kernel
theorem dX1_playerNumber_35 : decode cX1_playerNumber 35 = .ok (.iload_n 1, 1) := by decide +kernel
theorem dX1_playerNumber_36 : decode cX1_playerNumber 36 = .ok (.invokevirtual 189, 3) := by decide +kernel
theorem dX1_playerNumber_39 : decode cX1_playerNumber 39 = .ok (.ireturn, 1) := by decide +kernel
theorem dX1_playerNumber_40 : decode cX1_playerNumber 40 = .ok (.aload_n 0, 1) := by decide +kernel
theorem dX1_playerNumber_41 : decode cX1_playerNumber 41 = .ok (.getfield 34, 3) := by decide +kernel
theorem dX1_playerNumber_44 : decode cX1_playerNumber 44 = .ok (.iload_n 1, 1) := by decide +kernel
theorem dX1_playerNumber_45 : decode cX1_playerNumber 45 = .ok (.invokestatic 185, 3) := by decide +kernel
theorem dX1_playerNumber_48 : decode cX1_playerNumber 48 = .ok (.ireturn, 1) := by decide +kernel
theorem dX1_playerNumber_49 : decode cX1_playerNumber 49 = .ok (.aload_n 0, 1) := by decide +kernel
theorem dX1_playerNumber_50 : decode cX1_playerNumber 50 = .ok (.iload_n 1, 1) := by decide +kernel
theorem dX1_playerNumber_51 : decode cX1_playerNumber 51 = .ok (.invokevirtual 207, 3) := by decide +kernel
theorem dX1_playerNumber_54 : decode cX1_playerNumber 54 = .ok (.ireturn, 1) := by decide +kernel
set_option maxRecDepth 20000 in
theorem ggX1_trainNumber_X6_countOf : GoodIn wsX1_trainNumber wsX6_countOf := goodIn_r _ [6, 7, 8, 9, 10, 11, 61, 62, 63, 64, 65] rfl (by decide +kernel)
set_option maxRecDepth 20000 in
theorem gX1_trainNumber_X6_countOf : GoodIn wsX1_trainNumber (wsV RX1 210 RX6 yX6_countOf wsX6_countOf) := goodIn_app (goodIn_of _ (by decide +kernel)) ggX1_trainNumber_X6_countOf
set_option maxRecDepth 20000 in
theorem ggX1_trainNumber_X6_endOf : GoodIn wsX1_trainNumber wsX6_endOf := goodIn_r _ [15, 16, 9, 10, 11, 61, 62, 63, 64, 65] rfl (by decide +kernel)
set_option maxRecDepth 20000 in
theorem gX1_trainNumber_X6_endOf : GoodIn wsX1_trainNumber (wsV RX1 144 RX6 yX6_endOf wsX6_endOf) := goodIn_app (goodIn_of _ (by decide +kernel)) ggX1_trainNumber_X6_endOf
set_option maxRecDepth 20000 in
theorem ggX1_trainNumber_X1_isOpen : GoodIn wsX1_trainNumber wsX1_isOpen := goodIn_r _ [21, 22, 1, 23, 24, 25, 5, 26, 27, 9, 10, 11, 45, 46, 47, 48, 49, 50, 51, 52, 53, 54, 55, 56, 57, 58, 59, 60, 61, 62, 63, 64, 65] rfl (by decide +kernel)
set_option maxRecDepth 20000 in
theorem gX1_trainNumber_X1_isOpen : GoodIn wsX1_trainNumber (wsV RX1 141 RX1 yX1_isOpen wsX1_isOpen) := goodIn_app (goodIn_of _ (by decide +kernel)) ggX1_trainNumber_X1_isOpen
set_option maxRecDepth 20000 in
theorem ggX1_trainNumber_X6_tileAt : GoodIn wsX1_trainNumber wsX6_tileAt := goodIn_r _ [31, 7, 8, 32, 9, 10, 11, 61, 62, 63, 64, 65] rfl (by decide +kernel)
set_option maxRecDepth 20000 in
theorem gX1_trainNumber_X6_tileAt : GoodIn wsX1_trainNumber (wsV RX1 213 RX6 yX6_tileAt wsX6_tileAt) := goodIn_app (goodIn_of _ (by decide +kernel)) ggX1_trainNumber_X6_tileAt
set_option maxRecDepth 20000 in
theorem ggX1_trainNumber_X6_pipsOn : GoodIn wsX1_trainNumber wsX6_pipsOn := goodIn_r _ [36, 7, 8, 32, 9, 10, 11, 37, 38, 39, 40, 41, 42, 43, 44, 61, 62, 63, 64, 65] rfl (by decide +kernel)
set_option maxRecDepth 20000 in
theorem gX1_trainNumber_X6_pipsOn : GoodIn wsX1_trainNumber (wsV RX1 216 RX6 yX6_pipsOn wsX6_pipsOn) := goodIn_app (goodIn_of _ (by decide +kernel)) ggX1_trainNumber_X6_pipsOn
theorem dX1_trainNumber_0 : decode cX1_trainNumber 0 = .ok (.iload_n 2, 1) := by decide +kernel
theorem dX1_trainNumber_1 : decode cX1_trainNumber 1 = .ok (.tableswitch 82 0 3 #[31, 40, 49, 63], 31) := by decide +kernel
theorem dX1_trainNumber_32 : decode cX1_trainNumber 32 = .ok (.aload_n 0, 1) := by decide +kernel
theorem dX1_trainNumber_33 : decode cX1_trainNumber 33 = .ok (.getfield 47, 3) := by decide +kernel
theorem dX1_trainNumber_36 : decode cX1_trainNumber 36 = .ok (.iload_n 1, 1) := by decide +kernel
theorem dX1_trainNumber_37 : decode cX1_trainNumber 37 = .ok (.invokevirtual 210, 3) := by decide +kernel
theorem dX1_trainNumber_40 : decode cX1_trainNumber 40 = .ok (.ireturn, 1) := by decide +kernel
theorem dX1_trainNumber_41 : decode cX1_trainNumber 41 = .ok (.aload_n 0, 1) := by decide +kernel
theorem dX1_trainNumber_42 : decode cX1_trainNumber 42 = .ok (.getfield 47, 3) := by decide +kernel
theorem dX1_trainNumber_45 : decode cX1_trainNumber 45 = .ok (.iload_n 1, 1) := by decide +kernel
theorem dX1_trainNumber_46 : decode cX1_trainNumber 46 = .ok (.invokevirtual 144, 3) := by decide +kernel
theorem dX1_trainNumber_49 : decode cX1_trainNumber 49 = .ok (.ireturn, 1) := by decide +kernel
theorem dX1_trainNumber_50 : decode cX1_trainNumber 50 = .ok (.aload_n 0, 1) := by decide +kernel
theorem dX1_trainNumber_51 : decode cX1_trainNumber 51 = .ok (.iload_n 1, 1) := by decide +kernel
theorem dX1_trainNumber_52 : decode cX1_trainNumber 52 = .ok (.invokevirtual 141, 3) := by decide +kernel
theorem dX1_trainNumber_55 : decode cX1_trainNumber 55 = .ok (.ifCond .eq 7, 3) := by decide +kernel
theorem dX1_trainNumber_58 : decode cX1_trainNumber 58 = .ok (.iconst 1, 1) := by decide +kernel
theorem dX1_trainNumber_59 : decode cX1_trainNumber 59 = .ok (.goto 4, 3) := by decide +kernel
theorem dX1_trainNumber_62 : decode cX1_trainNumber 62 = .ok (.iconst 0, 1) := by decide +kernel
theorem dX1_trainNumber_63 : decode cX1_trainNumber 63 = .ok (.ireturn, 1) := by decide +kernel
theorem dX1_trainNumber_64 : decode cX1_trainNumber 64 = .ok (.aload_n 0, 1) := by decide +kernel
theorem dX1_trainNumber_65 : decode cX1_trainNumber 65 = .ok (.getfield 47, 3) := by decide +kernel
theorem dX1_trainNumber_68 : decode cX1_trainNumber 68 = .ok (.iload_n 1, 1) := by decide +kernel
theorem dX1_trainNumber_69 : decode cX1_trainNumber 69 = .ok (.aload_n 0, 1) := by decide +kernel
theorem dX1_trainNumber_70 : decode cX1_trainNumber 70 = .ok (.getfield 47, 3) := by decide +kernel
theorem dX1_trainNumber_73 : decode cX1_trainNumber 73 = .ok (.iload_n 1, 1) := by decide +kernel
theorem dX1_trainNumber_74 : decode cX1_trainNumber 74 = .ok (.invokevirtual 210, 3) := by decide +kernel
theorem dX1_trainNumber_77 : decode cX1_trainNumber 77 = .ok (.iconst 1, 1) := by decide +kernel
theorem dX1_trainNumber_78 : decode cX1_trainNumber 78 = .ok (.isub, 1) := by decide +kernel
theorem dX1_trainNumber_79 : decode cX1_trainNumber 79 = .ok (.invokevirtual 213, 3) := by decide +kernel
theorem dX1_trainNumber_82 : decode cX1_trainNumber 82 = .ok (.ireturn, 1) := by decide +kernel
theorem dX1_trainNumber_83 : decode cX1_trainNumber 83 = .ok (.aload_n 0, 1) := by decide +kernel
theorem dX1_trainNumber_84 : decode cX1_trainNumber 84 = .ok (.getfield 47, 3) := by decide +kernel
theorem dX1_trainNumber_87 : decode cX1_trainNumber 87 = .ok (.iload_n 1, 1) := by decide +kernel
theorem dX1_trainNumber_88 : decode cX1_trainNumber 88 = .ok (.invokevirtual 216, 3) := by decide +kernel
theorem dX1_trainNumber_91 : decode cX1_trainNumber 91 = .ok (.ireturn, 1) := by decide +kernel
theorem dX2_init_0 : decode cX2_init 0 = .ok (.aload_n 0, 1) := by decide +kernel
theorem dX2_init_1 : decode cX2_init 1 = .ok (.invokespecial 3, 3) := by decide +kernel
theorem dX2_init_4 : decode cX2_init 4 = .ok (.aload_n 0, 1) := by decide +kernel
theorem dX2_init_5 : decode cX2_init 5 = .ok (.bipush 12, 2) := by decide +kernel
theorem dX2_init_7 : decode cX2_init 7 = .ok (.newarray .int, 2) := by decide +kernel
theorem dX2_init_9 : decode cX2_init 9 = .ok (.putfield 9, 3) := by decide +kernel
theorem dX2_init_12 : decode cX2_init 12 = .ok (.aload_n 0, 1) := by decide +kernel
theorem dX2_init_13 : decode cX2_init 13 = .ok (.sipush 4096, 3) := by decide +kernel
theorem dX2_init_16 : decode cX2_init 16 = .ok (.newarray .int, 2) := by decide +kernel
theorem dX2_init_18 : decode cX2_init 18 = .ok (.putfield 15, 3) := by decide +kernel
theorem dX2_init_21 : decode cX2_init 21 = .ok (.aload_n 0, 1) := by decide +kernel
theorem dX2_init_22 : decode cX2_init 22 = .ok (.sipush 4096, 3) := by decide +kernel
theorem dX2_init_25 : decode cX2_init 25 = .ok (.newarray .int, 2) := by decide +kernel
theorem dX2_init_27 : decode cX2_init 27 = .ok (.putfield 18, 3) := by decide +kernel
theorem dX2_init_30 : decode cX2_init 30 = .ok (.aload_n 0, 1) := by decide +kernel
theorem dX2_init_31 : decode cX2_init 31 = .ok (.sipush 4096, 3) := by decide +kernel
theorem dX2_init_34 : decode cX2_init 34 = .ok (.newarray .int, 2) := by decide +kernel
theorem dX2_init_36 : decode cX2_init 36 = .ok (.putfield 21, 3) := by decide +kernel
theorem dX2_init_39 : decode cX2_init 39 = .ok (.return_, 1) := by decide +kernel
set_option maxRecDepth 20000 in
theorem ggX2_explore_X2_forget : GoodIn wsX2_explore wsX2_forget := goodIn_r _ [10, 4, 11, 5, 12, 1, 13, 14, 15, 16, 17, 45, 46, 47, 48, 49, 50, 51] rfl (by decide +kernel)
set_option maxRecDepth 20000 in
theorem gX2_explore_X2_forget : GoodIn wsX2_explore (wsV RX2 24 RX2 yX2_forget wsX2_forget) := goodIn_app (goodIn_of _ (by decide +kernel)) ggX2_explore_X2_forget
