theorem dX1_makeStep_5 : decode cX1_makeStep 5 = .ok (.iload_n 1, 1) := by decide +kernel
theorem dX1_makeStep_6 : decode cX1_makeStep 6 = .ok (.iconst (-1), 1) := by decide +kernel
theorem dX1_makeStep_7 : decode cX1_makeStep 7 = .ok (.if_icmp .eq 18, 3) := by decide +kernel
theorem dX1_makeStep_10 : decode cX1_makeStep 10 = .ok (.aload_n 0, 1) := by decide +kernel
theorem dX1_makeStep_11 : decode cX1_makeStep 11 = .ok (.iload_n 1, 1) := by decide +kernel
theorem dX1_makeStep_12 : decode cX1_makeStep 12 = .ok (.bipush 10, 2) := by decide +kernel
theorem dX1_makeStep_14 : decode cX1_makeStep 14 = .ok (.idiv, 1) := by decide +kernel
theorem dX1_makeStep_15 : decode cX1_makeStep 15 = .ok (.iload_n 1, 1) := by decide +kernel
theorem dX1_makeStep_16 : decode cX1_makeStep 16 = .ok (.bipush 10, 2) := by decide +kernel
theorem dX1_makeStep_18 : decode cX1_makeStep 18 = .ok (.irem, 1) := by decide +kernel
theorem dX1_makeStep_19 : decode cX1_makeStep 19 = .ok (.invokevirtual 198, 3) := by decide +kernel
theorem dX1_makeStep_22 : decode cX1_makeStep 22 = .ok (.goto 32, 3) := by decide +kernel
theorem dX1_makeStep_25 : decode cX1_makeStep 25 = .ok (.aload_n 0, 1) := by decide +kernel
theorem dX1_makeStep_26 : decode cX1_makeStep 26 = .ok (.getfield 60, 3) := by decide +kernel
theorem dX1_makeStep_29 : decode cX1_makeStep 29 = .ok (.ifCond .ne 21, 3) := by decide +kernel
theorem dX1_makeStep_32 : decode cX1_makeStep 32 = .ok (.aload_n 0, 1) := by decide +kernel
theorem dX1_makeStep_33 : decode cX1_makeStep 33 = .ok (.getfield 40, 3) := by decide +kernel
theorem dX1_makeStep_36 : decode cX1_makeStep 36 = .ok (.invokevirtual 115, 3) := by decide +kernel
theorem dX1_makeStep_39 : decode cX1_makeStep 39 = .ok (.ifCond .le 11, 3) := by decide +kernel
theorem dX1_makeStep_42 : decode cX1_makeStep 42 = .ok (.aload_n 0, 1) := by decide +kernel
theorem dX1_makeStep_43 : decode cX1_makeStep 43 = .ok (.invokevirtual 201, 3) := by decide +kernel
theorem dX1_makeStep_46 : decode cX1_makeStep 46 = .ok (.pop, 1) := by decide +kernel
theorem dX1_makeStep_47 : decode cX1_makeStep 47 = .ok (.goto 7, 3) := by decide +kernel
theorem dX1_makeStep_50 : decode cX1_makeStep 50 = .ok (.aload_n 0, 1) := by decide +kernel
theorem dX1_makeStep_51 : decode cX1_makeStep 51 = .ok (.invokevirtual 204, 3) := by decide +kernel
theorem dX1_makeStep_54 : decode cX1_makeStep 54 = .ok (.return_, 1) := by decide +kernel
set_option maxRecDepth 20000 in
theorem ggX1_lightestHand_X1_handPips : GoodIn wsX1_lightestHand wsX1_handPips := goodIn_r _ [6, 7, 8, 9, 5, 10, 11, 12, 13, 14, 15, 16, 17, 18, 19, 20, 21, 22, 23, 24, 25, 26, 27, 28, 29, 30, 31, 32, 33, 34, 35, 36] (by decide +kernel) (by decide +kernel)
set_option maxRecDepth 20000 in
theorem gX1_lightestHand_X1_handPips : GoodIn wsX1_lightestHand (wsV RX1 189 RX1 yX1_handPips wsX1_handPips) := goodIn_app (goodIn_of _ (by decide +kernel)) ggX1_lightestHand_X1_handPips
theorem dX1_lightestHand_0 : decode cX1_lightestHand 0 = .ok (.iconst 0, 1) := by decide +kernel
theorem dX1_lightestHand_1 : decode cX1_lightestHand 1 = .ok (.istore_n 1, 1) := by decide +kernel
theorem dX1_lightestHand_2 : decode cX1_lightestHand 2 = .ok (.iconst 1, 1) := by decide +kernel
theorem dX1_lightestHand_3 : decode cX1_lightestHand 3 = .ok (.istore_n 2, 1) := by decide +kernel
theorem dX1_lightestHand_4 : decode cX1_lightestHand 4 = .ok (.iload_n 2, 1) := by decide +kernel
theorem dX1_lightestHand_5 : decode cX1_lightestHand 5 = .ok (.aload_n 0, 1) := by decide +kernel
theorem dX1_lightestHand_6 : decode cX1_lightestHand 6 = .ok (.getfield 15, 3) := by decide +kernel
theorem dX1_lightestHand_9 : decode cX1_lightestHand 9 = .ok (.if_icmp .ge 24, 3) := by decide +kernel
theorem dX1_lightestHand_12 : decode cX1_lightestHand 12 = .ok (.aload_n 0, 1) := by decide +kernel
theorem dX1_lightestHand_13 : decode cX1_lightestHand 13 = .ok (.iload_n 2, 1) := by decide +kernel
theorem dX1_lightestHand_14 : decode cX1_lightestHand 14 = .ok (.invokevirtual 189, 3) := by decide +kernel
theorem dX1_lightestHand_17 : decode cX1_lightestHand 17 = .ok (.aload_n 0, 1) := by decide +kernel
theorem dX1_lightestHand_18 : decode cX1_lightestHand 18 = .ok (.iload_n 1, 1) := by decide +kernel
theorem dX1_lightestHand_19 : decode cX1_lightestHand 19 = .ok (.invokevirtual 189, 3) := by decide +kernel
theorem dX1_lightestHand_22 : decode cX1_lightestHand 22 = .ok (.if_icmp .ge 5, 3) := by decide +kernel
theorem dX1_lightestHand_25 : decode cX1_lightestHand 25 = .ok (.iload_n 2, 1) := by decide +kernel
theorem dX1_lightestHand_26 : decode cX1_lightestHand 26 = .ok (.istore_n 1, 1) := by decide +kernel
theorem dX1_lightestHand_27 : decode cX1_lightestHand 27 = .ok (.iinc 2 1, 3) := by decide +kernel
theorem dX1_lightestHand_30 : decode cX1_lightestHand 30 = .ok (.goto (-26), 3) := by decide +kernel
theorem dX1_lightestHand_33 : decode cX1_lightestHand 33 = .ok (.iload_n 1, 1) := by decide +kernel
theorem dX1_lightestHand_34 : decode cX1_lightestHand 34 = .ok (.ireturn, 1) := by decide +kernel
set_option maxRecDepth 20000 in
theorem ggX1_stateNumber_X4_size : GoodIn wsX1_stateNumber wsX4_size := goodIn_r _ [17, 18, 19, 81, 82, 83] (by decide +kernel) (by decide +kernel)
set_option maxRecDepth 20000 in
theorem gX1_stateNumber_X4_size : GoodIn wsX1_stateNumber (wsV RX1 115 RX4 yX4_size wsX4_size) := goodIn_app (goodIn_of _ (by decide +kernel)) ggX1_stateNumber_X4_size
set_option maxRecDepth 20000 in
theorem ggX1_stateNumber_X1_playsNow : GoodIn wsX1_stateNumber wsX1_playsNow := goodIn_r _ [24, 5, 25, 26, 27, 23, 28, 29, 30, 31, 32, 33, 2, 34, 35, 36, 37, 9, 7, 38, 39, 40, 41, 42, 43, 44, 45, 46, 47, 48, 49, 50, 51, 52, 53, 54, 55, 56, 57, 58, 59, 60, 61, 62, 63, 64, 65, 66, 67, 68, 69, 70, 71, 72, 73, 74, 75, 76, 77, 78, 79, 80, 84, 85, 86, 87, 88] (by decide +kernel) (by decide +kernel)
set_option maxRecDepth 20000 in
theorem gX1_stateNumber_X1_playsNow : GoodIn wsX1_stateNumber (wsV RX1 182 RX1 yX1_playsNow wsX1_playsNow) := goodIn_app (goodIn_of _ (by decide +kernel)) ggX1_stateNumber_X1_playsNow
theorem dX1_stateNumber_0 : decode cX1_stateNumber 0 = .ok (.iload_n 1, 1) := by decide +kernel
theorem dX1_stateNumber_1 : decode cX1_stateNumber 1 = .ok (.tableswitch 142 0 11 #[63, 68, 73, 78, 83, 88, 101, 106, 114, 127, 132, 137], 63) := by decide +kernel
theorem dX1_stateNumber_64 : decode cX1_stateNumber 64 = .ok (.aload_n 0, 1) := by decide +kernel
theorem dX1_stateNumber_65 : decode cX1_stateNumber 65 = .ok (.getfield 9, 3) := by decide +kernel
theorem dX1_stateNumber_68 : decode cX1_stateNumber 68 = .ok (.ireturn, 1) := by decide +kernel
theorem dX1_stateNumber_69 : decode cX1_stateNumber 69 = .ok (.aload_n 0, 1) := by decide +kernel
theorem dX1_stateNumber_70 : decode cX1_stateNumber 70 = .ok (.getfield 15, 3) := by decide +kernel
theorem dX1_stateNumber_73 : decode cX1_stateNumber 73 = .ok (.ireturn, 1) := by decide +kernel
theorem dX1_stateNumber_74 : decode cX1_stateNumber 74 = .ok (.aload_n 0, 1) := by decide +kernel
theorem dX1_stateNumber_75 : decode cX1_stateNumber 75 = .ok (.getfield 18, 3) := by decide +kernel
theorem dX1_stateNumber_78 : decode cX1_stateNumber 78 = .ok (.ireturn, 1) := by decide +kernel
theorem dX1_stateNumber_79 : decode cX1_stateNumber 79 = .ok (.aload_n 0, 1) := by decide +kernel
theorem dX1_stateNumber_80 : decode cX1_stateNumber 80 = .ok (.getfield 21, 3) := by decide +kernel
theorem dX1_stateNumber_83 : decode cX1_stateNumber 83 = .ok (.ireturn, 1) := by decide +kernel
theorem dX1_stateNumber_84 : decode cX1_stateNumber 84 = .ok (.aload_n 0, 1) := by decide +kernel
theorem dX1_stateNumber_85 : decode cX1_stateNumber 85 = .ok (.getfield 57, 3) := by decide +kernel
theorem dX1_stateNumber_88 : decode cX1_stateNumber 88 = .ok (.ireturn, 1) := by decide +kernel
theorem dX1_stateNumber_89 : decode cX1_stateNumber 89 = .ok (.aload_n 0, 1) := by decide +kernel
theorem dX1_stateNumber_90 : decode cX1_stateNumber 90 = .ok (.getfield 60, 3) := by decide +kernel
theorem dX1_stateNumber_93 : decode cX1_stateNumber 93 = .ok (.ifCond .eq 7, 3) := by decide +kernel
theorem dX1_stateNumber_96 : decode cX1_stateNumber 96 = .ok (.iconst 1, 1) := by decide +kernel
theorem dX1_stateNumber_97 : decode cX1_stateNumber 97 = .ok (.goto 4, 3) := by decide +kernel
theorem dX1_stateNumber_100 : decode cX1_stateNumber 100 = .ok (.iconst 0, 1) := by decide +kernel
theorem dX1_stateNumber_101 : decode cX1_stateNumber 101 = .ok (.ireturn, 1) := by decide +kernel
theorem dX1_stateNumber_102 : decode cX1_stateNumber 102 = .ok (.aload_n 0, 1) := by decide +kernel
theorem dX1_stateNumber_103 : decode cX1_stateNumber 103 = .ok (.getfield 27, 3) := by decide +kernel
theorem dX1_stateNumber_106 : decode cX1_stateNumber 106 = .ok (.ireturn, 1) := by decide +kernel
theorem dX1_stateNumber_107 : decode cX1_stateNumber 107 = .ok (.aload_n 0, 1) := by decide +kernel
theorem dX1_stateNumber_108 : decode cX1_stateNumber 108 = .ok (.getfield 40, 3) := by decide +kernel
theorem dX1_stateNumber_111 : decode cX1_stateNumber 111 = .ok (.invokevirtual 115, 3) := by decide +kernel
theorem dX1_stateNumber_114 : decode cX1_stateNumber 114 = .ok (.ireturn, 1) := by decide +kernel
theorem dX1_stateNumber_115 : decode cX1_stateNumber 115 = .ok (.aload_n 0, 1) := by decide +kernel
theorem dX1_stateNumber_116 : decode cX1_stateNumber 116 = .ok (.getfield 64, 3) := by decide +kernel
theorem dX1_stateNumber_119 : decode cX1_stateNumber 119 = .ok (.ifCond .eq 7, 3) := by decide +kernel
theorem dX1_stateNumber_122 : decode cX1_stateNumber 122 = .ok (.iconst 1, 1) := by decide +kernel
theorem dX1_stateNumber_123 : decode cX1_stateNumber 123 = .ok (.goto 4, 3) := by decide +kernel
theorem dX1_stateNumber_126 : decode cX1_stateNumber 126 = .ok (.iconst 0, 1) := by decide +kernel
theorem dX1_stateNumber_127 : decode cX1_stateNumber 127 = .ok (.ireturn, 1) := by decide +kernel
theorem dX1_stateNumber_128 : decode cX1_stateNumber 128 = .ok (.aload_n 0, 1) := by decide +kernel
theorem dX1_stateNumber_129 : decode cX1_stateNumber 129 = .ok (.getfield 67, 3) := by decide +kernel
theorem dX1_stateNumber_132 : decode cX1_stateNumber 132 = .ok (.ireturn, 1) := by decide +kernel
theorem dX1_stateNumber_133 : decode cX1_stateNumber 133 = .ok (.aload_n 0, 1) := by decide +kernel
theorem dX1_stateNumber_134 : decode cX1_stateNumber 134 = .ok (.invokevirtual 182, 3) := by decide +kernel
theorem dX1_stateNumber_137 : decode cX1_stateNumber 137 = .ok (.ireturn, 1) := by decide +kernel
theorem dX1_stateNumber_138 : decode cX1_stateNumber 138 = .ok (.aload_n 0, 1) := by decide +kernel
theorem dX1_stateNumber_139 : decode cX1_stateNumber 139 = .ok (.getfield 70, 3) := by decide +kernel
theorem dX1_stateNumber_142 : decode cX1_stateNumber 142 = .ok (.ireturn, 1) := by decide +kernel
theorem dX1_stateNumber_143 : decode cX1_stateNumber 143 = .ok (.aload_n 0, 1) := by decide +kernel
theorem dX1_stateNumber_144 : decode cX1_stateNumber 144 = .ok (.getfield 24, 3) := by decide +kernel
theorem dX1_stateNumber_147 : decode cX1_stateNumber 147 = .ok (.ireturn, 1) := by decide +kernel
set_option maxRecDepth 20000 in
theorem ggX1_playerNumber_X1_handCount : GoodIn wsX1_playerNumber wsX1_handCount := goodIn_r _ [6, 7, 8, 9, 5, 10, 11, 61, 62, 63, 64, 65, 66, 67, 68, 69, 70, 71, 72, 73, 74, 75, 76] (by decide +kernel) (by decide +kernel)
set_option maxRecDepth 20000 in
theorem gX1_playerNumber_X1_handCount : GoodIn wsX1_playerNumber (wsV RX1 112 RX1 yX1_handCount wsX1_handCount) := goodIn_app (goodIn_of _ (by decide +kernel)) ggX1_playerNumber_X1_handCount
set_option maxRecDepth 20000 in
theorem ggX1_playerNumber_X1_handPips : GoodIn wsX1_playerNumber wsX1_handPips := goodIn_r _ [15, 7, 8, 9, 5, 10, 11, 16, 17, 18, 19, 20, 21, 22, 23, 24, 61, 62, 63, 64, 65, 66, 67, 68, 69, 70, 71, 72, 73, 74, 75, 76] (by decide +kernel) (by decide +kernel)
set_option maxRecDepth 20000 in
theorem gX1_playerNumber_X1_handPips : GoodIn wsX1_playerNumber (wsV RX1 189 RX1 yX1_handPips wsX1_handPips) := goodIn_app (goodIn_of _ (by decide +kernel)) ggX1_playerNumber_X1_handPips
set_option maxRecDepth 20000 in
theorem ggX1_playerNumber_X7_look : GoodIn wsX1_playerNumber wsX7_look := goodIn_r _ [26] (by decide +kernel) (by decide +kernel)
set_option maxRecDepth 20000 in
theorem gX1_playerNumber_X7_look_n185 : GoodIn wsX1_playerNumber (wsX7_look) := ggX1_playerNumber_X7_look
set_option maxRecDepth 20000 in
theorem ggX1_playerNumber_X1_playableTiles : GoodIn wsX1_playerNumber wsX1_playableTiles := goodIn_r _ [30, 31, 7, 8, 9, 5, 10, 11, 32, 33, 34, 35, 36, 37, 38, 39, 40, 41, 42, 43, 44, 45, 46, 47, 48, 49, 50, 51, 52, 53, 25, 17, 26, 54, 55, 56, 57, 58, 59, 60, 19, 20, 21, 22, 23, 24, 61, 62, 63, 64, 65, 66, 67, 68, 69, 70, 71, 72, 73, 74, 75, 76, 77, 78, 79, 80, 81] (by decide +kernel) (by decide +kernel)
set_option maxRecDepth 20000 in
theorem gX1_playerNumber_X1_playableTiles : GoodIn wsX1_playerNumber (wsV RX1 207 RX1 yX1_playableTiles wsX1_playableTiles) := goodIn_app (goodIn_of _ (by decide +kernel)) ggX1_playerNumber_X1_playableTiles
theorem dX1_playerNumber_0 : decode cX1_playerNumber 0 = .ok (.iload_n 2, 1) := by decide +kernel
theorem dX1_playerNumber_1 : decode cX1_playerNumber 1 = .ok (.tableswitch 48 0 2 #[27, 33, 39], 27) := by decide +kernel
theorem dX1_playerNumber_28 : decode cX1_playerNumber 28 = .ok (.aload_n 0, 1) := by decide +kernel
theorem dX1_playerNumber_29 : decode cX1_playerNumber 29 = .ok (.iload_n 1, 1) := by decide +kernel
theorem dX1_playerNumber_30 : decode cX1_playerNumber 30 = .ok (.invokevirtual 112, 3) := by decide +kernel
theorem dX1_playerNumber_33 : decode cX1_playerNumber 33 = .ok (.ireturn, 1) := by decide +kernel
theorem dX1_playerNumber_34 : decode cX1_playerNumber 34 = .ok (.aload_n 0, 1) := by decide +kernel
theorem dX1_playerNumber_35 : decode cX1_playerNumber 35 = .ok (.iload_n 1, 1) := by decide +kernel
theorem dX1_playerNumber_36 : decode cX1_playerNumber 36 = .ok (.invokevirtual 189, 3) := by decide +kernel
theorem dX1_playerNumber_39 : decode cX1_playerNumber 39 = .ok (.ireturn, 1) := by decide +kernel
theorem dX1_playerNumber_40 : decode cX1_playerNumber 40 = .ok (.aload_n 0, 1) := by decide +kernel
theorem dX1_playerNumber_41 : decode cX1_playerNumber 41 = .ok (.getfield 34, 3) := by decide +kernel
theorem dX1_playerNumber_44 : decode cX1_playerNumber 44 = .ok (.iload_n 1, 1) := by decide +kernel
theorem dX1_playerNumber_45 : decode cX1_playerNumber 45 = .ok (.invokestatic 185, 3) := by decide +kernel
theorem dX1_playerNumber_48 : decode cX1_playerNumber 48 = .ok (.ireturn, 1) := by decide +kernel
theorem dX1_playerNumber_49 : decode cX1_playerNumber 49 = .ok (.aload_n 0, 1) := by decide +kernel
theorem dX1_playerNumber_50 : decode cX1_playerNumber 50 = .ok (.iload_n 1, 1) := by decide +kernel
theorem dX1_playerNumber_51 : decode cX1_playerNumber 51 = .ok (.invokevirtual 207, 3) := by decide +kernel
theorem dX1_playerNumber_54 : decode cX1_playerNumber 54 = .ok (.ireturn, 1) := by decide +kernel
set_option maxRecDepth 20000 in
theorem ggX1_trainNumber_X6_countOf : GoodIn wsX1_trainNumber wsX6_countOf := goodIn_r _ [6, 7, 8, 9, 10, 11, 61, 62, 63, 64, 65] (by decide +kernel) (by decide +kernel)
set_option maxRecDepth 20000 in
theorem gX1_trainNumber_X6_countOf : GoodIn wsX1_trainNumber (wsV RX1 210 RX6 yX6_countOf wsX6_countOf) := goodIn_app (goodIn_of _ (by decide +kernel)) ggX1_trainNumber_X6_countOf
set_option maxRecDepth 20000 in
theorem ggX1_trainNumber_X6_endOf : GoodIn wsX1_trainNumber wsX6_endOf := goodIn_r _ [15, 16, 9, 10, 11, 61, 62, 63, 64, 65] (by decide +kernel) (by decide +kernel)
set_option maxRecDepth 20000 in
theorem gX1_trainNumber_X6_endOf : GoodIn wsX1_trainNumber (wsV RX1 144 RX6 yX6_endOf wsX6_endOf) := goodIn_app (goodIn_of _ (by decide +kernel)) ggX1_trainNumber_X6_endOf
set_option maxRecDepth 20000 in
theorem ggX1_trainNumber_X1_isOpen : GoodIn wsX1_trainNumber wsX1_isOpen := goodIn_r _ [21, 22, 1, 23, 24, 25, 5, 26, 27, 9, 10, 11, 45, 46, 47, 48, 49, 50, 51, 52, 53, 54, 55, 56, 57, 58, 59, 60, 61, 62, 63, 64, 65] (by decide +kernel) (by decide +kernel)
set_option maxRecDepth 20000 in
theorem gX1_trainNumber_X1_isOpen : GoodIn wsX1_trainNumber (wsV RX1 141 RX1 yX1_isOpen wsX1_isOpen) := goodIn_app (goodIn_of _ (by decide +kernel)) ggX1_trainNumber_X1_isOpen
set_option maxRecDepth 20000 in
theorem ggX1_trainNumber_X6_tileAt : GoodIn wsX1_trainNumber wsX6_tileAt := goodIn_r _ [31, 7, 8, 32, 9, 10, 11, 61, 62, 63, 64, 65] (by decide +kernel) (by decide +kernel)
set_option maxRecDepth 20000 in
theorem gX1_trainNumber_X6_tileAt : GoodIn wsX1_trainNumber (wsV RX1 213 RX6 yX6_tileAt wsX6_tileAt) := goodIn_app (goodIn_of _ (by decide +kernel)) ggX1_trainNumber_X6_tileAt
set_option maxRecDepth 20000 in
theorem ggX1_trainNumber_X6_pipsOn : GoodIn wsX1_trainNumber wsX6_pipsOn := goodIn_r _ [36, 7, 8, 32, 9, 10, 11, 37, 38, 39, 40, 41, 42, 43, 44, 61, 62, 63, 64, 65] (by decide +kernel) (by decide +kernel)
set_option maxRecDepth 20000 in
theorem gX1_trainNumber_X6_pipsOn : GoodIn wsX1_trainNumber (wsV RX1 216 RX6 yX6_pipsOn wsX6_pipsOn) := goodIn_app (goodIn_of _ (by decide +kernel)) ggX1_trainNumber_X6_pipsOn
theorem dX1_trainNumber_0 : decode cX1_trainNumber 0 = .ok (.iload_n 2, 1) := by decide +kernel
theorem dX1_trainNumber_1 : decode cX1_trainNumber 1 = .ok (.tableswitch 82 0 3 #[31, 40, 49, 63], 31) := by decide +kernel
theorem dX1_trainNumber_32 : decode cX1_trainNumber 32 = .ok (.aload_n 0, 1) := by decide +kernel
theorem dX1_trainNumber_33 : decode cX1_trainNumber 33 = .ok (.getfield 47, 3) := by decide +kernel
theorem dX1_trainNumber_36 : decode cX1_trainNumber 36 = .ok (.iload_n 1, 1) := by decide +kernel
theorem dX1_trainNumber_37 : decode cX1_trainNumber 37 = .ok (.invokevirtual 210, 3) := by decide +kernel
theorem dX1_trainNumber_40 : decode cX1_trainNumber 40 = .ok (.ireturn, 1) := by decide +kernel
theorem dX1_trainNumber_41 : decode cX1_trainNumber 41 = .ok (.aload_n 0, 1) := by decide +kernel
theorem dX1_trainNumber_42 : decode cX1_trainNumber 42 = .ok (.getfield 47, 3) := by decide +kernel
theorem dX1_trainNumber_45 : decode cX1_trainNumber 45 = .ok (.iload_n 1, 1) := by decide +kernel
theorem dX1_trainNumber_46 : decode cX1_trainNumber 46 = .ok (.invokevirtual 144, 3) := by decide +kernel
theorem dX1_trainNumber_49 : decode cX1_trainNumber 49 = .ok (.ireturn, 1) := by decide +kernel
theorem dX1_trainNumber_50 : decode cX1_trainNumber 50 = .ok (.aload_n 0, 1) := by decide +kernel
theorem dX1_trainNumber_51 : decode cX1_trainNumber 51 = .ok (.iload_n 1, 1) := by decide +kernel
theorem dX1_trainNumber_52 : decode cX1_trainNumber 52 = .ok (.invokevirtual 141, 3) := by decide +kernel
theorem dX1_trainNumber_55 : decode cX1_trainNumber 55 = .ok (.ifCond .eq 7, 3) := by decide +kernel
theorem dX1_trainNumber_58 : decode cX1_trainNumber 58 = .ok (.iconst 1, 1) := by decide +kernel
theorem dX1_trainNumber_59 : decode cX1_trainNumber 59 = .ok (.goto 4, 3) := by decide +kernel
theorem dX1_trainNumber_62 : decode cX1_trainNumber 62 = .ok (.iconst 0, 1) := by decide +kernel
theorem dX1_trainNumber_63 : decode cX1_trainNumber 63 = .ok (.ireturn, 1) := by decide +kernel
theorem dX1_trainNumber_64 : decode cX1_trainNumber 64 = .ok (.aload_n 0, 1) := by decide +kernel
theorem dX1_trainNumber_65 : decode cX1_trainNumber 65 = .ok (.getfield 47, 3) := by decide +kernel
theorem dX1_trainNumber_68 : decode cX1_trainNumber 68 = .ok (.iload_n 1, 1) := by decide +kernel
theorem dX1_trainNumber_69 : decode cX1_trainNumber 69 = .ok (.aload_n 0, 1) := by decide +kernel
theorem dX1_trainNumber_70 : decode cX1_trainNumber 70 = .ok (.getfield 47, 3) := by decide +kernel
theorem dX1_trainNumber_73 : decode cX1_trainNumber 73 = .ok (.iload_n 1, 1) := by decide +kernel
theorem dX1_trainNumber_74 : decode cX1_trainNumber 74 = .ok (.invokevirtual 210, 3) := by decide +kernel
theorem dX1_trainNumber_77 : decode cX1_trainNumber 77 = .ok (.iconst 1, 1) := by decide +kernel
theorem dX1_trainNumber_78 : decode cX1_trainNumber 78 = .ok (.isub, 1) := by decide +kernel
theorem dX1_trainNumber_79 : decode cX1_trainNumber 79 = .ok (.invokevirtual 213, 3) := by decide +kernel
theorem dX1_trainNumber_82 : decode cX1_trainNumber 82 = .ok (.ireturn, 1) := by decide +kernel
theorem dX1_trainNumber_83 : decode cX1_trainNumber 83 = .ok (.aload_n 0, 1) := by decide +kernel
theorem dX1_trainNumber_84 : decode cX1_trainNumber 84 = .ok (.getfield 47, 3) := by decide +kernel
theorem dX1_trainNumber_87 : decode cX1_trainNumber 87 = .ok (.iload_n 1, 1) := by decide +kernel
theorem dX1_trainNumber_88 : decode cX1_trainNumber 88 = .ok (.invokevirtual 216, 3) := by decide +kernel
theorem dX1_trainNumber_91 : decode cX1_trainNumber 91 = .ok (.ireturn, 1) := by decide +kernel
theorem dX2_init_0 : decode cX2_init 0 = .ok (.aload_n 0, 1) := by decide +kernel
theorem dX2_init_1 : decode cX2_init 1 = .ok (.invokespecial 3, 3) := by decide +kernel
theorem dX2_init_4 : decode cX2_init 4 = .ok (.aload_n 0, 1) := by decide +kernel
theorem dX2_init_5 : decode cX2_init 5 = .ok (.bipush 12, 2) := by decide +kernel
theorem dX2_init_7 : decode cX2_init 7 = .ok (.newarray .int, 2) := by decide +kernel
theorem dX2_init_9 : decode cX2_init 9 = .ok (.putfield 9, 3) := by decide +kernel
theorem dX2_init_12 : decode cX2_init 12 = .ok (.aload_n 0, 1) := by decide +kernel
theorem dX2_init_13 : decode cX2_init 13 = .ok (.sipush 4096, 3) := by decide +kernel
theorem dX2_init_16 : decode cX2_init 16 = .ok (.newarray .int, 2) := by decide +kernel
theorem dX2_init_18 : decode cX2_init 18 = .ok (.putfield 15, 3) := by decide +kernel
theorem dX2_init_21 : decode cX2_init 21 = .ok (.aload_n 0, 1) := by decide +kernel
theorem dX2_init_22 : decode cX2_init 22 = .ok (.sipush 4096, 3) := by decide +kernel
theorem dX2_init_25 : decode cX2_init 25 = .ok (.newarray .int, 2) := by decide +kernel
theorem dX2_init_27 : decode cX2_init 27 = .ok (.putfield 18, 3) := by decide +kernel
theorem dX2_init_30 : decode cX2_init 30 = .ok (.aload_n 0, 1) := by decide +kernel
theorem dX2_init_31 : decode cX2_init 31 = .ok (.sipush 4096, 3) := by decide +kernel
theorem dX2_init_34 : decode cX2_init 34 = .ok (.newarray .int, 2) := by decide +kernel
theorem dX2_init_36 : decode cX2_init 36 = .ok (.putfield 21, 3) := by decide +kernel
theorem dX2_init_39 : decode cX2_init 39 = .ok (.return_, 1) := by decide +kernel
set_option maxRecDepth 20000 in
theorem ggX2_explore_X2_forget : GoodIn wsX2_explore wsX2_forget := goodIn_r _ [10, 4, 11, 5, 12, 1, 13, 14, 15, 16, 17, 45, 46, 47, 48, 49, 50, 51] (by decide +kernel) (by decide +kernel)
set_option maxRecDepth 20000 in
theorem gX2_explore_X2_forget : GoodIn wsX2_explore (wsV RX2 24 RX2 yX2_forget wsX2_forget) := goodIn_app (goodIn_of _ (by decide +kernel)) ggX2_explore_X2_forget
set_option maxRecDepth 20000 in
theorem ggX2_explore_X1_holderOf : GoodIn wsX2_explore wsX1_holderOf := goodIn_r _ [22, 23, 52, 53, 54, 55, 56, 57, 58, 59, 60, 61, 62, 63, 64, 65, 66, 67] (by decide +kernel) (by decide +kernel)
set_option maxRecDepth 20000 in
theorem gX2_explore_X1_holderOf : GoodIn wsX2_explore (wsV RX2 31 RX1 yX1_holderOf wsX1_holderOf) := goodIn_app (goodIn_of _ (by decide +kernel)) ggX2_explore_X1_holderOf
set_option maxRecDepth 20000 in
theorem ggX2_explore_X7_put : GoodIn wsX2_explore wsX7_put := goodIn_r _ [17] (by decide +kernel) (by decide +kernel)
set_option maxRecDepth 20000 in
theorem gX2_explore_X7_put_n37 : GoodIn wsX2_explore (wsX7_put) := ggX2_explore_X7_put
set_option maxRecDepth 20000 in
theorem ggX2_explore_X6_endOf : GoodIn wsX2_explore wsX6_endOf := goodIn_r _ [28, 29, 13, 14, 15, 68, 69, 70, 71, 72] (by decide +kernel) (by decide +kernel)
set_option maxRecDepth 20000 in
theorem gX2_explore_X6_endOf : GoodIn wsX2_explore (wsV RX2 45 RX6 yX6_endOf wsX6_endOf) := goodIn_app (goodIn_of _ (by decide +kernel)) ggX2_explore_X6_endOf
set_option maxRecDepth 20000 in
theorem ggX2_explore_X2_reach : GoodIn wsX2_explore wsX2_reach := goodIn_r _ [33, 11, 4, 5, 13, 14, 15, 16, 17, 45, 46, 47, 48, 49, 50, 51] (by decide +kernel) (by decide +kernel)
set_option maxRecDepth 20000 in
theorem gX2_explore_X2_reach : GoodIn wsX2_explore (wsV RX2 53 RX2 yX2_reach wsX2_reach) := goodIn_app (goodIn_of _ (by decide +kernel)) ggX2_explore_X2_reach
set_option maxRecDepth 20000 in
theorem ggX2_explore_X7_look : GoodIn wsX2_explore wsX7_look := goodIn_r _ [15] (by decide +kernel) (by decide +kernel)
set_option maxRecDepth 20000 in
theorem gX2_explore_X7_look_n60 : GoodIn wsX2_explore (wsX7_look) := ggX2_explore_X7_look
set_option maxRecDepth 20000 in
theorem ggX2_explore_X2_extend : GoodIn wsX2_explore wsX2_extend := goodIn_r _ [37, 1, 2, 11, 13, 14, 15, 38, 39, 9, 40, 41, 42, 43, 44, 30, 31, 32, 33, 4, 5, 16, 17, 45, 46, 47, 48, 49, 50, 51] (by decide +kernel) (by decide +kernel)
set_option maxRecDepth 20000 in
theorem gX2_explore_X2_extend : GoodIn wsX2_explore (wsV RX2 64 RX2 yX2_extend wsX2_extend) := goodIn_app (goodIn_of _ (by decide +kernel)) ggX2_explore_X2_extend
theorem dX2_explore_0 : decode cX2_explore 0 = .ok (.aload_n 0, 1) := by decide +kernel
theorem dX2_explore_1 : decode cX2_explore 1 = .ok (.invokevirtual 24, 3) := by decide +kernel
theorem dX2_explore_4 : decode cX2_explore 4 = .ok (.iconst 0, 1) := by decide +kernel
theorem dX2_explore_5 : decode cX2_explore 5 = .ok (.istore_n 3, 1) := by decide +kernel
theorem dX2_explore_6 : decode cX2_explore 6 = .ok (.iload_n 3, 1) := by decide +kernel
theorem dX2_explore_7 : decode cX2_explore 7 = .ok (.bipush 100, 2) := by decide +kernel
theorem dX2_explore_9 : decode cX2_explore 9 = .ok (.if_icmp .ge 49, 3) := by decide +kernel
theorem dX2_explore_12 : decode cX2_explore 12 = .ok (.aload_n 0, 1) := by decide +kernel
theorem dX2_explore_13 : decode cX2_explore 13 = .ok (.getfield 27, 3) := by decide +kernel
theorem dX2_explore_16 : decode cX2_explore 16 = .ok (.bipush 12, 2) := by decide +kernel
theorem dX2_explore_18 : decode cX2_explore 18 = .ok (.if_icmp .ge 40, 3) := by decide +kernel
theorem dX2_explore_21 : decode cX2_explore 21 = .ok (.aload_n 1, 1) := by decide +kernel
theorem dX2_explore_22 : decode cX2_explore 22 = .ok (.iload_n 3, 1) := by decide +kernel
theorem dX2_explore_23 : decode cX2_explore 23 = .ok (.invokevirtual 31, 3) := by decide +kernel
theorem dX2_explore_26 : decode cX2_explore 26 = .ok (.iload_n 2, 1) := by decide +kernel
theorem dX2_explore_27 : decode cX2_explore 27 = .ok (.if_icmp .ne 25, 3) := by decide +kernel
theorem dX2_explore_30 : decode cX2_explore 30 = .ok (.aload_n 0, 1) := by decide +kernel
theorem dX2_explore_31 : decode cX2_explore 31 = .ok (.getfield 9, 3) := by decide +kernel
theorem dX2_explore_34 : decode cX2_explore 34 = .ok (.aload_n 0, 1) := by decide +kernel
theorem dX2_explore_35 : decode cX2_explore 35 = .ok (.getfield 27, 3) := by decide +kernel
theorem dX2_explore_38 : decode cX2_explore 38 = .ok (.iload_n 3, 1) := by decide +kernel
theorem dX2_explore_39 : decode cX2_explore 39 = .ok (.invokestatic 37, 3) := by decide +kernel
theorem dX2_explore_42 : decode cX2_explore 42 = .ok (.aload_n 0, 1) := by decide +kernel
theorem dX2_explore_43 : decode cX2_explore 43 = .ok (.dup, 1) := by decide +kernel
theorem dX2_explore_44 : decode cX2_explore 44 = .ok (.getfield 27, 3) := by decide +kernel
theorem dX2_explore_47 : decode cX2_explore 47 = .ok (.iconst 1, 1) := by decide +kernel
theorem dX2_explore_48 : decode cX2_explore 48 = .ok (.iadd, 1) := by decide +kernel
theorem dX2_explore_49 : decode cX2_explore 49 = .ok (.putfield 27, 3) := by decide +kernel
theorem dX2_explore_52 : decode cX2_explore 52 = .ok (.iinc 3 1, 3) := by decide +kernel
theorem dX2_explore_55 : decode cX2_explore 55 = .ok (.goto (-49), 3) := by decide +kernel
theorem dX2_explore_58 : decode cX2_explore 58 = .ok (.aload_n 0, 1) := by decide +kernel
theorem dX2_explore_59 : decode cX2_explore 59 = .ok (.aload_n 1, 1) := by decide +kernel
theorem dX2_explore_60 : decode cX2_explore 60 = .ok (.getfield 41, 3) := by decide +kernel
theorem dX2_explore_63 : decode cX2_explore 63 = .ok (.iload_n 2, 1) := by decide +kernel
theorem dX2_explore_64 : decode cX2_explore 64 = .ok (.invokevirtual 45, 3) := by decide +kernel
theorem dX2_explore_67 : decode cX2_explore 67 = .ok (.putfield 50, 3) := by decide +kernel
theorem dX2_explore_70 : decode cX2_explore 70 = .ok (.aload_n 0, 1) := by decide +kernel
theorem dX2_explore_71 : decode cX2_explore 71 = .ok (.iconst 0, 1) := by decide +kernel
theorem dX2_explore_72 : decode cX2_explore 72 = .ok (.iconst 1, 1) := by decide +kernel
theorem dX2_explore_73 : decode cX2_explore 73 = .ok (.aload_n 0, 1) := by decide +kernel
theorem dX2_explore_74 : decode cX2_explore 74 = .ok (.getfield 50, 3) := by decide +kernel
theorem dX2_explore_77 : decode cX2_explore 77 = .ok (.ishl, 1) := by decide +kernel
theorem dX2_explore_78 : decode cX2_explore 78 = .ok (.invokevirtual 53, 3) := by decide +kernel
theorem dX2_explore_81 : decode cX2_explore 81 = .ok (.iconst 0, 1) := by decide +kernel
theorem dX2_explore_82 : decode cX2_explore 82 = .ok (.istore_n 3, 1) := by decide +kernel
theorem dX2_explore_83 : decode cX2_explore 83 = .ok (.iload_n 3, 1) := by decide +kernel
theorem dX2_explore_84 : decode cX2_explore 84 = .ok (.aload_n 0, 1) := by decide +kernel
theorem dX2_explore_85 : decode cX2_explore 85 = .ok (.getfield 57, 3) := by decide +kernel
theorem dX2_explore_88 : decode cX2_explore 88 = .ok (.if_icmp .ge 28, 3) := by decide +kernel
theorem dX2_explore_91 : decode cX2_explore 91 = .ok (.iload_n 3, 1) := by decide +kernel
theorem dX2_explore_92 : decode cX2_explore 92 = .ok (.sipush 4096, 3) := by decide +kernel
theorem dX2_explore_95 : decode cX2_explore 95 = .ok (.if_icmp .ge 21, 3) := by decide +kernel
theorem dX2_explore_98 : decode cX2_explore 98 = .ok (.aload_n 0, 1) := by decide +kernel
theorem dX2_explore_99 : decode cX2_explore 99 = .ok (.aload_n 0, 1) := by decide +kernel
theorem dX2_explore_100 : decode cX2_explore 100 = .ok (.getfield 15, 3) := by decide +kernel
theorem dX2_explore_103 : decode cX2_explore 103 = .ok (.iload_n 3, 1) := by decide +kernel
theorem dX2_explore_104 : decode cX2_explore 104 = .ok (.invokestatic 60, 3) := by decide +kernel
theorem dX2_explore_107 : decode cX2_explore 107 = .ok (.invokevirtual 64, 3) := by decide +kernel
theorem dX2_explore_110 : decode cX2_explore 110 = .ok (.iinc 3 1, 3) := by decide +kernel
theorem dX2_explore_113 : decode cX2_explore 113 = .ok (.goto (-30), 3) := by decide +kernel
theorem dX2_explore_116 : decode cX2_explore 116 = .ok (.return_, 1) := by decide +kernel
set_option maxRecDepth 20000 in
theorem ggX2_forget_X7_look : GoodIn wsX2_forget wsX7_look := goodIn_r _ [8] (by decide +kernel) (by decide +kernel)
set_option maxRecDepth 20000 in
theorem gX2_forget_X7_look_n60 : GoodIn wsX2_forget (wsX7_look) := ggX2_forget_X7_look
set_option maxRecDepth 20000 in
theorem ggX2_forget_X7_put : GoodIn wsX2_forget wsX7_put := goodIn_r _ [10] (by decide +kernel) (by decide +kernel)
set_option maxRecDepth 20000 in
theorem gX2_forget_X7_put_n37 : GoodIn wsX2_forget (wsX7_put) := ggX2_forget_X7_put
theorem dX2_forget_0 : decode cX2_forget 0 = .ok (.iconst 0, 1) := by decide +kernel
theorem dX2_forget_1 : decode cX2_forget 1 = .ok (.istore_n 1, 1) := by decide +kernel
theorem dX2_forget_2 : decode cX2_forget 2 = .ok (.iload_n 1, 1) := by decide +kernel
theorem dX2_forget_3 : decode cX2_forget 3 = .ok (.aload_n 0, 1) := by decide +kernel
theorem dX2_forget_4 : decode cX2_forget 4 = .ok (.getfield 57, 3) := by decide +kernel
theorem dX2_forget_7 : decode cX2_forget 7 = .ok (.if_icmp .ge 48, 3) := by decide +kernel
theorem dX2_forget_10 : decode cX2_forget 10 = .ok (.iload_n 1, 1) := by decide +kernel
theorem dX2_forget_11 : decode cX2_forget 11 = .ok (.sipush 4096, 3) := by decide +kernel
theorem dX2_forget_14 : decode cX2_forget 14 = .ok (.if_icmp .ge 41, 3) := by decide +kernel
theorem dX2_forget_17 : decode cX2_forget 17 = .ok (.aload_n 0, 1) := by decide +kernel
theorem dX2_forget_18 : decode cX2_forget 18 = .ok (.getfield 18, 3) := by decide +kernel
theorem dX2_forget_21 : decode cX2_forget 21 = .ok (.aload_n 0, 1) := by decide +kernel
theorem dX2_forget_22 : decode cX2_forget 22 = .ok (.getfield 15, 3) := by decide +kernel
theorem dX2_forget_25 : decode cX2_forget 25 = .ok (.iload_n 1, 1) := by decide +kernel
theorem dX2_forget_26 : decode cX2_forget 26 = .ok (.invokestatic 60, 3) := by decide +kernel
theorem dX2_forget_29 : decode cX2_forget 29 = .ok (.iconst 0, 1) := by decide +kernel
theorem dX2_forget_30 : decode cX2_forget 30 = .ok (.invokestatic 37, 3) := by decide +kernel
theorem dX2_forget_33 : decode cX2_forget 33 = .ok (.aload_n 0, 1) := by decide +kernel
theorem dX2_forget_34 : decode cX2_forget 34 = .ok (.getfield 21, 3) := by decide +kernel
theorem dX2_forget_37 : decode cX2_forget 37 = .ok (.aload_n 0, 1) := by decide +kernel
theorem dX2_forget_38 : decode cX2_forget 38 = .ok (.getfield 15, 3) := by decide +kernel
theorem dX2_forget_41 : decode cX2_forget 41 = .ok (.iload_n 1, 1) := by decide +kernel
theorem dX2_forget_42 : decode cX2_forget 42 = .ok (.invokestatic 60, 3) := by decide +kernel
theorem dX2_forget_45 : decode cX2_forget 45 = .ok (.iconst 0, 1) := by decide +kernel
theorem dX2_forget_46 : decode cX2_forget 46 = .ok (.invokestatic 37, 3) := by decide +kernel
theorem dX2_forget_49 : decode cX2_forget 49 = .ok (.iinc 1 1, 3) := by decide +kernel
theorem dX2_forget_52 : decode cX2_forget 52 = .ok (.goto (-50), 3) := by decide +kernel
theorem dX2_forget_55 : decode cX2_forget 55 = .ok (.aload_n 0, 1) := by decide +kernel
theorem dX2_forget_56 : decode cX2_forget 56 = .ok (.iconst 0, 1) := by decide +kernel
theorem dX2_forget_57 : decode cX2_forget 57 = .ok (.putfield 57, 3) := by decide +kernel
theorem dX2_forget_60 : decode cX2_forget 60 = .ok (.aload_n 0, 1) := by decide +kernel
theorem dX2_forget_61 : decode cX2_forget 61 = .ok (.iconst 0, 1) := by decide +kernel
theorem dX2_forget_62 : decode cX2_forget 62 = .ok (.putfield 27, 3) := by decide +kernel
theorem dX2_forget_65 : decode cX2_forget 65 = .ok (.return_, 1) := by decide +kernel
set_option maxRecDepth 20000 in
theorem ggX2_reach_X7_look : GoodIn wsX2_reach wsX7_look := goodIn_r _ [6] (by decide +kernel) (by decide +kernel)
set_option maxRecDepth 20000 in
theorem gX2_reach_X7_look_n60 : GoodIn wsX2_reach (wsX7_look) := ggX2_reach_X7_look
set_option maxRecDepth 20000 in
theorem ggX2_reach_X7_put : GoodIn wsX2_reach wsX7_put := goodIn_r _ [8] (by decide +kernel) (by decide +kernel)
set_option maxRecDepth 20000 in
theorem gX2_reach_X7_put_n37 : GoodIn wsX2_reach (wsX7_put) := ggX2_reach_X7_put
theorem dX2_reach_0 : decode cX2_reach 0 = .ok (.aload_n 0, 1) := by decide +kernel
theorem dX2_reach_1 : decode cX2_reach 1 = .ok (.getfield 18, 3) := by decide +kernel
theorem dX2_reach_4 : decode cX2_reach 4 = .ok (.iload_n 1, 1) := by decide +kernel
theorem dX2_reach_5 : decode cX2_reach 5 = .ok (.invokestatic 60, 3) := by decide +kernel
theorem dX2_reach_8 : decode cX2_reach 8 = .ok (.istore_n 3, 1) := by decide +kernel
theorem dX2_reach_9 : decode cX2_reach 9 = .ok (.iload_n 3, 1) := by decide +kernel
theorem dX2_reach_10 : decode cX2_reach 10 = .ok (.ifCond .ne 35, 3) := by decide +kernel
theorem dX2_reach_13 : decode cX2_reach 13 = .ok (.aload_n 0, 1) := by decide +kernel
theorem dX2_reach_14 : decode cX2_reach 14 = .ok (.getfield 57, 3) := by decide +kernel
theorem dX2_reach_17 : decode cX2_reach 17 = .ok (.sipush 4096, 3) := by decide +kernel
theorem dX2_reach_20 : decode cX2_reach 20 = .ok (.if_icmp .ge 25, 3) := by decide +kernel
theorem dX2_reach_23 : decode cX2_reach 23 = .ok (.aload_n 0, 1) := by decide +kernel
theorem dX2_reach_24 : decode cX2_reach 24 = .ok (.getfield 15, 3) := by decide +kernel
theorem dX2_reach_27 : decode cX2_reach 27 = .ok (.aload_n 0, 1) := by decide +kernel
theorem dX2_reach_28 : decode cX2_reach 28 = .ok (.getfield 57, 3) := by decide +kernel
theorem dX2_reach_31 : decode cX2_reach 31 = .ok (.iload_n 1, 1) := by decide +kernel
theorem dX2_reach_32 : decode cX2_reach 32 = .ok (.invokestatic 37, 3) := by decide +kernel
theorem dX2_reach_35 : decode cX2_reach 35 = .ok (.aload_n 0, 1) := by decide +kernel
theorem dX2_reach_36 : decode cX2_reach 36 = .ok (.dup, 1) := by decide +kernel
theorem dX2_reach_37 : decode cX2_reach 37 = .ok (.getfield 57, 3) := by decide +kernel
theorem dX2_reach_40 : decode cX2_reach 40 = .ok (.iconst 1, 1) := by decide +kernel
theorem dX2_reach_41 : decode cX2_reach 41 = .ok (.iadd, 1) := by decide +kernel
theorem dX2_reach_42 : decode cX2_reach 42 = .ok (.putfield 57, 3) := by decide +kernel
theorem dX2_reach_45 : decode cX2_reach 45 = .ok (.aload_n 0, 1) := by decide +kernel
theorem dX2_reach_46 : decode cX2_reach 46 = .ok (.getfield 18, 3) := by decide +kernel
theorem dX2_reach_49 : decode cX2_reach 49 = .ok (.iload_n 1, 1) := by decide +kernel
theorem dX2_reach_50 : decode cX2_reach 50 = .ok (.iload_n 3, 1) := by decide +kernel
theorem dX2_reach_51 : decode cX2_reach 51 = .ok (.iload_n 2, 1) := by decide +kernel
theorem dX2_reach_52 : decode cX2_reach 52 = .ok (.ior, 1) := by decide +kernel
theorem dX2_reach_53 : decode cX2_reach 53 = .ok (.invokestatic 37, 3) := by decide +kernel
theorem dX2_reach_56 : decode cX2_reach 56 = .ok (.return_, 1) := by decide +kernel
set_option maxRecDepth 20000 in
theorem ggX2_extend_X7_look : GoodIn wsX2_extend wsX7_look := goodIn_r _ [6] (by decide +kernel) (by decide +kernel)
set_option maxRecDepth 20000 in
theorem gX2_extend_X7_look_n60 : GoodIn wsX2_extend (wsX7_look) := ggX2_extend_X7_look
set_option maxRecDepth 20000 in
theorem ggX2_extend_X2_acrossTile : GoodIn wsX2_extend wsX2_acrossTile := goodIn_r _ [10, 11, 5, 12, 13, 14] (by decide +kernel) (by decide +kernel)
set_option maxRecDepth 20000 in
theorem gX2_extend_X2_acrossTile : GoodIn wsX2_extend (va_wsS RX2 68 yX2_acrossTile wsX2_acrossTile) := goodIn_app (goodIn_of _ (by decide +kernel)) ggX2_extend_X2_acrossTile
set_option maxRecDepth 20000 in
theorem ggX2_extend_X2_reach : GoodIn wsX2_extend wsX2_reach := goodIn_r _ [18, 3, 19, 20, 4, 5, 6, 21, 22, 23, 24, 25, 26, 27, 28, 29] (by decide +kernel) (by decide +kernel)
set_option maxRecDepth 20000 in
theorem gX2_extend_X2_reach : GoodIn wsX2_extend (wsV RX2 53 RX2 yX2_reach wsX2_reach) := goodIn_app (goodIn_of _ (by decide +kernel)) ggX2_extend_X2_reach
theorem dX2_extend_0 : decode cX2_extend 0 = .ok (.iconst 0, 1) := by decide +kernel
theorem dX2_extend_1 : decode cX2_extend 1 = .ok (.istore_n 2, 1) := by decide +kernel
theorem dX2_extend_2 : decode cX2_extend 2 = .ok (.iload_n 2, 1) := by decide +kernel
theorem dX2_extend_3 : decode cX2_extend 3 = .ok (.aload_n 0, 1) := by decide +kernel
theorem dX2_extend_4 : decode cX2_extend 4 = .ok (.getfield 27, 3) := by decide +kernel
theorem dX2_extend_7 : decode cX2_extend 7 = .ok (.if_icmp .ge 54, 3) := by decide +kernel
theorem dX2_extend_10 : decode cX2_extend 10 = .ok (.iconst 1, 1) := by decide +kernel
theorem dX2_extend_11 : decode cX2_extend 11 = .ok (.iload_n 2, 1) := by decide +kernel
theorem dX2_extend_12 : decode cX2_extend 12 = .ok (.ishl, 1) := by decide +kernel
theorem dX2_extend_13 : decode cX2_extend 13 = .ok (.istore_n 3, 1) := by decide +kernel
theorem dX2_extend_14 : decode cX2_extend 14 = .ok (.aload_n 0, 1) := by decide +kernel
theorem dX2_extend_15 : decode cX2_extend 15 = .ok (.getfield 9, 3) := by decide +kernel
theorem dX2_extend_18 : decode cX2_extend 18 = .ok (.iload_n 2, 1) := by decide +kernel
theorem dX2_extend_19 : decode cX2_extend 19 = .ok (.invokestatic 60, 3) := by decide +kernel
theorem dX2_extend_22 : decode cX2_extend 22 = .ok (.aload_n 0, 1) := by decide +kernel
theorem dX2_extend_23 : decode cX2_extend 23 = .ok (.getfield 18, 3) := by decide +kernel
theorem dX2_extend_26 : decode cX2_extend 26 = .ok (.iload_n 1, 1) := by decide +kernel
theorem dX2_extend_27 : decode cX2_extend 27 = .ok (.invokestatic 60, 3) := by decide +kernel
theorem dX2_extend_30 : decode cX2_extend 30 = .ok (.invokestatic 68, 3) := by decide +kernel
theorem dX2_extend_33 : decode cX2_extend 33 = .ok (.istore 4, 2) := by decide +kernel
theorem dX2_extend_35 : decode cX2_extend 35 = .ok (.iload_n 1, 1) := by decide +kernel
theorem dX2_extend_36 : decode cX2_extend 36 = .ok (.iload_n 3, 1) := by decide +kernel
theorem dX2_extend_37 : decode cX2_extend 37 = .ok (.iand, 1) := by decide +kernel
theorem dX2_extend_38 : decode cX2_extend 38 = .ok (.ifCond .ne 17, 3) := by decide +kernel
theorem dX2_extend_41 : decode cX2_extend 41 = .ok (.iload 4, 2) := by decide +kernel
theorem dX2_extend_43 : decode cX2_extend 43 = .ok (.ifCond .eq 12, 3) := by decide +kernel
theorem dX2_extend_46 : decode cX2_extend 46 = .ok (.aload_n 0, 1) := by decide +kernel
theorem dX2_extend_47 : decode cX2_extend 47 = .ok (.iload_n 1, 1) := by decide +kernel
theorem dX2_extend_48 : decode cX2_extend 48 = .ok (.iload_n 3, 1) := by decide +kernel
theorem dX2_extend_49 : decode cX2_extend 49 = .ok (.ior, 1) := by decide +kernel
theorem dX2_extend_50 : decode cX2_extend 50 = .ok (.iload 4, 2) := by decide +kernel
theorem dX2_extend_52 : decode cX2_extend 52 = .ok (.invokevirtual 53, 3) := by decide +kernel
theorem dX2_extend_55 : decode cX2_extend 55 = .ok (.iinc 2 1, 3) := by decide +kernel
theorem dX2_extend_58 : decode cX2_extend 58 = .ok (.goto (-56), 3) := by decide +kernel
theorem dX2_extend_61 : decode cX2_extend 61 = .ok (.return_, 1) := by decide +kernel
set_option maxRecDepth 20000 in
theorem ggX2_acrossTile_X7_lowNumber : GoodIn wsX2_acrossTile wsX7_lowNumber := goodIn_r _ [3] (by decide +kernel) (by decide +kernel)
set_option maxRecDepth 20000 in
theorem gX2_acrossTile_X7_lowNumber_n72 : GoodIn wsX2_acrossTile (wsX7_lowNumber) := ggX2_acrossTile_X7_lowNumber
set_option maxRecDepth 20000 in
theorem ggX2_acrossTile_X7_highNumber : GoodIn wsX2_acrossTile wsX7_highNumber := goodIn_r _ [5] (by decide +kernel) (by decide +kernel)
set_option maxRecDepth 20000 in
theorem gX2_acrossTile_X7_highNumber_n75 : GoodIn wsX2_acrossTile (wsX7_highNumber) := ggX2_acrossTile_X7_highNumber
theorem dX2_acrossTile_0 : decode cX2_acrossTile 0 = .ok (.iconst 0, 1) := by decide +kernel
theorem dX2_acrossTile_1 : decode cX2_acrossTile 1 = .ok (.istore_n 2, 1) := by decide +kernel
theorem dX2_acrossTile_2 : decode cX2_acrossTile 2 = .ok (.iload_n 1, 1) := by decide +kernel
theorem dX2_acrossTile_3 : decode cX2_acrossTile 3 = .ok (.iconst 1, 1) := by decide +kernel
theorem dX2_acrossTile_4 : decode cX2_acrossTile 4 = .ok (.iload_n 0, 1) := by decide +kernel
theorem dX2_acrossTile_5 : decode cX2_acrossTile 5 = .ok (.invokestatic 72, 3) := by decide +kernel
theorem dX2_acrossTile_8 : decode cX2_acrossTile 8 = .ok (.ishl, 1) := by decide +kernel
theorem dX2_acrossTile_9 : decode cX2_acrossTile 9 = .ok (.iand, 1) := by decide +kernel
theorem dX2_acrossTile_10 : decode cX2_acrossTile 10 = .ok (.ifCond .eq 12, 3) := by decide +kernel
theorem dX2_acrossTile_13 : decode cX2_acrossTile 13 = .ok (.iload_n 2, 1) := by decide +kernel
theorem dX2_acrossTile_14 : decode cX2_acrossTile 14 = .ok (.iconst 1, 1) := by decide +kernel
theorem dX2_acrossTile_15 : decode cX2_acrossTile 15 = .ok (.iload_n 0, 1) := by decide +kernel
theorem dX2_acrossTile_16 : decode cX2_acrossTile 16 = .ok (.invokestatic 75, 3) := by decide +kernel
theorem dX2_acrossTile_19 : decode cX2_acrossTile 19 = .ok (.ishl, 1) := by decide +kernel
theorem dX2_acrossTile_20 : decode cX2_acrossTile 20 = .ok (.ior, 1) := by decide +kernel
theorem dX2_acrossTile_21 : decode cX2_acrossTile 21 = .ok (.istore_n 2, 1) := by decide +kernel
theorem dX2_acrossTile_22 : decode cX2_acrossTile 22 = .ok (.iload_n 1, 1) := by decide +kernel
theorem dX2_acrossTile_23 : decode cX2_acrossTile 23 = .ok (.iconst 1, 1) := by decide +kernel
theorem dX2_acrossTile_24 : decode cX2_acrossTile 24 = .ok (.iload_n 0, 1) := by decide +kernel
theorem dX2_acrossTile_25 : decode cX2_acrossTile 25 = .ok (.invokestatic 75, 3) := by decide +kernel
theorem dX2_acrossTile_28 : decode cX2_acrossTile 28 = .ok (.ishl, 1) := by decide +kernel
theorem dX2_acrossTile_29 : decode cX2_acrossTile 29 = .ok (.iand, 1) := by decide +kernel
theorem dX2_acrossTile_30 : decode cX2_acrossTile 30 = .ok (.ifCond .eq 12, 3) := by decide +kernel
theorem dX2_acrossTile_33 : decode cX2_acrossTile 33 = .ok (.iload_n 2, 1) := by decide +kernel
theorem dX2_acrossTile_34 : decode cX2_acrossTile 34 = .ok (.iconst 1, 1) := by decide +kernel
theorem dX2_acrossTile_35 : decode cX2_acrossTile 35 = .ok (.iload_n 0, 1) := by decide +kernel
theorem dX2_acrossTile_36 : decode cX2_acrossTile 36 = .ok (.invokestatic 72, 3) := by decide +kernel
theorem dX2_acrossTile_39 : decode cX2_acrossTile 39 = .ok (.ishl, 1) := by decide +kernel
theorem dX2_acrossTile_40 : decode cX2_acrossTile 40 = .ok (.ior, 1) := by decide +kernel
theorem dX2_acrossTile_41 : decode cX2_acrossTile 41 = .ok (.istore_n 2, 1) := by decide +kernel
theorem dX2_acrossTile_42 : decode cX2_acrossTile 42 = .ok (.iload_n 2, 1) := by decide +kernel
theorem dX2_acrossTile_43 : decode cX2_acrossTile 43 = .ok (.ireturn, 1) := by decide +kernel
set_option maxRecDepth 20000 in
theorem ggX2_longestLength_X7_look : GoodIn wsX2_longestLength wsX7_look := goodIn_r _ [5] (by decide +kernel) (by decide +kernel)
set_option maxRecDepth 20000 in
theorem gX2_longestLength_X7_look_n60 : GoodIn wsX2_longestLength (wsX7_look) := ggX2_longestLength_X7_look
set_option maxRecDepth 20000 in
theorem ggX2_longestLength_J6_bitCount_0f7a4 : GoodIn wsX2_longestLength wsJ6_bitCount_0f7a4 := goodIn_r _ [9, 10, 11, 12] (by decide +kernel) (by decide +kernel)
set_option maxRecDepth 20000 in
theorem gX2_longestLength_J6_bitCount_0f7a4 : GoodIn wsX2_longestLength (va_wsS RX2 78 yJ6_bitCount_0f7a4 wsJ6_bitCount_0f7a4) := goodIn_app (goodIn_of _ (by decide +kernel)) ggX2_longestLength_J6_bitCount_0f7a4
theorem dX2_longestLength_0 : decode cX2_longestLength 0 = .ok (.aload_n 0, 1) := by decide +kernel
theorem dX2_longestLength_1 : decode cX2_longestLength 1 = .ok (.getfield 15, 3) := by decide +kernel
theorem dX2_longestLength_4 : decode cX2_longestLength 4 = .ok (.aload_n 0, 1) := by decide +kernel
theorem dX2_longestLength_5 : decode cX2_longestLength 5 = .ok (.getfield 57, 3) := by decide +kernel
theorem dX2_longestLength_8 : decode cX2_longestLength 8 = .ok (.iconst 1, 1) := by decide +kernel
theorem dX2_longestLength_9 : decode cX2_longestLength 9 = .ok (.isub, 1) := by decide +kernel
theorem dX2_longestLength_10 : decode cX2_longestLength 10 = .ok (.invokestatic 60, 3) := by decide +kernel
theorem dX2_longestLength_13 : decode cX2_longestLength 13 = .ok (.invokestatic 78, 3) := by decide +kernel
theorem dX2_longestLength_16 : decode cX2_longestLength 16 = .ok (.ireturn, 1) := by decide +kernel
set_option maxRecDepth 20000 in
theorem ggX2_mostPips_X7_look : GoodIn wsX2_mostPips wsX7_look := goodIn_r _ [9] (by decide +kernel) (by decide +kernel)
set_option maxRecDepth 20000 in
theorem gX2_mostPips_X7_look_n60 : GoodIn wsX2_mostPips (wsX7_look) := ggX2_mostPips_X7_look
set_option maxRecDepth 20000 in
theorem ggX2_mostPips_X2_pipsOfMask : GoodIn wsX2_mostPips wsX2_pipsOfMask := goodIn_r _ [14, 15, 16, 7, 8, 9, 17, 18, 19, 20, 21, 22, 23, 24, 25, 26, 27, 28, 29, 30, 31] (by decide +kernel) (by decide +kernel)
set_option maxRecDepth 20000 in
theorem gX2_mostPips_X2_pipsOfMask : GoodIn wsX2_mostPips (wsV RX2 83 RX2 yX2_pipsOfMask wsX2_pipsOfMask) := goodIn_app (goodIn_of _ (by decide +kernel)) ggX2_mostPips_X2_pipsOfMask
theorem dX2_mostPips_0 : decode cX2_mostPips 0 = .ok (.iconst 0, 1) := by decide +kernel
theorem dX2_mostPips_1 : decode cX2_mostPips 1 = .ok (.istore_n 1, 1) := by decide +kernel
theorem dX2_mostPips_2 : decode cX2_mostPips 2 = .ok (.iconst 0, 1) := by decide +kernel
theorem dX2_mostPips_3 : decode cX2_mostPips 3 = .ok (.istore_n 2, 1) := by decide +kernel
theorem dX2_mostPips_4 : decode cX2_mostPips 4 = .ok (.iload_n 2, 1) := by decide +kernel
theorem dX2_mostPips_5 : decode cX2_mostPips 5 = .ok (.aload_n 0, 1) := by decide +kernel
theorem dX2_mostPips_6 : decode cX2_mostPips 6 = .ok (.getfield 57, 3) := by decide +kernel
theorem dX2_mostPips_9 : decode cX2_mostPips 9 = .ok (.if_icmp .ge 26, 3) := by decide +kernel
theorem dX2_mostPips_12 : decode cX2_mostPips 12 = .ok (.iload_n 1, 1) := by decide +kernel
theorem dX2_mostPips_13 : decode cX2_mostPips 13 = .ok (.aload_n 0, 1) := by decide +kernel
theorem dX2_mostPips_14 : decode cX2_mostPips 14 = .ok (.aload_n 0, 1) := by decide +kernel
theorem dX2_mostPips_15 : decode cX2_mostPips 15 = .ok (.getfield 15, 3) := by decide +kernel
theorem dX2_mostPips_18 : decode cX2_mostPips 18 = .ok (.iload_n 2, 1) := by decide +kernel
theorem dX2_mostPips_19 : decode cX2_mostPips 19 = .ok (.invokestatic 60, 3) := by decide +kernel
theorem dX2_mostPips_22 : decode cX2_mostPips 22 = .ok (.invokevirtual 83, 3) := by decide +kernel
theorem dX2_mostPips_25 : decode cX2_mostPips 25 = .ok (.invokestatic 86, 3) := by decide +kernel
theorem dX2_mostPips_28 : decode cX2_mostPips 28 = .ok (.istore_n 1, 1) := by decide +kernel
theorem dX2_mostPips_29 : decode cX2_mostPips 29 = .ok (.iinc 2 1, 3) := by decide +kernel
theorem dX2_mostPips_32 : decode cX2_mostPips 32 = .ok (.goto (-28), 3) := by decide +kernel
theorem dX2_mostPips_35 : decode cX2_mostPips 35 = .ok (.iload_n 1, 1) := by decide +kernel
theorem dX2_mostPips_36 : decode cX2_mostPips 36 = .ok (.ireturn, 1) := by decide +kernel
set_option maxRecDepth 20000 in
theorem ggX2_pipsOfMask_X7_look : GoodIn wsX2_pipsOfMask wsX7_look := goodIn_r _ [5] (by decide +kernel) (by decide +kernel)
set_option maxRecDepth 20000 in
theorem gX2_pipsOfMask_X7_look_n60 : GoodIn wsX2_pipsOfMask (wsX7_look) := ggX2_pipsOfMask_X7_look
set_option maxRecDepth 20000 in
theorem ggX2_pipsOfMask_X7_pipsOf : GoodIn wsX2_pipsOfMask wsX7_pipsOf := goodIn_r _ [7, 8, 9, 4, 10, 11, 12, 13] (by decide +kernel) (by decide +kernel)
set_option maxRecDepth 20000 in
theorem gX2_pipsOfMask_X7_pipsOf_n91 : GoodIn wsX2_pipsOfMask (wsX7_pipsOf) := ggX2_pipsOfMask_X7_pipsOf
theorem dX2_pipsOfMask_0 : decode cX2_pipsOfMask 0 = .ok (.iconst 0, 1) := by decide +kernel
theorem dX2_pipsOfMask_1 : decode cX2_pipsOfMask 1 = .ok (.istore_n 2, 1) := by decide +kernel
theorem dX2_pipsOfMask_2 : decode cX2_pipsOfMask 2 = .ok (.iconst 0, 1) := by decide +kernel
theorem dX2_pipsOfMask_3 : decode cX2_pipsOfMask 3 = .ok (.istore_n 3, 1) := by decide +kernel
theorem dX2_pipsOfMask_4 : decode cX2_pipsOfMask 4 = .ok (.iload_n 3, 1) := by decide +kernel
theorem dX2_pipsOfMask_5 : decode cX2_pipsOfMask 5 = .ok (.aload_n 0, 1) := by decide +kernel
theorem dX2_pipsOfMask_6 : decode cX2_pipsOfMask 6 = .ok (.getfield 27, 3) := by decide +kernel
theorem dX2_pipsOfMask_9 : decode cX2_pipsOfMask 9 = .ok (.if_icmp .ge 31, 3) := by decide +kernel
theorem dX2_pipsOfMask_12 : decode cX2_pipsOfMask 12 = .ok (.iload_n 1, 1) := by decide +kernel
theorem dX2_pipsOfMask_13 : decode cX2_pipsOfMask 13 = .ok (.iconst 1, 1) := by decide +kernel
theorem dX2_pipsOfMask_14 : decode cX2_pipsOfMask 14 = .ok (.iload_n 3, 1) := by decide +kernel
theorem dX2_pipsOfMask_15 : decode cX2_pipsOfMask 15 = .ok (.ishl, 1) := by decide +kernel
theorem dX2_pipsOfMask_16 : decode cX2_pipsOfMask 16 = .ok (.iand, 1) := by decide +kernel
theorem dX2_pipsOfMask_17 : decode cX2_pipsOfMask 17 = .ok (.ifCond .eq 17, 3) := by decide +kernel
theorem dX2_pipsOfMask_20 : decode cX2_pipsOfMask 20 = .ok (.iload_n 2, 1) := by decide +kernel
theorem dX2_pipsOfMask_21 : decode cX2_pipsOfMask 21 = .ok (.aload_n 0, 1) := by decide +kernel
theorem dX2_pipsOfMask_22 : decode cX2_pipsOfMask 22 = .ok (.getfield 9, 3) := by decide +kernel
theorem dX2_pipsOfMask_25 : decode cX2_pipsOfMask 25 = .ok (.iload_n 3, 1) := by decide +kernel
theorem dX2_pipsOfMask_26 : decode cX2_pipsOfMask 26 = .ok (.invokestatic 60, 3) := by decide +kernel
theorem dX2_pipsOfMask_29 : decode cX2_pipsOfMask 29 = .ok (.invokestatic 91, 3) := by decide +kernel
theorem dX2_pipsOfMask_32 : decode cX2_pipsOfMask 32 = .ok (.iadd, 1) := by decide +kernel
theorem dX2_pipsOfMask_33 : decode cX2_pipsOfMask 33 = .ok (.istore_n 2, 1) := by decide +kernel
theorem dX2_pipsOfMask_34 : decode cX2_pipsOfMask 34 = .ok (.iinc 3 1, 3) := by decide +kernel
theorem dX2_pipsOfMask_37 : decode cX2_pipsOfMask 37 = .ok (.goto (-33), 3) := by decide +kernel
theorem dX2_pipsOfMask_40 : decode cX2_pipsOfMask 40 = .ok (.iload_n 2, 1) := by decide +kernel
theorem dX2_pipsOfMask_41 : decode cX2_pipsOfMask 41 = .ok (.ireturn, 1) := by decide +kernel
set_option maxRecDepth 20000 in
theorem ggX2_tileOfFirstLongest_X2_longestLength : GoodIn wsX2_tileOfFirstLongest wsX2_longestLength := goodIn_r _ [7, 8, 9, 10, 11, 12, 13, 14, 15, 16, 17, 18, 19, 48, 49, 50, 51, 52, 53, 54] (by decide +kernel) (by decide +kernel)
set_option maxRecDepth 20000 in
theorem gX2_tileOfFirstLongest_X2_longestLength : GoodIn wsX2_tileOfFirstLongest (wsV RX2 94 RX2 yX2_longestLength wsX2_longestLength) := goodIn_app (goodIn_of _ (by decide +kernel)) ggX2_tileOfFirstLongest_X2_longestLength
set_option maxRecDepth 20000 in
theorem ggX2_tileOfFirstLongest_X2_findHopeful : GoodIn wsX2_tileOfFirstLongest wsX2_findHopeful := goodIn_r _ [23, 9, 8, 24, 25, 10, 11, 12, 13, 14, 15, 16, 17, 18, 19, 26, 27, 28, 6, 29, 30, 2, 31, 32, 33, 34, 35, 36, 37, 38, 39, 48, 49, 50, 51, 52, 53, 54] (by decide +kernel) (by decide +kernel)
set_option maxRecDepth 20000 in
theorem gX2_tileOfFirstLongest_X2_findHopeful : GoodIn wsX2_tileOfFirstLongest (wsV RX2 98 RX2 yX2_findHopeful wsX2_findHopeful) := goodIn_app (goodIn_of _ (by decide +kernel)) ggX2_tileOfFirstLongest_X2_findHopeful
set_option maxRecDepth 20000 in
theorem ggX2_tileOfFirstLongest_X2_firstHopefulTile : GoodIn wsX2_tileOfFirstLongest wsX2_firstHopefulTile := goodIn_r _ [43, 30, 2, 25, 10, 11, 12, 31, 32, 6, 33, 34, 35, 36, 37, 48, 49, 50, 51, 52, 53, 54] (by decide +kernel) (by decide +kernel)
set_option maxRecDepth 20000 in
theorem gX2_tileOfFirstLongest_X2_firstHopefulTile : GoodIn wsX2_tileOfFirstLongest (wsV RX2 101 RX2 yX2_firstHopefulTile wsX2_firstHopefulTile) := goodIn_app (goodIn_of _ (by decide +kernel)) ggX2_tileOfFirstLongest_X2_firstHopefulTile
set_option maxRecDepth 20000 in
theorem ggX2_tileOfFirstLongest_X7_look : GoodIn wsX2_tileOfFirstLongest wsX7_look := goodIn_r _ [12] (by decide +kernel) (by decide +kernel)
set_option maxRecDepth 20000 in
theorem gX2_tileOfFirstLongest_X7_look_n60 : GoodIn wsX2_tileOfFirstLongest (wsX7_look) := ggX2_tileOfFirstLongest_X7_look
set_option maxRecDepth 20000 in
theorem ggX2_tileOfFirstLongest_X7_pipsOf : GoodIn wsX2_tileOfFirstLongest wsX7_pipsOf := goodIn_r _ [45, 46, 34, 11, 35, 47, 36, 37] (by decide +kernel) (by decide +kernel)
set_option maxRecDepth 20000 in
theorem gX2_tileOfFirstLongest_X7_pipsOf_n91 : GoodIn wsX2_tileOfFirstLongest (wsX7_pipsOf) := ggX2_tileOfFirstLongest_X7_pipsOf
theorem dX2_tileOfFirstLongest_0 : decode cX2_tileOfFirstLongest 0 = .ok (.aload_n 0, 1) := by decide +kernel
theorem dX2_tileOfFirstLongest_1 : decode cX2_tileOfFirstLongest 1 = .ok (.invokevirtual 94, 3) := by decide +kernel
theorem dX2_tileOfFirstLongest_4 : decode cX2_tileOfFirstLongest 4 = .ok (.istore_n 2, 1) := by decide +kernel
theorem dX2_tileOfFirstLongest_5 : decode cX2_tileOfFirstLongest 5 = .ok (.iload_n 1, 1) := by decide +kernel
theorem dX2_tileOfFirstLongest_6 : decode cX2_tileOfFirstLongest 6 = .ok (.ifCond .lt 8, 3) := by decide +kernel
theorem dX2_tileOfFirstLongest_9 : decode cX2_tileOfFirstLongest 9 = .ok (.iload_n 1, 1) := by decide +kernel
theorem dX2_tileOfFirstLongest_10 : decode cX2_tileOfFirstLongest 10 = .ok (.iload_n 2, 1) := by decide +kernel
theorem dX2_tileOfFirstLongest_11 : decode cX2_tileOfFirstLongest 11 = .ok (.if_icmp .lt 5, 3) := by decide +kernel
theorem dX2_tileOfFirstLongest_14 : decode cX2_tileOfFirstLongest 14 = .ok (.iconst (-1), 1) := by decide +kernel
theorem dX2_tileOfFirstLongest_15 : decode cX2_tileOfFirstLongest 15 = .ok (.ireturn, 1) := by decide +kernel
theorem dX2_tileOfFirstLongest_16 : decode cX2_tileOfFirstLongest 16 = .ok (.aload_n 0, 1) := by decide +kernel
theorem dX2_tileOfFirstLongest_17 : decode cX2_tileOfFirstLongest 17 = .ok (.iload_n 2, 1) := by decide +kernel
theorem dX2_tileOfFirstLongest_18 : decode cX2_tileOfFirstLongest 18 = .ok (.invokevirtual 98, 3) := by decide +kernel
theorem dX2_tileOfFirstLongest_21 : decode cX2_tileOfFirstLongest 21 = .ok (.iconst 0, 1) := by decide +kernel
theorem dX2_tileOfFirstLongest_22 : decode cX2_tileOfFirstLongest 22 = .ok (.istore_n 3, 1) := by decide +kernel
theorem dX2_tileOfFirstLongest_23 : decode cX2_tileOfFirstLongest 23 = .ok (.aload_n 0, 1) := by decide +kernel
theorem dX2_tileOfFirstLongest_24 : decode cX2_tileOfFirstLongest 24 = .ok (.getfield 50, 3) := by decide +kernel
theorem dX2_tileOfFirstLongest_27 : decode cX2_tileOfFirstLongest 27 = .ok (.istore 4, 2) := by decide +kernel
theorem dX2_tileOfFirstLongest_29 : decode cX2_tileOfFirstLongest 29 = .ok (.iconst (-1), 1) := by decide +kernel
theorem dX2_tileOfFirstLongest_30 : decode cX2_tileOfFirstLongest 30 = .ok (.istore 5, 2) := by decide +kernel
theorem dX2_tileOfFirstLongest_32 : decode cX2_tileOfFirstLongest 32 = .ok (.iconst 0, 1) := by decide +kernel
theorem dX2_tileOfFirstLongest_33 : decode cX2_tileOfFirstLongest 33 = .ok (.istore 6, 2) := by decide +kernel
theorem dX2_tileOfFirstLongest_35 : decode cX2_tileOfFirstLongest 35 = .ok (.iload 6, 2) := by decide +kernel
theorem dX2_tileOfFirstLongest_37 : decode cX2_tileOfFirstLongest 37 = .ok (.iload_n 1, 1) := by decide +kernel
