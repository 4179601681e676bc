theorem dX8_nextIn_61 : decode cX8_nextIn 61 = .ok (.if_icmp .eq 9, 3) := by decide +kernel
theorem dX8_nextIn_64 : decode cX8_nextIn 64 = .ok (.iinc 3 1, 3) := by decide +kernel
theorem dX8_nextIn_67 : decode cX8_nextIn 67 = .ok (.goto (-65), 3) := by decide +kernel
theorem dX8_nextIn_70 : decode cX8_nextIn 70 = .ok (.iload_n 3, 1) := by decide +kernel
theorem dX8_nextIn_71 : decode cX8_nextIn 71 = .ok (.ireturn, 1) := by decide +kernel
set_option maxRecDepth 20000 in
theorem ggX8_noPlayer_X8_in : GoodIn wsX8_noPlayer wsX8_in := goodIn_r _ [5] rfl (by decide +kernel)
set_option maxRecDepth 20000 in
theorem gX8_noPlayer_X8_in : GoodIn wsX8_noPlayer (va_wsS RX8 56 yX8_in wsX8_in) := goodIn_app (goodIn_of _ (by decide +kernel)) ggX8_noPlayer_X8_in
set_option maxRecDepth 20000 in
theorem ggX8_noPlayer_X8_fails : GoodIn wsX8_noPlayer wsX8_fails := goodIn_r _ [9, 10, 11, 12, 13, 14, 15, 16, 17, 18, 19, 20, 21, 22, 23, 24, 25, 26, 27, 28, 29, 30, 31, 32] rfl (by decide +kernel)
set_option maxRecDepth 20000 in
theorem gX8_noPlayer_X8_fails : GoodIn wsX8_noPlayer (wsV RX8 187 RX8 yX8_fails wsX8_fails) := goodIn_app (goodIn_of _ (by decide +kernel)) ggX8_noPlayer_X8_fails
theorem dX8_noPlayer_0 : decode cX8_noPlayer 0 = .ok (.aload_n 0, 1) := by decide +kernel
theorem dX8_noPlayer_1 : decode cX8_noPlayer 1 = .ok (.iload_n 1, 1) := by decide +kernel
theorem dX8_noPlayer_2 : decode cX8_noPlayer 2 = .ok (.iconst 0, 1) := by decide +kernel
theorem dX8_noPlayer_3 : decode cX8_noPlayer 3 = .ok (.aload_n 0, 1) := by decide +kernel
theorem dX8_noPlayer_4 : decode cX8_noPlayer 4 = .ok (.getfield 17, 3) := by decide +kernel
theorem dX8_noPlayer_7 : decode cX8_noPlayer 7 = .ok (.iconst 1, 1) := by decide +kernel
theorem dX8_noPlayer_8 : decode cX8_noPlayer 8 = .ok (.iaload, 1) := by decide +kernel
theorem dX8_noPlayer_9 : decode cX8_noPlayer 9 = .ok (.iconst 1, 1) := by decide +kernel
theorem dX8_noPlayer_10 : decode cX8_noPlayer 10 = .ok (.isub, 1) := by decide +kernel
theorem dX8_noPlayer_11 : decode cX8_noPlayer 11 = .ok (.invokestatic 56, 3) := by decide +kernel
theorem dX8_noPlayer_14 : decode cX8_noPlayer 14 = .ok (.ifCond .ne 7, 3) := by decide +kernel
theorem dX8_noPlayer_17 : decode cX8_noPlayer 17 = .ok (.iconst 1, 1) := by decide +kernel
theorem dX8_noPlayer_18 : decode cX8_noPlayer 18 = .ok (.goto 4, 3) := by decide +kernel
theorem dX8_noPlayer_21 : decode cX8_noPlayer 21 = .ok (.iconst 0, 1) := by decide +kernel
theorem dX8_noPlayer_22 : decode cX8_noPlayer 22 = .ok (.iconst 1, 1) := by decide +kernel
theorem dX8_noPlayer_23 : decode cX8_noPlayer 23 = .ok (.invokevirtual 187, 3) := by decide +kernel
theorem dX8_noPlayer_26 : decode cX8_noPlayer 26 = .ok (.ireturn, 1) := by decide +kernel
set_option maxRecDepth 20000 in
theorem ggX8_noTrain_X8_in : GoodIn wsX8_noTrain wsX8_in := goodIn_r _ [5] rfl (by decide +kernel)
set_option maxRecDepth 20000 in
theorem gX8_noTrain_X8_in : GoodIn wsX8_noTrain (va_wsS RX8 56 yX8_in wsX8_in) := goodIn_app (goodIn_of _ (by decide +kernel)) ggX8_noTrain_X8_in
set_option maxRecDepth 20000 in
theorem ggX8_noTrain_X8_fails : GoodIn wsX8_noTrain wsX8_fails := goodIn_r _ [9, 10, 11, 12, 13, 14, 15, 16, 17, 18, 19, 20, 21, 22, 23, 24, 25, 26, 27, 28, 29, 30, 31, 32] rfl (by decide +kernel)
set_option maxRecDepth 20000 in
theorem gX8_noTrain_X8_fails : GoodIn wsX8_noTrain (wsV RX8 187 RX8 yX8_fails wsX8_fails) := goodIn_app (goodIn_of _ (by decide +kernel)) ggX8_noTrain_X8_fails
theorem dX8_noTrain_0 : decode cX8_noTrain 0 = .ok (.aload_n 0, 1) := by decide +kernel
theorem dX8_noTrain_1 : decode cX8_noTrain 1 = .ok (.iload_n 1, 1) := by decide +kernel
theorem dX8_noTrain_2 : decode cX8_noTrain 2 = .ok (.iconst 0, 1) := by decide +kernel
theorem dX8_noTrain_3 : decode cX8_noTrain 3 = .ok (.aload_n 0, 1) := by decide +kernel
theorem dX8_noTrain_4 : decode cX8_noTrain 4 = .ok (.getfield 17, 3) := by decide +kernel
theorem dX8_noTrain_7 : decode cX8_noTrain 7 = .ok (.iconst 1, 1) := by decide +kernel
theorem dX8_noTrain_8 : decode cX8_noTrain 8 = .ok (.iaload, 1) := by decide +kernel
theorem dX8_noTrain_9 : decode cX8_noTrain 9 = .ok (.invokestatic 56, 3) := by decide +kernel
theorem dX8_noTrain_12 : decode cX8_noTrain 12 = .ok (.ifCond .ne 7, 3) := by decide +kernel
theorem dX8_noTrain_15 : decode cX8_noTrain 15 = .ok (.iconst 1, 1) := by decide +kernel
theorem dX8_noTrain_16 : decode cX8_noTrain 16 = .ok (.goto 4, 3) := by decide +kernel
theorem dX8_noTrain_19 : decode cX8_noTrain 19 = .ok (.iconst 0, 1) := by decide +kernel
theorem dX8_noTrain_20 : decode cX8_noTrain 20 = .ok (.iconst 1, 1) := by decide +kernel
theorem dX8_noTrain_21 : decode cX8_noTrain 21 = .ok (.invokevirtual 187, 3) := by decide +kernel
theorem dX8_noTrain_24 : decode cX8_noTrain 24 = .ok (.ireturn, 1) := by decide +kernel
set_option maxRecDepth 20000 in
theorem ggX8_told_X8_plays : GoodIn wsX8_told wsX8_plays := goodIn_r _ [6, 1, 7, 8, 9, 5, 10, 11, 12, 13, 14, 15, 16, 17, 18, 19, 20, 21, 22, 23, 24, 25, 26, 27, 28, 29, 30, 31, 32, 33, 34, 35, 36, 37, 38, 39, 40, 41, 42, 43, 44, 45, 46] rfl (by decide +kernel)
set_option maxRecDepth 20000 in
theorem gX8_told_X8_plays : GoodIn wsX8_told (wsV RX8 216 RX8 yX8_plays wsX8_plays) := goodIn_app (goodIn_of _ (by decide +kernel)) ggX8_told_X8_plays
theorem dX8_told_0 : decode cX8_told 0 = .ok (.iload_n 1, 1) := by decide +kernel
theorem dX8_told_1 : decode cX8_told 1 = .ok (.tableswitch 48 10 12 #[27, 32, 40], 27) := by decide +kernel
theorem dX8_told_28 : decode cX8_told 28 = .ok (.aload_n 0, 1) := by decide +kernel
theorem dX8_told_29 : decode cX8_told 29 = .ok (.invokevirtual 216, 3) := by decide +kernel
theorem dX8_told_32 : decode cX8_told 32 = .ok (.ireturn, 1) := by decide +kernel
theorem dX8_told_33 : decode cX8_told 33 = .ok (.aload_n 0, 1) := by decide +kernel
theorem dX8_told_34 : decode cX8_told 34 = .ok (.getfield 17, 3) := by decide +kernel
theorem dX8_told_37 : decode cX8_told 37 = .ok (.bipush 10, 2) := by decide +kernel
theorem dX8_told_39 : decode cX8_told 39 = .ok (.iaload, 1) := by decide +kernel
theorem dX8_told_40 : decode cX8_told 40 = .ok (.ireturn, 1) := by decide +kernel
theorem dX8_told_41 : decode cX8_told 41 = .ok (.aload_n 0, 1) := by decide +kernel
theorem dX8_told_42 : decode cX8_told 42 = .ok (.getfield 17, 3) := by decide +kernel
theorem dX8_told_45 : decode cX8_told 45 = .ok (.bipush 11, 2) := by decide +kernel
theorem dX8_told_47 : decode cX8_told 47 = .ok (.iaload, 1) := by decide +kernel
theorem dX8_told_48 : decode cX8_told 48 = .ok (.ireturn, 1) := by decide +kernel
theorem dX8_told_49 : decode cX8_told 49 = .ok (.aload_n 0, 1) := by decide +kernel
theorem dX8_told_50 : decode cX8_told 50 = .ok (.getfield 17, 3) := by decide +kernel
theorem dX8_told_53 : decode cX8_told 53 = .ok (.iload_n 1, 1) := by decide +kernel
theorem dX8_told_54 : decode cX8_told 54 = .ok (.iaload, 1) := by decide +kernel
theorem dX8_told_55 : decode cX8_told 55 = .ok (.ireturn, 1) := by decide +kernel
set_option maxRecDepth 20000 in
theorem ggX8_state_X8_in : GoodIn wsX8_state wsX8_in := goodIn_r _ [5] rfl (by decide +kernel)
set_option maxRecDepth 20000 in
theorem gX8_state_X8_in : GoodIn wsX8_state (va_wsS RX8 56 yX8_in wsX8_in) := goodIn_app (goodIn_of _ (by decide +kernel)) ggX8_state_X8_in
set_option maxRecDepth 20000 in
theorem ggX8_state_X8_fails : GoodIn wsX8_state wsX8_fails := goodIn_r _ [9, 1, 37, 38, 39, 40, 41, 42, 43, 44, 45, 46, 47, 48, 49, 50, 51, 52, 53, 54, 55, 56, 57, 58] rfl (by decide +kernel)
set_option maxRecDepth 20000 in
theorem gX8_state_X8_fails : GoodIn wsX8_state (wsV RX8 187 RX8 yX8_fails wsX8_fails) := goodIn_app (goodIn_of _ (by decide +kernel)) ggX8_state_X8_fails
set_option maxRecDepth 20000 in
theorem ggX8_state_X8_told : GoodIn wsX8_state wsX8_told := goodIn_r _ [13, 14, 15, 16, 17, 4, 18, 19, 20, 21, 22, 23, 24, 25, 26, 27, 28, 29, 30, 31, 32, 33, 34, 35, 36, 37, 38, 39, 40, 41, 42, 43, 44, 45, 46, 47, 48, 49, 50, 51, 52, 53, 54, 55, 56, 57, 58] rfl (by decide +kernel)
set_option maxRecDepth 20000 in
theorem gX8_state_X8_told : GoodIn wsX8_state (wsV RX8 287 RX8 yX8_told wsX8_told) := goodIn_app (goodIn_of _ (by decide +kernel)) ggX8_state_X8_told
theorem dX8_state_0 : decode cX8_state 0 = .ok (.aload_n 0, 1) := by decide +kernel
theorem dX8_state_1 : decode cX8_state 1 = .ok (.iconst 0, 1) := by decide +kernel
theorem dX8_state_2 : decode cX8_state 2 = .ok (.putfield 53, 3) := by decide +kernel
theorem dX8_state_5 : decode cX8_state 5 = .ok (.aload_n 0, 1) := by decide +kernel
theorem dX8_state_6 : decode cX8_state 6 = .ok (.iload_n 1, 1) := by decide +kernel
theorem dX8_state_7 : decode cX8_state 7 = .ok (.iconst 0, 1) := by decide +kernel
theorem dX8_state_8 : decode cX8_state 8 = .ok (.bipush 12, 2) := by decide +kernel
theorem dX8_state_10 : decode cX8_state 10 = .ok (.invokestatic 56, 3) := by decide +kernel
theorem dX8_state_13 : decode cX8_state 13 = .ok (.ifCond .ne 7, 3) := by decide +kernel
theorem dX8_state_16 : decode cX8_state 16 = .ok (.iconst 1, 1) := by decide +kernel
theorem dX8_state_17 : decode cX8_state 17 = .ok (.goto 4, 3) := by decide +kernel
theorem dX8_state_20 : decode cX8_state 20 = .ok (.iconst 0, 1) := by decide +kernel
theorem dX8_state_21 : decode cX8_state 21 = .ok (.iconst 1, 1) := by decide +kernel
theorem dX8_state_22 : decode cX8_state 22 = .ok (.invokevirtual 187, 3) := by decide +kernel
theorem dX8_state_25 : decode cX8_state 25 = .ok (.ifCond .eq 7, 3) := by decide +kernel
theorem dX8_state_28 : decode cX8_state 28 = .ok (.iconst 0, 1) := by decide +kernel
theorem dX8_state_29 : decode cX8_state 29 = .ok (.goto 8, 3) := by decide +kernel
theorem dX8_state_32 : decode cX8_state 32 = .ok (.aload_n 0, 1) := by decide +kernel
theorem dX8_state_33 : decode cX8_state 33 = .ok (.iload_n 1, 1) := by decide +kernel
theorem dX8_state_34 : decode cX8_state 34 = .ok (.invokevirtual 287, 3) := by decide +kernel
theorem dX8_state_37 : decode cX8_state 37 = .ok (.ireturn, 1) := by decide +kernel
set_option maxRecDepth 20000 in
theorem ggX8_playable_X8_refusal : GoodIn wsX8_playable wsX8_refusal := goodIn_r _ [6, 1, 7, 8, 9, 5, 10, 11, 12, 13, 14, 15, 16, 17, 18, 19, 20, 21, 22, 23, 24, 25, 26, 27, 28, 29, 30, 31, 32, 33, 34, 35, 36, 37, 38, 39, 40, 41, 42] rfl (by decide +kernel)
set_option maxRecDepth 20000 in
theorem gX8_playable_X8_refusal : GoodIn wsX8_playable (wsV RX8 213 RX8 yX8_refusal wsX8_refusal) := goodIn_app (goodIn_of _ (by decide +kernel)) ggX8_playable_X8_refusal
theorem dX8_playable_0 : decode cX8_playable 0 = .ok (.iconst 0, 1) := by decide +kernel
theorem dX8_playable_1 : decode cX8_playable 1 = .ok (.istore_n 2, 1) := by decide +kernel
theorem dX8_playable_2 : decode cX8_playable 2 = .ok (.iconst 0, 1) := by decide +kernel
theorem dX8_playable_3 : decode cX8_playable 3 = .ok (.istore_n 3, 1) := by decide +kernel
theorem dX8_playable_4 : decode cX8_playable 4 = .ok (.iload_n 3, 1) := by decide +kernel
theorem dX8_playable_5 : decode cX8_playable 5 = .ok (.bipush 100, 2) := by decide +kernel
theorem dX8_playable_7 : decode cX8_playable 7 = .ok (.if_icmp .ge 75, 3) := by decide +kernel
theorem dX8_playable_10 : decode cX8_playable 10 = .ok (.iload_n 1, 1) := by decide +kernel
theorem dX8_playable_11 : decode cX8_playable 11 = .ok (.aload_n 0, 1) := by decide +kernel
theorem dX8_playable_12 : decode cX8_playable 12 = .ok (.getfield 17, 3) := by decide +kernel
theorem dX8_playable_15 : decode cX8_playable 15 = .ok (.iconst 4, 1) := by decide +kernel
theorem dX8_playable_16 : decode cX8_playable 16 = .ok (.iaload, 1) := by decide +kernel
theorem dX8_playable_17 : decode cX8_playable 17 = .ok (.if_icmp .ne 65, 3) := by decide +kernel
theorem dX8_playable_20 : decode cX8_playable 20 = .ok (.iconst 0, 1) := by decide +kernel
theorem dX8_playable_21 : decode cX8_playable 21 = .ok (.istore 4, 2) := by decide +kernel
theorem dX8_playable_23 : decode cX8_playable 23 = .ok (.iconst 0, 1) := by decide +kernel
theorem dX8_playable_24 : decode cX8_playable 24 = .ok (.istore 5, 2) := by decide +kernel
theorem dX8_playable_26 : decode cX8_playable 26 = .ok (.iload 5, 2) := by decide +kernel
theorem dX8_playable_28 : decode cX8_playable 28 = .ok (.aload_n 0, 1) := by decide +kernel
theorem dX8_playable_29 : decode cX8_playable 29 = .ok (.getfield 17, 3) := by decide +kernel
theorem dX8_playable_32 : decode cX8_playable 32 = .ok (.iconst 1, 1) := by decide +kernel
theorem dX8_playable_33 : decode cX8_playable 33 = .ok (.iaload, 1) := by decide +kernel
theorem dX8_playable_34 : decode cX8_playable 34 = .ok (.if_icmp .gt 29, 3) := by decide +kernel
theorem dX8_playable_37 : decode cX8_playable 37 = .ok (.iload 4, 2) := by decide +kernel
theorem dX8_playable_39 : decode cX8_playable 39 = .ok (.aload_n 0, 1) := by decide +kernel
theorem dX8_playable_40 : decode cX8_playable 40 = .ok (.iload_n 3, 1) := by decide +kernel
theorem dX8_playable_41 : decode cX8_playable 41 = .ok (.iload 5, 2) := by decide +kernel
theorem dX8_playable_43 : decode cX8_playable 43 = .ok (.invokevirtual 213, 3) := by decide +kernel
theorem dX8_playable_46 : decode cX8_playable 46 = .ok (.ifCond .ne 7, 3) := by decide +kernel
theorem dX8_playable_49 : decode cX8_playable 49 = .ok (.iconst 1, 1) := by decide +kernel
theorem dX8_playable_50 : decode cX8_playable 50 = .ok (.goto 4, 3) := by decide +kernel
theorem dX8_playable_53 : decode cX8_playable 53 = .ok (.iconst 0, 1) := by decide +kernel
theorem dX8_playable_54 : decode cX8_playable 54 = .ok (.ior, 1) := by decide +kernel
theorem dX8_playable_55 : decode cX8_playable 55 = .ok (.istore 4, 2) := by decide +kernel
theorem dX8_playable_57 : decode cX8_playable 57 = .ok (.iinc 5 1, 3) := by decide +kernel
theorem dX8_playable_60 : decode cX8_playable 60 = .ok (.goto (-34), 3) := by decide +kernel
theorem dX8_playable_63 : decode cX8_playable 63 = .ok (.iload_n 2, 1) := by decide +kernel
theorem dX8_playable_64 : decode cX8_playable 64 = .ok (.iload 4, 2) := by decide +kernel
theorem dX8_playable_66 : decode cX8_playable 66 = .ok (.ifCond .eq 7, 3) := by decide +kernel
theorem dX8_playable_69 : decode cX8_playable 69 = .ok (.iconst 1, 1) := by decide +kernel
theorem dX8_playable_70 : decode cX8_playable 70 = .ok (.goto 4, 3) := by decide +kernel
theorem dX8_playable_73 : decode cX8_playable 73 = .ok (.iconst 0, 1) := by decide +kernel
theorem dX8_playable_74 : decode cX8_playable 74 = .ok (.iadd, 1) := by decide +kernel
theorem dX8_playable_75 : decode cX8_playable 75 = .ok (.istore_n 2, 1) := by decide +kernel
theorem dX8_playable_76 : decode cX8_playable 76 = .ok (.iinc 3 1, 3) := by decide +kernel
theorem dX8_playable_79 : decode cX8_playable 79 = .ok (.goto (-75), 3) := by decide +kernel
theorem dX8_playable_82 : decode cX8_playable 82 = .ok (.iload_n 2, 1) := by decide +kernel
theorem dX8_playable_83 : decode cX8_playable 83 = .ok (.ireturn, 1) := by decide +kernel
set_option maxRecDepth 20000 in
theorem ggX8_toldPlayer_X8_hand : GoodIn wsX8_toldPlayer wsX8_hand := goodIn_r _ [6, 1, 7, 8, 5, 9, 39, 40, 41, 42, 43, 44, 45, 46, 47, 48, 49, 50, 51, 52, 53, 54, 55, 56, 57, 58, 59, 60] rfl (by decide +kernel)
set_option maxRecDepth 20000 in
theorem gX8_toldPlayer_X8_hand : GoodIn wsX8_toldPlayer (wsV RX8 233 RX8 yX8_hand wsX8_hand) := goodIn_app (goodIn_of _ (by decide +kernel)) ggX8_toldPlayer_X8_hand
set_option maxRecDepth 20000 in
theorem ggX8_toldPlayer_X8_pips : GoodIn wsX8_toldPlayer wsX8_pips := goodIn_r _ [13, 14, 15, 16, 5, 17, 1, 18, 19, 20, 39, 40, 41, 42, 43, 44, 45, 46, 47, 48, 49, 50, 51, 52, 53, 54, 55, 56, 57, 58, 59, 60] rfl (by decide +kernel)
set_option maxRecDepth 20000 in
theorem gX8_toldPlayer_X8_pips : GoodIn wsX8_toldPlayer (wsV RX8 247 RX8 yX8_pips wsX8_pips) := goodIn_app (goodIn_of _ (by decide +kernel)) ggX8_toldPlayer_X8_pips
set_option maxRecDepth 20000 in
theorem ggX8_toldPlayer_X8_playable : GoodIn wsX8_toldPlayer wsX8_playable := goodIn_r _ [24, 1, 25, 26, 27, 5, 28, 14, 15, 16, 17, 29, 30, 31, 32, 33, 34, 35, 36, 37, 38, 39, 40, 41, 42, 43, 44, 45, 46, 47, 48, 49, 50, 51, 52, 53, 54, 55, 56, 57, 58, 59, 60] rfl (by decide +kernel)
set_option maxRecDepth 20000 in
theorem gX8_toldPlayer_X8_playable : GoodIn wsX8_toldPlayer (wsV RX8 290 RX8 yX8_playable wsX8_playable) := goodIn_app (goodIn_of _ (by decide +kernel)) ggX8_toldPlayer_X8_playable
theorem dX8_toldPlayer_0 : decode cX8_toldPlayer 0 = .ok (.iload_n 2, 1) := by decide +kernel
theorem dX8_toldPlayer_1 : decode cX8_toldPlayer 1 = .ok (.ifCond .ne 11, 3) := by decide +kernel
theorem dX8_toldPlayer_4 : decode cX8_toldPlayer 4 = .ok (.aload_n 0, 1) := by decide +kernel
theorem dX8_toldPlayer_5 : decode cX8_toldPlayer 5 = .ok (.iload_n 1, 1) := by decide +kernel
theorem dX8_toldPlayer_6 : decode cX8_toldPlayer 6 = .ok (.invokevirtual 233, 3) := by decide +kernel
theorem dX8_toldPlayer_9 : decode cX8_toldPlayer 9 = .ok (.goto 38, 3) := by decide +kernel
theorem dX8_toldPlayer_12 : decode cX8_toldPlayer 12 = .ok (.iload_n 2, 1) := by decide +kernel
theorem dX8_toldPlayer_13 : decode cX8_toldPlayer 13 = .ok (.iconst 1, 1) := by decide +kernel
theorem dX8_toldPlayer_14 : decode cX8_toldPlayer 14 = .ok (.if_icmp .ne 11, 3) := by decide +kernel
theorem dX8_toldPlayer_17 : decode cX8_toldPlayer 17 = .ok (.aload_n 0, 1) := by decide +kernel
theorem dX8_toldPlayer_18 : decode cX8_toldPlayer 18 = .ok (.iload_n 1, 1) := by decide +kernel
theorem dX8_toldPlayer_19 : decode cX8_toldPlayer 19 = .ok (.invokevirtual 247, 3) := by decide +kernel
theorem dX8_toldPlayer_22 : decode cX8_toldPlayer 22 = .ok (.goto 25, 3) := by decide +kernel
theorem dX8_toldPlayer_25 : decode cX8_toldPlayer 25 = .ok (.iload_n 2, 1) := by decide +kernel
theorem dX8_toldPlayer_26 : decode cX8_toldPlayer 26 = .ok (.iconst 2, 1) := by decide +kernel
theorem dX8_toldPlayer_27 : decode cX8_toldPlayer 27 = .ok (.if_icmp .ne 15, 3) := by decide +kernel
theorem dX8_toldPlayer_30 : decode cX8_toldPlayer 30 = .ok (.aload_n 0, 1) := by decide +kernel
theorem dX8_toldPlayer_31 : decode cX8_toldPlayer 31 = .ok (.getfield 17, 3) := by decide +kernel
theorem dX8_toldPlayer_34 : decode cX8_toldPlayer 34 = .ok (.bipush 15, 2) := by decide +kernel
theorem dX8_toldPlayer_36 : decode cX8_toldPlayer 36 = .ok (.iload_n 1, 1) := by decide +kernel
theorem dX8_toldPlayer_37 : decode cX8_toldPlayer 37 = .ok (.iadd, 1) := by decide +kernel
theorem dX8_toldPlayer_38 : decode cX8_toldPlayer 38 = .ok (.iaload, 1) := by decide +kernel
theorem dX8_toldPlayer_39 : decode cX8_toldPlayer 39 = .ok (.goto 8, 3) := by decide +kernel
theorem dX8_toldPlayer_42 : decode cX8_toldPlayer 42 = .ok (.aload_n 0, 1) := by decide +kernel
theorem dX8_toldPlayer_43 : decode cX8_toldPlayer 43 = .ok (.iload_n 1, 1) := by decide +kernel
theorem dX8_toldPlayer_44 : decode cX8_toldPlayer 44 = .ok (.invokevirtual 290, 3) := by decide +kernel
theorem dX8_toldPlayer_47 : decode cX8_toldPlayer 47 = .ok (.ireturn, 1) := by decide +kernel
set_option maxRecDepth 20000 in
theorem ggX8_player_X8_noPlayer : GoodIn wsX8_player wsX8_noPlayer := goodIn_r _ [6, 7, 8, 9, 5, 10, 11, 12, 13, 14, 1, 55, 56, 57, 58, 59, 60, 61, 62, 63, 64, 65, 66, 67, 68, 69, 70, 71, 72, 73, 74, 75, 76] rfl (by decide +kernel)
set_option maxRecDepth 20000 in
theorem gX8_player_X8_noPlayer : GoodIn wsX8_player (wsV RX8 293 RX8 yX8_noPlayer wsX8_noPlayer) := goodIn_app (goodIn_of _ (by decide +kernel)) ggX8_player_X8_noPlayer
set_option maxRecDepth 20000 in
theorem ggX8_player_X8_in : GoodIn wsX8_player wsX8_in := goodIn_r _ [10] rfl (by decide +kernel)
set_option maxRecDepth 20000 in
theorem gX8_player_X8_in : GoodIn wsX8_player (va_wsS RX8 56 yX8_in wsX8_in) := goodIn_app (goodIn_of _ (by decide +kernel)) ggX8_player_X8_in
set_option maxRecDepth 20000 in
theorem ggX8_player_X8_fails : GoodIn wsX8_player wsX8_fails := goodIn_r _ [14, 1, 55, 56, 57, 58, 59, 60, 61, 62, 63, 64, 65, 66, 67, 68, 69, 70, 71, 72, 73, 74, 75, 76] rfl (by decide +kernel)
set_option maxRecDepth 20000 in
theorem gX8_player_X8_fails : GoodIn wsX8_player (wsV RX8 187 RX8 yX8_fails wsX8_fails) := goodIn_app (goodIn_of _ (by decide +kernel)) ggX8_player_X8_fails
set_option maxRecDepth 20000 in
theorem ggX8_player_X8_toldPlayer : GoodIn wsX8_player wsX8_toldPlayer := goodIn_r _ [18, 7, 19, 20, 21, 5, 22, 23, 24, 25, 26, 27, 28, 29, 30, 31, 32, 33, 34, 35, 36, 37, 38, 39, 40, 41, 42, 43, 44, 45, 46, 47, 48, 49, 50, 51, 52, 53, 54, 55, 56, 57, 58, 59, 60, 61, 62, 63, 64, 65, 66, 67, 68, 69, 70, 71, 72, 73, 74, 75, 76] rfl (by decide +kernel)
set_option maxRecDepth 20000 in
theorem gX8_player_X8_toldPlayer : GoodIn wsX8_player (wsV RX8 296 RX8 yX8_toldPlayer wsX8_toldPlayer) := goodIn_app (goodIn_of _ (by decide +kernel)) ggX8_player_X8_toldPlayer
theorem dX8_player_0 : decode cX8_player 0 = .ok (.aload_n 0, 1) := by decide +kernel
theorem dX8_player_1 : decode cX8_player 1 = .ok (.iconst 0, 1) := by decide +kernel
theorem dX8_player_2 : decode cX8_player 2 = .ok (.putfield 53, 3) := by decide +kernel
theorem dX8_player_5 : decode cX8_player 5 = .ok (.aload_n 0, 1) := by decide +kernel
theorem dX8_player_6 : decode cX8_player 6 = .ok (.iload_n 1, 1) := by decide +kernel
theorem dX8_player_7 : decode cX8_player 7 = .ok (.invokevirtual 293, 3) := by decide +kernel
theorem dX8_player_10 : decode cX8_player 10 = .ok (.ifCond .ne 25, 3) := by decide +kernel
theorem dX8_player_13 : decode cX8_player 13 = .ok (.aload_n 0, 1) := by decide +kernel
theorem dX8_player_14 : decode cX8_player 14 = .ok (.iload_n 2, 1) := by decide +kernel
theorem dX8_player_15 : decode cX8_player 15 = .ok (.iconst 0, 1) := by decide +kernel
theorem dX8_player_16 : decode cX8_player 16 = .ok (.iconst 3, 1) := by decide +kernel
theorem dX8_player_17 : decode cX8_player 17 = .ok (.invokestatic 56, 3) := by decide +kernel
theorem dX8_player_20 : decode cX8_player 20 = .ok (.ifCond .ne 7, 3) := by decide +kernel
theorem dX8_player_23 : decode cX8_player 23 = .ok (.iconst 1, 1) := by decide +kernel
theorem dX8_player_24 : decode cX8_player 24 = .ok (.goto 4, 3) := by decide +kernel
theorem dX8_player_27 : decode cX8_player 27 = .ok (.iconst 0, 1) := by decide +kernel
theorem dX8_player_28 : decode cX8_player 28 = .ok (.iconst 2, 1) := by decide +kernel
theorem dX8_player_29 : decode cX8_player 29 = .ok (.invokevirtual 187, 3) := by decide +kernel
theorem dX8_player_32 : decode cX8_player 32 = .ok (.ifCond .eq 7, 3) := by decide +kernel
theorem dX8_player_35 : decode cX8_player 35 = .ok (.iconst 0, 1) := by decide +kernel
theorem dX8_player_36 : decode cX8_player 36 = .ok (.goto 9, 3) := by decide +kernel
theorem dX8_player_39 : decode cX8_player 39 = .ok (.aload_n 0, 1) := by decide +kernel
theorem dX8_player_40 : decode cX8_player 40 = .ok (.iload_n 1, 1) := by decide +kernel
theorem dX8_player_41 : decode cX8_player 41 = .ok (.iload_n 2, 1) := by decide +kernel
theorem dX8_player_42 : decode cX8_player 42 = .ok (.invokevirtual 296, 3) := by decide +kernel
theorem dX8_player_45 : decode cX8_player 45 = .ok (.ireturn, 1) := by decide +kernel
set_option maxRecDepth 20000 in
theorem ggX8_tileOf_X8_isInHand : GoodIn wsX8_tileOf wsX8_isInHand := goodIn_r _ [5, 6, 7, 8, 9, 10, 11, 12, 13, 14, 15, 16, 17, 18, 19, 20, 21, 22, 23, 24, 25, 26, 27, 28] rfl (by decide +kernel)
set_option maxRecDepth 20000 in
theorem gX8_tileOf_X8_isInHand : GoodIn wsX8_tileOf (wsV RX8 203 RX8 yX8_isInHand wsX8_isInHand) := goodIn_app (goodIn_of _ (by decide +kernel)) ggX8_tileOf_X8_isInHand
theorem dX8_tileOf_0 : decode cX8_tileOf 0 = .ok (.iload_n 2, 1) := by decide +kernel
theorem dX8_tileOf_1 : decode cX8_tileOf 1 = .ok (.istore_n 3, 1) := by decide +kernel
theorem dX8_tileOf_2 : decode cX8_tileOf 2 = .ok (.iconst 0, 1) := by decide +kernel
theorem dX8_tileOf_3 : decode cX8_tileOf 3 = .ok (.istore 4, 2) := by decide +kernel
theorem dX8_tileOf_5 : decode cX8_tileOf 5 = .ok (.aload_n 0, 1) := by decide +kernel
theorem dX8_tileOf_6 : decode cX8_tileOf 6 = .ok (.iload_n 1, 1) := by decide +kernel
theorem dX8_tileOf_7 : decode cX8_tileOf 7 = .ok (.iload 4, 2) := by decide +kernel
theorem dX8_tileOf_9 : decode cX8_tileOf 9 = .ok (.invokevirtual 203, 3) := by decide +kernel
theorem dX8_tileOf_12 : decode cX8_tileOf 12 = .ok (.ifCond .eq 7, 3) := by decide +kernel
theorem dX8_tileOf_15 : decode cX8_tileOf 15 = .ok (.iload_n 3, 1) := by decide +kernel
theorem dX8_tileOf_16 : decode cX8_tileOf 16 = .ok (.ifCond .le 27, 3) := by decide +kernel
theorem dX8_tileOf_19 : decode cX8_tileOf 19 = .ok (.iload_n 3, 1) := by decide +kernel
theorem dX8_tileOf_20 : decode cX8_tileOf 20 = .ok (.aload_n 0, 1) := by decide +kernel
theorem dX8_tileOf_21 : decode cX8_tileOf 21 = .ok (.iload_n 1, 1) := by decide +kernel
theorem dX8_tileOf_22 : decode cX8_tileOf 22 = .ok (.iload 4, 2) := by decide +kernel
theorem dX8_tileOf_24 : decode cX8_tileOf 24 = .ok (.invokevirtual 203, 3) := by decide +kernel
theorem dX8_tileOf_27 : decode cX8_tileOf 27 = .ok (.ifCond .eq 7, 3) := by decide +kernel
theorem dX8_tileOf_30 : decode cX8_tileOf 30 = .ok (.iconst 1, 1) := by decide +kernel
theorem dX8_tileOf_31 : decode cX8_tileOf 31 = .ok (.goto 4, 3) := by decide +kernel
theorem dX8_tileOf_34 : decode cX8_tileOf 34 = .ok (.iconst 0, 1) := by decide +kernel
theorem dX8_tileOf_35 : decode cX8_tileOf 35 = .ok (.isub, 1) := by decide +kernel
theorem dX8_tileOf_36 : decode cX8_tileOf 36 = .ok (.istore_n 3, 1) := by decide +kernel
theorem dX8_tileOf_37 : decode cX8_tileOf 37 = .ok (.iinc 4 1, 3) := by decide +kernel
theorem dX8_tileOf_40 : decode cX8_tileOf 40 = .ok (.goto (-35), 3) := by decide +kernel
theorem dX8_tileOf_43 : decode cX8_tileOf 43 = .ok (.iload 4, 2) := by decide +kernel
theorem dX8_tileOf_45 : decode cX8_tileOf 45 = .ok (.ireturn, 1) := by decide +kernel
set_option maxRecDepth 20000 in
theorem ggX8_tile_X8_noPlayer : GoodIn wsX8_tile wsX8_noPlayer := goodIn_r _ [6, 7, 8, 9, 5, 10, 11, 12, 13, 14, 1, 30, 31, 32, 33, 34, 35, 36, 37, 38, 39, 40, 41, 42, 43, 44, 45, 46, 47, 48, 49, 50, 51] rfl (by decide +kernel)
set_option maxRecDepth 20000 in
theorem gX8_tile_X8_noPlayer : GoodIn wsX8_tile (wsV RX8 293 RX8 yX8_noPlayer wsX8_noPlayer) := goodIn_app (goodIn_of _ (by decide +kernel)) ggX8_tile_X8_noPlayer
set_option maxRecDepth 20000 in
theorem ggX8_tile_X8_hand : GoodIn wsX8_tile wsX8_hand := goodIn_r _ [18, 7, 19, 20, 5, 21, 30, 31, 32, 33, 34, 35, 36, 37, 38, 39, 40, 41, 42, 43, 44, 45, 46, 47, 48, 49, 50, 51] rfl (by decide +kernel)
set_option maxRecDepth 20000 in
theorem gX8_tile_X8_hand : GoodIn wsX8_tile (wsV RX8 233 RX8 yX8_hand wsX8_hand) := goodIn_app (goodIn_of _ (by decide +kernel)) ggX8_tile_X8_hand
set_option maxRecDepth 20000 in
theorem ggX8_tile_X8_in : GoodIn wsX8_tile wsX8_in := goodIn_r _ [10] rfl (by decide +kernel)
set_option maxRecDepth 20000 in
theorem gX8_tile_X8_in : GoodIn wsX8_tile (va_wsS RX8 56 yX8_in wsX8_in) := goodIn_app (goodIn_of _ (by decide +kernel)) ggX8_tile_X8_in
set_option maxRecDepth 20000 in
theorem ggX8_tile_X8_fails : GoodIn wsX8_tile wsX8_fails := goodIn_r _ [14, 1, 30, 31, 32, 33, 34, 35, 36, 37, 38, 39, 40, 41, 42, 43, 44, 45, 46, 47, 48, 49, 50, 51] rfl (by decide +kernel)
set_option maxRecDepth 20000 in
theorem gX8_tile_X8_fails : GoodIn wsX8_tile (wsV RX8 187 RX8 yX8_fails wsX8_fails) := goodIn_app (goodIn_of _ (by decide +kernel)) ggX8_tile_X8_fails
set_option maxRecDepth 20000 in
theorem ggX8_tile_X8_tileOf : GoodIn wsX8_tile wsX8_tileOf := goodIn_r _ [25, 26, 27, 28, 5, 29, 7, 30, 31, 32, 33, 34, 35, 36, 37, 38, 39, 40, 41, 42, 43, 44, 45, 46, 47, 48, 49, 50, 51] rfl (by decide +kernel)
set_option maxRecDepth 20000 in
theorem gX8_tile_X8_tileOf : GoodIn wsX8_tile (wsV RX8 299 RX8 yX8_tileOf wsX8_tileOf) := goodIn_app (goodIn_of _ (by decide +kernel)) ggX8_tile_X8_tileOf
theorem dX8_tile_0 : decode cX8_tile 0 = .ok (.aload_n 0, 1) := by decide +kernel
theorem dX8_tile_1 : decode cX8_tile 1 = .ok (.iconst 0, 1) := by decide +kernel
theorem dX8_tile_2 : decode cX8_tile 2 = .ok (.putfield 53, 3) := by decide +kernel
theorem dX8_tile_5 : decode cX8_tile 5 = .ok (.aload_n 0, 1) := by decide +kernel
theorem dX8_tile_6 : decode cX8_tile 6 = .ok (.iload_n 1, 1) := by decide +kernel
theorem dX8_tile_7 : decode cX8_tile 7 = .ok (.invokevirtual 293, 3) := by decide +kernel
theorem dX8_tile_10 : decode cX8_tile 10 = .ok (.ifCond .ne 31, 3) := by decide +kernel
theorem dX8_tile_13 : decode cX8_tile 13 = .ok (.aload_n 0, 1) := by decide +kernel
theorem dX8_tile_14 : decode cX8_tile 14 = .ok (.iload_n 2, 1) := by decide +kernel
theorem dX8_tile_15 : decode cX8_tile 15 = .ok (.iconst 0, 1) := by decide +kernel
theorem dX8_tile_16 : decode cX8_tile 16 = .ok (.aload_n 0, 1) := by decide +kernel
theorem dX8_tile_17 : decode cX8_tile 17 = .ok (.iload_n 1, 1) := by decide +kernel
theorem dX8_tile_18 : decode cX8_tile 18 = .ok (.invokevirtual 233, 3) := by decide +kernel
theorem dX8_tile_21 : decode cX8_tile 21 = .ok (.iconst 1, 1) := by decide +kernel
theorem dX8_tile_22 : decode cX8_tile 22 = .ok (.isub, 1) := by decide +kernel
theorem dX8_tile_23 : decode cX8_tile 23 = .ok (.invokestatic 56, 3) := by decide +kernel
theorem dX8_tile_26 : decode cX8_tile 26 = .ok (.ifCond .ne 7, 3) := by decide +kernel
theorem dX8_tile_29 : decode cX8_tile 29 = .ok (.iconst 1, 1) := by decide +kernel
theorem dX8_tile_30 : decode cX8_tile 30 = .ok (.goto 4, 3) := by decide +kernel
theorem dX8_tile_33 : decode cX8_tile 33 = .ok (.iconst 0, 1) := by decide +kernel
theorem dX8_tile_34 : decode cX8_tile 34 = .ok (.iconst 2, 1) := by decide +kernel
theorem dX8_tile_35 : decode cX8_tile 35 = .ok (.invokevirtual 187, 3) := by decide +kernel
theorem dX8_tile_38 : decode cX8_tile 38 = .ok (.ifCond .eq 7, 3) := by decide +kernel
theorem dX8_tile_41 : decode cX8_tile 41 = .ok (.iconst 0, 1) := by decide +kernel
theorem dX8_tile_42 : decode cX8_tile 42 = .ok (.goto 9, 3) := by decide +kernel
theorem dX8_tile_45 : decode cX8_tile 45 = .ok (.aload_n 0, 1) := by decide +kernel
theorem dX8_tile_46 : decode cX8_tile 46 = .ok (.iload_n 1, 1) := by decide +kernel
theorem dX8_tile_47 : decode cX8_tile 47 = .ok (.iload_n 2, 1) := by decide +kernel
theorem dX8_tile_48 : decode cX8_tile 48 = .ok (.invokevirtual 299, 3) := by decide +kernel
theorem dX8_tile_51 : decode cX8_tile 51 = .ok (.ireturn, 1) := by decide +kernel
set_option maxRecDepth 20000 in
theorem ggX8_toldTrain_X8_ofTrain : GoodIn wsX8_toldTrain wsX8_ofTrain := goodIn_r _ [5, 6, 7, 8, 4, 9, 13, 14, 15, 16, 17, 18, 19, 20, 21, 22, 23, 24, 25, 26, 27, 28, 29, 30, 31, 32, 33, 34] rfl (by decide +kernel)
set_option maxRecDepth 20000 in
theorem gX8_toldTrain_X8_ofTrain : GoodIn wsX8_toldTrain (wsV RX8 207 RX8 yX8_ofTrain wsX8_ofTrain) := goodIn_app (goodIn_of _ (by decide +kernel)) ggX8_toldTrain_X8_ofTrain
set_option maxRecDepth 20000 in
theorem ggX8_toldTrain_X8_pipsOf : GoodIn wsX8_toldTrain wsX8_pipsOf := goodIn_r _ [12] rfl (by decide +kernel)
set_option maxRecDepth 20000 in
theorem gX8_toldTrain_X8_pipsOf : GoodIn wsX8_toldTrain (va_wsS RX8 227 yX8_pipsOf wsX8_pipsOf) := goodIn_app (goodIn_of _ (by decide +kernel)) ggX8_toldTrain_X8_pipsOf
theorem dX8_toldTrain_0 : decode cX8_toldTrain 0 = .ok (.aload_n 0, 1) := by decide +kernel
theorem dX8_toldTrain_1 : decode cX8_toldTrain 1 = .ok (.iload_n 1, 1) := by decide +kernel
theorem dX8_toldTrain_2 : decode cX8_toldTrain 2 = .ok (.iconst 0, 1) := by decide +kernel
theorem dX8_toldTrain_3 : decode cX8_toldTrain 3 = .ok (.invokevirtual 207, 3) := by decide +kernel
theorem dX8_toldTrain_6 : decode cX8_toldTrain 6 = .ok (.istore_n 3, 1) := by decide +kernel
theorem dX8_toldTrain_7 : decode cX8_toldTrain 7 = .ok (.iconst 0, 1) := by decide +kernel
theorem dX8_toldTrain_8 : decode cX8_toldTrain 8 = .ok (.istore 4, 2) := by decide +kernel
theorem dX8_toldTrain_10 : decode cX8_toldTrain 10 = .ok (.iload_n 2, 1) := by decide +kernel
theorem dX8_toldTrain_11 : decode cX8_toldTrain 11 = .ok (.iconst 3, 1) := by decide +kernel
theorem dX8_toldTrain_12 : decode cX8_toldTrain 12 = .ok (.if_icmp .ge 10, 3) := by decide +kernel
theorem dX8_toldTrain_15 : decode cX8_toldTrain 15 = .ok (.aload_n 0, 1) := by decide +kernel
theorem dX8_toldTrain_16 : decode cX8_toldTrain 16 = .ok (.iload_n 1, 1) := by decide +kernel
theorem dX8_toldTrain_17 : decode cX8_toldTrain 17 = .ok (.iload_n 2, 1) := by decide +kernel
theorem dX8_toldTrain_18 : decode cX8_toldTrain 18 = .ok (.invokevirtual 207, 3) := by decide +kernel
theorem dX8_toldTrain_21 : decode cX8_toldTrain 21 = .ok (.ireturn, 1) := by decide +kernel
theorem dX8_toldTrain_22 : decode cX8_toldTrain 22 = .ok (.iload_n 2, 1) := by decide +kernel
theorem dX8_toldTrain_23 : decode cX8_toldTrain 23 = .ok (.iconst 3, 1) := by decide +kernel
theorem dX8_toldTrain_24 : decode cX8_toldTrain 24 = .ok (.if_icmp .ne 22, 3) := by decide +kernel
theorem dX8_toldTrain_27 : decode cX8_toldTrain 27 = .ok (.iload_n 3, 1) := by decide +kernel
theorem dX8_toldTrain_28 : decode cX8_toldTrain 28 = .ok (.ifCond .ne 7, 3) := by decide +kernel
theorem dX8_toldTrain_31 : decode cX8_toldTrain 31 = .ok (.iconst (-1), 1) := by decide +kernel
theorem dX8_toldTrain_32 : decode cX8_toldTrain 32 = .ok (.goto 13, 3) := by decide +kernel
theorem dX8_toldTrain_35 : decode cX8_toldTrain 35 = .ok (.aload_n 0, 1) := by decide +kernel
theorem dX8_toldTrain_36 : decode cX8_toldTrain 36 = .ok (.iload_n 1, 1) := by decide +kernel
theorem dX8_toldTrain_37 : decode cX8_toldTrain 37 = .ok (.iconst 3, 1) := by decide +kernel
theorem dX8_toldTrain_38 : decode cX8_toldTrain 38 = .ok (.iload_n 3, 1) := by decide +kernel
theorem dX8_toldTrain_39 : decode cX8_toldTrain 39 = .ok (.iadd, 1) := by decide +kernel
theorem dX8_toldTrain_40 : decode cX8_toldTrain 40 = .ok (.iconst 1, 1) := by decide +kernel
theorem dX8_toldTrain_41 : decode cX8_toldTrain 41 = .ok (.isub, 1) := by decide +kernel
theorem dX8_toldTrain_42 : decode cX8_toldTrain 42 = .ok (.invokevirtual 207, 3) := by decide +kernel
theorem dX8_toldTrain_45 : decode cX8_toldTrain 45 = .ok (.ireturn, 1) := by decide +kernel
theorem dX8_toldTrain_46 : decode cX8_toldTrain 46 = .ok (.iconst 0, 1) := by decide +kernel
theorem dX8_toldTrain_47 : decode cX8_toldTrain 47 = .ok (.istore 5, 2) := by decide +kernel
theorem dX8_toldTrain_49 : decode cX8_toldTrain 49 = .ok (.iload 5, 2) := by decide +kernel
theorem dX8_toldTrain_51 : decode cX8_toldTrain 51 = .ok (.iload_n 3, 1) := by decide +kernel
theorem dX8_toldTrain_52 : decode cX8_toldTrain 52 = .ok (.if_icmp .ge 26, 3) := by decide +kernel
theorem dX8_toldTrain_55 : decode cX8_toldTrain 55 = .ok (.iload 4, 2) := by decide +kernel
theorem dX8_toldTrain_57 : decode cX8_toldTrain 57 = .ok (.aload_n 0, 1) := by decide +kernel
theorem dX8_toldTrain_58 : decode cX8_toldTrain 58 = .ok (.iload_n 1, 1) := by decide +kernel
theorem dX8_toldTrain_59 : decode cX8_toldTrain 59 = .ok (.iconst 3, 1) := by decide +kernel
theorem dX8_toldTrain_60 : decode cX8_toldTrain 60 = .ok (.iload 5, 2) := by decide +kernel
theorem dX8_toldTrain_62 : decode cX8_toldTrain 62 = .ok (.iadd, 1) := by decide +kernel
theorem dX8_toldTrain_63 : decode cX8_toldTrain 63 = .ok (.invokevirtual 207, 3) := by decide +kernel
theorem dX8_toldTrain_66 : decode cX8_toldTrain 66 = .ok (.invokestatic 227, 3) := by decide +kernel
theorem dX8_toldTrain_69 : decode cX8_toldTrain 69 = .ok (.iadd, 1) := by decide +kernel
theorem dX8_toldTrain_70 : decode cX8_toldTrain 70 = .ok (.istore 4, 2) := by decide +kernel
theorem dX8_toldTrain_72 : decode cX8_toldTrain 72 = .ok (.iinc 5 1, 3) := by decide +kernel
theorem dX8_toldTrain_75 : decode cX8_toldTrain 75 = .ok (.goto (-26), 3) := by decide +kernel
theorem dX8_toldTrain_78 : decode cX8_toldTrain 78 = .ok (.iload 4, 2) := by decide +kernel
theorem dX8_toldTrain_80 : decode cX8_toldTrain 80 = .ok (.ireturn, 1) := by decide +kernel
set_option maxRecDepth 20000 in
theorem ggX8_train_X8_noTrain : GoodIn wsX8_train wsX8_noTrain := goodIn_r _ [6, 7, 8, 9, 5, 10, 11, 12, 13, 14, 1, 29, 30, 31, 32, 33, 34, 35, 36, 37, 38, 39, 40, 41, 42, 43, 44, 45, 46, 47, 48, 49, 50] rfl (by decide +kernel)
set_option maxRecDepth 20000 in
theorem gX8_train_X8_noTrain : GoodIn wsX8_train (wsV RX8 302 RX8 yX8_noTrain wsX8_noTrain) := goodIn_app (goodIn_of _ (by decide +kernel)) ggX8_train_X8_noTrain
set_option maxRecDepth 20000 in
theorem ggX8_train_X8_in : GoodIn wsX8_train wsX8_in := goodIn_r _ [10] rfl (by decide +kernel)
set_option maxRecDepth 20000 in
theorem gX8_train_X8_in : GoodIn wsX8_train (va_wsS RX8 56 yX8_in wsX8_in) := goodIn_app (goodIn_of _ (by decide +kernel)) ggX8_train_X8_in
set_option maxRecDepth 20000 in
theorem ggX8_train_X8_fails : GoodIn wsX8_train wsX8_fails := goodIn_r _ [14, 1, 29, 30, 31, 32, 33, 34, 35, 36, 37, 38, 39, 40, 41, 42, 43, 44, 45, 46, 47, 48, 49, 50] rfl (by decide +kernel)
set_option maxRecDepth 20000 in
theorem gX8_train_X8_fails : GoodIn wsX8_train (wsV RX8 187 RX8 yX8_fails wsX8_fails) := goodIn_app (goodIn_of _ (by decide +kernel)) ggX8_train_X8_fails
set_option maxRecDepth 20000 in
theorem ggX8_train_X8_toldTrain : GoodIn wsX8_train wsX8_toldTrain := goodIn_r _ [18, 19, 20, 21, 5, 22, 7, 23, 24, 25, 26, 27, 28, 29, 30, 31, 32, 33, 34, 35, 36, 37, 38, 39, 40, 41, 42, 43, 44, 45, 46, 47, 48, 49, 50] rfl (by decide +kernel)
set_option maxRecDepth 20000 in
theorem gX8_train_X8_toldTrain : GoodIn wsX8_train (wsV RX8 305 RX8 yX8_toldTrain wsX8_toldTrain) := goodIn_app (goodIn_of _ (by decide +kernel)) ggX8_train_X8_toldTrain
theorem dX8_train_0 : decode cX8_train 0 = .ok (.aload_n 0, 1) := by decide +kernel
theorem dX8_train_1 : decode cX8_train 1 = .ok (.iconst 0, 1) := by decide +kernel
theorem dX8_train_2 : decode cX8_train 2 = .ok (.putfield 53, 3) := by decide +kernel
theorem dX8_train_5 : decode cX8_train 5 = .ok (.aload_n 0, 1) := by decide +kernel
theorem dX8_train_6 : decode cX8_train 6 = .ok (.iload_n 1, 1) := by decide +kernel
theorem dX8_train_7 : decode cX8_train 7 = .ok (.invokevirtual 302, 3) := by decide +kernel
theorem dX8_train_10 : decode cX8_train 10 = .ok (.ifCond .ne 25, 3) := by decide +kernel
theorem dX8_train_13 : decode cX8_train 13 = .ok (.aload_n 0, 1) := by decide +kernel
theorem dX8_train_14 : decode cX8_train 14 = .ok (.iload_n 2, 1) := by decide +kernel
theorem dX8_train_15 : decode cX8_train 15 = .ok (.iconst 0, 1) := by decide +kernel
theorem dX8_train_16 : decode cX8_train 16 = .ok (.iconst 4, 1) := by decide +kernel
theorem dX8_train_17 : decode cX8_train 17 = .ok (.invokestatic 56, 3) := by decide +kernel
theorem dX8_train_20 : decode cX8_train 20 = .ok (.ifCond .ne 7, 3) := by decide +kernel
theorem dX8_train_23 : decode cX8_train 23 = .ok (.iconst 1, 1) := by decide +kernel
theorem dX8_train_24 : decode cX8_train 24 = .ok (.goto 4, 3) := by decide +kernel
theorem dX8_train_27 : decode cX8_train 27 = .ok (.iconst 0, 1) := by decide +kernel
theorem dX8_train_28 : decode cX8_train 28 = .ok (.iconst 2, 1) := by decide +kernel
theorem dX8_train_29 : decode cX8_train 29 = .ok (.invokevirtual 187, 3) := by decide +kernel
theorem dX8_train_32 : decode cX8_train 32 = .ok (.ifCond .eq 7, 3) := by decide +kernel
theorem dX8_train_35 : decode cX8_train 35 = .ok (.iconst 0, 1) := by decide +kernel
theorem dX8_train_36 : decode cX8_train 36 = .ok (.goto 9, 3) := by decide +kernel
theorem dX8_train_39 : decode cX8_train 39 = .ok (.aload_n 0, 1) := by decide +kernel
theorem dX8_train_40 : decode cX8_train 40 = .ok (.iload_n 1, 1) := by decide +kernel
theorem dX8_train_41 : decode cX8_train 41 = .ok (.iload_n 2, 1) := by decide +kernel
theorem dX8_train_42 : decode cX8_train 42 = .ok (.invokevirtual 305, 3) := by decide +kernel
theorem dX8_train_45 : decode cX8_train 45 = .ok (.ireturn, 1) := by decide +kernel
set_option maxRecDepth 20000 in
theorem ggX8_laid_X8_noTrain : GoodIn wsX8_laid wsX8_noTrain := goodIn_r _ [6, 7, 8, 9, 5, 10, 11, 12, 13, 14, 1, 22, 23, 24, 25, 26, 27, 28, 29, 30, 31, 32, 33, 34, 35, 36, 37, 38, 39, 40, 41, 42, 43] rfl (by decide +kernel)
set_option maxRecDepth 20000 in
theorem gX8_laid_X8_noTrain : GoodIn wsX8_laid (wsV RX8 302 RX8 yX8_noTrain wsX8_noTrain) := goodIn_app (goodIn_of _ (by decide +kernel)) ggX8_laid_X8_noTrain
set_option maxRecDepth 20000 in
theorem ggX8_laid_X8_ofTrain : GoodIn wsX8_laid wsX8_ofTrain := goodIn_r _ [18, 7, 19, 20, 5, 21, 22, 23, 24, 25, 26, 27, 28, 29, 30, 31, 32, 33, 34, 35, 36, 37, 38, 39, 40, 41, 42, 43] rfl (by decide +kernel)
set_option maxRecDepth 20000 in
theorem gX8_laid_X8_ofTrain : GoodIn wsX8_laid (wsV RX8 207 RX8 yX8_ofTrain wsX8_ofTrain) := goodIn_app (goodIn_of _ (by decide +kernel)) ggX8_laid_X8_ofTrain
set_option maxRecDepth 20000 in
theorem ggX8_laid_X8_in : GoodIn wsX8_laid wsX8_in := goodIn_r _ [10] rfl (by decide +kernel)
set_option maxRecDepth 20000 in
theorem gX8_laid_X8_in : GoodIn wsX8_laid (va_wsS RX8 56 yX8_in wsX8_in) := goodIn_app (goodIn_of _ (by decide +kernel)) ggX8_laid_X8_in
set_option maxRecDepth 20000 in
theorem ggX8_laid_X8_fails : GoodIn wsX8_laid wsX8_fails := goodIn_r _ [14, 1, 22, 23, 24, 25, 26, 27, 28, 29, 30, 31, 32, 33, 34, 35, 36, 37, 38, 39, 40, 41, 42, 43] rfl (by decide +kernel)
set_option maxRecDepth 20000 in
theorem gX8_laid_X8_fails : GoodIn wsX8_laid (wsV RX8 187 RX8 yX8_fails wsX8_fails) := goodIn_app (goodIn_of _ (by decide +kernel)) ggX8_laid_X8_fails
theorem dX8_laid_0 : decode cX8_laid 0 = .ok (.aload_n 0, 1) := by decide +kernel
theorem dX8_laid_1 : decode cX8_laid 1 = .ok (.iconst 0, 1) := by decide +kernel
theorem dX8_laid_2 : decode cX8_laid 2 = .ok (.putfield 53, 3) := by decide +kernel
theorem dX8_laid_5 : decode cX8_laid 5 = .ok (.aload_n 0, 1) := by decide +kernel
theorem dX8_laid_6 : decode cX8_laid 6 = .ok (.iload_n 1, 1) := by decide +kernel
theorem dX8_laid_7 : decode cX8_laid 7 = .ok (.invokevirtual 302, 3) := by decide +kernel
theorem dX8_laid_10 : decode cX8_laid 10 = .ok (.ifCond .ne 32, 3) := by decide +kernel
theorem dX8_laid_13 : decode cX8_laid 13 = .ok (.aload_n 0, 1) := by decide +kernel
theorem dX8_laid_14 : decode cX8_laid 14 = .ok (.iload_n 2, 1) := by decide +kernel
theorem dX8_laid_15 : decode cX8_laid 15 = .ok (.iconst 0, 1) := by decide +kernel
theorem dX8_laid_16 : decode cX8_laid 16 = .ok (.aload_n 0, 1) := by decide +kernel
theorem dX8_laid_17 : decode cX8_laid 17 = .ok (.iload_n 1, 1) := by decide +kernel
theorem dX8_laid_18 : decode cX8_laid 18 = .ok (.iconst 0, 1) := by decide +kernel
theorem dX8_laid_19 : decode cX8_laid 19 = .ok (.invokevirtual 207, 3) := by decide +kernel
theorem dX8_laid_22 : decode cX8_laid 22 = .ok (.iconst 1, 1) := by decide +kernel
theorem dX8_laid_23 : decode cX8_laid 23 = .ok (.isub, 1) := by decide +kernel
theorem dX8_laid_24 : decode cX8_laid 24 = .ok (.invokestatic 56, 3) := by decide +kernel
theorem dX8_laid_27 : decode cX8_laid 27 = .ok (.ifCond .ne 7, 3) := by decide +kernel
theorem dX8_laid_30 : decode cX8_laid 30 = .ok (.iconst 1, 1) := by decide +kernel
theorem dX8_laid_31 : decode cX8_laid 31 = .ok (.goto 4, 3) := by decide +kernel
theorem dX8_laid_34 : decode cX8_laid 34 = .ok (.iconst 0, 1) := by decide +kernel
theorem dX8_laid_35 : decode cX8_laid 35 = .ok (.iconst 2, 1) := by decide +kernel
theorem dX8_laid_36 : decode cX8_laid 36 = .ok (.invokevirtual 187, 3) := by decide +kernel
theorem dX8_laid_39 : decode cX8_laid 39 = .ok (.ifCond .eq 7, 3) := by decide +kernel
theorem dX8_laid_42 : decode cX8_laid 42 = .ok (.iconst 0, 1) := by decide +kernel
theorem dX8_laid_43 : decode cX8_laid 43 = .ok (.goto 11, 3) := by decide +kernel
theorem dX8_laid_46 : decode cX8_laid 46 = .ok (.aload_n 0, 1) := by decide +kernel
theorem dX8_laid_47 : decode cX8_laid 47 = .ok (.iload_n 1, 1) := by decide +kernel
theorem dX8_laid_48 : decode cX8_laid 48 = .ok (.iconst 3, 1) := by decide +kernel
theorem dX8_laid_49 : decode cX8_laid 49 = .ok (.iload_n 2, 1) := by decide +kernel
theorem dX8_laid_50 : decode cX8_laid 50 = .ok (.iadd, 1) := by decide +kernel
theorem dX8_laid_51 : decode cX8_laid 51 = .ok (.invokevirtual 207, 3) := by decide +kernel
theorem dX8_laid_54 : decode cX8_laid 54 = .ok (.ireturn, 1) := by decide +kernel
set_option maxRecDepth 20000 in
theorem ggX8_noTileOn_X8_noTrain : GoodIn wsX8_noTileOn wsX8_noTrain := goodIn_r _ [6, 1, 7, 8, 5, 9, 10, 11, 12, 13, 14, 18, 19, 20, 21, 22, 23, 24, 25, 26, 27, 28, 29, 30, 31, 32, 33, 34, 35, 36, 37, 38, 39] rfl (by decide +kernel)
set_option maxRecDepth 20000 in
theorem gX8_noTileOn_X8_noTrain : GoodIn wsX8_noTileOn (wsV RX8 302 RX8 yX8_noTrain wsX8_noTrain) := goodIn_app (goodIn_of _ (by decide +kernel)) ggX8_noTileOn_X8_noTrain
set_option maxRecDepth 20000 in
theorem ggX8_noTileOn_X8_isTile : GoodIn wsX8_noTileOn wsX8_isTile := goodIn_r _ [17, 7, 8, 5, 9] rfl (by decide +kernel)
set_option maxRecDepth 20000 in
theorem gX8_noTileOn_X8_isTile : GoodIn wsX8_noTileOn (va_wsS RX8 64 yX8_isTile wsX8_isTile) := goodIn_app (goodIn_of _ (by decide +kernel)) ggX8_noTileOn_X8_isTile
set_option maxRecDepth 20000 in
theorem ggX8_noTileOn_X8_fails : GoodIn wsX8_noTileOn wsX8_fails := goodIn_r _ [13, 14, 18, 19, 20, 21, 22, 23, 24, 25, 26, 27, 28, 29, 30, 31, 32, 33, 34, 35, 36, 37, 38, 39] rfl (by decide +kernel)
set_option maxRecDepth 20000 in
theorem gX8_noTileOn_X8_fails : GoodIn wsX8_noTileOn (wsV RX8 187 RX8 yX8_fails wsX8_fails) := goodIn_app (goodIn_of _ (by decide +kernel)) ggX8_noTileOn_X8_fails
theorem dX8_noTileOn_0 : decode cX8_noTileOn 0 = .ok (.aload_n 0, 1) := by decide +kernel
theorem dX8_noTileOn_1 : decode cX8_noTileOn 1 = .ok (.iload_n 2, 1) := by decide +kernel
theorem dX8_noTileOn_2 : decode cX8_noTileOn 2 = .ok (.invokevirtual 302, 3) := by decide +kernel
theorem dX8_noTileOn_5 : decode cX8_noTileOn 5 = .ok (.ifCond .ne 27, 3) := by decide +kernel
theorem dX8_noTileOn_8 : decode cX8_noTileOn 8 = .ok (.aload_n 0, 1) := by decide +kernel
theorem dX8_noTileOn_9 : decode cX8_noTileOn 9 = .ok (.aload_n 0, 1) := by decide +kernel
theorem dX8_noTileOn_10 : decode cX8_noTileOn 10 = .ok (.getfield 17, 3) := by decide +kernel
theorem dX8_noTileOn_13 : decode cX8_noTileOn 13 = .ok (.iload_n 1, 1) := by decide +kernel
theorem dX8_noTileOn_14 : decode cX8_noTileOn 14 = .ok (.invokestatic 64, 3) := by decide +kernel
theorem dX8_noTileOn_17 : decode cX8_noTileOn 17 = .ok (.ifCond .ne 7, 3) := by decide +kernel
theorem dX8_noTileOn_20 : decode cX8_noTileOn 20 = .ok (.iconst 1, 1) := by decide +kernel
theorem dX8_noTileOn_21 : decode cX8_noTileOn 21 = .ok (.goto 4, 3) := by decide +kernel
theorem dX8_noTileOn_24 : decode cX8_noTileOn 24 = .ok (.iconst 0, 1) := by decide +kernel
theorem dX8_noTileOn_25 : decode cX8_noTileOn 25 = .ok (.iconst 2, 1) := by decide +kernel
theorem dX8_noTileOn_26 : decode cX8_noTileOn 26 = .ok (.invokevirtual 187, 3) := by decide +kernel
theorem dX8_noTileOn_29 : decode cX8_noTileOn 29 = .ok (.ifCond .eq 7, 3) := by decide +kernel
theorem dX8_noTileOn_32 : decode cX8_noTileOn 32 = .ok (.iconst 1, 1) := by decide +kernel
theorem dX8_noTileOn_33 : decode cX8_noTileOn 33 = .ok (.goto 4, 3) := by decide +kernel
theorem dX8_noTileOn_36 : decode cX8_noTileOn 36 = .ok (.iconst 0, 1) := by decide +kernel
theorem dX8_noTileOn_37 : decode cX8_noTileOn 37 = .ok (.ireturn, 1) := by decide +kernel
set_option maxRecDepth 20000 in
theorem ggX8_why_X8_noTileOn : GoodIn wsX8_why wsX8_noTileOn := goodIn_r _ [6, 7, 8, 9, 10, 5, 11, 12, 13, 14, 15, 16, 17, 18, 1, 19, 20, 21, 40, 41, 42, 43, 44, 45, 46, 47, 48, 49, 50, 51, 52, 53, 54, 55, 56, 57, 58, 59, 60, 61] rfl (by decide +kernel)
set_option maxRecDepth 20000 in
theorem gX8_why_X8_noTileOn : GoodIn wsX8_why (wsV RX8 308 RX8 yX8_noTileOn wsX8_noTileOn) := goodIn_app (goodIn_of _ (by decide +kernel)) ggX8_why_X8_noTileOn
set_option maxRecDepth 20000 in
theorem ggX8_why_X8_refusal : GoodIn wsX8_why wsX8_refusal := goodIn_r _ [25, 7, 26, 27, 28, 5, 29, 30, 31, 32, 33, 34, 35, 36, 37, 38, 39, 40, 41, 42, 43, 44, 45, 46, 47, 48, 49, 50, 51, 52, 53, 54, 55, 56, 57, 58, 59, 60, 61] rfl (by decide +kernel)
set_option maxRecDepth 20000 in
theorem gX8_why_X8_refusal : GoodIn wsX8_why (wsV RX8 213 RX8 yX8_refusal wsX8_refusal) := goodIn_app (goodIn_of _ (by decide +kernel)) ggX8_why_X8_refusal
theorem dX8_why_0 : decode cX8_why 0 = .ok (.aload_n 0, 1) := by decide +kernel
theorem dX8_why_1 : decode cX8_why 1 = .ok (.iconst 0, 1) := by decide +kernel
theorem dX8_why_2 : decode cX8_why 2 = .ok (.putfield 53, 3) := by decide +kernel
theorem dX8_why_5 : decode cX8_why 5 = .ok (.aload_n 0, 1) := by decide +kernel
theorem dX8_why_6 : decode cX8_why 6 = .ok (.iload_n 1, 1) := by decide +kernel
theorem dX8_why_7 : decode cX8_why 7 = .ok (.iload_n 2, 1) := by decide +kernel
theorem dX8_why_8 : decode cX8_why 8 = .ok (.invokevirtual 308, 3) := by decide +kernel
theorem dX8_why_11 : decode cX8_why 11 = .ok (.ifCond .eq 7, 3) := by decide +kernel
theorem dX8_why_14 : decode cX8_why 14 = .ok (.iconst 0, 1) := by decide +kernel
theorem dX8_why_15 : decode cX8_why 15 = .ok (.goto 9, 3) := by decide +kernel
theorem dX8_why_18 : decode cX8_why 18 = .ok (.aload_n 0, 1) := by decide +kernel
theorem dX8_why_19 : decode cX8_why 19 = .ok (.iload_n 1, 1) := by decide +kernel
theorem dX8_why_20 : decode cX8_why 20 = .ok (.iload_n 2, 1) := by decide +kernel
theorem dX8_why_21 : decode cX8_why 21 = .ok (.invokevirtual 213, 3) := by decide +kernel
theorem dX8_why_24 : decode cX8_why 24 = .ok (.ireturn, 1) := by decide +kernel
set_option maxRecDepth 20000 in
theorem ggX8_best_X8_bestPlay : GoodIn wsX8_best wsX8_bestPlay := goodIn_r _ [6, 7, 8, 9, 10, 5, 11, 12, 13, 14, 15, 16, 17, 18, 19, 20, 21, 22, 23, 24, 25, 26, 27, 28, 29, 30, 31, 32, 33, 34, 35, 36, 37, 38, 39, 40, 41, 42, 43, 44, 45, 46, 47, 48, 49, 50, 51, 52, 53, 54, 55, 56, 57, 58, 59, 60, 61, 62, 63, 64, 65, 66, 67, 68, 69, 70, 71, 72, 73, 74, 75, 76, 77] rfl (by decide +kernel)
set_option maxRecDepth 20000 in
theorem gX8_best_X8_bestPlay : GoodIn wsX8_best (wsV RX8 255 RX8 yX8_bestPlay wsX8_bestPlay) := goodIn_app (goodIn_of _ (by decide +kernel)) ggX8_best_X8_bestPlay
theorem dX8_best_0 : decode cX8_best 0 = .ok (.aload_n 0, 1) := by decide +kernel
theorem dX8_best_1 : decode cX8_best 1 = .ok (.iconst 0, 1) := by decide +kernel
theorem dX8_best_2 : decode cX8_best 2 = .ok (.putfield 53, 3) := by decide +kernel
theorem dX8_best_5 : decode cX8_best 5 = .ok (.aload_n 0, 1) := by decide +kernel
theorem dX8_best_6 : decode cX8_best 6 = .ok (.invokevirtual 255, 3) := by decide +kernel
theorem dX8_best_9 : decode cX8_best 9 = .ok (.ireturn, 1) := by decide +kernel
set_option maxRecDepth 20000 in
theorem ggX8_rank_X8_noTileOn : GoodIn wsX8_rank wsX8_noTileOn := goodIn_r _ [6, 7, 8, 9, 10, 5, 11, 12, 13, 14, 15, 16, 17, 18, 1, 19, 20, 21, 70, 71, 72, 73, 74, 75, 76, 77, 78, 79, 80, 81, 82, 83, 84, 85, 86, 87, 88, 89, 90, 91] rfl (by decide +kernel)
set_option maxRecDepth 20000 in
theorem gX8_rank_X8_noTileOn : GoodIn wsX8_rank (wsV RX8 308 RX8 yX8_noTileOn wsX8_noTileOn) := goodIn_app (goodIn_of _ (by decide +kernel)) ggX8_rank_X8_noTileOn
set_option maxRecDepth 20000 in
theorem ggX8_rank_X8_refusal : GoodIn wsX8_rank wsX8_refusal := goodIn_r _ [25, 7, 26, 27, 28, 5, 29, 30, 31, 32, 33, 34, 35, 36, 37, 38, 39, 70, 71, 72, 73, 74, 75, 76, 77, 78, 79, 80, 81, 82, 83, 84, 85, 86, 87, 88, 89, 90, 91] rfl (by decide +kernel)
set_option maxRecDepth 20000 in
theorem gX8_rank_X8_refusal : GoodIn wsX8_rank (wsV RX8 213 RX8 yX8_refusal wsX8_refusal) := goodIn_app (goodIn_of _ (by decide +kernel)) ggX8_rank_X8_refusal
set_option maxRecDepth 20000 in
theorem ggX8_rank_X8_fails : GoodIn wsX8_rank wsX8_fails := goodIn_r _ [18, 1, 70, 71, 72, 73, 74, 75, 76, 77, 78, 79, 80, 81, 82, 83, 84, 85, 86, 87, 88, 89, 90, 91] rfl (by decide +kernel)
set_option maxRecDepth 20000 in
theorem gX8_rank_X8_fails : GoodIn wsX8_rank (wsV RX8 187 RX8 yX8_fails wsX8_fails) := goodIn_app (goodIn_of _ (by decide +kernel)) ggX8_rank_X8_fails
set_option maxRecDepth 20000 in
theorem ggX8_rank_X8_rankOf : GoodIn wsX8_rank wsX8_rankOf := goodIn_r _ [43, 7, 44, 45, 46, 5, 47, 48, 49, 50, 51, 52, 53, 54, 55, 56, 57, 58, 59, 60, 61, 62, 63, 64, 65, 66, 67, 68, 69, 70, 71, 72, 73, 74, 75, 76, 77, 78, 79, 80, 81, 82, 83, 84, 85, 86, 87, 88, 89, 90, 91] rfl (by decide +kernel)
set_option maxRecDepth 20000 in
theorem gX8_rank_X8_rankOf : GoodIn wsX8_rank (wsV RX8 244 RX8 yX8_rankOf wsX8_rankOf) := goodIn_app (goodIn_of _ (by decide +kernel)) ggX8_rank_X8_rankOf
theorem dX8_rank_0 : decode cX8_rank 0 = .ok (.aload_n 0, 1) := by decide +kernel
theorem dX8_rank_1 : decode cX8_rank 1 = .ok (.iconst 0, 1) := by decide +kernel
theorem dX8_rank_2 : decode cX8_rank 2 = .ok (.putfield 53, 3) := by decide +kernel
theorem dX8_rank_5 : decode cX8_rank 5 = .ok (.aload_n 0, 1) := by decide +kernel
theorem dX8_rank_6 : decode cX8_rank 6 = .ok (.iload_n 1, 1) := by decide +kernel
theorem dX8_rank_7 : decode cX8_rank 7 = .ok (.iload_n 2, 1) := by decide +kernel
theorem dX8_rank_8 : decode cX8_rank 8 = .ok (.invokevirtual 308, 3) := by decide +kernel
theorem dX8_rank_11 : decode cX8_rank 11 = .ok (.ifCond .ne 25, 3) := by decide +kernel
theorem dX8_rank_14 : decode cX8_rank 14 = .ok (.aload_n 0, 1) := by decide +kernel
theorem dX8_rank_15 : decode cX8_rank 15 = .ok (.aload_n 0, 1) := by decide +kernel
theorem dX8_rank_16 : decode cX8_rank 16 = .ok (.iload_n 1, 1) := by decide +kernel
theorem dX8_rank_17 : decode cX8_rank 17 = .ok (.iload_n 2, 1) := by decide +kernel
theorem dX8_rank_18 : decode cX8_rank 18 = .ok (.invokevirtual 213, 3) := by decide +kernel
theorem dX8_rank_21 : decode cX8_rank 21 = .ok (.ifCond .eq 7, 3) := by decide +kernel
theorem dX8_rank_24 : decode cX8_rank 24 = .ok (.iconst 1, 1) := by decide +kernel
theorem dX8_rank_25 : decode cX8_rank 25 = .ok (.goto 4, 3) := by decide +kernel
theorem dX8_rank_28 : decode cX8_rank 28 = .ok (.iconst 0, 1) := by decide +kernel
theorem dX8_rank_29 : decode cX8_rank 29 = .ok (.iconst 3, 1) := by decide +kernel
theorem dX8_rank_30 : decode cX8_rank 30 = .ok (.invokevirtual 187, 3) := by decide +kernel
theorem dX8_rank_33 : decode cX8_rank 33 = .ok (.ifCond .eq 7, 3) := by decide +kernel
theorem dX8_rank_36 : decode cX8_rank 36 = .ok (.iconst 0, 1) := by decide +kernel
theorem dX8_rank_37 : decode cX8_rank 37 = .ok (.goto 9, 3) := by decide +kernel
theorem dX8_rank_40 : decode cX8_rank 40 = .ok (.aload_n 0, 1) := by decide +kernel
theorem dX8_rank_41 : decode cX8_rank 41 = .ok (.iload_n 1, 1) := by decide +kernel
theorem dX8_rank_42 : decode cX8_rank 42 = .ok (.iload_n 2, 1) := by decide +kernel
theorem dX8_rank_43 : decode cX8_rank 43 = .ok (.invokevirtual 244, 3) := by decide +kernel
theorem dX8_rank_46 : decode cX8_rank 46 = .ok (.ireturn, 1) := by decide +kernel
set_option maxRecDepth 20000 in
theorem ggX8_longest_X8_noPlayer : GoodIn wsX8_longest wsX8_noPlayer := goodIn_r _ [7, 8, 9, 10, 6, 11, 12, 13, 14, 15, 1, 58, 59, 60, 61, 62, 63, 64, 65, 66, 67, 68, 69, 70, 71, 72, 73, 74, 75, 76, 77, 78, 79] rfl (by decide +kernel)
set_option maxRecDepth 20000 in
theorem gX8_longest_X8_noPlayer : GoodIn wsX8_longest (wsV RX8 293 RX8 yX8_noPlayer wsX8_noPlayer) := goodIn_app (goodIn_of _ (by decide +kernel)) ggX8_longest_X8_noPlayer
set_option maxRecDepth 20000 in
theorem ggX8_longest_X8_layRows : GoodIn wsX8_longest wsX8_layRows := goodIn_r _ [19, 20, 21, 22, 23, 24, 6, 25, 8, 26, 27, 28, 29, 30, 31, 32, 33, 34, 35, 36, 2, 37, 38, 39, 40, 41, 42, 43, 44, 45, 46, 47, 48, 49, 50, 58, 59, 60, 61, 62, 63, 64, 65, 66, 67, 68, 69, 70, 71, 72, 73, 74, 75, 76, 77, 78, 79] rfl (by decide +kernel)
set_option maxRecDepth 20000 in
theorem gX8_longest_X8_layRows : GoodIn wsX8_longest (wsV RX8 311 RX8 yX8_layRows wsX8_layRows) := goodIn_app (goodIn_of _ (by decide +kernel)) ggX8_longest_X8_layRows
set_option maxRecDepth 20000 in
theorem ggX8_longest_X8_ofTrain : GoodIn wsX8_longest wsX8_ofTrain := goodIn_r _ [54, 8, 55, 56, 6, 57, 58, 59, 60, 61, 62, 63, 64, 65, 66, 67, 68, 69, 70, 71, 72, 73, 74, 75, 76, 77, 78, 79] rfl (by decide +kernel)
set_option maxRecDepth 20000 in
theorem gX8_longest_X8_ofTrain : GoodIn wsX8_longest (wsV RX8 207 RX8 yX8_ofTrain wsX8_ofTrain) := goodIn_app (goodIn_of _ (by decide +kernel)) ggX8_longest_X8_ofTrain
theorem dX8_longest_0 : decode cX8_longest 0 = .ok (.aload_n 0, 1) := by decide +kernel
theorem dX8_longest_1 : decode cX8_longest 1 = .ok (.iconst 0, 1) := by decide +kernel
theorem dX8_longest_2 : decode cX8_longest 2 = .ok (.putfield 53, 3) := by decide +kernel
theorem dX8_longest_5 : decode cX8_longest 5 = .ok (.aload_n 0, 1) := by decide +kernel
theorem dX8_longest_6 : decode cX8_longest 6 = .ok (.iload_n 1, 1) := by decide +kernel
theorem dX8_longest_7 : decode cX8_longest 7 = .ok (.invokevirtual 293, 3) := by decide +kernel
theorem dX8_longest_10 : decode cX8_longest 10 = .ok (.ifCond .eq 5, 3) := by decide +kernel
theorem dX8_longest_13 : decode cX8_longest 13 = .ok (.iconst 0, 1) := by decide +kernel
