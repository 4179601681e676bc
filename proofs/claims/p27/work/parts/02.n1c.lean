set_option maxRecDepth 20000 in
theorem ggX2_explore_X1_holderOf : GoodIn wsX2_explore wsX1_holderOf := goodIn_r _ [22, 23, 52, 53, 54, 55, 56, 57, 58, 59, 60, 61, 62, 63, 64, 65, 66, 67] rfl (by decide +kernel)
set_option maxRecDepth 20000 in
theorem gX2_explore_X1_holderOf : GoodIn wsX2_explore (wsV RX2 31 RX1 yX1_holderOf wsX1_holderOf) := goodIn_app (goodIn_of _ (by decide +kernel)) ggX2_explore_X1_holderOf
set_option maxRecDepth 20000 in
theorem ggX2_explore_X7_put : GoodIn wsX2_explore wsX7_put := goodIn_r _ [17] rfl (by decide +kernel)
set_option maxRecDepth 20000 in
theorem gX2_explore_X7_put_n37 : GoodIn wsX2_explore (wsX7_put) := ggX2_explore_X7_put
set_option maxRecDepth 20000 in
theorem ggX2_explore_X6_endOf : GoodIn wsX2_explore wsX6_endOf := goodIn_r _ [28, 29, 13, 14, 15, 68, 69, 70, 71, 72] rfl (by decide +kernel)
set_option maxRecDepth 20000 in
theorem gX2_explore_X6_endOf : GoodIn wsX2_explore (wsV RX2 45 RX6 yX6_endOf wsX6_endOf) := goodIn_app (goodIn_of _ (by decide +kernel)) ggX2_explore_X6_endOf
set_option maxRecDepth 20000 in
theorem ggX2_explore_X2_reach : GoodIn wsX2_explore wsX2_reach := goodIn_r _ [33, 11, 4, 5, 13, 14, 15, 16, 17, 45, 46, 47, 48, 49, 50, 51] rfl (by decide +kernel)
set_option maxRecDepth 20000 in
theorem gX2_explore_X2_reach : GoodIn wsX2_explore (wsV RX2 53 RX2 yX2_reach wsX2_reach) := goodIn_app (goodIn_of _ (by decide +kernel)) ggX2_explore_X2_reach
set_option maxRecDepth 20000 in
theorem ggX2_explore_X7_look : GoodIn wsX2_explore wsX7_look := goodIn_r _ [15] rfl (by decide +kernel)
set_option maxRecDepth 20000 in
theorem gX2_explore_X7_look_n60 : GoodIn wsX2_explore (wsX7_look) := ggX2_explore_X7_look
set_option maxRecDepth 20000 in
theorem ggX2_explore_X2_extend : GoodIn wsX2_explore wsX2_extend := goodIn_r _ [37, 1, 2, 11, 13, 14, 15, 38, 39, 9, 40, 41, 42, 43, 44, 30, 31, 32, 33, 4, 5, 16, 17, 45, 46, 47, 48, 49, 50, 51] rfl (by decide +kernel)
set_option maxRecDepth 20000 in
theorem gX2_explore_X2_extend : GoodIn wsX2_explore (wsV RX2 64 RX2 yX2_extend wsX2_extend) := goodIn_app (goodIn_of _ (by decide +kernel)) ggX2_explore_X2_extend
theorem dX2_explore_0 : decode cX2_explore 0 = .ok (.aload_n 0, 1) := by decide +kernel
theorem dX2_explore_1 : decode cX2_explore 1 = .ok (.invokevirtual 24, 3) := by decide +kernel
theorem dX2_explore_4 : decode cX2_explore 4 = .ok (.iconst 0, 1) := by decide +kernel
theorem dX2_explore_5 : decode cX2_explore 5 = .ok (.istore_n 3, 1) := by decide +kernel
theorem dX2_explore_6 : decode cX2_explore 6 = .ok (.iload_n 3, 1) := by decide +kernel
theorem dX2_explore_7 : decode cX2_explore 7 = .ok (.bipush 100, 2) := by decide +kernel
theorem dX2_explore_9 : decode cX2_explore 9 = .ok (.if_icmp .ge 49, 3) := by decide +kernel
theorem dX2_explore_12 : decode cX2_explore 12 = .ok (.aload_n 0, 1) := by decide +kernel
theorem dX2_explore_13 : decode cX2_explore 13 = .ok (.getfield 27, 3) := by decide +kernel
theorem dX2_explore_16 : decode cX2_explore 16 = .ok (.bipush 12, 2) := by decide +kernel
theorem dX2_explore_18 : decode cX2_explore 18 = .ok (.if_icmp .ge 40, 3) := by decide +kernel
theorem dX2_explore_21 : decode cX2_explore 21 = .ok (.aload_n 1, 1) := by decide +kernel
theorem dX2_explore_22 : decode cX2_explore 22 = .ok (.iload_n 3, 1) := by decide +kernel
theorem dX2_explore_23 : decode cX2_explore 23 = .ok (.invokevirtual 31, 3) := by decide +kernel
theorem dX2_explore_26 : decode cX2_explore 26 = .ok (.iload_n 2, 1) := by decide +kernel
theorem dX2_explore_27 : decode cX2_explore 27 = .ok (.if_icmp .ne 25, 3) := by decide +kernel
theorem dX2_explore_30 : decode cX2_explore 30 = .ok (.aload_n 0, 1) := by decide +kernel
theorem dX2_explore_31 : decode cX2_explore 31 = .ok (.getfield 9, 3) := by decide +kernel
theorem dX2_explore_34 : decode cX2_explore 34 = .ok (.aload_n 0, 1) := by decide +kernel
theorem dX2_explore_35 : decode cX2_explore 35 = .ok (.getfield 27, 3) := by decide +kernel
theorem dX2_explore_38 : decode cX2_explore 38 = .ok (.iload_n 3, 1) := by decide +kernel
theorem dX2_explore_39 : decode cX2_explore 39 = .ok (.invokestatic 37, 3) := by decide +kernel
theorem dX2_explore_42 : decode cX2_explore 42 = .ok (.aload_n 0, 1) := by decide +kernel
theorem dX2_explore_43 : decode cX2_explore 43 = .ok (.dup, 1) := by decide +kernel
theorem dX2_explore_44 : decode cX2_explore 44 = .ok (.getfield 27, 3) := by decide +kernel
theorem dX2_explore_47 : decode cX2_explore 47 = .ok (.iconst 1, 1) := by decide +kernel
theorem dX2_explore_48 : decode cX2_explore 48 = .ok (.iadd, 1) := by decide +kernel
theorem dX2_explore_49 : decode cX2_explore 49 = .ok (.putfield 27, 3) := by decide +kernel
theorem dX2_explore_52 : decode cX2_explore 52 = .ok (.iinc 3 1, 3) := by decide +kernel
theorem dX2_explore_55 : decode cX2_explore 55 = .ok (.goto (-49), 3) := by decide +kernel
theorem dX2_explore_58 : decode cX2_explore 58 = .ok (.aload_n 0, 1) := by decide +kernel
theorem dX2_explore_59 : decode cX2_explore 59 = .ok (.aload_n 1, 1) := by decide +kernel
theorem dX2_explore_60 : decode cX2_explore 60 = .ok (.getfield 41, 3) := by decide +kernel
theorem dX2_explore_63 : decode cX2_explore 63 = .ok (.iload_n 2, 1) := by decide +kernel
theorem dX2_explore_64 : decode cX2_explore 64 = .ok (.invokevirtual 45, 3) := by decide +kernel
theorem dX2_explore_67 : decode cX2_explore 67 = .ok (.putfield 50, 3) := by decide +kernel
theorem dX2_explore_70 : decode cX2_explore 70 = .ok (.aload_n 0, 1) := by decide +kernel
theorem dX2_explore_71 : decode cX2_explore 71 = .ok (.iconst 0, 1) := by decide +kernel
theorem dX2_explore_72 : decode cX2_explore 72 = .ok (.iconst 1, 1) := by decide +kernel
theorem dX2_explore_73 : decode cX2_explore 73 = .ok (.aload_n 0, 1) := by decide +kernel
theorem dX2_explore_74 : decode cX2_explore 74 = .ok (.getfield 50, 3) := by decide +kernel
theorem dX2_explore_77 : decode cX2_explore 77 = .ok (.ishl, 1) := by decide +kernel
theorem dX2_explore_78 : decode cX2_explore 78 = .ok (.invokevirtual 53, 3) := by decide +kernel
theorem dX2_explore_81 : decode cX2_explore 81 = .ok (.iconst 0, 1) := by decide +kernel
theorem dX2_explore_82 : decode cX2_explore 82 = .ok (.istore_n 3, 1) := by decide +kernel
theorem dX2_explore_83 : decode cX2_explore 83 = .ok (.iload_n 3, 1) := by decide +kernel
theorem dX2_explore_84 : decode cX2_explore 84 = .ok (.aload_n 0, 1) := by decide +kernel
theorem dX2_explore_85 : decode cX2_explore 85 = .ok (.getfield 57, 3) := by decide +kernel
theorem dX2_explore_88 : decode cX2_explore 88 = .ok (.if_icmp .ge 28, 3) := by decide +kernel
theorem dX2_explore_91 : decode cX2_explore 91 = .ok (.iload_n 3, 1) := by decide +kernel
theorem dX2_explore_92 : decode cX2_explore 92 = .ok (.sipush 4096, 3) := by decide +kernel
theorem dX2_explore_95 : decode cX2_explore 95 = .ok (.if_icmp .ge 21, 3) := by decide +kernel
theorem dX2_explore_98 : decode cX2_explore 98 = .ok (.aload_n 0, 1) := by decide +kernel
theorem dX2_explore_99 : decode cX2_explore 99 = .ok (.aload_n 0, 1) := by decide +kernel
theorem dX2_explore_100 : decode cX2_explore 100 = .ok (.getfield 15, 3) := by decide +kernel
theorem dX2_explore_103 : decode cX2_explore 103 = .ok (.iload_n 3, 1) := by decide +kernel
theorem dX2_explore_104 : decode cX2_explore 104 = .ok (.invokestatic 60, 3) := by decide +kernel
theorem dX2_explore_107 : decode cX2_explore 107 = .ok (.invokevirtual 64, 3) := by decide +kernel
theorem dX2_explore_110 : decode cX2_explore 110 = .ok (.iinc 3 1, 3) := by decide +kernel
theorem dX2_explore_113 : decode cX2_explore 113 = .ok (.goto (-30), 3) := by decide +kernel
theorem dX2_explore_116 : decode cX2_explore 116 = .ok (.return_, 1) := by decide +kernel
set_option maxRecDepth 20000 in
theorem ggX2_forget_X7_look : GoodIn wsX2_forget wsX7_look := goodIn_r _ [8] rfl (by decide +kernel)
set_option maxRecDepth 20000 in
theorem gX2_forget_X7_look_n60 : GoodIn wsX2_forget (wsX7_look) := ggX2_forget_X7_look
set_option maxRecDepth 20000 in
theorem ggX2_forget_X7_put : GoodIn wsX2_forget wsX7_put := goodIn_r _ [10] rfl (by decide +kernel)
set_option maxRecDepth 20000 in
theorem gX2_forget_X7_put_n37 : GoodIn wsX2_forget (wsX7_put) := ggX2_forget_X7_put
theorem dX2_forget_0 : decode cX2_forget 0 = .ok (.iconst 0, 1) := by decide +kernel
theorem dX2_forget_1 : decode cX2_forget 1 = .ok (.istore_n 1, 1) := by decide +kernel
theorem dX2_forget_2 : decode cX2_forget 2 = .ok (.iload_n 1, 1) := by decide +kernel
theorem dX2_forget_3 : decode cX2_forget 3 = .ok (.aload_n 0, 1) := by decide +kernel
theorem dX2_forget_4 : decode cX2_forget 4 = .ok (.getfield 57, 3) := by decide +kernel
theorem dX2_forget_7 : decode cX2_forget 7 = .ok (.if_icmp .ge 48, 3) := by decide +kernel
theorem dX2_forget_10 : decode cX2_forget 10 = .ok (.iload_n 1, 1) := by decide +kernel
theorem dX2_forget_11 : decode cX2_forget 11 = .ok (.sipush 4096, 3) := by decide +kernel
theorem dX2_forget_14 : decode cX2_forget 14 = .ok (.if_icmp .ge 41, 3) := by decide +kernel
theorem dX2_forget_17 : decode cX2_forget 17 = .ok (.aload_n 0, 1) := by decide +kernel
theorem dX2_forget_18 : decode cX2_forget 18 = .ok (.getfield 18, 3) := by decide +kernel
theorem dX2_forget_21 : decode cX2_forget 21 = .ok (.aload_n 0, 1) := by decide +kernel
theorem dX2_forget_22 : decode cX2_forget 22 = .ok (.getfield 15, 3) := by decide +kernel
theorem dX2_forget_25 : decode cX2_forget 25 = .ok (.iload_n 1, 1) := by decide +kernel
theorem dX2_forget_26 : decode cX2_forget 26 = .ok (.invokestatic 60, 3) := by decide +kernel
theorem dX2_forget_29 : decode cX2_forget 29 = .ok (.iconst 0, 1) := by decide +kernel
theorem dX2_forget_30 : decode cX2_forget 30 = .ok (.invokestatic 37, 3) := by decide +kernel
theorem dX2_forget_33 : decode cX2_forget 33 = .ok (.aload_n 0, 1) := by decide +kernel
theorem dX2_forget_34 : decode cX2_forget 34 = .ok (.getfield 21, 3) := by decide +kernel
theorem dX2_forget_37 : decode cX2_forget 37 = .ok (.aload_n 0, 1) := by decide +kernel
theorem dX2_forget_38 : decode cX2_forget 38 = .ok (.getfield 15, 3) := by decide +kernel
theorem dX2_forget_41 : decode cX2_forget 41 = .ok (.iload_n 1, 1) := by decide +kernel
theorem dX2_forget_42 : decode cX2_forget 42 = .ok (.invokestatic 60, 3) := by decide +kernel
theorem dX2_forget_45 : decode cX2_forget 45 = .ok (.iconst 0, 1) := by decide +kernel
theorem dX2_forget_46 : decode cX2_forget 46 = .ok (.invokestatic 37, 3) := by decide +kernel
theorem dX2_forget_49 : decode cX2_forget 49 = .ok (.iinc 1 1, 3) := by decide +kernel
theorem dX2_forget_52 : decode cX2_forget 52 = .ok (.goto (-50), 3) := by decide +kernel
theorem dX2_forget_55 : decode cX2_forget 55 = .ok (.aload_n 0, 1) := by decide +kernel
theorem dX2_forget_56 : decode cX2_forget 56 = .ok (.iconst 0, 1) := by decide +kernel
theorem dX2_forget_57 : decode cX2_forget 57 = .ok (.putfield 57, 3) := by decide +kernel
theorem dX2_forget_60 : decode cX2_forget 60 = .ok (.aload_n 0, 1) := by decide +kernel
theorem dX2_forget_61 : decode cX2_forget 61 = .ok (.iconst 0, 1) := by decide +kernel
theorem dX2_forget_62 : decode cX2_forget 62 = .ok (.putfield 27, 3) := by decide +kernel
theorem dX2_forget_65 : decode cX2_forget 65 = .ok (.return_, 1) := by decide +kernel
set_option maxRecDepth 20000 in
theorem ggX2_reach_X7_look : GoodIn wsX2_reach wsX7_look := goodIn_r _ [6] rfl (by decide +kernel)
set_option maxRecDepth 20000 in
theorem gX2_reach_X7_look_n60 : GoodIn wsX2_reach (wsX7_look) := ggX2_reach_X7_look
set_option maxRecDepth 20000 in
theorem ggX2_reach_X7_put : GoodIn wsX2_reach wsX7_put := goodIn_r _ [8] rfl (by decide +kernel)
set_option maxRecDepth 20000 in
theorem gX2_reach_X7_put_n37 : GoodIn wsX2_reach (wsX7_put) := ggX2_reach_X7_put
theorem dX2_reach_0 : decode cX2_reach 0 = .ok (.aload_n 0, 1) := by decide +kernel
theorem dX2_reach_1 : decode cX2_reach 1 = .ok (.getfield 18, 3) := by decide +kernel
theorem dX2_reach_4 : decode cX2_reach 4 = .ok (.iload_n 1, 1) := by decide +kernel
theorem dX2_reach_5 : decode cX2_reach 5 = .ok (.invokestatic 60, 3) := by decide +kernel
theorem dX2_reach_8 : decode cX2_reach 8 = .ok (.istore_n 3, 1) := by decide +kernel
theorem dX2_reach_9 : decode cX2_reach 9 = .ok (.iload_n 3, 1) := by decide +kernel
theorem dX2_reach_10 : decode cX2_reach 10 = .ok (.ifCond .ne 35, 3) := by decide +kernel
theorem dX2_reach_13 : decode cX2_reach 13 = .ok (.aload_n 0, 1) := by decide +kernel
theorem dX2_reach_14 : decode cX2_reach 14 = .ok (.getfield 57, 3) := by decide +kernel
theorem dX2_reach_17 : decode cX2_reach 17 = .ok (.sipush 4096, 3) := by decide +kernel
theorem dX2_reach_20 : decode cX2_reach 20 = .ok (.if_icmp .ge 25, 3) := by decide +kernel
theorem dX2_reach_23 : decode cX2_reach 23 = .ok (.aload_n 0, 1) := by decide +kernel
theorem dX2_reach_24 : decode cX2_reach 24 = .ok (.getfield 15, 3) := by decide +kernel
theorem dX2_reach_27 : decode cX2_reach 27 = .ok (.aload_n 0, 1) := by decide +kernel
theorem dX2_reach_28 : decode cX2_reach 28 = .ok (.getfield 57, 3) := by decide +kernel
theorem dX2_reach_31 : decode cX2_reach 31 = .ok (.iload_n 1, 1) := by decide +kernel
theorem dX2_reach_32 : decode cX2_reach 32 = .ok (.invokestatic 37, 3) := by decide +kernel
theorem dX2_reach_35 : decode cX2_reach 35 = .ok (.aload_n 0, 1) := by decide +kernel
theorem dX2_reach_36 : decode cX2_reach 36 = .ok (.dup, 1) := by decide +kernel
theorem dX2_reach_37 : decode cX2_reach 37 = .ok (.getfield 57, 3) := by decide +kernel
theorem dX2_reach_40 : decode cX2_reach 40 = .ok (.iconst 1, 1) := by decide +kernel
theorem dX2_reach_41 : decode cX2_reach 41 = .ok (.iadd, 1) := by decide +kernel
theorem dX2_reach_42 : decode cX2_reach 42 = .ok (.putfield 57, 3) := by decide +kernel
theorem dX2_reach_45 : decode cX2_reach 45 = .ok (.aload_n 0, 1) := by decide +kernel
theorem dX2_reach_46 : decode cX2_reach 46 = .ok (.getfield 18, 3) := by decide +kernel
theorem dX2_reach_49 : decode cX2_reach 49 = .ok (.iload_n 1, 1) := by decide +kernel
theorem dX2_reach_50 : decode cX2_reach 50 = .ok (.iload_n 3, 1) := by decide +kernel
theorem dX2_reach_51 : decode cX2_reach 51 = .ok (.iload_n 2, 1) := by decide +kernel
theorem dX2_reach_52 : decode cX2_reach 52 = .ok (.ior, 1) := by decide +kernel
theorem dX2_reach_53 : decode cX2_reach 53 = .ok (.invokestatic 37, 3) := by decide +kernel
theorem dX2_reach_56 : decode cX2_reach 56 = .ok (.return_, 1) := by decide +kernel
set_option maxRecDepth 20000 in
theorem ggX2_extend_X7_look : GoodIn wsX2_extend wsX7_look := goodIn_r _ [6] rfl (by decide +kernel)
set_option maxRecDepth 20000 in
theorem gX2_extend_X7_look_n60 : GoodIn wsX2_extend (wsX7_look) := ggX2_extend_X7_look
set_option maxRecDepth 20000 in
theorem ggX2_extend_X2_acrossTile : GoodIn wsX2_extend wsX2_acrossTile := goodIn_r _ [10, 11, 5, 12, 13, 14] rfl (by decide +kernel)
set_option maxRecDepth 20000 in
theorem gX2_extend_X2_acrossTile : GoodIn wsX2_extend (va_wsS RX2 68 yX2_acrossTile wsX2_acrossTile) := goodIn_app (goodIn_of _ (by decide +kernel)) ggX2_extend_X2_acrossTile
set_option maxRecDepth 20000 in
theorem ggX2_extend_X2_reach : GoodIn wsX2_extend wsX2_reach := goodIn_r _ [18, 3, 19, 20, 4, 5, 6, 21, 22, 23, 24, 25, 26, 27, 28, 29] rfl (by decide +kernel)
set_option maxRecDepth 20000 in
theorem gX2_extend_X2_reach : GoodIn wsX2_extend (wsV RX2 53 RX2 yX2_reach wsX2_reach) := goodIn_app (goodIn_of _ (by decide +kernel)) ggX2_extend_X2_reach
theorem dX2_extend_0 : decode cX2_extend 0 = .ok (.iconst 0, 1) := by decide +kernel
theorem dX2_extend_1 : decode cX2_extend 1 = .ok (.istore_n 2, 1) := by decide +kernel
theorem dX2_extend_2 : decode cX2_extend 2 = .ok (.iload_n 2, 1) := by decide +kernel
theorem dX2_extend_3 : decode cX2_extend 3 = .ok (.aload_n 0, 1) := by decide +kernel
theorem dX2_extend_4 : decode cX2_extend 4 = .ok (.getfield 27, 3) := by decide +kernel
theorem dX2_extend_7 : decode cX2_extend 7 = .ok (.if_icmp .ge 54, 3) := by decide +kernel
theorem dX2_extend_10 : decode cX2_extend 10 = .ok (.iconst 1, 1) := by decide +kernel
theorem dX2_extend_11 : decode cX2_extend 11 = .ok (.iload_n 2, 1) := by decide +kernel
theorem dX2_extend_12 : decode cX2_extend 12 = .ok (.ishl, 1) := by decide +kernel
theorem dX2_extend_13 : decode cX2_extend 13 = .ok (.istore_n 3, 1) := by decide +kernel
theorem dX2_extend_14 : decode cX2_extend 14 = .ok (.aload_n 0, 1) := by decide +kernel
theorem dX2_extend_15 : decode cX2_extend 15 = .ok (.getfield 9, 3) := by decide +kernel
theorem dX2_extend_18 : decode cX2_extend 18 = .ok (.iload_n 2, 1) := by decide +kernel
theorem dX2_extend_19 : decode cX2_extend 19 = .ok (.invokestatic 60, 3) := by decide +kernel
theorem dX2_extend_22 : decode cX2_extend 22 = .ok (.aload_n 0, 1) := by decide +kernel
theorem dX2_extend_23 : decode cX2_extend 23 = .ok (.getfield 18, 3) := by decide +kernel
theorem dX2_extend_26 : decode cX2_extend 26 = .ok (.iload_n 1, 1) := by decide +kernel
theorem dX2_extend_27 : decode cX2_extend 27 = .ok (.invokestatic 60, 3) := by decide +kernel
theorem dX2_extend_30 : decode cX2_extend 30 = .ok (.invokestatic 68, 3) := by decide +kernel
theorem dX2_extend_33 : decode cX2_extend 33 = .ok (.istore 4, 2) := by decide +kernel
theorem dX2_extend_35 : decode cX2_extend 35 = .ok (.iload_n 1, 1) := by decide +kernel
theorem dX2_extend_36 : decode cX2_extend 36 = .ok (.iload_n 3, 1) := by decide +kernel
theorem dX2_extend_37 : decode cX2_extend 37 = .ok (.iand, 1) := by decide +kernel
theorem dX2_extend_38 : decode cX2_extend 38 = .ok (.ifCond .ne 17, 3) := by decide +kernel
theorem dX2_extend_41 : decode cX2_extend 41 = .ok (.iload 4, 2) := by decide +kernel
theorem dX2_extend_43 : decode cX2_extend 43 = .ok (.ifCond .eq 12, 3) := by decide +kernel
theorem dX2_extend_46 : decode cX2_extend 46 = .ok (.aload_n 0, 1) := by decide +kernel
theorem dX2_extend_47 : decode cX2_extend 47 = .ok (.iload_n 1, 1) := by decide +kernel
theorem dX2_extend_48 : decode cX2_extend 48 = .ok (.iload_n 3, 1) := by decide +kernel
theorem dX2_extend_49 : decode cX2_extend 49 = .ok (.ior, 1) := by decide +kernel
theorem dX2_extend_50 : decode cX2_extend 50 = .ok (.iload 4, 2) := by decide +kernel
theorem dX2_extend_52 : decode cX2_extend 52 = .ok (.invokevirtual 53, 3) := by decide +kernel
theorem dX2_extend_55 : decode cX2_extend 55 = .ok (.iinc 2 1, 3) := by decide +kernel
theorem dX2_extend_58 : decode cX2_extend 58 = .ok (.goto (-56), 3) := by decide +kernel
theorem dX2_extend_61 : decode cX2_extend 61 = .ok (.return_, 1) := by decide +kernel
set_option maxRecDepth 20000 in
theorem ggX2_acrossTile_X7_lowNumber : GoodIn wsX2_acrossTile wsX7_lowNumber := goodIn_r _ [3] rfl (by decide +kernel)
set_option maxRecDepth 20000 in
theorem gX2_acrossTile_X7_lowNumber_n72 : GoodIn wsX2_acrossTile (wsX7_lowNumber) := ggX2_acrossTile_X7_lowNumber
set_option maxRecDepth 20000 in
theorem ggX2_acrossTile_X7_highNumber : GoodIn wsX2_acrossTile wsX7_highNumber := goodIn_r _ [5] rfl (by decide +kernel)
set_option maxRecDepth 20000 in
theorem gX2_acrossTile_X7_highNumber_n75 : GoodIn wsX2_acrossTile (wsX7_highNumber) := ggX2_acrossTile_X7_highNumber
theorem dX2_acrossTile_0 : decode cX2_acrossTile 0 = .ok (.iconst 0, 1) := by decide +kernel
theorem dX2_acrossTile_1 : decode cX2_acrossTile 1 = .ok (.istore_n 2, 1) := by decide +kernel
theorem dX2_acrossTile_2 : decode cX2_acrossTile 2 = .ok (.iload_n 1, 1) := by decide +kernel
theorem dX2_acrossTile_3 : decode cX2_acrossTile 3 = .ok (.iconst 1, 1) := by decide +kernel
theorem dX2_acrossTile_4 : decode cX2_acrossTile 4 = .ok (.iload_n 0, 1) := by decide +kernel
theorem dX2_acrossTile_5 : decode cX2_acrossTile 5 = .ok (.invokestatic 72, 3) := by decide +kernel
theorem dX2_acrossTile_8 : decode cX2_acrossTile 8 = .ok (.ishl, 1) := by decide +kernel
theorem dX2_acrossTile_9 : decode cX2_acrossTile 9 = .ok (.iand, 1) := by decide +kernel
theorem dX2_acrossTile_10 : decode cX2_acrossTile 10 = .ok (.ifCond .eq 12, 3) := by decide +kernel
theorem dX2_acrossTile_13 : decode cX2_acrossTile 13 = .ok (.iload_n 2, 1) := by decide +kernel
theorem dX2_acrossTile_14 : decode cX2_acrossTile 14 = .ok (.iconst 1, 1) := by decide +kernel
theorem dX2_acrossTile_15 : decode cX2_acrossTile 15 = .ok (.iload_n 0, 1) := by decide +kernel
theorem dX2_acrossTile_16 : decode cX2_acrossTile 16 = .ok (.invokestatic 75, 3) := by decide +kernel
theorem dX2_acrossTile_19 : decode cX2_acrossTile 19 = .ok (.ishl, 1) := by decide +kernel
theorem dX2_acrossTile_20 : decode cX2_acrossTile 20 = .ok (.ior, 1) := by decide +kernel
theorem dX2_acrossTile_21 : decode cX2_acrossTile 21 = .ok (.istore_n 2, 1) := by decide +kernel
theorem dX2_acrossTile_22 : decode cX2_acrossTile 22 = .ok (.iload_n 1, 1) := by decide +kernel
theorem dX2_acrossTile_23 : decode cX2_acrossTile 23 = .ok (.iconst 1, 1) := by decide +kernel
theorem dX2_acrossTile_24 : decode cX2_acrossTile 24 = .ok (.iload_n 0, 1) := by decide +kernel
theorem dX2_acrossTile_25 : decode cX2_acrossTile 25 = .ok (.invokestatic 75, 3) := by decide +kernel
theorem dX2_acrossTile_28 : decode cX2_acrossTile 28 = .ok (.ishl, 1) := by decide +kernel
theorem dX2_acrossTile_29 : decode cX2_acrossTile 29 = .ok (.iand, 1) := by decide +kernel
theorem dX2_acrossTile_30 : decode cX2_acrossTile 30 = .ok (.ifCond .eq 12, 3) := by decide +kernel
theorem dX2_acrossTile_33 : decode cX2_acrossTile 33 = .ok (.iload_n 2, 1) := by decide +kernel
theorem dX2_acrossTile_34 : decode cX2_acrossTile 34 = .ok (.iconst 1, 1) := by decide +kernel
theorem dX2_acrossTile_35 : decode cX2_acrossTile 35 = .ok (.iload_n 0, 1) := by decide +kernel
theorem dX2_acrossTile_36 : decode cX2_acrossTile 36 = .ok (.invokestatic 72, 3) := by decide +kernel
theorem dX2_acrossTile_39 : decode cX2_acrossTile 39 = .ok (.ishl, 1) := by decide +kernel
theorem dX2_acrossTile_40 : decode cX2_acrossTile 40 = .ok (.ior, 1) := by decide +kernel
theorem dX2_acrossTile_41 : decode cX2_acrossTile 41 = .ok (.istore_n 2, 1) := by decide +kernel
theorem dX2_acrossTile_42 : decode cX2_acrossTile 42 = .ok (.iload_n 2, 1) := by decide +kernel
theorem dX2_acrossTile_43 : decode cX2_acrossTile 43 = .ok (.ireturn, 1) := by decide +kernel
set_option maxRecDepth 20000 in
theorem ggX2_longestLength_X7_look : GoodIn wsX2_longestLength wsX7_look := goodIn_r _ [5] rfl (by decide +kernel)
set_option maxRecDepth 20000 in
theorem gX2_longestLength_X7_look_n60 : GoodIn wsX2_longestLength (wsX7_look) := ggX2_longestLength_X7_look
set_option maxRecDepth 20000 in
theorem ggX2_longestLength_J6_bitCount_0f7a4 : GoodIn wsX2_longestLength wsJ6_bitCount_0f7a4 := goodIn_r _ [9, 10, 11, 12] rfl (by decide +kernel)
set_option maxRecDepth 20000 in
theorem gX2_longestLength_J6_bitCount_0f7a4 : GoodIn wsX2_longestLength (va_wsS RX2 78 yJ6_bitCount_0f7a4 wsJ6_bitCount_0f7a4) := goodIn_app (goodIn_of _ (by decide +kernel)) ggX2_longestLength_J6_bitCount_0f7a4
theorem dX2_longestLength_0 : decode cX2_longestLength 0 = .ok (.aload_n 0, 1) := by decide +kernel
theorem dX2_longestLength_1 : decode cX2_longestLength 1 = .ok (.getfield 15, 3) := by decide +kernel
theorem dX2_longestLength_4 : decode cX2_longestLength 4 = .ok (.aload_n 0, 1) := by decide +kernel
theorem dX2_longestLength_5 : decode cX2_longestLength 5 = .ok (.getfield 57, 3) := by decide +kernel
theorem dX2_longestLength_8 : decode cX2_longestLength 8 = .ok (.iconst 1, 1) := by decide +kernel
theorem dX2_longestLength_9 : decode cX2_longestLength 9 = .ok (.isub, 1) := by decide +kernel
theorem dX2_longestLength_10 : decode cX2_longestLength 10 = .ok (.invokestatic 60, 3) := by decide +kernel
theorem dX2_longestLength_13 : decode cX2_longestLength 13 = .ok (.invokestatic 78, 3) := by decide +kernel
theorem dX2_longestLength_16 : decode cX2_longestLength 16 = .ok (.ireturn, 1) := by decide +kernel
set_option maxRecDepth 20000 in
theorem ggX2_mostPips_X7_look : GoodIn wsX2_mostPips wsX7_look := goodIn_r _ [9] rfl (by decide +kernel)
set_option maxRecDepth 20000 in
theorem gX2_mostPips_X7_look_n60 : GoodIn wsX2_mostPips (wsX7_look) := ggX2_mostPips_X7_look
set_option maxRecDepth 20000 in
theorem ggX2_mostPips_X2_pipsOfMask : GoodIn wsX2_mostPips wsX2_pipsOfMask := goodIn_r _ [14, 15, 16, 7, 8, 9, 17, 18, 19, 20, 21, 22, 23, 24, 25, 26, 27, 28, 29, 30, 31] rfl (by decide +kernel)
set_option maxRecDepth 20000 in
theorem gX2_mostPips_X2_pipsOfMask : GoodIn wsX2_mostPips (wsV RX2 83 RX2 yX2_pipsOfMask wsX2_pipsOfMask) := goodIn_app (goodIn_of _ (by decide +kernel)) ggX2_mostPips_X2_pipsOfMask
theorem dX2_mostPips_0 : decode cX2_mostPips 0 = .ok (.iconst 0, 1) := by decide +kernel
theorem dX2_mostPips_1 : decode cX2_mostPips 1 = .ok (.istore_n 1, 1) := by decide +kernel
theorem dX2_mostPips_2 : decode cX2_mostPips 2 = .ok (.iconst 0, 1) := by decide +kernel
theorem dX2_mostPips_3 : decode cX2_mostPips 3 = .ok (.istore_n 2, 1) := by decide +kernel
theorem dX2_mostPips_4 : decode cX2_mostPips 4 = .ok (.iload_n 2, 1) := by decide +kernel
theorem dX2_mostPips_5 : decode cX2_mostPips 5 = .ok (.aload_n 0, 1) := by decide +kernel
theorem dX2_mostPips_6 : decode cX2_mostPips 6 = .ok (.getfield 57, 3) := by decide +kernel
theorem dX2_mostPips_9 : decode cX2_mostPips 9 = .ok (.if_icmp .ge 26, 3) := by decide +kernel
theorem dX2_mostPips_12 : decode cX2_mostPips 12 = .ok (.iload_n 1, 1) := by decide +kernel
theorem dX2_mostPips_13 : decode cX2_mostPips 13 = .ok (.aload_n 0, 1) := by decide +kernel
theorem dX2_mostPips_14 : decode cX2_mostPips 14 = .ok (.aload_n 0, 1) := by decide +kernel
theorem dX2_mostPips_15 : decode cX2_mostPips 15 = .ok (.getfield 15, 3) := by decide +kernel
theorem dX2_mostPips_18 : decode cX2_mostPips 18 = .ok (.iload_n 2, 1) := by decide +kernel
theorem dX2_mostPips_19 : decode cX2_mostPips 19 = .ok (.invokestatic 60, 3) := by decide +kernel
theorem dX2_mostPips_22 : decode cX2_mostPips 22 = .ok (.invokevirtual 83, 3) := by decide +kernel
theorem dX2_mostPips_25 : decode cX2_mostPips 25 = .ok (.invokestatic 86, 3) := by decide +kernel
theorem dX2_mostPips_28 : decode cX2_mostPips 28 = .ok (.istore_n 1, 1) := by decide +kernel
theorem dX2_mostPips_29 : decode cX2_mostPips 29 = .ok (.iinc 2 1, 3) := by decide +kernel
theorem dX2_mostPips_32 : decode cX2_mostPips 32 = .ok (.goto (-28), 3) := by decide +kernel
theorem dX2_mostPips_35 : decode cX2_mostPips 35 = .ok (.iload_n 1, 1) := by decide +kernel
theorem dX2_mostPips_36 : decode cX2_mostPips 36 = .ok (.ireturn, 1) := by decide +kernel
set_option maxRecDepth 20000 in
theorem ggX2_pipsOfMask_X7_look : GoodIn wsX2_pipsOfMask wsX7_look := goodIn_r _ [5] rfl (by decide +kernel)
set_option maxRecDepth 20000 in
theorem gX2_pipsOfMask_X7_look_n60 : GoodIn wsX2_pipsOfMask (wsX7_look) := ggX2_pipsOfMask_X7_look
set_option maxRecDepth 20000 in
theorem ggX2_pipsOfMask_X7_pipsOf : GoodIn wsX2_pipsOfMask wsX7_pipsOf := goodIn_r _ [7, 8, 9, 4, 10, 11, 12, 13] rfl (by decide +kernel)
set_option maxRecDepth 20000 in
theorem gX2_pipsOfMask_X7_pipsOf_n91 : GoodIn wsX2_pipsOfMask (wsX7_pipsOf) := ggX2_pipsOfMask_X7_pipsOf
theorem dX2_pipsOfMask_0 : decode cX2_pipsOfMask 0 = .ok (.iconst 0, 1) := by decide +kernel
theorem dX2_pipsOfMask_1 : decode cX2_pipsOfMask 1 = .ok (.istore_n 2, 1) := by decide +kernel
theorem dX2_pipsOfMask_2 : decode cX2_pipsOfMask 2 = .ok (.iconst 0, 1) := by decide +kernel
theorem dX2_pipsOfMask_3 : decode cX2_pipsOfMask 3 = .ok (.istore_n 3, 1) := by decide +kernel
theorem dX2_pipsOfMask_4 : decode cX2_pipsOfMask 4 = .ok (.iload_n 3, 1) := by decide +kernel
theorem dX2_pipsOfMask_5 : decode cX2_pipsOfMask 5 = .ok (.aload_n 0, 1) := by decide +kernel
theorem dX2_pipsOfMask_6 : decode cX2_pipsOfMask 6 = .ok (.getfield 27, 3) := by decide +kernel
theorem dX2_pipsOfMask_9 : decode cX2_pipsOfMask 9 = .ok (.if_icmp .ge 31, 3) := by decide +kernel
theorem dX2_pipsOfMask_12 : decode cX2_pipsOfMask 12 = .ok (.iload_n 1, 1) := by decide +kernel
theorem dX2_pipsOfMask_13 : decode cX2_pipsOfMask 13 = .ok (.iconst 1, 1) := by decide +kernel
theorem dX2_pipsOfMask_14 : decode cX2_pipsOfMask 14 = .ok (.iload_n 3, 1) := by decide +kernel
theorem dX2_pipsOfMask_15 : decode cX2_pipsOfMask 15 = .ok (.ishl, 1) := by decide +kernel
theorem dX2_pipsOfMask_16 : decode cX2_pipsOfMask 16 = .ok (.iand, 1) := by decide +kernel
theorem dX2_pipsOfMask_17 : decode cX2_pipsOfMask 17 = .ok (.ifCond .eq 17, 3) := by decide +kernel
theorem dX2_pipsOfMask_20 : decode cX2_pipsOfMask 20 = .ok (.iload_n 2, 1) := by decide +kernel
theorem dX2_pipsOfMask_21 : decode cX2_pipsOfMask 21 = .ok (.aload_n 0, 1) := by decide +kernel
theorem dX2_pipsOfMask_22 : decode cX2_pipsOfMask 22 = .ok (.getfield 9, 3) := by decide +kernel
theorem dX2_pipsOfMask_25 : decode cX2_pipsOfMask 25 = .ok (.iload_n 3, 1) := by decide +kernel
theorem dX2_pipsOfMask_26 : decode cX2_pipsOfMask 26 = .ok (.invokestatic 60, 3) := by decide +kernel
theorem dX2_pipsOfMask_29 : decode cX2_pipsOfMask 29 = .ok (.invokestatic 91, 3) := by decide +kernel
theorem dX2_pipsOfMask_32 : decode cX2_pipsOfMask 32 = .ok (.iadd, 1) := by decide +kernel
theorem dX2_pipsOfMask_33 : decode cX2_pipsOfMask 33 = .ok (.istore_n 2, 1) := by decide +kernel
theorem dX2_pipsOfMask_34 : decode cX2_pipsOfMask 34 = .ok (.iinc 3 1, 3) := by decide +kernel
theorem dX2_pipsOfMask_37 : decode cX2_pipsOfMask 37 = .ok (.goto (-33), 3) := by decide +kernel
theorem dX2_pipsOfMask_40 : decode cX2_pipsOfMask 40 = .ok (.iload_n 2, 1) := by decide +kernel
theorem dX2_pipsOfMask_41 : decode cX2_pipsOfMask 41 = .ok (.ireturn, 1) := by decide +kernel
set_option maxRecDepth 20000 in
theorem ggX2_tileOfFirstLongest_X2_longestLength : GoodIn wsX2_tileOfFirstLongest wsX2_longestLength := goodIn_r _ [7, 8, 9, 10, 11, 12, 13, 14, 15, 16, 17, 18, 19, 48, 49, 50, 51, 52, 53, 54] rfl (by decide +kernel)
set_option maxRecDepth 20000 in
theorem gX2_tileOfFirstLongest_X2_longestLength : GoodIn wsX2_tileOfFirstLongest (wsV RX2 94 RX2 yX2_longestLength wsX2_longestLength) := goodIn_app (goodIn_of _ (by decide +kernel)) ggX2_tileOfFirstLongest_X2_longestLength
set_option maxRecDepth 20000 in
theorem ggX2_tileOfFirstLongest_X2_findHopeful : GoodIn wsX2_tileOfFirstLongest wsX2_findHopeful := goodIn_r _ [23, 9, 8, 24, 25, 10, 11, 12, 13, 14, 15, 16, 17, 18, 19, 26, 27, 28, 6, 29, 30, 2, 31, 32, 33, 34, 35, 36, 37, 38, 39, 48, 49, 50, 51, 52, 53, 54] rfl (by decide +kernel)
set_option maxRecDepth 20000 in
theorem gX2_tileOfFirstLongest_X2_findHopeful : GoodIn wsX2_tileOfFirstLongest (wsV RX2 98 RX2 yX2_findHopeful wsX2_findHopeful) := goodIn_app (goodIn_of _ (by decide +kernel)) ggX2_tileOfFirstLongest_X2_findHopeful
set_option maxRecDepth 20000 in
theorem ggX2_tileOfFirstLongest_X2_firstHopefulTile : GoodIn wsX2_tileOfFirstLongest wsX2_firstHopefulTile := goodIn_r _ [43, 30, 2, 25, 10, 11, 12, 31, 32, 6, 33, 34, 35, 36, 37, 48, 49, 50, 51, 52, 53, 54] rfl (by decide +kernel)
set_option maxRecDepth 20000 in
theorem gX2_tileOfFirstLongest_X2_firstHopefulTile : GoodIn wsX2_tileOfFirstLongest (wsV RX2 101 RX2 yX2_firstHopefulTile wsX2_firstHopefulTile) := goodIn_app (goodIn_of _ (by decide +kernel)) ggX2_tileOfFirstLongest_X2_firstHopefulTile
set_option maxRecDepth 20000 in
theorem ggX2_tileOfFirstLongest_X7_look : GoodIn wsX2_tileOfFirstLongest wsX7_look := goodIn_r _ [12] rfl (by decide +kernel)
set_option maxRecDepth 20000 in
theorem gX2_tileOfFirstLongest_X7_look_n60 : GoodIn wsX2_tileOfFirstLongest (wsX7_look) := ggX2_tileOfFirstLongest_X7_look
set_option maxRecDepth 20000 in
theorem ggX2_tileOfFirstLongest_X7_pipsOf : GoodIn wsX2_tileOfFirstLongest wsX7_pipsOf := goodIn_r _ [45, 46, 34, 11, 35, 47, 36, 37] rfl (by decide +kernel)
set_option maxRecDepth 20000 in
theorem gX2_tileOfFirstLongest_X7_pipsOf_n91 : GoodIn wsX2_tileOfFirstLongest (wsX7_pipsOf) := ggX2_tileOfFirstLongest_X7_pipsOf
theorem dX2_tileOfFirstLongest_0 : decode cX2_tileOfFirstLongest 0 = .ok (.aload_n 0, 1) := by decide +kernel
theorem dX2_tileOfFirstLongest_1 : decode cX2_tileOfFirstLongest 1 = .ok (.invokevirtual 94, 3) := by decide +kernel
theorem dX2_tileOfFirstLongest_4 : decode cX2_tileOfFirstLongest 4 = .ok (.istore_n 2, 1) := by decide +kernel
theorem dX2_tileOfFirstLongest_5 : decode cX2_tileOfFirstLongest 5 = .ok (.iload_n 1, 1) := by decide +kernel
theorem dX2_tileOfFirstLongest_6 : decode cX2_tileOfFirstLongest 6 = .ok (.ifCond .lt 8, 3) := by decide +kernel
theorem dX2_tileOfFirstLongest_9 : decode cX2_tileOfFirstLongest 9 = .ok (.iload_n 1, 1) := by decide +kernel
theorem dX2_tileOfFirstLongest_10 : decode cX2_tileOfFirstLongest 10 = .ok (.iload_n 2, 1) := by decide +kernel
theorem dX2_tileOfFirstLongest_11 : decode cX2_tileOfFirstLongest 11 = .ok (.if_icmp .lt 5, 3) := by decide +kernel
theorem dX2_tileOfFirstLongest_14 : decode cX2_tileOfFirstLongest 14 = .ok (.iconst (-1), 1) := by decide +kernel
theorem dX2_tileOfFirstLongest_15 : decode cX2_tileOfFirstLongest 15 = .ok (.ireturn, 1) := by decide +kernel
theorem dX2_tileOfFirstLongest_16 : decode cX2_tileOfFirstLongest 16 = .ok (.aload_n 0, 1) := by decide +kernel
theorem dX2_tileOfFirstLongest_17 : decode cX2_tileOfFirstLongest 17 = .ok (.iload_n 2, 1) := by decide +kernel
theorem dX2_tileOfFirstLongest_18 : decode cX2_tileOfFirstLongest 18 = .ok (.invokevirtual 98, 3) := by decide +kernel
theorem dX2_tileOfFirstLongest_21 : decode cX2_tileOfFirstLongest 21 = .ok (.iconst 0, 1) := by decide +kernel
theorem dX2_tileOfFirstLongest_22 : decode cX2_tileOfFirstLongest 22 = .ok (.istore_n 3, 1) := by decide +kernel
theorem dX2_tileOfFirstLongest_23 : decode cX2_tileOfFirstLongest 23 = .ok (.aload_n 0, 1) := by decide +kernel
theorem dX2_tileOfFirstLongest_24 : decode cX2_tileOfFirstLongest 24 = .ok (.getfield 50, 3) := by decide +kernel
theorem dX2_tileOfFirstLongest_27 : decode cX2_tileOfFirstLongest 27 = .ok (.istore 4, 2) := by decide +kernel
theorem dX2_tileOfFirstLongest_29 : decode cX2_tileOfFirstLongest 29 = .ok (.iconst (-1), 1) := by decide +kernel
theorem dX2_tileOfFirstLongest_30 : decode cX2_tileOfFirstLongest 30 = .ok (.istore 5, 2) := by decide +kernel
theorem dX2_tileOfFirstLongest_32 : decode cX2_tileOfFirstLongest 32 = .ok (.iconst 0, 1) := by decide +kernel
theorem dX2_tileOfFirstLongest_33 : decode cX2_tileOfFirstLongest 33 = .ok (.istore 6, 2) := by decide +kernel
theorem dX2_tileOfFirstLongest_35 : decode cX2_tileOfFirstLongest 35 = .ok (.iload 6, 2) := by decide +kernel
theorem dX2_tileOfFirstLongest_37 : decode cX2_tileOfFirstLongest 37 = .ok (.iload_n 1, 1) := by decide +kernel
theorem dX2_tileOfFirstLongest_38 : decode cX2_tileOfFirstLongest 38 = .ok (.if_icmp .gt 52, 3) := by decide +kernel
theorem dX2_tileOfFirstLongest_41 : decode cX2_tileOfFirstLongest 41 = .ok (.iload 6, 2) := by decide +kernel
theorem dX2_tileOfFirstLongest_43 : decode cX2_tileOfFirstLongest 43 = .ok (.iload_n 2, 1) := by decide +kernel
theorem dX2_tileOfFirstLongest_44 : decode cX2_tileOfFirstLongest 44 = .ok (.if_icmp .ge 46, 3) := by decide +kernel
theorem dX2_tileOfFirstLongest_47 : decode cX2_tileOfFirstLongest 47 = .ok (.aload_n 0, 1) := by decide +kernel
theorem dX2_tileOfFirstLongest_48 : decode cX2_tileOfFirstLongest 48 = .ok (.iload_n 3, 1) := by decide +kernel
theorem dX2_tileOfFirstLongest_49 : decode cX2_tileOfFirstLongest 49 = .ok (.iload 4, 2) := by decide +kernel
theorem dX2_tileOfFirstLongest_51 : decode cX2_tileOfFirstLongest 51 = .ok (.invokevirtual 101, 3) := by decide +kernel
theorem dX2_tileOfFirstLongest_54 : decode cX2_tileOfFirstLongest 54 = .ok (.istore 7, 2) := by decide +kernel
theorem dX2_tileOfFirstLongest_56 : decode cX2_tileOfFirstLongest 56 = .ok (.aload_n 0, 1) := by decide +kernel
theorem dX2_tileOfFirstLongest_57 : decode cX2_tileOfFirstLongest 57 = .ok (.getfield 9, 3) := by decide +kernel
theorem dX2_tileOfFirstLongest_60 : decode cX2_tileOfFirstLongest 60 = .ok (.iload 7, 2) := by decide +kernel
theorem dX2_tileOfFirstLongest_62 : decode cX2_tileOfFirstLongest 62 = .ok (.invokestatic 60, 3) := by decide +kernel
theorem dX2_tileOfFirstLongest_65 : decode cX2_tileOfFirstLongest 65 = .ok (.istore 5, 2) := by decide +kernel
theorem dX2_tileOfFirstLongest_67 : decode cX2_tileOfFirstLongest 67 = .ok (.iload_n 3, 1) := by decide +kernel
theorem dX2_tileOfFirstLongest_68 : decode cX2_tileOfFirstLongest 68 = .ok (.iconst 1, 1) := by decide +kernel
theorem dX2_tileOfFirstLongest_69 : decode cX2_tileOfFirstLongest 69 = .ok (.iload 7, 2) := by decide +kernel
theorem dX2_tileOfFirstLongest_71 : decode cX2_tileOfFirstLongest 71 = .ok (.ishl, 1) := by decide +kernel
theorem dX2_tileOfFirstLongest_72 : decode cX2_tileOfFirstLongest 72 = .ok (.ior, 1) := by decide +kernel
theorem dX2_tileOfFirstLongest_73 : decode cX2_tileOfFirstLongest 73 = .ok (.istore_n 3, 1) := by decide +kernel
theorem dX2_tileOfFirstLongest_74 : decode cX2_tileOfFirstLongest 74 = .ok (.iload 5, 2) := by decide +kernel
theorem dX2_tileOfFirstLongest_76 : decode cX2_tileOfFirstLongest 76 = .ok (.invokestatic 91, 3) := by decide +kernel
theorem dX2_tileOfFirstLongest_79 : decode cX2_tileOfFirstLongest 79 = .ok (.iload 4, 2) := by decide +kernel
theorem dX2_tileOfFirstLongest_81 : decode cX2_tileOfFirstLongest 81 = .ok (.isub, 1) := by decide +kernel
theorem dX2_tileOfFirstLongest_82 : decode cX2_tileOfFirstLongest 82 = .ok (.istore 4, 2) := by decide +kernel
theorem dX2_tileOfFirstLongest_84 : decode cX2_tileOfFirstLongest 84 = .ok (.iinc 6 1, 3) := by decide +kernel
theorem dX2_tileOfFirstLongest_87 : decode cX2_tileOfFirstLongest 87 = .ok (.goto (-52), 3) := by decide +kernel
theorem dX2_tileOfFirstLongest_90 : decode cX2_tileOfFirstLongest 90 = .ok (.iload 5, 2) := by decide +kernel
theorem dX2_tileOfFirstLongest_92 : decode cX2_tileOfFirstLongest 92 = .ok (.ireturn, 1) := by decide +kernel
set_option maxRecDepth 20000 in
theorem ggX2_findHopeful_X7_look : GoodIn wsX2_findHopeful wsX7_look := goodIn_r _ [7] rfl (by decide +kernel)
set_option maxRecDepth 20000 in
theorem gX2_findHopeful_X7_look_n60 : GoodIn wsX2_findHopeful (wsX7_look) := ggX2_findHopeful_X7_look
set_option maxRecDepth 20000 in
theorem ggX2_findHopeful_J6_bitCount_0f7a4 : GoodIn wsX2_findHopeful wsJ6_bitCount_0f7a4 := goodIn_r _ [11, 12, 13, 14] rfl (by decide +kernel)
set_option maxRecDepth 20000 in
theorem gX2_findHopeful_J6_bitCount_0f7a4 : GoodIn wsX2_findHopeful (va_wsS RX2 78 yJ6_bitCount_0f7a4 wsJ6_bitCount_0f7a4) := goodIn_app (goodIn_of _ (by decide +kernel)) ggX2_findHopeful_J6_bitCount_0f7a4
set_option maxRecDepth 20000 in
theorem ggX2_findHopeful_X2_hopeOf : GoodIn wsX2_findHopeful wsX2_hopeOf := goodIn_r _ [19, 20, 21, 4, 3, 5, 6, 7, 22, 23, 18, 24, 25, 26, 27, 28, 31, 32, 33, 34, 35, 36, 37] rfl (by decide +kernel)
set_option maxRecDepth 20000 in
theorem gX2_findHopeful_X2_hopeOf : GoodIn wsX2_findHopeful (wsV RX2 104 RX2 yX2_hopeOf wsX2_hopeOf) := goodIn_app (goodIn_of _ (by decide +kernel)) ggX2_findHopeful_X2_hopeOf
set_option maxRecDepth 20000 in
theorem ggX2_findHopeful_X7_put : GoodIn wsX2_findHopeful wsX7_put := goodIn_r _ [30] rfl (by decide +kernel)
set_option maxRecDepth 20000 in
theorem gX2_findHopeful_X7_put_n37 : GoodIn wsX2_findHopeful (wsX7_put) := ggX2_findHopeful_X7_put
theorem dX2_findHopeful_0 : decode cX2_findHopeful 0 = .ok (.aload_n 0, 1) := by decide +kernel
theorem dX2_findHopeful_1 : decode cX2_findHopeful 1 = .ok (.getfield 57, 3) := by decide +kernel
theorem dX2_findHopeful_4 : decode cX2_findHopeful 4 = .ok (.iconst 1, 1) := by decide +kernel
theorem dX2_findHopeful_5 : decode cX2_findHopeful 5 = .ok (.isub, 1) := by decide +kernel
theorem dX2_findHopeful_6 : decode cX2_findHopeful 6 = .ok (.istore_n 2, 1) := by decide +kernel
theorem dX2_findHopeful_7 : decode cX2_findHopeful 7 = .ok (.iload_n 2, 1) := by decide +kernel
theorem dX2_findHopeful_8 : decode cX2_findHopeful 8 = .ok (.ifCond .lt 54, 3) := by decide +kernel
theorem dX2_findHopeful_11 : decode cX2_findHopeful 11 = .ok (.aload_n 0, 1) := by decide +kernel
theorem dX2_findHopeful_12 : decode cX2_findHopeful 12 = .ok (.getfield 15, 3) := by decide +kernel
theorem dX2_findHopeful_15 : decode cX2_findHopeful 15 = .ok (.iload_n 2, 1) := by decide +kernel
theorem dX2_findHopeful_16 : decode cX2_findHopeful 16 = .ok (.invokestatic 60, 3) := by decide +kernel
theorem dX2_findHopeful_19 : decode cX2_findHopeful 19 = .ok (.istore_n 3, 1) := by decide +kernel
theorem dX2_findHopeful_20 : decode cX2_findHopeful 20 = .ok (.iload_n 3, 1) := by decide +kernel
theorem dX2_findHopeful_21 : decode cX2_findHopeful 21 = .ok (.invokestatic 78, 3) := by decide +kernel
theorem dX2_findHopeful_24 : decode cX2_findHopeful 24 = .ok (.iload_n 1, 1) := by decide +kernel
theorem dX2_findHopeful_25 : decode cX2_findHopeful 25 = .ok (.if_icmp .ne 14, 3) := by decide +kernel
theorem dX2_findHopeful_28 : decode cX2_findHopeful 28 = .ok (.aload_n 0, 1) := by decide +kernel
theorem dX2_findHopeful_29 : decode cX2_findHopeful 29 = .ok (.getfield 18, 3) := by decide +kernel
theorem dX2_findHopeful_32 : decode cX2_findHopeful 32 = .ok (.iload_n 3, 1) := by decide +kernel
theorem dX2_findHopeful_33 : decode cX2_findHopeful 33 = .ok (.invokestatic 60, 3) := by decide +kernel
theorem dX2_findHopeful_36 : decode cX2_findHopeful 36 = .ok (.goto 8, 3) := by decide +kernel
theorem dX2_findHopeful_39 : decode cX2_findHopeful 39 = .ok (.aload_n 0, 1) := by decide +kernel
theorem dX2_findHopeful_40 : decode cX2_findHopeful 40 = .ok (.iload_n 3, 1) := by decide +kernel
theorem dX2_findHopeful_41 : decode cX2_findHopeful 41 = .ok (.invokevirtual 104, 3) := by decide +kernel
theorem dX2_findHopeful_44 : decode cX2_findHopeful 44 = .ok (.istore 4, 2) := by decide +kernel
theorem dX2_findHopeful_46 : decode cX2_findHopeful 46 = .ok (.aload_n 0, 1) := by decide +kernel
theorem dX2_findHopeful_47 : decode cX2_findHopeful 47 = .ok (.getfield 21, 3) := by decide +kernel
theorem dX2_findHopeful_50 : decode cX2_findHopeful 50 = .ok (.iload_n 3, 1) := by decide +kernel
theorem dX2_findHopeful_51 : decode cX2_findHopeful 51 = .ok (.iload 4, 2) := by decide +kernel
theorem dX2_findHopeful_53 : decode cX2_findHopeful 53 = .ok (.invokestatic 37, 3) := by decide +kernel
theorem dX2_findHopeful_56 : decode cX2_findHopeful 56 = .ok (.iinc 2 (-1), 3) := by decide +kernel
theorem dX2_findHopeful_59 : decode cX2_findHopeful 59 = .ok (.goto (-52), 3) := by decide +kernel
theorem dX2_findHopeful_62 : decode cX2_findHopeful 62 = .ok (.return_, 1) := by decide +kernel
set_option maxRecDepth 20000 in
theorem ggX2_hopeOf_X7_look : GoodIn wsX2_hopeOf wsX7_look := goodIn_r _ [7] rfl (by decide +kernel)
set_option maxRecDepth 20000 in
theorem gX2_hopeOf_X7_look_n60 : GoodIn wsX2_hopeOf (wsX7_look) := ggX2_hopeOf_X7_look
set_option maxRecDepth 20000 in
theorem ggX2_hopeOf_X2_acrossTile : GoodIn wsX2_hopeOf wsX2_acrossTile := goodIn_r _ [11, 12, 6, 13, 14, 15] rfl (by decide +kernel)
set_option maxRecDepth 20000 in
theorem gX2_hopeOf_X2_acrossTile : GoodIn wsX2_hopeOf (va_wsS RX2 68 yX2_acrossTile wsX2_acrossTile) := goodIn_app (goodIn_of _ (by decide +kernel)) ggX2_hopeOf_X2_acrossTile
theorem dX2_hopeOf_0 : decode cX2_hopeOf 0 = .ok (.iconst 0, 1) := by decide +kernel
theorem dX2_hopeOf_1 : decode cX2_hopeOf 1 = .ok (.istore_n 2, 1) := by decide +kernel
theorem dX2_hopeOf_2 : decode cX2_hopeOf 2 = .ok (.iconst 0, 1) := by decide +kernel
theorem dX2_hopeOf_3 : decode cX2_hopeOf 3 = .ok (.istore_n 3, 1) := by decide +kernel
theorem dX2_hopeOf_4 : decode cX2_hopeOf 4 = .ok (.iload_n 3, 1) := by decide +kernel
theorem dX2_hopeOf_5 : decode cX2_hopeOf 5 = .ok (.aload_n 0, 1) := by decide +kernel
theorem dX2_hopeOf_6 : decode cX2_hopeOf 6 = .ok (.getfield 27, 3) := by decide +kernel
theorem dX2_hopeOf_9 : decode cX2_hopeOf 9 = .ok (.if_icmp .ge 43, 3) := by decide +kernel
theorem dX2_hopeOf_12 : decode cX2_hopeOf 12 = .ok (.iload_n 1, 1) := by decide +kernel
theorem dX2_hopeOf_13 : decode cX2_hopeOf 13 = .ok (.iconst 1, 1) := by decide +kernel
theorem dX2_hopeOf_14 : decode cX2_hopeOf 14 = .ok (.iload_n 3, 1) := by decide +kernel
theorem dX2_hopeOf_15 : decode cX2_hopeOf 15 = .ok (.ishl, 1) := by decide +kernel
theorem dX2_hopeOf_16 : decode cX2_hopeOf 16 = .ok (.iand, 1) := by decide +kernel
theorem dX2_hopeOf_17 : decode cX2_hopeOf 17 = .ok (.ifCond .ne 29, 3) := by decide +kernel
theorem dX2_hopeOf_20 : decode cX2_hopeOf 20 = .ok (.iload_n 2, 1) := by decide +kernel
theorem dX2_hopeOf_21 : decode cX2_hopeOf 21 = .ok (.aload_n 0, 1) := by decide +kernel
theorem dX2_hopeOf_22 : decode cX2_hopeOf 22 = .ok (.getfield 9, 3) := by decide +kernel
theorem dX2_hopeOf_25 : decode cX2_hopeOf 25 = .ok (.iload_n 3, 1) := by decide +kernel
theorem dX2_hopeOf_26 : decode cX2_hopeOf 26 = .ok (.invokestatic 60, 3) := by decide +kernel
theorem dX2_hopeOf_29 : decode cX2_hopeOf 29 = .ok (.aload_n 0, 1) := by decide +kernel
theorem dX2_hopeOf_30 : decode cX2_hopeOf 30 = .ok (.getfield 21, 3) := by decide +kernel
theorem dX2_hopeOf_33 : decode cX2_hopeOf 33 = .ok (.iload_n 1, 1) := by decide +kernel
theorem dX2_hopeOf_34 : decode cX2_hopeOf 34 = .ok (.iconst 1, 1) := by decide +kernel
theorem dX2_hopeOf_35 : decode cX2_hopeOf 35 = .ok (.iload_n 3, 1) := by decide +kernel
theorem dX2_hopeOf_36 : decode cX2_hopeOf 36 = .ok (.ishl, 1) := by decide +kernel
theorem dX2_hopeOf_37 : decode cX2_hopeOf 37 = .ok (.ior, 1) := by decide +kernel
theorem dX2_hopeOf_38 : decode cX2_hopeOf 38 = .ok (.invokestatic 60, 3) := by decide +kernel
theorem dX2_hopeOf_41 : decode cX2_hopeOf 41 = .ok (.invokestatic 68, 3) := by decide +kernel
theorem dX2_hopeOf_44 : decode cX2_hopeOf 44 = .ok (.ior, 1) := by decide +kernel
theorem dX2_hopeOf_45 : decode cX2_hopeOf 45 = .ok (.istore_n 2, 1) := by decide +kernel
theorem dX2_hopeOf_46 : decode cX2_hopeOf 46 = .ok (.iinc 3 1, 3) := by decide +kernel
theorem dX2_hopeOf_49 : decode cX2_hopeOf 49 = .ok (.goto (-45), 3) := by decide +kernel
theorem dX2_hopeOf_52 : decode cX2_hopeOf 52 = .ok (.iload_n 2, 1) := by decide +kernel
theorem dX2_hopeOf_53 : decode cX2_hopeOf 53 = .ok (.aload_n 0, 1) := by decide +kernel
theorem dX2_hopeOf_54 : decode cX2_hopeOf 54 = .ok (.getfield 18, 3) := by decide +kernel
theorem dX2_hopeOf_57 : decode cX2_hopeOf 57 = .ok (.iload_n 1, 1) := by decide +kernel
theorem dX2_hopeOf_58 : decode cX2_hopeOf 58 = .ok (.invokestatic 60, 3) := by decide +kernel
theorem dX2_hopeOf_61 : decode cX2_hopeOf 61 = .ok (.iand, 1) := by decide +kernel
theorem dX2_hopeOf_62 : decode cX2_hopeOf 62 = .ok (.ireturn, 1) := by decide +kernel
set_option maxRecDepth 20000 in
theorem ggX2_firstHopefulTile_X7_look : GoodIn wsX2_firstHopefulTile wsX7_look := goodIn_r _ [6] rfl (by decide +kernel)
set_option maxRecDepth 20000 in
theorem gX2_firstHopefulTile_X7_look_n60 : GoodIn wsX2_firstHopefulTile (wsX7_look) := ggX2_firstHopefulTile_X7_look
set_option maxRecDepth 20000 in
theorem ggX2_firstHopefulTile_X2_acrossTile : GoodIn wsX2_firstHopefulTile wsX2_acrossTile := goodIn_r _ [10, 11, 5, 12, 13, 14] rfl (by decide +kernel)
set_option maxRecDepth 20000 in
theorem gX2_firstHopefulTile_X2_acrossTile : GoodIn wsX2_firstHopefulTile (va_wsS RX2 68 yX2_acrossTile wsX2_acrossTile) := goodIn_app (goodIn_of _ (by decide +kernel)) ggX2_firstHopefulTile_X2_acrossTile
theorem dX2_firstHopefulTile_0 : decode cX2_firstHopefulTile 0 = .ok (.iconst 0, 1) := by decide +kernel
theorem dX2_firstHopefulTile_1 : decode cX2_firstHopefulTile 1 = .ok (.istore_n 3, 1) := by decide +kernel
theorem dX2_firstHopefulTile_2 : decode cX2_firstHopefulTile 2 = .ok (.iload_n 3, 1) := by decide +kernel
theorem dX2_firstHopefulTile_3 : decode cX2_firstHopefulTile 3 = .ok (.aload_n 0, 1) := by decide +kernel
theorem dX2_firstHopefulTile_4 : decode cX2_firstHopefulTile 4 = .ok (.getfield 27, 3) := by decide +kernel
theorem dX2_firstHopefulTile_7 : decode cX2_firstHopefulTile 7 = .ok (.if_icmp .ge 53, 3) := by decide +kernel
theorem dX2_firstHopefulTile_10 : decode cX2_firstHopefulTile 10 = .ok (.aload_n 0, 1) := by decide +kernel
theorem dX2_firstHopefulTile_11 : decode cX2_firstHopefulTile 11 = .ok (.getfield 9, 3) := by decide +kernel
theorem dX2_firstHopefulTile_14 : decode cX2_firstHopefulTile 14 = .ok (.iload_n 3, 1) := by decide +kernel
theorem dX2_firstHopefulTile_15 : decode cX2_firstHopefulTile 15 = .ok (.invokestatic 60, 3) := by decide +kernel
theorem dX2_firstHopefulTile_18 : decode cX2_firstHopefulTile 18 = .ok (.iconst 1, 1) := by decide +kernel
theorem dX2_firstHopefulTile_19 : decode cX2_firstHopefulTile 19 = .ok (.iload_n 2, 1) := by decide +kernel
theorem dX2_firstHopefulTile_20 : decode cX2_firstHopefulTile 20 = .ok (.ishl, 1) := by decide +kernel
theorem dX2_firstHopefulTile_21 : decode cX2_firstHopefulTile 21 = .ok (.invokestatic 68, 3) := by decide +kernel
theorem dX2_firstHopefulTile_24 : decode cX2_firstHopefulTile 24 = .ok (.istore 4, 2) := by decide +kernel
theorem dX2_firstHopefulTile_26 : decode cX2_firstHopefulTile 26 = .ok (.iload_n 1, 1) := by decide +kernel
theorem dX2_firstHopefulTile_27 : decode cX2_firstHopefulTile 27 = .ok (.iconst 1, 1) := by decide +kernel
theorem dX2_firstHopefulTile_28 : decode cX2_firstHopefulTile 28 = .ok (.iload_n 3, 1) := by decide +kernel
theorem dX2_firstHopefulTile_29 : decode cX2_firstHopefulTile 29 = .ok (.ishl, 1) := by decide +kernel
theorem dX2_firstHopefulTile_30 : decode cX2_firstHopefulTile 30 = .ok (.iand, 1) := by decide +kernel
theorem dX2_firstHopefulTile_31 : decode cX2_firstHopefulTile 31 = .ok (.ifCond .ne 23, 3) := by decide +kernel
theorem dX2_firstHopefulTile_34 : decode cX2_firstHopefulTile 34 = .ok (.iload 4, 2) := by decide +kernel
theorem dX2_firstHopefulTile_36 : decode cX2_firstHopefulTile 36 = .ok (.aload_n 0, 1) := by decide +kernel
theorem dX2_firstHopefulTile_37 : decode cX2_firstHopefulTile 37 = .ok (.getfield 21, 3) := by decide +kernel
theorem dX2_firstHopefulTile_40 : decode cX2_firstHopefulTile 40 = .ok (.iload_n 1, 1) := by decide +kernel
theorem dX2_firstHopefulTile_41 : decode cX2_firstHopefulTile 41 = .ok (.iconst 1, 1) := by decide +kernel
theorem dX2_firstHopefulTile_42 : decode cX2_firstHopefulTile 42 = .ok (.iload_n 3, 1) := by decide +kernel
theorem dX2_firstHopefulTile_43 : decode cX2_firstHopefulTile 43 = .ok (.ishl, 1) := by decide +kernel
theorem dX2_firstHopefulTile_44 : decode cX2_firstHopefulTile 44 = .ok (.ior, 1) := by decide +kernel
theorem dX2_firstHopefulTile_45 : decode cX2_firstHopefulTile 45 = .ok (.invokestatic 60, 3) := by decide +kernel
theorem dX2_firstHopefulTile_48 : decode cX2_firstHopefulTile 48 = .ok (.iand, 1) := by decide +kernel
theorem dX2_firstHopefulTile_49 : decode cX2_firstHopefulTile 49 = .ok (.ifCond .eq 5, 3) := by decide +kernel
theorem dX2_firstHopefulTile_52 : decode cX2_firstHopefulTile 52 = .ok (.iload_n 3, 1) := by decide +kernel
theorem dX2_firstHopefulTile_53 : decode cX2_firstHopefulTile 53 = .ok (.ireturn, 1) := by decide +kernel
theorem dX2_firstHopefulTile_54 : decode cX2_firstHopefulTile 54 = .ok (.iinc 3 1, 3) := by decide +kernel
theorem dX2_firstHopefulTile_57 : decode cX2_firstHopefulTile 57 = .ok (.goto (-55), 3) := by decide +kernel
theorem dX2_firstHopefulTile_60 : decode cX2_firstHopefulTile 60 = .ok (.iconst 0, 1) := by decide +kernel
theorem dX2_firstHopefulTile_61 : decode cX2_firstHopefulTile 61 = .ok (.ireturn, 1) := by decide +kernel
set_option maxRecDepth 20000 in
theorem ggX3_init_X5_init : GoodIn wsX3_init wsX5_init := goodIn_r _ [16, 17, 2, 3, 12, 18, 54, 55, 56, 57, 58, 59, 60] rfl (by decide +kernel)
set_option maxRecDepth 20000 in
theorem gX3_init_X5_init_n11 : GoodIn wsX3_init (wsX5_init) := ggX3_init_X5_init
set_option maxRecDepth 20000 in
theorem ggX3_init_X1_init : GoodIn wsX3_init wsX1_init := goodIn_r _ [21, 22, 2, 3, 23, 24, 25, 26, 27, 28, 12, 29, 30, 31, 32, 33, 34, 35, 36, 37, 38, 39, 40, 41, 42, 43, 44, 45, 46, 47, 48, 49, 50, 51, 52, 53, 72, 73, 74, 75, 76, 77, 78, 79, 80, 81, 82, 83, 84, 85, 86, 87, 88, 89, 90, 91, 92, 93, 94, 95] rfl (by decide +kernel)
set_option maxRecDepth 20000 in
theorem gX3_init_X1_init : GoodIn wsX3_init (wsX1_init) := ggX3_init_X1_init
theorem dX3_init_0 : decode cX3_init 0 = .ok (.aload_n 0, 1) := by decide +kernel
theorem dX3_init_1 : decode cX3_init 1 = .ok (.invokespecial 3, 3) := by decide +kernel
theorem dX3_init_4 : decode cX3_init 4 = .ok (.aload_n 0, 1) := by decide +kernel
theorem dX3_init_5 : decode cX3_init 5 = .ok (.new 9, 3) := by decide +kernel
theorem dX3_init_8 : decode cX3_init 8 = .ok (.dup, 1) := by decide +kernel
theorem dX3_init_9 : decode cX3_init 9 = .ok (.invokespecial 11, 3) := by decide +kernel
theorem dX3_init_12 : decode cX3_init 12 = .ok (.putfield 12, 3) := by decide +kernel
theorem dX3_init_15 : decode cX3_init 15 = .ok (.aload_n 0, 1) := by decide +kernel
theorem dX3_init_16 : decode cX3_init 16 = .ok (.new 18, 3) := by decide +kernel
theorem dX3_init_19 : decode cX3_init 19 = .ok (.dup, 1) := by decide +kernel
theorem dX3_init_20 : decode cX3_init 20 = .ok (.invokespecial 20, 3) := by decide +kernel
theorem dX3_init_23 : decode cX3_init 23 = .ok (.putfield 21, 3) := by decide +kernel
theorem dX3_init_26 : decode cX3_init 26 = .ok (.aload_n 0, 1) := by decide +kernel
theorem dX3_init_27 : decode cX3_init 27 = .ok (.sipush 500, 3) := by decide +kernel
theorem dX3_init_30 : decode cX3_init 30 = .ok (.newarray .int, 2) := by decide +kernel
theorem dX3_init_32 : decode cX3_init 32 = .ok (.putfield 25, 3) := by decide +kernel
theorem dX3_init_35 : decode cX3_init 35 = .ok (.aload_n 0, 1) := by decide +kernel
theorem dX3_init_36 : decode cX3_init 36 = .ok (.iconst (-1), 1) := by decide +kernel
theorem dX3_init_37 : decode cX3_init 37 = .ok (.putfield 29, 3) := by decide +kernel
theorem dX3_init_40 : decode cX3_init 40 = .ok (.return_, 1) := by decide +kernel
set_option maxRecDepth 20000 in
theorem ggX3_read_X1_clearHands : GoodIn wsX3_read wsX1_clearHands := goodIn_r _ [18, 19, 20, 21, 22, 23, 229, 230, 231, 232, 233, 234, 235, 236, 237, 238, 239, 240, 241, 242, 243, 244] rfl (by decide +kernel)
set_option maxRecDepth 20000 in
theorem gX3_read_X1_clearHands : GoodIn wsX3_read (wsV RX3 33 RX1 yX1_clearHands wsX1_clearHands) := goodIn_app (goodIn_of _ (by decide +kernel)) ggX3_read_X1_clearHands
set_option maxRecDepth 20000 in
theorem ggX3_read_X5_begin : GoodIn wsX3_read wsX5_begin := goodIn_r _ [28, 29, 30, 31, 32, 33, 34, 35, 36, 37, 38, 39, 40, 41, 27, 42, 43, 44, 45, 46, 245, 246, 247, 248, 249, 250, 251] rfl (by decide +kernel)
set_option maxRecDepth 20000 in
theorem gX3_read_X5_begin : GoodIn wsX3_read (wsV RX3 59 RX5 yX5_begin wsX5_begin) := goodIn_app (goodIn_of _ (by decide +kernel)) ggX3_read_X5_begin
set_option maxRecDepth 20000 in
theorem ggX3_read_X3_readHead : GoodIn wsX3_read wsX3_readHead := goodIn_r _ [51, 9, 1, 52, 53, 54, 55, 27, 56, 46, 38, 43, 29, 57, 58, 59, 60, 61, 62, 63, 64, 65, 66, 67, 68, 69, 70, 71, 72, 73, 74, 75, 76, 77, 78, 79, 80, 81, 82, 83, 84, 85, 86, 87, 88, 89, 90, 91, 92, 93, 94, 95, 96, 97, 98, 99, 100, 101, 102, 103, 104, 105, 106, 107, 108, 50, 109, 7, 8, 110, 40, 41, 42, 37, 44, 45, 111, 112, 113, 114, 115, 116, 117, 118, 119, 120, 121, 122, 123, 124, 125, 126, 218, 219, 220, 221, 222, 223, 224, 225, 226, 227, 228, 245, 246, 247, 248, 249, 250, 251, 229, 230, 231, 232, 233, 234, 235, 236, 237, 238, 239, 240, 241, 242, 243, 244, 254, 255, 256, 257] rfl (by decide +kernel)
set_option maxRecDepth 20000 in
theorem gX3_read_X3_readHead : GoodIn wsX3_read (wsV RX3 63 RX3 yX3_readHead wsX3_readHead) := goodIn_app (goodIn_of _ (by decide +kernel)) ggX3_read_X3_readHead
set_option maxRecDepth 20000 in
theorem ggX3_read_X3_readStatement : GoodIn wsX3_read wsX3_readStatement := goodIn_r _ [130, 9, 2, 6, 3, 4, 53, 54, 55, 27, 56, 46, 38, 43, 29, 57, 58, 59, 60, 61, 62, 63, 64, 65, 66, 67, 68, 69, 70, 71, 72, 73, 74, 75, 76, 77, 78, 79, 80, 81, 82, 83, 84, 85, 86, 87, 88, 89, 90, 91, 92, 93, 94, 95, 96, 97, 98, 99, 100, 101, 102, 103, 104, 105, 131, 132, 133, 50, 134, 1, 52, 110, 40, 41, 42, 37, 44, 45, 111, 112, 113, 114, 115, 116, 117, 118, 106, 107, 108, 109, 7, 8, 135, 136, 137, 138, 139, 140, 141, 142, 143, 144, 145, 146, 147, 31, 32, 33, 148, 35, 36, 119, 120, 121, 122, 123, 124, 125, 126, 149, 150, 151, 17, 152, 153, 154, 155, 156, 157, 19, 158, 159, 160, 161, 162, 163, 164, 165, 166, 167, 168, 169, 170, 171, 172, 173, 174, 175, 176, 177, 178, 179, 180, 181, 182, 183, 5, 13, 184, 185, 186, 187, 188, 189, 190, 191, 192, 218, 219, 220, 221, 222, 223, 224, 225, 226, 227, 228, 245, 246, 247, 248, 249, 250, 251, 254, 255, 256, 257, 229, 230, 231, 232, 233, 234, 235, 236, 237, 238, 239, 240, 241, 242, 243, 244] rfl (by decide +kernel)
set_option maxRecDepth 20000 in
theorem gX3_read_X3_readStatement : GoodIn wsX3_read (wsV RX3 70 RX3 yX3_readStatement wsX3_readStatement) := goodIn_app (goodIn_of _ (by decide +kernel)) ggX3_read_X3_readStatement
set_option maxRecDepth 20000 in
theorem ggX3_read_X3_takeSign : GoodIn wsX3_read wsX3_takeSign := goodIn_r _ [122, 9, 123, 124, 125, 27, 126, 46, 43, 29, 106, 107, 108, 50, 109, 7, 8, 110, 40, 41, 42, 37, 38, 44, 45, 218, 219, 220, 221, 222, 223, 224, 225, 226, 227, 228, 245, 246, 247, 248, 249, 250, 251] rfl (by decide +kernel)
set_option maxRecDepth 20000 in
theorem gX3_read_X3_takeSign : GoodIn wsX3_read (wsV RX3 73 RX3 yX3_takeSign wsX3_takeSign) := goodIn_app (goodIn_of _ (by decide +kernel)) ggX3_read_X3_takeSign
set_option maxRecDepth 20000 in
theorem ggX3_read_X0_init : GoodIn wsX3_read wsX0_init := goodIn_r _ [195, 196, 197, 198, 199, 200, 201, 31, 32, 33, 202, 35, 36, 203, 204, 205, 22, 206, 207, 208, 209, 210, 211, 212, 213, 214, 215, 216, 217, 252, 253] rfl (by decide +kernel)
set_option maxRecDepth 20000 in
theorem gX3_read_X0_init : GoodIn wsX3_read (wsX0_init) := ggX3_read_X0_init
theorem dX3_read_0 : decode cX3_read 0 = .ok (.aload_n 0, 1) := by decide +kernel
theorem dX3_read_1 : decode cX3_read 1 = .ok (.getfield 21, 3) := by decide +kernel
theorem dX3_read_4 : decode cX3_read 4 = .ok (.invokevirtual 33, 3) := by decide +kernel
theorem dX3_read_7 : decode cX3_read 7 = .ok (.aload_n 0, 1) := by decide +kernel
theorem dX3_read_8 : decode cX3_read 8 = .ok (.getfield 21, 3) := by decide +kernel
theorem dX3_read_11 : decode cX3_read 11 = .ok (.aconst_null, 1) := by decide +kernel
theorem dX3_read_12 : decode cX3_read 12 = .ok (.putfield 36, 3) := by decide +kernel
theorem dX3_read_15 : decode cX3_read 15 = .ok (.aload_n 0, 1) := by decide +kernel
theorem dX3_read_16 : decode cX3_read 16 = .ok (.iconst 0, 1) := by decide +kernel
theorem dX3_read_17 : decode cX3_read 17 = .ok (.putfield 40, 3) := by decide +kernel
theorem dX3_read_20 : decode cX3_read 20 = .ok (.aload_n 0, 1) := by decide +kernel
theorem dX3_read_21 : decode cX3_read 21 = .ok (.iconst 0, 1) := by decide +kernel
theorem dX3_read_22 : decode cX3_read 22 = .ok (.putfield 44, 3) := by decide +kernel
theorem dX3_read_25 : decode cX3_read 25 = .ok (.aload_n 0, 1) := by decide +kernel
theorem dX3_read_26 : decode cX3_read 26 = .ok (.iconst 0, 1) := by decide +kernel
theorem dX3_read_27 : decode cX3_read 27 = .ok (.putfield 47, 3) := by decide +kernel
theorem dX3_read_30 : decode cX3_read 30 = .ok (.aload_n 0, 1) := by decide +kernel
theorem dX3_read_31 : decode cX3_read 31 = .ok (.iconst 0, 1) := by decide +kernel
theorem dX3_read_32 : decode cX3_read 32 = .ok (.putfield 50, 3) := by decide +kernel
theorem dX3_read_35 : decode cX3_read 35 = .ok (.aload_n 0, 1) := by decide +kernel
theorem dX3_read_36 : decode cX3_read 36 = .ok (.iconst 0, 1) := by decide +kernel
theorem dX3_read_37 : decode cX3_read 37 = .ok (.putfield 53, 3) := by decide +kernel
theorem dX3_read_40 : decode cX3_read 40 = .ok (.aload_n 0, 1) := by decide +kernel
theorem dX3_read_41 : decode cX3_read 41 = .ok (.iconst 0, 1) := by decide +kernel
theorem dX3_read_42 : decode cX3_read 42 = .ok (.putfield 56, 3) := by decide +kernel
theorem dX3_read_45 : decode cX3_read 45 = .ok (.aload_n 0, 1) := by decide +kernel
theorem dX3_read_46 : decode cX3_read 46 = .ok (.iconst (-1), 1) := by decide +kernel
theorem dX3_read_47 : decode cX3_read 47 = .ok (.putfield 29, 3) := by decide +kernel
theorem dX3_read_50 : decode cX3_read 50 = .ok (.aload_n 0, 1) := by decide +kernel
theorem dX3_read_51 : decode cX3_read 51 = .ok (.getfield 12, 3) := by decide +kernel
theorem dX3_read_54 : decode cX3_read 54 = .ok (.iload_n 1, 1) := by decide +kernel
theorem dX3_read_55 : decode cX3_read 55 = .ok (.invokevirtual 59, 3) := by decide +kernel
theorem dX3_read_58 : decode cX3_read 58 = .ok (.aload_n 0, 1) := by decide +kernel
theorem dX3_read_59 : decode cX3_read 59 = .ok (.invokevirtual 63, 3) := by decide +kernel
theorem dX3_read_62 : decode cX3_read 62 = .ok (.istore_n 2, 1) := by decide +kernel
theorem dX3_read_63 : decode cX3_read 63 = .ok (.iconst 0, 1) := by decide +kernel
theorem dX3_read_64 : decode cX3_read 64 = .ok (.istore_n 3, 1) := by decide +kernel
theorem dX3_read_65 : decode cX3_read 65 = .ok (.iload_n 2, 1) := by decide +kernel
theorem dX3_read_66 : decode cX3_read 66 = .ok (.ifCond .eq 48, 3) := by decide +kernel
theorem dX3_read_69 : decode cX3_read 69 = .ok (.aload_n 0, 1) := by decide +kernel
theorem dX3_read_70 : decode cX3_read 70 = .ok (.getfield 12, 3) := by decide +kernel
theorem dX3_read_73 : decode cX3_read 73 = .ok (.getfield 67, 3) := by decide +kernel
theorem dX3_read_76 : decode cX3_read 76 = .ok (.ifCond .eq 38, 3) := by decide +kernel
theorem dX3_read_79 : decode cX3_read 79 = .ok (.iload_n 3, 1) := by decide +kernel
theorem dX3_read_80 : decode cX3_read 80 = .ok (.sipush 500, 3) := by decide +kernel
theorem dX3_read_83 : decode cX3_read 83 = .ok (.if_icmp .ge 31, 3) := by decide +kernel
theorem dX3_read_86 : decode cX3_read 86 = .ok (.aload_n 0, 1) := by decide +kernel
theorem dX3_read_87 : decode cX3_read 87 = .ok (.invokevirtual 70, 3) := by decide +kernel
theorem dX3_read_90 : decode cX3_read 90 = .ok (.ifCond .eq 16, 3) := by decide +kernel
theorem dX3_read_93 : decode cX3_read 93 = .ok (.aload_n 0, 1) := by decide +kernel
theorem dX3_read_94 : decode cX3_read 94 = .ok (.bipush 59, 2) := by decide +kernel
theorem dX3_read_96 : decode cX3_read 96 = .ok (.invokevirtual 73, 3) := by decide +kernel
theorem dX3_read_99 : decode cX3_read 99 = .ok (.ifCond .eq 7, 3) := by decide +kernel
theorem dX3_read_102 : decode cX3_read 102 = .ok (.iconst 1, 1) := by decide +kernel
theorem dX3_read_103 : decode cX3_read 103 = .ok (.goto 4, 3) := by decide +kernel
theorem dX3_read_106 : decode cX3_read 106 = .ok (.iconst 0, 1) := by decide +kernel
theorem dX3_read_107 : decode cX3_read 107 = .ok (.istore_n 2, 1) := by decide +kernel
theorem dX3_read_108 : decode cX3_read 108 = .ok (.iinc 3 1, 3) := by decide +kernel
theorem dX3_read_111 : decode cX3_read 111 = .ok (.goto (-46), 3) := by decide +kernel
theorem dX3_read_114 : decode cX3_read 114 = .ok (.iload_n 2, 1) := by decide +kernel
theorem dX3_read_115 : decode cX3_read 115 = .ok (.ifCond .eq 32, 3) := by decide +kernel
theorem dX3_read_118 : decode cX3_read 118 = .ok (.aload_n 0, 1) := by decide +kernel
theorem dX3_read_119 : decode cX3_read 119 = .ok (.getfield 47, 3) := by decide +kernel
theorem dX3_read_122 : decode cX3_read 122 = .ok (.ifCond .eq 25, 3) := by decide +kernel
theorem dX3_read_125 : decode cX3_read 125 = .ok (.aload_n 0, 1) := by decide +kernel
theorem dX3_read_126 : decode cX3_read 126 = .ok (.getfield 21, 3) := by decide +kernel
theorem dX3_read_129 : decode cX3_read 129 = .ok (.new 77, 3) := by decide +kernel
theorem dX3_read_132 : decode cX3_read 132 = .ok (.dup, 1) := by decide +kernel
theorem dX3_read_133 : decode cX3_read 133 = .ok (.aload_n 0, 1) := by decide +kernel
theorem dX3_read_134 : decode cX3_read 134 = .ok (.getfield 25, 3) := by decide +kernel
theorem dX3_read_137 : decode cX3_read 137 = .ok (.aload_n 0, 1) := by decide +kernel
theorem dX3_read_138 : decode cX3_read 138 = .ok (.getfield 50, 3) := by decide +kernel
theorem dX3_read_141 : decode cX3_read 141 = .ok (.invokespecial 79, 3) := by decide +kernel
theorem dX3_read_144 : decode cX3_read 144 = .ok (.putfield 36, 3) := by decide +kernel
theorem dX3_read_147 : decode cX3_read 147 = .ok (.aload_n 0, 1) := by decide +kernel
theorem dX3_read_148 : decode cX3_read 148 = .ok (.getfield 12, 3) := by decide +kernel
theorem dX3_read_151 : decode cX3_read 151 = .ok (.iconst 0, 1) := by decide +kernel
theorem dX3_read_152 : decode cX3_read 152 = .ok (.putfield 82, 3) := by decide +kernel
theorem dX3_read_155 : decode cX3_read 155 = .ok (.aload_n 0, 1) := by decide +kernel
theorem dX3_read_156 : decode cX3_read 156 = .ok (.getfield 56, 3) := by decide +kernel
theorem dX3_read_159 : decode cX3_read 159 = .ok (.ireturn, 1) := by decide +kernel
set_option maxRecDepth 20000 in
theorem ggX3_readHead_X5_isWord : GoodIn wsX3_readHead wsX5_isWord := goodIn_r _ [8, 9, 10, 11, 12, 13, 14, 15, 16, 17, 18, 19, 20, 21, 22, 23, 24, 25, 26, 27, 28, 29, 30, 31, 32, 33, 34, 35, 36, 37, 38, 39, 40, 41, 42, 43, 44, 45, 46, 47, 48, 49, 50, 51, 52, 53, 54, 55, 56, 57, 58, 59, 60, 61, 103, 104, 105, 106, 107, 108, 109, 126, 127, 128, 129] rfl (by decide +kernel)
set_option maxRecDepth 20000 in
theorem gX3_readHead_X5_isWord : GoodIn wsX3_readHead (wsV RX3 87 RX5 yX5_isWord wsX5_isWord) := goodIn_app (goodIn_of _ (by decide +kernel)) ggX3_readHead_X5_isWord
set_option maxRecDepth 20000 in
theorem ggX3_readHead_X3_fail : GoodIn wsX3_readHead wsX3_fail := goodIn_r _ [66, 67, 68, 92, 93, 94, 95, 96, 97, 98, 99, 100, 101, 102] rfl (by decide +kernel)
