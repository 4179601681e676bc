theorem dX10_best_62 : decode cX10_best 62 = .ok (.goto 24, 3) := by decide +kernel
theorem dX10_best_65 : decode cX10_best 65 = .ok (.aload_n 0, 1) := by decide +kernel
theorem dX10_best_66 : decode cX10_best 66 = .ok (.iload 5, 2) := by decide +kernel
theorem dX10_best_68 : decode cX10_best 68 = .ok (.iload 6, 2) := by decide +kernel
theorem dX10_best_70 : decode cX10_best 70 = .ok (.invokevirtual 107, 3) := by decide +kernel
theorem dX10_best_73 : decode cX10_best 73 = .ok (.aload_n 0, 1) := by decide +kernel
theorem dX10_best_74 : decode cX10_best 74 = .ok (.iload_n 1, 1) := by decide +kernel
theorem dX10_best_75 : decode cX10_best 75 = .ok (.bipush 10, 2) := by decide +kernel
theorem dX10_best_77 : decode cX10_best 77 = .ok (.idiv, 1) := by decide +kernel
theorem dX10_best_78 : decode cX10_best 78 = .ok (.iload_n 1, 1) := by decide +kernel
theorem dX10_best_79 : decode cX10_best 79 = .ok (.bipush 10, 2) := by decide +kernel
theorem dX10_best_81 : decode cX10_best 81 = .ok (.irem, 1) := by decide +kernel
theorem dX10_best_82 : decode cX10_best 82 = .ok (.invokevirtual 107, 3) := by decide +kernel
theorem dX10_best_85 : decode cX10_best 85 = .ok (.isub, 1) := by decide +kernel
theorem dX10_best_86 : decode cX10_best 86 = .ok (.istore 7, 2) := by decide +kernel
theorem dX10_best_88 : decode cX10_best 88 = .ok (.iload 7, 2) := by decide +kernel
theorem dX10_best_90 : decode cX10_best 90 = .ok (.ifCond .gt 20, 3) := by decide +kernel
theorem dX10_best_93 : decode cX10_best 93 = .ok (.iload 7, 2) := by decide +kernel
theorem dX10_best_95 : decode cX10_best 95 = .ok (.ifCond .ne 24, 3) := by decide +kernel
theorem dX10_best_98 : decode cX10_best 98 = .ok (.bipush 10, 2) := by decide +kernel
theorem dX10_best_100 : decode cX10_best 100 = .ok (.iload 5, 2) := by decide +kernel
theorem dX10_best_102 : decode cX10_best 102 = .ok (.imul, 1) := by decide +kernel
theorem dX10_best_103 : decode cX10_best 103 = .ok (.iload 6, 2) := by decide +kernel
theorem dX10_best_105 : decode cX10_best 105 = .ok (.iadd, 1) := by decide +kernel
theorem dX10_best_106 : decode cX10_best 106 = .ok (.iload_n 1, 1) := by decide +kernel
theorem dX10_best_107 : decode cX10_best 107 = .ok (.if_icmp .ge 12, 3) := by decide +kernel
theorem dX10_best_110 : decode cX10_best 110 = .ok (.bipush 10, 2) := by decide +kernel
theorem dX10_best_112 : decode cX10_best 112 = .ok (.iload 5, 2) := by decide +kernel
theorem dX10_best_114 : decode cX10_best 114 = .ok (.imul, 1) := by decide +kernel
theorem dX10_best_115 : decode cX10_best 115 = .ok (.iload 6, 2) := by decide +kernel
theorem dX10_best_117 : decode cX10_best 117 = .ok (.iadd, 1) := by decide +kernel
theorem dX10_best_118 : decode cX10_best 118 = .ok (.istore_n 1, 1) := by decide +kernel
theorem dX10_best_119 : decode cX10_best 119 = .ok (.iinc 6 1, 3) := by decide +kernel
theorem dX10_best_122 : decode cX10_best 122 = .ok (.goto (-89), 3) := by decide +kernel
theorem dX10_best_125 : decode cX10_best 125 = .ok (.iinc 4 1, 3) := by decide +kernel
theorem dX10_best_128 : decode cX10_best 128 = .ok (.goto (-110), 3) := by decide +kernel
theorem dX10_best_131 : decode cX10_best 131 = .ok (.iload_n 1, 1) := by decide +kernel
theorem dX10_best_132 : decode cX10_best 132 = .ok (.ireturn, 1) := by decide +kernel
set_option maxRecDepth 20000 in
theorem ggX10_ends_L_pips : GoodIn wsX10_ends wsL_pips := goodIn_r _ [7] rfl (by decide +kernel)
set_option maxRecDepth 20000 in
theorem gX10_ends_L_pips_n110 : GoodIn wsX10_ends (wsL_pips) := ggX10_ends_L_pips
theorem dX10_ends_0 : decode cX10_ends 0 = .ok (.aload_n 0, 1) := by decide +kernel
theorem dX10_ends_1 : decode cX10_ends 1 = .ok (.iconst 1, 1) := by decide +kernel
theorem dX10_ends_2 : decode cX10_ends 2 = .ok (.putfield 56, 3) := by decide +kernel
theorem dX10_ends_5 : decode cX10_ends 5 = .ok (.aload_n 0, 1) := by decide +kernel
theorem dX10_ends_6 : decode cX10_ends 6 = .ok (.dup, 1) := by decide +kernel
theorem dX10_ends_7 : decode cX10_ends 7 = .ok (.getfield 59, 3) := by decide +kernel
theorem dX10_ends_10 : decode cX10_ends 10 = .ok (.iconst 1, 1) := by decide +kernel
theorem dX10_ends_11 : decode cX10_ends 11 = .ok (.iadd, 1) := by decide +kernel
theorem dX10_ends_12 : decode cX10_ends 12 = .ok (.putfield 59, 3) := by decide +kernel
theorem dX10_ends_15 : decode cX10_ends 15 = .ok (.iconst 0, 1) := by decide +kernel
theorem dX10_ends_16 : decode cX10_ends 16 = .ok (.istore_n 1, 1) := by decide +kernel
theorem dX10_ends_17 : decode cX10_ends 17 = .ok (.iload_n 1, 1) := by decide +kernel
theorem dX10_ends_18 : decode cX10_ends 18 = .ok (.aload_n 0, 1) := by decide +kernel
theorem dX10_ends_19 : decode cX10_ends 19 = .ok (.getfield 27, 3) := by decide +kernel
theorem dX10_ends_22 : decode cX10_ends 22 = .ok (.arraylength, 1) := by decide +kernel
theorem dX10_ends_23 : decode cX10_ends 23 = .ok (.if_icmp .ge 27, 3) := by decide +kernel
theorem dX10_ends_26 : decode cX10_ends 26 = .ok (.aload_n 0, 1) := by decide +kernel
theorem dX10_ends_27 : decode cX10_ends 27 = .ok (.getfield 30, 3) := by decide +kernel
theorem dX10_ends_30 : decode cX10_ends 30 = .ok (.iload_n 1, 1) := by decide +kernel
theorem dX10_ends_31 : decode cX10_ends 31 = .ok (.dup2, 1) := by decide +kernel
theorem dX10_ends_32 : decode cX10_ends 32 = .ok (.iaload, 1) := by decide +kernel
theorem dX10_ends_33 : decode cX10_ends 33 = .ok (.aload_n 0, 1) := by decide +kernel
theorem dX10_ends_34 : decode cX10_ends 34 = .ok (.getfield 27, 3) := by decide +kernel
theorem dX10_ends_37 : decode cX10_ends 37 = .ok (.iload_n 1, 1) := by decide +kernel
theorem dX10_ends_38 : decode cX10_ends 38 = .ok (.aaload, 1) := by decide +kernel
theorem dX10_ends_39 : decode cX10_ends 39 = .ok (.invokestatic 110, 3) := by decide +kernel
theorem dX10_ends_42 : decode cX10_ends 42 = .ok (.iadd, 1) := by decide +kernel
theorem dX10_ends_43 : decode cX10_ends 43 = .ok (.iastore, 1) := by decide +kernel
theorem dX10_ends_44 : decode cX10_ends 44 = .ok (.iinc 1 1, 3) := by decide +kernel
theorem dX10_ends_47 : decode cX10_ends 47 = .ok (.goto (-30), 3) := by decide +kernel
theorem dX10_ends_50 : decode cX10_ends 50 = .ok (.return_, 1) := by decide +kernel
theorem dX10_next_0 : decode cX10_next 0 = .ok (.aload_n 0, 1) := by decide +kernel
theorem dX10_next_1 : decode cX10_next 1 = .ok (.aload_n 0, 1) := by decide +kernel
theorem dX10_next_2 : decode cX10_next 2 = .ok (.getfield 49, 3) := by decide +kernel
theorem dX10_next_5 : decode cX10_next 5 = .ok (.iconst 1, 1) := by decide +kernel
theorem dX10_next_6 : decode cX10_next 6 = .ok (.iadd, 1) := by decide +kernel
theorem dX10_next_7 : decode cX10_next 7 = .ok (.aload_n 0, 1) := by decide +kernel
theorem dX10_next_8 : decode cX10_next 8 = .ok (.getfield 27, 3) := by decide +kernel
theorem dX10_next_11 : decode cX10_next 11 = .ok (.arraylength, 1) := by decide +kernel
theorem dX10_next_12 : decode cX10_next 12 = .ok (.if_icmp .ne 7, 3) := by decide +kernel
theorem dX10_next_15 : decode cX10_next 15 = .ok (.iconst 0, 1) := by decide +kernel
theorem dX10_next_16 : decode cX10_next 16 = .ok (.goto 9, 3) := by decide +kernel
theorem dX10_next_19 : decode cX10_next 19 = .ok (.aload_n 0, 1) := by decide +kernel
theorem dX10_next_20 : decode cX10_next 20 = .ok (.getfield 49, 3) := by decide +kernel
theorem dX10_next_23 : decode cX10_next 23 = .ok (.iconst 1, 1) := by decide +kernel
theorem dX10_next_24 : decode cX10_next 24 = .ok (.iadd, 1) := by decide +kernel
theorem dX10_next_25 : decode cX10_next 25 = .ok (.putfield 49, 3) := by decide +kernel
theorem dX10_next_28 : decode cX10_next 28 = .ok (.aload_n 0, 1) := by decide +kernel
theorem dX10_next_29 : decode cX10_next 29 = .ok (.iconst 0, 1) := by decide +kernel
theorem dX10_next_30 : decode cX10_next 30 = .ok (.putfield 52, 3) := by decide +kernel
theorem dX10_next_33 : decode cX10_next 33 = .ok (.return_, 1) := by decide +kernel
set_option maxRecDepth 20000 in
theorem ggX10_plays__L_without : GoodIn wsX10_plays_ wsL_without := goodIn_r _ [10, 11, 12, 13, 9, 14] rfl (by decide +kernel)
set_option maxRecDepth 20000 in
theorem gX10_plays__L_without_n114 : GoodIn wsX10_plays_ (wsL_without) := ggX10_plays__L_without
set_option maxRecDepth 20000 in
theorem ggX10_plays__L_with : GoodIn wsX10_plays_ wsL_with := goodIn_r _ [14, 11] rfl (by decide +kernel)
set_option maxRecDepth 20000 in
theorem gX10_plays__L_with_n83 : GoodIn wsX10_plays_ (wsL_with) := ggX10_plays__L_with
set_option maxRecDepth 20000 in
theorem ggX10_plays__X10_ends : GoodIn wsX10_plays_ wsX10_ends := goodIn_r _ [19, 20, 21, 1, 22, 23, 9, 24, 34, 35, 36, 37, 38, 39, 40, 41, 42, 43, 44, 45, 46, 47, 48, 49, 50] rfl (by decide +kernel)
set_option maxRecDepth 20000 in
theorem gX10_plays__X10_ends : GoodIn wsX10_plays_ (wsV RX10 117 RX10 yX10_ends wsX10_ends) := goodIn_app (goodIn_of _ (by decide +kernel)) ggX10_plays__X10_ends
set_option maxRecDepth 20000 in
theorem ggX10_plays__X10_next : GoodIn wsX10_plays_ wsX10_next := goodIn_r _ [28, 2, 1, 7, 34, 35, 36, 37, 38, 39, 40, 41, 42, 43, 44, 45, 46, 47, 48, 49, 50] rfl (by decide +kernel)
set_option maxRecDepth 20000 in
theorem gX10_plays__X10_next : GoodIn wsX10_plays_ (wsV RX10 120 RX10 yX10_next wsX10_next) := goodIn_app (goodIn_of _ (by decide +kernel)) ggX10_plays__X10_next
set_option maxRecDepth 20000 in
theorem ggX10_plays__X10_end : GoodIn wsX10_plays_ wsX10_end := goodIn_r _ [32, 33, 3, 34, 35, 36, 37, 38, 39, 40, 41, 42, 43, 44, 45, 46, 47, 48, 49, 50] rfl (by decide +kernel)
set_option maxRecDepth 20000 in
theorem gX10_plays__X10_end : GoodIn wsX10_plays_ (wsV RX10 89 RX10 yX10_end wsX10_end) := goodIn_app (goodIn_of _ (by decide +kernel)) ggX10_plays__X10_end
theorem dX10_plays__0 : decode cX10_plays_ 0 = .ok (.aload_n 0, 1) := by decide +kernel
theorem dX10_plays__1 : decode cX10_plays_ 1 = .ok (.getfield 27, 3) := by decide +kernel
theorem dX10_plays__4 : decode cX10_plays_ 4 = .ok (.aload_n 0, 1) := by decide +kernel
theorem dX10_plays__5 : decode cX10_plays_ 5 = .ok (.getfield 49, 3) := by decide +kernel
theorem dX10_plays__8 : decode cX10_plays_ 8 = .ok (.aload_n 0, 1) := by decide +kernel
theorem dX10_plays__9 : decode cX10_plays_ 9 = .ok (.getfield 27, 3) := by decide +kernel
theorem dX10_plays__12 : decode cX10_plays_ 12 = .ok (.aload_n 0, 1) := by decide +kernel
theorem dX10_plays__13 : decode cX10_plays_ 13 = .ok (.getfield 49, 3) := by decide +kernel
theorem dX10_plays__16 : decode cX10_plays_ 16 = .ok (.aaload, 1) := by decide +kernel
theorem dX10_plays__17 : decode cX10_plays_ 17 = .ok (.iload_n 1, 1) := by decide +kernel
theorem dX10_plays__18 : decode cX10_plays_ 18 = .ok (.invokestatic 114, 3) := by decide +kernel
theorem dX10_plays__21 : decode cX10_plays_ 21 = .ok (.aastore, 1) := by decide +kernel
theorem dX10_plays__22 : decode cX10_plays_ 22 = .ok (.aload_n 0, 1) := by decide +kernel
theorem dX10_plays__23 : decode cX10_plays_ 23 = .ok (.getfield 34, 3) := by decide +kernel
theorem dX10_plays__26 : decode cX10_plays_ 26 = .ok (.iload_n 2, 1) := by decide +kernel
theorem dX10_plays__27 : decode cX10_plays_ 27 = .ok (.aload_n 0, 1) := by decide +kernel
theorem dX10_plays__28 : decode cX10_plays_ 28 = .ok (.getfield 34, 3) := by decide +kernel
theorem dX10_plays__31 : decode cX10_plays_ 31 = .ok (.iload_n 2, 1) := by decide +kernel
theorem dX10_plays__32 : decode cX10_plays_ 32 = .ok (.aaload, 1) := by decide +kernel
theorem dX10_plays__33 : decode cX10_plays_ 33 = .ok (.iload_n 1, 1) := by decide +kernel
theorem dX10_plays__34 : decode cX10_plays_ 34 = .ok (.invokestatic 83, 3) := by decide +kernel
theorem dX10_plays__37 : decode cX10_plays_ 37 = .ok (.aastore, 1) := by decide +kernel
theorem dX10_plays__38 : decode cX10_plays_ 38 = .ok (.iload_n 2, 1) := by decide +kernel
theorem dX10_plays__39 : decode cX10_plays_ 39 = .ok (.aload_n 0, 1) := by decide +kernel
theorem dX10_plays__40 : decode cX10_plays_ 40 = .ok (.getfield 49, 3) := by decide +kernel
theorem dX10_plays__43 : decode cX10_plays_ 43 = .ok (.if_icmp .ne 10, 3) := by decide +kernel
theorem dX10_plays__46 : decode cX10_plays_ 46 = .ok (.aload_n 0, 1) := by decide +kernel
theorem dX10_plays__47 : decode cX10_plays_ 47 = .ok (.getfield 37, 3) := by decide +kernel
theorem dX10_plays__50 : decode cX10_plays_ 50 = .ok (.iload_n 2, 1) := by decide +kernel
theorem dX10_plays__51 : decode cX10_plays_ 51 = .ok (.iconst 0, 1) := by decide +kernel
theorem dX10_plays__52 : decode cX10_plays_ 52 = .ok (.bastore, 1) := by decide +kernel
theorem dX10_plays__53 : decode cX10_plays_ 53 = .ok (.aload_n 0, 1) := by decide +kernel
theorem dX10_plays__54 : decode cX10_plays_ 54 = .ok (.iconst 0, 1) := by decide +kernel
theorem dX10_plays__55 : decode cX10_plays_ 55 = .ok (.putfield 62, 3) := by decide +kernel
theorem dX10_plays__58 : decode cX10_plays_ 58 = .ok (.aload_n 0, 1) := by decide +kernel
theorem dX10_plays__59 : decode cX10_plays_ 59 = .ok (.iload_n 1, 1) := by decide +kernel
theorem dX10_plays__60 : decode cX10_plays_ 60 = .ok (.bipush 11, 2) := by decide +kernel
theorem dX10_plays__62 : decode cX10_plays_ 62 = .ok (.irem, 1) := by decide +kernel
theorem dX10_plays__63 : decode cX10_plays_ 63 = .ok (.ifCond .ne 7, 3) := by decide +kernel
theorem dX10_plays__66 : decode cX10_plays_ 66 = .ok (.iload_n 2, 1) := by decide +kernel
theorem dX10_plays__67 : decode cX10_plays_ 67 = .ok (.goto 4, 3) := by decide +kernel
theorem dX10_plays__70 : decode cX10_plays_ 70 = .ok (.iconst (-1), 1) := by decide +kernel
theorem dX10_plays__71 : decode cX10_plays_ 71 = .ok (.putfield 22, 3) := by decide +kernel
theorem dX10_plays__74 : decode cX10_plays_ 74 = .ok (.aload_n 0, 1) := by decide +kernel
theorem dX10_plays__75 : decode cX10_plays_ 75 = .ok (.getfield 27, 3) := by decide +kernel
theorem dX10_plays__78 : decode cX10_plays_ 78 = .ok (.aload_n 0, 1) := by decide +kernel
theorem dX10_plays__79 : decode cX10_plays_ 79 = .ok (.getfield 49, 3) := by decide +kernel
theorem dX10_plays__82 : decode cX10_plays_ 82 = .ok (.aaload, 1) := by decide +kernel
theorem dX10_plays__83 : decode cX10_plays_ 83 = .ok (.arraylength, 1) := by decide +kernel
theorem dX10_plays__84 : decode cX10_plays_ 84 = .ok (.ifCond .ne 10, 3) := by decide +kernel
theorem dX10_plays__87 : decode cX10_plays_ 87 = .ok (.aload_n 0, 1) := by decide +kernel
theorem dX10_plays__88 : decode cX10_plays_ 88 = .ok (.invokevirtual 117, 3) := by decide +kernel
theorem dX10_plays__91 : decode cX10_plays_ 91 = .ok (.goto 22, 3) := by decide +kernel
theorem dX10_plays__94 : decode cX10_plays_ 94 = .ok (.aload_n 0, 1) := by decide +kernel
theorem dX10_plays__95 : decode cX10_plays_ 95 = .ok (.getfield 22, 3) := by decide +kernel
theorem dX10_plays__98 : decode cX10_plays_ 98 = .ok (.ifCond .ge 10, 3) := by decide +kernel
theorem dX10_plays__101 : decode cX10_plays_ 101 = .ok (.aload_n 0, 1) := by decide +kernel
theorem dX10_plays__102 : decode cX10_plays_ 102 = .ok (.invokevirtual 120, 3) := by decide +kernel
theorem dX10_plays__105 : decode cX10_plays_ 105 = .ok (.goto 8, 3) := by decide +kernel
theorem dX10_plays__108 : decode cX10_plays_ 108 = .ok (.aload_n 0, 1) := by decide +kernel
theorem dX10_plays__109 : decode cX10_plays_ 109 = .ok (.iconst 0, 1) := by decide +kernel
theorem dX10_plays__110 : decode cX10_plays_ 110 = .ok (.putfield 52, 3) := by decide +kernel
theorem dX10_plays__113 : decode cX10_plays_ 113 = .ok (.aload_n 0, 1) := by decide +kernel
theorem dX10_plays__114 : decode cX10_plays_ 114 = .ok (.iload_n 2, 1) := by decide +kernel
theorem dX10_plays__115 : decode cX10_plays_ 115 = .ok (.invokevirtual 89, 3) := by decide +kernel
theorem dX10_plays__118 : decode cX10_plays_ 118 = .ok (.ireturn, 1) := by decide +kernel
set_option maxRecDepth 20000 in
theorem ggX10_draws_L_with : GoodIn wsX10_draws wsL_with := goodIn_r _ [9, 2] rfl (by decide +kernel)
set_option maxRecDepth 20000 in
theorem gX10_draws_L_with_n83 : GoodIn wsX10_draws (wsL_with) := ggX10_draws_L_with
theorem dX10_draws_0 : decode cX10_draws 0 = .ok (.aload_n 0, 1) := by decide +kernel
theorem dX10_draws_1 : decode cX10_draws 1 = .ok (.getfield 41, 3) := by decide +kernel
theorem dX10_draws_4 : decode cX10_draws 4 = .ok (.iconst 0, 1) := by decide +kernel
theorem dX10_draws_5 : decode cX10_draws 5 = .ok (.iaload, 1) := by decide +kernel
theorem dX10_draws_6 : decode cX10_draws 6 = .ok (.istore_n 1, 1) := by decide +kernel
theorem dX10_draws_7 : decode cX10_draws 7 = .ok (.iconst 0, 1) := by decide +kernel
theorem dX10_draws_8 : decode cX10_draws 8 = .ok (.newarray .int, 2) := by decide +kernel
theorem dX10_draws_10 : decode cX10_draws 10 = .ok (.astore_n 2, 1) := by decide +kernel
theorem dX10_draws_11 : decode cX10_draws 11 = .ok (.iconst 1, 1) := by decide +kernel
theorem dX10_draws_12 : decode cX10_draws 12 = .ok (.istore_n 3, 1) := by decide +kernel
theorem dX10_draws_13 : decode cX10_draws 13 = .ok (.iload_n 3, 1) := by decide +kernel
theorem dX10_draws_14 : decode cX10_draws 14 = .ok (.aload_n 0, 1) := by decide +kernel
theorem dX10_draws_15 : decode cX10_draws 15 = .ok (.getfield 41, 3) := by decide +kernel
theorem dX10_draws_18 : decode cX10_draws 18 = .ok (.arraylength, 1) := by decide +kernel
theorem dX10_draws_19 : decode cX10_draws 19 = .ok (.if_icmp .ge 20, 3) := by decide +kernel
theorem dX10_draws_22 : decode cX10_draws 22 = .ok (.aload_n 2, 1) := by decide +kernel
theorem dX10_draws_23 : decode cX10_draws 23 = .ok (.aload_n 0, 1) := by decide +kernel
theorem dX10_draws_24 : decode cX10_draws 24 = .ok (.getfield 41, 3) := by decide +kernel
theorem dX10_draws_27 : decode cX10_draws 27 = .ok (.iload_n 3, 1) := by decide +kernel
theorem dX10_draws_28 : decode cX10_draws 28 = .ok (.iaload, 1) := by decide +kernel
theorem dX10_draws_29 : decode cX10_draws 29 = .ok (.invokestatic 83, 3) := by decide +kernel
theorem dX10_draws_32 : decode cX10_draws 32 = .ok (.astore_n 2, 1) := by decide +kernel
theorem dX10_draws_33 : decode cX10_draws 33 = .ok (.iinc 3 1, 3) := by decide +kernel
theorem dX10_draws_36 : decode cX10_draws 36 = .ok (.goto (-23), 3) := by decide +kernel
theorem dX10_draws_39 : decode cX10_draws 39 = .ok (.aload_n 0, 1) := by decide +kernel
theorem dX10_draws_40 : decode cX10_draws 40 = .ok (.aload_n 2, 1) := by decide +kernel
theorem dX10_draws_41 : decode cX10_draws 41 = .ok (.putfield 41, 3) := by decide +kernel
theorem dX10_draws_44 : decode cX10_draws 44 = .ok (.aload_n 0, 1) := by decide +kernel
theorem dX10_draws_45 : decode cX10_draws 45 = .ok (.getfield 27, 3) := by decide +kernel
theorem dX10_draws_48 : decode cX10_draws 48 = .ok (.aload_n 0, 1) := by decide +kernel
theorem dX10_draws_49 : decode cX10_draws 49 = .ok (.getfield 49, 3) := by decide +kernel
theorem dX10_draws_52 : decode cX10_draws 52 = .ok (.aload_n 0, 1) := by decide +kernel
theorem dX10_draws_53 : decode cX10_draws 53 = .ok (.getfield 27, 3) := by decide +kernel
theorem dX10_draws_56 : decode cX10_draws 56 = .ok (.aload_n 0, 1) := by decide +kernel
theorem dX10_draws_57 : decode cX10_draws 57 = .ok (.getfield 49, 3) := by decide +kernel
theorem dX10_draws_60 : decode cX10_draws 60 = .ok (.aaload, 1) := by decide +kernel
theorem dX10_draws_61 : decode cX10_draws 61 = .ok (.iload_n 1, 1) := by decide +kernel
theorem dX10_draws_62 : decode cX10_draws 62 = .ok (.invokestatic 83, 3) := by decide +kernel
theorem dX10_draws_65 : decode cX10_draws 65 = .ok (.aastore, 1) := by decide +kernel
theorem dX10_draws_66 : decode cX10_draws 66 = .ok (.aload_n 0, 1) := by decide +kernel
theorem dX10_draws_67 : decode cX10_draws 67 = .ok (.iconst 1, 1) := by decide +kernel
theorem dX10_draws_68 : decode cX10_draws 68 = .ok (.putfield 52, 3) := by decide +kernel
theorem dX10_draws_71 : decode cX10_draws 71 = .ok (.aload_n 0, 1) := by decide +kernel
theorem dX10_draws_72 : decode cX10_draws 72 = .ok (.iconst 0, 1) := by decide +kernel
theorem dX10_draws_73 : decode cX10_draws 73 = .ok (.putfield 62, 3) := by decide +kernel
theorem dX10_draws_76 : decode cX10_draws 76 = .ok (.iload_n 1, 1) := by decide +kernel
theorem dX10_draws_77 : decode cX10_draws 77 = .ok (.ireturn, 1) := by decide +kernel
set_option maxRecDepth 20000 in
theorem ggX10_passesOn_X10_ends : GoodIn wsX10_passesOn wsX10_ends := goodIn_r _ [9, 10, 11, 4, 12, 13, 14, 15, 21, 22, 23, 24, 25, 26, 27, 28, 29, 30, 31, 32, 33, 34, 35, 36, 37] rfl (by decide +kernel)
set_option maxRecDepth 20000 in
theorem gX10_passesOn_X10_ends : GoodIn wsX10_passesOn (wsV RX10 117 RX10 yX10_ends wsX10_ends) := goodIn_app (goodIn_of _ (by decide +kernel)) ggX10_passesOn_X10_ends
set_option maxRecDepth 20000 in
theorem ggX10_passesOn_X10_next : GoodIn wsX10_passesOn wsX10_next := goodIn_r _ [19, 2, 4, 20, 21, 22, 23, 24, 25, 26, 27, 28, 29, 30, 31, 32, 33, 34, 35, 36, 37] rfl (by decide +kernel)
set_option maxRecDepth 20000 in
theorem gX10_passesOn_X10_next : GoodIn wsX10_passesOn (wsV RX10 120 RX10 yX10_next wsX10_next) := goodIn_app (goodIn_of _ (by decide +kernel)) ggX10_passesOn_X10_next
theorem dX10_passesOn_0 : decode cX10_passesOn 0 = .ok (.aload_n 0, 1) := by decide +kernel
theorem dX10_passesOn_1 : decode cX10_passesOn 1 = .ok (.getfield 37, 3) := by decide +kernel
theorem dX10_passesOn_4 : decode cX10_passesOn 4 = .ok (.aload_n 0, 1) := by decide +kernel
theorem dX10_passesOn_5 : decode cX10_passesOn 5 = .ok (.getfield 49, 3) := by decide +kernel
theorem dX10_passesOn_8 : decode cX10_passesOn 8 = .ok (.iconst 1, 1) := by decide +kernel
theorem dX10_passesOn_9 : decode cX10_passesOn 9 = .ok (.bastore, 1) := by decide +kernel
theorem dX10_passesOn_10 : decode cX10_passesOn 10 = .ok (.aload_n 0, 1) := by decide +kernel
theorem dX10_passesOn_11 : decode cX10_passesOn 11 = .ok (.dup, 1) := by decide +kernel
theorem dX10_passesOn_12 : decode cX10_passesOn 12 = .ok (.getfield 62, 3) := by decide +kernel
theorem dX10_passesOn_15 : decode cX10_passesOn 15 = .ok (.iconst 1, 1) := by decide +kernel
theorem dX10_passesOn_16 : decode cX10_passesOn 16 = .ok (.iadd, 1) := by decide +kernel
theorem dX10_passesOn_17 : decode cX10_passesOn 17 = .ok (.putfield 62, 3) := by decide +kernel
theorem dX10_passesOn_20 : decode cX10_passesOn 20 = .ok (.aload_n 0, 1) := by decide +kernel
theorem dX10_passesOn_21 : decode cX10_passesOn 21 = .ok (.getfield 62, 3) := by decide +kernel
theorem dX10_passesOn_24 : decode cX10_passesOn 24 = .ok (.aload_n 0, 1) := by decide +kernel
theorem dX10_passesOn_25 : decode cX10_passesOn 25 = .ok (.getfield 27, 3) := by decide +kernel
theorem dX10_passesOn_28 : decode cX10_passesOn 28 = .ok (.arraylength, 1) := by decide +kernel
theorem dX10_passesOn_29 : decode cX10_passesOn 29 = .ok (.if_icmp .ne 10, 3) := by decide +kernel
theorem dX10_passesOn_32 : decode cX10_passesOn 32 = .ok (.aload_n 0, 1) := by decide +kernel
theorem dX10_passesOn_33 : decode cX10_passesOn 33 = .ok (.invokevirtual 117, 3) := by decide +kernel
theorem dX10_passesOn_36 : decode cX10_passesOn 36 = .ok (.goto 7, 3) := by decide +kernel
theorem dX10_passesOn_39 : decode cX10_passesOn 39 = .ok (.aload_n 0, 1) := by decide +kernel
theorem dX10_passesOn_40 : decode cX10_passesOn 40 = .ok (.invokevirtual 120, 3) := by decide +kernel
theorem dX10_passesOn_43 : decode cX10_passesOn 43 = .ok (.aload_n 0, 1) := by decide +kernel
theorem dX10_passesOn_44 : decode cX10_passesOn 44 = .ok (.getfield 49, 3) := by decide +kernel
theorem dX10_passesOn_47 : decode cX10_passesOn 47 = .ok (.ireturn, 1) := by decide +kernel
set_option maxRecDepth 20000 in
theorem ggX10_goesOn_X10_best : GoodIn wsX10_goesOn wsX10_best := goodIn_r _ [6, 7, 8, 9, 10, 11, 12, 5, 13, 1, 14, 15, 16, 17, 18, 19, 20, 21, 22, 23, 24, 25, 26, 27, 28, 29, 30, 31, 32, 33, 34, 35, 36, 37, 38, 39, 40, 41, 42, 43, 44, 45, 46, 47, 48, 90, 91, 92, 93, 94, 95, 96, 97, 98, 99, 100, 101, 102, 103, 104, 105, 106, 107, 108, 109, 110] rfl (by decide +kernel)
set_option maxRecDepth 20000 in
theorem gX10_goesOn_X10_best : GoodIn wsX10_goesOn (wsV RX10 123 RX10 yX10_best wsX10_best) := goodIn_app (goodIn_of _ (by decide +kernel)) ggX10_goesOn_X10_best
set_option maxRecDepth 20000 in
theorem ggX10_goesOn_X10_plays_ : GoodIn wsX10_goesOn wsX10_plays_ := goodIn_r _ [52, 7, 8, 9, 15, 53, 14, 54, 55, 17, 56, 57, 58, 59, 60, 61, 62, 63, 5, 64, 1, 65, 66, 67, 68, 69, 70, 71, 72, 19, 20, 21, 22, 23, 90, 91, 92, 93, 94, 95, 96, 97, 98, 99, 100, 101, 102, 103, 104, 105, 106] rfl (by decide +kernel)
set_option maxRecDepth 20000 in
theorem gX10_goesOn_X10_plays_ : GoodIn wsX10_goesOn (wsV RX10 126 RX10 yX10_plays_ wsX10_plays_) := goodIn_app (goodIn_of _ (by decide +kernel)) ggX10_goesOn_X10_plays_
set_option maxRecDepth 20000 in
theorem ggX10_goesOn_X10_mayDraw : GoodIn wsX10_goesOn wsX10_mayDraw := goodIn_r _ [76, 1, 54, 77, 78, 79, 80, 5, 81, 7, 8, 9, 10, 11, 12, 13, 14, 15, 16, 17, 18, 19, 20, 21, 22, 23, 90, 91, 92, 93, 94, 95, 96, 97, 98, 99, 100, 101, 102, 103, 104, 105, 106] rfl (by decide +kernel)
set_option maxRecDepth 20000 in
theorem gX10_goesOn_X10_mayDraw : GoodIn wsX10_goesOn (wsV RX10 128 RX10 yX10_mayDraw wsX10_mayDraw) := goodIn_app (goodIn_of _ (by decide +kernel)) ggX10_goesOn_X10_mayDraw
set_option maxRecDepth 20000 in
theorem ggX10_goesOn_X10_draws : GoodIn wsX10_goesOn wsX10_draws := goodIn_r _ [85, 77, 57, 7, 8, 54, 53, 59, 17, 60, 90, 91, 92, 93, 94, 95, 96, 97, 98, 99, 100, 101, 102, 103, 104, 105, 106] rfl (by decide +kernel)
set_option maxRecDepth 20000 in
theorem gX10_goesOn_X10_draws : GoodIn wsX10_goesOn (wsV RX10 132 RX10 yX10_draws wsX10_draws) := goodIn_app (goodIn_of _ (by decide +kernel)) ggX10_goesOn_X10_draws
set_option maxRecDepth 20000 in
theorem ggX10_goesOn_X10_passesOn : GoodIn wsX10_goesOn wsX10_passesOn := goodIn_r _ [89, 15, 8, 53, 7, 61, 62, 63, 5, 64, 1, 65, 66, 67, 17, 68, 69, 70, 71, 72, 54, 90, 91, 92, 93, 94, 95, 96, 97, 98, 99, 100, 101, 102, 103, 104, 105, 106] rfl (by decide +kernel)
set_option maxRecDepth 20000 in
theorem gX10_goesOn_X10_passesOn : GoodIn wsX10_goesOn (wsV RX10 135 RX10 yX10_passesOn wsX10_passesOn) := goodIn_app (goodIn_of _ (by decide +kernel)) ggX10_goesOn_X10_passesOn
theorem dX10_goesOn_0 : decode cX10_goesOn 0 = .ok (.iconst 0, 1) := by decide +kernel
theorem dX10_goesOn_1 : decode cX10_goesOn 1 = .ok (.istore_n 2, 1) := by decide +kernel
theorem dX10_goesOn_2 : decode cX10_goesOn 2 = .ok (.iload_n 2, 1) := by decide +kernel
theorem dX10_goesOn_3 : decode cX10_goesOn 3 = .ok (.iload_n 1, 1) := by decide +kernel
theorem dX10_goesOn_4 : decode cX10_goesOn 4 = .ok (.if_icmp .ge 61, 3) := by decide +kernel
theorem dX10_goesOn_7 : decode cX10_goesOn 7 = .ok (.aload_n 0, 1) := by decide +kernel
theorem dX10_goesOn_8 : decode cX10_goesOn 8 = .ok (.getfield 56, 3) := by decide +kernel
theorem dX10_goesOn_11 : decode cX10_goesOn 11 = .ok (.ifCond .ne 54, 3) := by decide +kernel
theorem dX10_goesOn_14 : decode cX10_goesOn 14 = .ok (.aload_n 0, 1) := by decide +kernel
theorem dX10_goesOn_15 : decode cX10_goesOn 15 = .ok (.invokevirtual 123, 3) := by decide +kernel
theorem dX10_goesOn_18 : decode cX10_goesOn 18 = .ok (.istore_n 3, 1) := by decide +kernel
theorem dX10_goesOn_19 : decode cX10_goesOn 19 = .ok (.iload_n 3, 1) := by decide +kernel
theorem dX10_goesOn_20 : decode cX10_goesOn 20 = .ok (.ifCond .lt 19, 3) := by decide +kernel
theorem dX10_goesOn_23 : decode cX10_goesOn 23 = .ok (.aload_n 0, 1) := by decide +kernel
theorem dX10_goesOn_24 : decode cX10_goesOn 24 = .ok (.iload_n 3, 1) := by decide +kernel
theorem dX10_goesOn_25 : decode cX10_goesOn 25 = .ok (.bipush 10, 2) := by decide +kernel
theorem dX10_goesOn_27 : decode cX10_goesOn 27 = .ok (.idiv, 1) := by decide +kernel
theorem dX10_goesOn_28 : decode cX10_goesOn 28 = .ok (.iload_n 3, 1) := by decide +kernel
theorem dX10_goesOn_29 : decode cX10_goesOn 29 = .ok (.bipush 10, 2) := by decide +kernel
theorem dX10_goesOn_31 : decode cX10_goesOn 31 = .ok (.irem, 1) := by decide +kernel
theorem dX10_goesOn_32 : decode cX10_goesOn 32 = .ok (.invokevirtual 126, 3) := by decide +kernel
theorem dX10_goesOn_35 : decode cX10_goesOn 35 = .ok (.pop, 1) := by decide +kernel
theorem dX10_goesOn_36 : decode cX10_goesOn 36 = .ok (.goto 23, 3) := by decide +kernel
theorem dX10_goesOn_39 : decode cX10_goesOn 39 = .ok (.aload_n 0, 1) := by decide +kernel
theorem dX10_goesOn_40 : decode cX10_goesOn 40 = .ok (.invokevirtual 128, 3) := by decide +kernel
theorem dX10_goesOn_43 : decode cX10_goesOn 43 = .ok (.ifCond .eq 11, 3) := by decide +kernel
theorem dX10_goesOn_46 : decode cX10_goesOn 46 = .ok (.aload_n 0, 1) := by decide +kernel
theorem dX10_goesOn_47 : decode cX10_goesOn 47 = .ok (.invokevirtual 132, 3) := by decide +kernel
theorem dX10_goesOn_50 : decode cX10_goesOn 50 = .ok (.pop, 1) := by decide +kernel
theorem dX10_goesOn_51 : decode cX10_goesOn 51 = .ok (.goto 8, 3) := by decide +kernel
theorem dX10_goesOn_54 : decode cX10_goesOn 54 = .ok (.aload_n 0, 1) := by decide +kernel
theorem dX10_goesOn_55 : decode cX10_goesOn 55 = .ok (.invokevirtual 135, 3) := by decide +kernel
theorem dX10_goesOn_58 : decode cX10_goesOn 58 = .ok (.pop, 1) := by decide +kernel
theorem dX10_goesOn_59 : decode cX10_goesOn 59 = .ok (.iinc 2 1, 3) := by decide +kernel
theorem dX10_goesOn_62 : decode cX10_goesOn 62 = .ok (.goto (-60), 3) := by decide +kernel
theorem dX10_goesOn_65 : decode cX10_goesOn 65 = .ok (.iload_n 2, 1) := by decide +kernel
theorem dX10_goesOn_66 : decode cX10_goesOn 66 = .ok (.ireturn, 1) := by decide +kernel
set_option maxRecDepth 20000 in
theorem ggX10_told_X10_plays : GoodIn wsX10_told wsX10_plays := goodIn_r _ [17, 2, 5, 18, 19, 20, 21, 16, 22, 9, 7, 23, 24, 25, 26, 27, 28, 29, 30, 4, 31, 32, 33, 34, 35, 36, 37, 38, 39, 40, 41, 42, 43, 44, 45, 46, 47] rfl (by decide +kernel)
set_option maxRecDepth 20000 in
theorem gX10_told_X10_plays : GoodIn wsX10_told (wsV RX10 97 RX10 yX10_plays wsX10_plays) := goodIn_app (goodIn_of _ (by decide +kernel)) ggX10_told_X10_plays
theorem dX10_told_0 : decode cX10_told 0 = .ok (.iload_n 1, 1) := by decide +kernel
theorem dX10_told_1 : decode cX10_told 1 = .ok (.ifCond .ne 10, 3) := by decide +kernel
theorem dX10_told_4 : decode cX10_told 4 = .ok (.aload_n 0, 1) := by decide +kernel
theorem dX10_told_5 : decode cX10_told 5 = .ok (.getfield 7, 3) := by decide +kernel
theorem dX10_told_8 : decode cX10_told 8 = .ok (.goto 163, 3) := by decide +kernel
theorem dX10_told_11 : decode cX10_told 11 = .ok (.iload_n 1, 1) := by decide +kernel
theorem dX10_told_12 : decode cX10_told 12 = .ok (.iconst 1, 1) := by decide +kernel
theorem dX10_told_13 : decode cX10_told 13 = .ok (.if_icmp .ne 11, 3) := by decide +kernel
theorem dX10_told_16 : decode cX10_told 16 = .ok (.aload_n 0, 1) := by decide +kernel
theorem dX10_told_17 : decode cX10_told 17 = .ok (.getfield 27, 3) := by decide +kernel
theorem dX10_told_20 : decode cX10_told 20 = .ok (.arraylength, 1) := by decide +kernel
theorem dX10_told_21 : decode cX10_told 21 = .ok (.goto 150, 3) := by decide +kernel
theorem dX10_told_24 : decode cX10_told 24 = .ok (.iload_n 1, 1) := by decide +kernel
theorem dX10_told_25 : decode cX10_told 25 = .ok (.iconst 2, 1) := by decide +kernel
theorem dX10_told_26 : decode cX10_told 26 = .ok (.if_icmp .ne 10, 3) := by decide +kernel
theorem dX10_told_29 : decode cX10_told 29 = .ok (.aload_n 0, 1) := by decide +kernel
theorem dX10_told_30 : decode cX10_told 30 = .ok (.getfield 13, 3) := by decide +kernel
theorem dX10_told_33 : decode cX10_told 33 = .ok (.goto 138, 3) := by decide +kernel
theorem dX10_told_36 : decode cX10_told 36 = .ok (.iload_n 1, 1) := by decide +kernel
theorem dX10_told_37 : decode cX10_told 37 = .ok (.iconst 3, 1) := by decide +kernel
theorem dX10_told_38 : decode cX10_told 38 = .ok (.if_icmp .ne 10, 3) := by decide +kernel
theorem dX10_told_41 : decode cX10_told 41 = .ok (.aload_n 0, 1) := by decide +kernel
theorem dX10_told_42 : decode cX10_told 42 = .ok (.getfield 16, 3) := by decide +kernel
theorem dX10_told_45 : decode cX10_told 45 = .ok (.goto 126, 3) := by decide +kernel
theorem dX10_told_48 : decode cX10_told 48 = .ok (.iload_n 1, 1) := by decide +kernel
theorem dX10_told_49 : decode cX10_told 49 = .ok (.iconst 4, 1) := by decide +kernel
theorem dX10_told_50 : decode cX10_told 50 = .ok (.if_icmp .ne 10, 3) := by decide +kernel
theorem dX10_told_53 : decode cX10_told 53 = .ok (.aload_n 0, 1) := by decide +kernel
theorem dX10_told_54 : decode cX10_told 54 = .ok (.getfield 49, 3) := by decide +kernel
theorem dX10_told_57 : decode cX10_told 57 = .ok (.goto 114, 3) := by decide +kernel
theorem dX10_told_60 : decode cX10_told 60 = .ok (.iload_n 1, 1) := by decide +kernel
theorem dX10_told_61 : decode cX10_told 61 = .ok (.iconst 5, 1) := by decide +kernel
theorem dX10_told_62 : decode cX10_told 62 = .ok (.if_icmp .ne 18, 3) := by decide +kernel
theorem dX10_told_65 : decode cX10_told 65 = .ok (.aload_n 0, 1) := by decide +kernel
theorem dX10_told_66 : decode cX10_told 66 = .ok (.getfield 52, 3) := by decide +kernel
theorem dX10_told_69 : decode cX10_told 69 = .ok (.ifCond .eq 7, 3) := by decide +kernel
theorem dX10_told_72 : decode cX10_told 72 = .ok (.iconst 1, 1) := by decide +kernel
theorem dX10_told_73 : decode cX10_told 73 = .ok (.goto 98, 3) := by decide +kernel
theorem dX10_told_76 : decode cX10_told 76 = .ok (.iconst 0, 1) := by decide +kernel
theorem dX10_told_77 : decode cX10_told 77 = .ok (.goto 94, 3) := by decide +kernel
theorem dX10_told_80 : decode cX10_told 80 = .ok (.iload_n 1, 1) := by decide +kernel
theorem dX10_told_81 : decode cX10_told 81 = .ok (.bipush 6, 2) := by decide +kernel
theorem dX10_told_83 : decode cX10_told 83 = .ok (.if_icmp .ne 10, 3) := by decide +kernel
theorem dX10_told_86 : decode cX10_told 86 = .ok (.aload_n 0, 1) := by decide +kernel
theorem dX10_told_87 : decode cX10_told 87 = .ok (.getfield 22, 3) := by decide +kernel
theorem dX10_told_90 : decode cX10_told 90 = .ok (.goto 81, 3) := by decide +kernel
theorem dX10_told_93 : decode cX10_told 93 = .ok (.iload_n 1, 1) := by decide +kernel
theorem dX10_told_94 : decode cX10_told 94 = .ok (.bipush 7, 2) := by decide +kernel
theorem dX10_told_96 : decode cX10_told 96 = .ok (.if_icmp .ne 11, 3) := by decide +kernel
theorem dX10_told_99 : decode cX10_told 99 = .ok (.aload_n 0, 1) := by decide +kernel
theorem dX10_told_100 : decode cX10_told 100 = .ok (.getfield 41, 3) := by decide +kernel
theorem dX10_told_103 : decode cX10_told 103 = .ok (.arraylength, 1) := by decide +kernel
theorem dX10_told_104 : decode cX10_told 104 = .ok (.goto 67, 3) := by decide +kernel
theorem dX10_told_107 : decode cX10_told 107 = .ok (.iload_n 1, 1) := by decide +kernel
theorem dX10_told_108 : decode cX10_told 108 = .ok (.bipush 8, 2) := by decide +kernel
theorem dX10_told_110 : decode cX10_told 110 = .ok (.if_icmp .ne 18, 3) := by decide +kernel
theorem dX10_told_113 : decode cX10_told 113 = .ok (.aload_n 0, 1) := by decide +kernel
theorem dX10_told_114 : decode cX10_told 114 = .ok (.getfield 56, 3) := by decide +kernel
theorem dX10_told_117 : decode cX10_told 117 = .ok (.ifCond .eq 7, 3) := by decide +kernel
theorem dX10_told_120 : decode cX10_told 120 = .ok (.iconst 1, 1) := by decide +kernel
theorem dX10_told_121 : decode cX10_told 121 = .ok (.goto 50, 3) := by decide +kernel
theorem dX10_told_124 : decode cX10_told 124 = .ok (.iconst 0, 1) := by decide +kernel
theorem dX10_told_125 : decode cX10_told 125 = .ok (.goto 46, 3) := by decide +kernel
theorem dX10_told_128 : decode cX10_told 128 = .ok (.iload_n 1, 1) := by decide +kernel
theorem dX10_told_129 : decode cX10_told 129 = .ok (.bipush 9, 2) := by decide +kernel
theorem dX10_told_131 : decode cX10_told 131 = .ok (.if_icmp .ne 10, 3) := by decide +kernel
theorem dX10_told_134 : decode cX10_told 134 = .ok (.aload_n 0, 1) := by decide +kernel
theorem dX10_told_135 : decode cX10_told 135 = .ok (.getfield 59, 3) := by decide +kernel
theorem dX10_told_138 : decode cX10_told 138 = .ok (.goto 33, 3) := by decide +kernel
theorem dX10_told_141 : decode cX10_told 141 = .ok (.iload_n 1, 1) := by decide +kernel
theorem dX10_told_142 : decode cX10_told 142 = .ok (.bipush 10, 2) := by decide +kernel
theorem dX10_told_144 : decode cX10_told 144 = .ok (.if_icmp .ne 10, 3) := by decide +kernel
theorem dX10_told_147 : decode cX10_told 147 = .ok (.aload_n 0, 1) := by decide +kernel
theorem dX10_told_148 : decode cX10_told 148 = .ok (.invokevirtual 97, 3) := by decide +kernel
theorem dX10_told_151 : decode cX10_told 151 = .ok (.goto 20, 3) := by decide +kernel
theorem dX10_told_154 : decode cX10_told 154 = .ok (.iload_n 1, 1) := by decide +kernel
theorem dX10_told_155 : decode cX10_told 155 = .ok (.bipush 11, 2) := by decide +kernel
theorem dX10_told_157 : decode cX10_told 157 = .ok (.if_icmp .ne 10, 3) := by decide +kernel
theorem dX10_told_160 : decode cX10_told 160 = .ok (.aload_n 0, 1) := by decide +kernel
theorem dX10_told_161 : decode cX10_told 161 = .ok (.getfield 62, 3) := by decide +kernel
theorem dX10_told_164 : decode cX10_told 164 = .ok (.goto 7, 3) := by decide +kernel
theorem dX10_told_167 : decode cX10_told 167 = .ok (.aload_n 0, 1) := by decide +kernel
theorem dX10_told_168 : decode cX10_told 168 = .ok (.getfield 19, 3) := by decide +kernel
theorem dX10_told_171 : decode cX10_told 171 = .ok (.ireturn, 1) := by decide +kernel
set_option maxRecDepth 20000 in
theorem ggX10_ofPlayer_X10_why : GoodIn wsX10_ofPlayer wsX10_why := goodIn_r _ [9, 10, 2, 1, 11, 12, 13, 14, 15, 16, 17, 18, 8, 19, 20, 3, 23, 24, 25, 26, 27, 28, 29, 30, 31, 32, 33, 34, 35, 36, 37, 38, 39] rfl (by decide +kernel)
set_option maxRecDepth 20000 in
theorem gX10_ofPlayer_X10_why : GoodIn wsX10_ofPlayer (wsV RX10 93 RX10 yX10_why wsX10_why) := goodIn_app (goodIn_of _ (by decide +kernel)) ggX10_ofPlayer_X10_why
set_option maxRecDepth 20000 in
theorem ggX10_ofPlayer_L_pips : GoodIn wsX10_ofPlayer wsL_pips := goodIn_r _ [22] rfl (by decide +kernel)
set_option maxRecDepth 20000 in
theorem gX10_ofPlayer_L_pips_n110 : GoodIn wsX10_ofPlayer (wsL_pips) := ggX10_ofPlayer_L_pips
theorem dX10_ofPlayer_0 : decode cX10_ofPlayer 0 = .ok (.iconst 0, 1) := by decide +kernel
theorem dX10_ofPlayer_1 : decode cX10_ofPlayer 1 = .ok (.istore_n 3, 1) := by decide +kernel
theorem dX10_ofPlayer_2 : decode cX10_ofPlayer 2 = .ok (.iload_n 2, 1) := by decide +kernel
theorem dX10_ofPlayer_3 : decode cX10_ofPlayer 3 = .ok (.iconst 3, 1) := by decide +kernel
theorem dX10_ofPlayer_4 : decode cX10_ofPlayer 4 = .ok (.if_icmp .ne 98, 3) := by decide +kernel
theorem dX10_ofPlayer_7 : decode cX10_ofPlayer 7 = .ok (.iload_n 1, 1) := by decide +kernel
theorem dX10_ofPlayer_8 : decode cX10_ofPlayer 8 = .ok (.aload_n 0, 1) := by decide +kernel
theorem dX10_ofPlayer_9 : decode cX10_ofPlayer 9 = .ok (.getfield 49, 3) := by decide +kernel
theorem dX10_ofPlayer_12 : decode cX10_ofPlayer 12 = .ok (.if_icmp .ne 90, 3) := by decide +kernel
theorem dX10_ofPlayer_15 : decode cX10_ofPlayer 15 = .ok (.aload_n 0, 1) := by decide +kernel
theorem dX10_ofPlayer_16 : decode cX10_ofPlayer 16 = .ok (.getfield 27, 3) := by decide +kernel
theorem dX10_ofPlayer_19 : decode cX10_ofPlayer 19 = .ok (.iload_n 1, 1) := by decide +kernel
theorem dX10_ofPlayer_20 : decode cX10_ofPlayer 20 = .ok (.aaload, 1) := by decide +kernel
theorem dX10_ofPlayer_21 : decode cX10_ofPlayer 21 = .ok (.astore 4, 2) := by decide +kernel
theorem dX10_ofPlayer_23 : decode cX10_ofPlayer 23 = .ok (.aload 4, 2) := by decide +kernel
theorem dX10_ofPlayer_25 : decode cX10_ofPlayer 25 = .ok (.arraylength, 1) := by decide +kernel
theorem dX10_ofPlayer_26 : decode cX10_ofPlayer 26 = .ok (.istore 5, 2) := by decide +kernel
theorem dX10_ofPlayer_28 : decode cX10_ofPlayer 28 = .ok (.iconst 0, 1) := by decide +kernel
theorem dX10_ofPlayer_29 : decode cX10_ofPlayer 29 = .ok (.istore 6, 2) := by decide +kernel
theorem dX10_ofPlayer_31 : decode cX10_ofPlayer 31 = .ok (.iload 6, 2) := by decide +kernel
theorem dX10_ofPlayer_33 : decode cX10_ofPlayer 33 = .ok (.iload 5, 2) := by decide +kernel
theorem dX10_ofPlayer_35 : decode cX10_ofPlayer 35 = .ok (.if_icmp .ge 67, 3) := by decide +kernel
theorem dX10_ofPlayer_38 : decode cX10_ofPlayer 38 = .ok (.aload 4, 2) := by decide +kernel
theorem dX10_ofPlayer_40 : decode cX10_ofPlayer 40 = .ok (.iload 6, 2) := by decide +kernel
theorem dX10_ofPlayer_42 : decode cX10_ofPlayer 42 = .ok (.iaload, 1) := by decide +kernel
theorem dX10_ofPlayer_43 : decode cX10_ofPlayer 43 = .ok (.istore 7, 2) := by decide +kernel
theorem dX10_ofPlayer_45 : decode cX10_ofPlayer 45 = .ok (.iconst 0, 1) := by decide +kernel
theorem dX10_ofPlayer_46 : decode cX10_ofPlayer 46 = .ok (.istore 8, 2) := by decide +kernel
theorem dX10_ofPlayer_48 : decode cX10_ofPlayer 48 = .ok (.iconst 0, 1) := by decide +kernel
theorem dX10_ofPlayer_49 : decode cX10_ofPlayer 49 = .ok (.istore 9, 2) := by decide +kernel
theorem dX10_ofPlayer_51 : decode cX10_ofPlayer 51 = .ok (.iload 9, 2) := by decide +kernel
theorem dX10_ofPlayer_53 : decode cX10_ofPlayer 53 = .ok (.aload_n 0, 1) := by decide +kernel
theorem dX10_ofPlayer_54 : decode cX10_ofPlayer 54 = .ok (.getfield 34, 3) := by decide +kernel
theorem dX10_ofPlayer_57 : decode cX10_ofPlayer 57 = .ok (.arraylength, 1) := by decide +kernel
theorem dX10_ofPlayer_58 : decode cX10_ofPlayer 58 = .ok (.if_icmp .ge 30, 3) := by decide +kernel
theorem dX10_ofPlayer_61 : decode cX10_ofPlayer 61 = .ok (.iload 8, 2) := by decide +kernel
theorem dX10_ofPlayer_63 : decode cX10_ofPlayer 63 = .ok (.aload_n 0, 1) := by decide +kernel
theorem dX10_ofPlayer_64 : decode cX10_ofPlayer 64 = .ok (.iload 7, 2) := by decide +kernel
theorem dX10_ofPlayer_66 : decode cX10_ofPlayer 66 = .ok (.iload 9, 2) := by decide +kernel
theorem dX10_ofPlayer_68 : decode cX10_ofPlayer 68 = .ok (.invokevirtual 93, 3) := by decide +kernel
theorem dX10_ofPlayer_71 : decode cX10_ofPlayer 71 = .ok (.ifCond .ne 7, 3) := by decide +kernel
theorem dX10_ofPlayer_74 : decode cX10_ofPlayer 74 = .ok (.iconst 1, 1) := by decide +kernel
theorem dX10_ofPlayer_75 : decode cX10_ofPlayer 75 = .ok (.goto 4, 3) := by decide +kernel
theorem dX10_ofPlayer_78 : decode cX10_ofPlayer 78 = .ok (.iconst 0, 1) := by decide +kernel
theorem dX10_ofPlayer_79 : decode cX10_ofPlayer 79 = .ok (.ior, 1) := by decide +kernel
theorem dX10_ofPlayer_80 : decode cX10_ofPlayer 80 = .ok (.istore 8, 2) := by decide +kernel
theorem dX10_ofPlayer_82 : decode cX10_ofPlayer 82 = .ok (.iinc 9 1, 3) := by decide +kernel
theorem dX10_ofPlayer_85 : decode cX10_ofPlayer 85 = .ok (.goto (-34), 3) := by decide +kernel
theorem dX10_ofPlayer_88 : decode cX10_ofPlayer 88 = .ok (.iload 8, 2) := by decide +kernel
theorem dX10_ofPlayer_90 : decode cX10_ofPlayer 90 = .ok (.ifCond .eq 6, 3) := by decide +kernel
theorem dX10_ofPlayer_93 : decode cX10_ofPlayer 93 = .ok (.iinc 3 1, 3) := by decide +kernel
theorem dX10_ofPlayer_96 : decode cX10_ofPlayer 96 = .ok (.iinc 6 1, 3) := by decide +kernel
theorem dX10_ofPlayer_99 : decode cX10_ofPlayer 99 = .ok (.goto (-68), 3) := by decide +kernel
theorem dX10_ofPlayer_102 : decode cX10_ofPlayer 102 = .ok (.iload_n 2, 1) := by decide +kernel
theorem dX10_ofPlayer_103 : decode cX10_ofPlayer 103 = .ok (.ifCond .ne 13, 3) := by decide +kernel
theorem dX10_ofPlayer_106 : decode cX10_ofPlayer 106 = .ok (.aload_n 0, 1) := by decide +kernel
theorem dX10_ofPlayer_107 : decode cX10_ofPlayer 107 = .ok (.getfield 27, 3) := by decide +kernel
theorem dX10_ofPlayer_110 : decode cX10_ofPlayer 110 = .ok (.iload_n 1, 1) := by decide +kernel
theorem dX10_ofPlayer_111 : decode cX10_ofPlayer 111 = .ok (.aaload, 1) := by decide +kernel
theorem dX10_ofPlayer_112 : decode cX10_ofPlayer 112 = .ok (.arraylength, 1) := by decide +kernel
theorem dX10_ofPlayer_113 : decode cX10_ofPlayer 113 = .ok (.goto 35, 3) := by decide +kernel
theorem dX10_ofPlayer_116 : decode cX10_ofPlayer 116 = .ok (.iload_n 2, 1) := by decide +kernel
theorem dX10_ofPlayer_117 : decode cX10_ofPlayer 117 = .ok (.iconst 1, 1) := by decide +kernel
theorem dX10_ofPlayer_118 : decode cX10_ofPlayer 118 = .ok (.if_icmp .ne 15, 3) := by decide +kernel
theorem dX10_ofPlayer_121 : decode cX10_ofPlayer 121 = .ok (.aload_n 0, 1) := by decide +kernel
theorem dX10_ofPlayer_122 : decode cX10_ofPlayer 122 = .ok (.getfield 27, 3) := by decide +kernel
theorem dX10_ofPlayer_125 : decode cX10_ofPlayer 125 = .ok (.iload_n 1, 1) := by decide +kernel
theorem dX10_ofPlayer_126 : decode cX10_ofPlayer 126 = .ok (.aaload, 1) := by decide +kernel
theorem dX10_ofPlayer_127 : decode cX10_ofPlayer 127 = .ok (.invokestatic 110, 3) := by decide +kernel
theorem dX10_ofPlayer_130 : decode cX10_ofPlayer 130 = .ok (.goto 18, 3) := by decide +kernel
theorem dX10_ofPlayer_133 : decode cX10_ofPlayer 133 = .ok (.iload_n 2, 1) := by decide +kernel
theorem dX10_ofPlayer_134 : decode cX10_ofPlayer 134 = .ok (.iconst 2, 1) := by decide +kernel
theorem dX10_ofPlayer_135 : decode cX10_ofPlayer 135 = .ok (.if_icmp .ne 12, 3) := by decide +kernel
theorem dX10_ofPlayer_138 : decode cX10_ofPlayer 138 = .ok (.aload_n 0, 1) := by decide +kernel
theorem dX10_ofPlayer_139 : decode cX10_ofPlayer 139 = .ok (.getfield 30, 3) := by decide +kernel
theorem dX10_ofPlayer_142 : decode cX10_ofPlayer 142 = .ok (.iload_n 1, 1) := by decide +kernel
theorem dX10_ofPlayer_143 : decode cX10_ofPlayer 143 = .ok (.iaload, 1) := by decide +kernel
theorem dX10_ofPlayer_144 : decode cX10_ofPlayer 144 = .ok (.goto 4, 3) := by decide +kernel
theorem dX10_ofPlayer_147 : decode cX10_ofPlayer 147 = .ok (.iload_n 3, 1) := by decide +kernel
theorem dX10_ofPlayer_148 : decode cX10_ofPlayer 148 = .ok (.ireturn, 1) := by decide +kernel
set_option maxRecDepth 20000 in
theorem ggX10_sorted_L_has : GoodIn wsX10_sorted wsL_has := goodIn_r _ [5] rfl (by decide +kernel)
set_option maxRecDepth 20000 in
theorem gX10_sorted_L_has_n77 : GoodIn wsX10_sorted (wsL_has) := ggX10_sorted_L_has
set_option maxRecDepth 20000 in
theorem ggX10_sorted_L_with : GoodIn wsX10_sorted wsL_with := goodIn_r _ [7, 1] rfl (by decide +kernel)
set_option maxRecDepth 20000 in
theorem gX10_sorted_L_with_n83 : GoodIn wsX10_sorted (wsL_with) := ggX10_sorted_L_with
theorem dX10_sorted_0 : decode cX10_sorted 0 = .ok (.iconst 0, 1) := by decide +kernel
theorem dX10_sorted_1 : decode cX10_sorted 1 = .ok (.newarray .int, 2) := by decide +kernel
theorem dX10_sorted_3 : decode cX10_sorted 3 = .ok (.astore_n 2, 1) := by decide +kernel
theorem dX10_sorted_4 : decode cX10_sorted 4 = .ok (.iconst 0, 1) := by decide +kernel
theorem dX10_sorted_5 : decode cX10_sorted 5 = .ok (.istore_n 3, 1) := by decide +kernel
theorem dX10_sorted_6 : decode cX10_sorted 6 = .ok (.iload_n 3, 1) := by decide +kernel
theorem dX10_sorted_7 : decode cX10_sorted 7 = .ok (.bipush 100, 2) := by decide +kernel
theorem dX10_sorted_9 : decode cX10_sorted 9 = .ok (.if_icmp .ge 28, 3) := by decide +kernel
theorem dX10_sorted_12 : decode cX10_sorted 12 = .ok (.aload_n 0, 1) := by decide +kernel
theorem dX10_sorted_13 : decode cX10_sorted 13 = .ok (.getfield 27, 3) := by decide +kernel
theorem dX10_sorted_16 : decode cX10_sorted 16 = .ok (.iload_n 1, 1) := by decide +kernel
theorem dX10_sorted_17 : decode cX10_sorted 17 = .ok (.aaload, 1) := by decide +kernel
theorem dX10_sorted_18 : decode cX10_sorted 18 = .ok (.iload_n 3, 1) := by decide +kernel
theorem dX10_sorted_19 : decode cX10_sorted 19 = .ok (.invokestatic 77, 3) := by decide +kernel
theorem dX10_sorted_22 : decode cX10_sorted 22 = .ok (.ifCond .eq 9, 3) := by decide +kernel
theorem dX10_sorted_25 : decode cX10_sorted 25 = .ok (.aload_n 2, 1) := by decide +kernel
theorem dX10_sorted_26 : decode cX10_sorted 26 = .ok (.iload_n 3, 1) := by decide +kernel
theorem dX10_sorted_27 : decode cX10_sorted 27 = .ok (.invokestatic 83, 3) := by decide +kernel
theorem dX10_sorted_30 : decode cX10_sorted 30 = .ok (.astore_n 2, 1) := by decide +kernel
theorem dX10_sorted_31 : decode cX10_sorted 31 = .ok (.iinc 3 1, 3) := by decide +kernel
theorem dX10_sorted_34 : decode cX10_sorted 34 = .ok (.goto (-28), 3) := by decide +kernel
theorem dX10_sorted_37 : decode cX10_sorted 37 = .ok (.aload_n 2, 1) := by decide +kernel
theorem dX10_sorted_38 : decode cX10_sorted 38 = .ok (.areturn, 1) := by decide +kernel
set_option maxRecDepth 20000 in
theorem ggX10_ofTrain_X10_end : GoodIn wsX10_ofTrain wsX10_end := goodIn_r _ [7, 8, 1, 12, 13, 14, 15, 16, 17, 18, 19, 20, 21, 22, 23, 24, 25, 26, 27, 28] rfl (by decide +kernel)
set_option maxRecDepth 20000 in
theorem gX10_ofTrain_X10_end : GoodIn wsX10_ofTrain (wsV RX10 89 RX10 yX10_end wsX10_end) := goodIn_app (goodIn_of _ (by decide +kernel)) ggX10_ofTrain_X10_end
set_option maxRecDepth 20000 in
theorem ggX10_ofTrain_L_pips : GoodIn wsX10_ofTrain wsL_pips := goodIn_r _ [11] rfl (by decide +kernel)
set_option maxRecDepth 20000 in
theorem gX10_ofTrain_L_pips_n110 : GoodIn wsX10_ofTrain (wsL_pips) := ggX10_ofTrain_L_pips
theorem dX10_ofTrain_0 : decode cX10_ofTrain 0 = .ok (.aload_n 0, 1) := by decide +kernel
theorem dX10_ofTrain_1 : decode cX10_ofTrain 1 = .ok (.getfield 34, 3) := by decide +kernel
theorem dX10_ofTrain_4 : decode cX10_ofTrain 4 = .ok (.iload_n 1, 1) := by decide +kernel
theorem dX10_ofTrain_5 : decode cX10_ofTrain 5 = .ok (.aaload, 1) := by decide +kernel
theorem dX10_ofTrain_6 : decode cX10_ofTrain 6 = .ok (.astore_n 3, 1) := by decide +kernel
theorem dX10_ofTrain_7 : decode cX10_ofTrain 7 = .ok (.iload_n 2, 1) := by decide +kernel
theorem dX10_ofTrain_8 : decode cX10_ofTrain 8 = .ok (.ifCond .ne 8, 3) := by decide +kernel
theorem dX10_ofTrain_11 : decode cX10_ofTrain 11 = .ok (.aload_n 3, 1) := by decide +kernel
theorem dX10_ofTrain_12 : decode cX10_ofTrain 12 = .ok (.arraylength, 1) := by decide +kernel
theorem dX10_ofTrain_13 : decode cX10_ofTrain 13 = .ok (.goto 65, 3) := by decide +kernel
theorem dX10_ofTrain_16 : decode cX10_ofTrain 16 = .ok (.iload_n 2, 1) := by decide +kernel
theorem dX10_ofTrain_17 : decode cX10_ofTrain 17 = .ok (.iconst 1, 1) := by decide +kernel
theorem dX10_ofTrain_18 : decode cX10_ofTrain 18 = .ok (.if_icmp .ne 11, 3) := by decide +kernel
theorem dX10_ofTrain_21 : decode cX10_ofTrain 21 = .ok (.aload_n 0, 1) := by decide +kernel
theorem dX10_ofTrain_22 : decode cX10_ofTrain 22 = .ok (.iload_n 1, 1) := by decide +kernel
theorem dX10_ofTrain_23 : decode cX10_ofTrain 23 = .ok (.invokevirtual 89, 3) := by decide +kernel
theorem dX10_ofTrain_26 : decode cX10_ofTrain 26 = .ok (.goto 52, 3) := by decide +kernel
theorem dX10_ofTrain_29 : decode cX10_ofTrain 29 = .ok (.iload_n 2, 1) := by decide +kernel
theorem dX10_ofTrain_30 : decode cX10_ofTrain 30 = .ok (.iconst 2, 1) := by decide +kernel
theorem dX10_ofTrain_31 : decode cX10_ofTrain 31 = .ok (.if_icmp .ne 20, 3) := by decide +kernel
theorem dX10_ofTrain_34 : decode cX10_ofTrain 34 = .ok (.aload_n 0, 1) := by decide +kernel
theorem dX10_ofTrain_35 : decode cX10_ofTrain 35 = .ok (.getfield 37, 3) := by decide +kernel
theorem dX10_ofTrain_38 : decode cX10_ofTrain 38 = .ok (.iload_n 1, 1) := by decide +kernel
theorem dX10_ofTrain_39 : decode cX10_ofTrain 39 = .ok (.baload, 1) := by decide +kernel
theorem dX10_ofTrain_40 : decode cX10_ofTrain 40 = .ok (.ifCond .eq 7, 3) := by decide +kernel
theorem dX10_ofTrain_43 : decode cX10_ofTrain 43 = .ok (.iconst 1, 1) := by decide +kernel
theorem dX10_ofTrain_44 : decode cX10_ofTrain 44 = .ok (.goto 34, 3) := by decide +kernel
theorem dX10_ofTrain_47 : decode cX10_ofTrain 47 = .ok (.iconst 0, 1) := by decide +kernel
theorem dX10_ofTrain_48 : decode cX10_ofTrain 48 = .ok (.goto 30, 3) := by decide +kernel
theorem dX10_ofTrain_51 : decode cX10_ofTrain 51 = .ok (.iload_n 2, 1) := by decide +kernel
theorem dX10_ofTrain_52 : decode cX10_ofTrain 52 = .ok (.iconst 3, 1) := by decide +kernel
theorem dX10_ofTrain_53 : decode cX10_ofTrain 53 = .ok (.if_icmp .ne 21, 3) := by decide +kernel
theorem dX10_ofTrain_56 : decode cX10_ofTrain 56 = .ok (.aload_n 3, 1) := by decide +kernel
theorem dX10_ofTrain_57 : decode cX10_ofTrain 57 = .ok (.arraylength, 1) := by decide +kernel
theorem dX10_ofTrain_58 : decode cX10_ofTrain 58 = .ok (.ifCond .ne 7, 3) := by decide +kernel
theorem dX10_ofTrain_61 : decode cX10_ofTrain 61 = .ok (.iconst (-1), 1) := by decide +kernel
theorem dX10_ofTrain_62 : decode cX10_ofTrain 62 = .ok (.goto 16, 3) := by decide +kernel
theorem dX10_ofTrain_65 : decode cX10_ofTrain 65 = .ok (.aload_n 3, 1) := by decide +kernel
theorem dX10_ofTrain_66 : decode cX10_ofTrain 66 = .ok (.aload_n 3, 1) := by decide +kernel
theorem dX10_ofTrain_67 : decode cX10_ofTrain 67 = .ok (.arraylength, 1) := by decide +kernel
theorem dX10_ofTrain_68 : decode cX10_ofTrain 68 = .ok (.iconst 1, 1) := by decide +kernel
theorem dX10_ofTrain_69 : decode cX10_ofTrain 69 = .ok (.isub, 1) := by decide +kernel
theorem dX10_ofTrain_70 : decode cX10_ofTrain 70 = .ok (.iaload, 1) := by decide +kernel
theorem dX10_ofTrain_71 : decode cX10_ofTrain 71 = .ok (.goto 7, 3) := by decide +kernel
theorem dX10_ofTrain_74 : decode cX10_ofTrain 74 = .ok (.aload_n 3, 1) := by decide +kernel
theorem dX10_ofTrain_75 : decode cX10_ofTrain 75 = .ok (.invokestatic 110, 3) := by decide +kernel
theorem dX10_ofTrain_78 : decode cX10_ofTrain 78 = .ok (.ireturn, 1) := by decide +kernel
set_option maxRecDepth 20000 in
theorem ggX10_checksum_X10_told : GoodIn wsX10_checksum wsX10_told := goodIn_r _ [8, 9, 2, 10, 11, 12, 13, 14, 15, 16, 17, 18, 19, 20, 21, 22, 7, 23, 3, 24, 25, 26, 27, 28, 29, 30, 31, 32, 33, 34, 35, 54, 55, 56, 57, 58, 59, 60, 61, 62, 63, 64, 65, 66, 67, 68, 69, 70] rfl (by decide +kernel)
set_option maxRecDepth 20000 in
theorem gX10_checksum_X10_told : GoodIn wsX10_checksum (wsV RX10 140 RX10 yX10_told wsX10_told) := goodIn_app (goodIn_of _ (by decide +kernel)) ggX10_checksum_X10_told
set_option maxRecDepth 20000 in
theorem ggX10_checksum_X10_ofPlayer : GoodIn wsX10_checksum wsX10_ofPlayer := goodIn_r _ [39, 12, 2, 3, 40, 24, 25, 26, 7, 27, 16, 14, 28, 29, 30, 31, 32, 33, 34, 35, 11, 41, 42, 54, 55, 56, 57, 58, 59, 60, 61, 62, 63, 64, 65, 66, 67, 68, 69, 70] rfl (by decide +kernel)
set_option maxRecDepth 20000 in
theorem gX10_checksum_X10_ofPlayer : GoodIn wsX10_checksum (wsV RX10 143 RX10 yX10_ofPlayer wsX10_ofPlayer) := goodIn_app (goodIn_of _ (by decide +kernel)) ggX10_checksum_X10_ofPlayer
set_option maxRecDepth 20000 in
theorem ggX10_checksum_X10_sorted : GoodIn wsX10_checksum wsX10_sorted := goodIn_r _ [46, 47, 2, 29, 30, 31, 48, 49, 54, 55, 56, 57, 58, 59, 60, 61, 62, 63, 64, 65, 66, 67, 68, 69, 70] rfl (by decide +kernel)
set_option maxRecDepth 20000 in
theorem gX10_checksum_X10_sorted : GoodIn wsX10_checksum (wsV RX10 146 RX10 yX10_sorted wsX10_sorted) := goodIn_app (goodIn_of _ (by decide +kernel)) ggX10_checksum_X10_sorted
set_option maxRecDepth 20000 in
theorem ggX10_checksum_X10_ofTrain : GoodIn wsX10_checksum wsX10_ofTrain := goodIn_r _ [53, 3, 28, 32, 33, 34, 7, 35, 11, 41, 30, 42, 54, 55, 56, 57, 58, 59, 60, 61, 62, 63, 64, 65, 66, 67, 68, 69, 70] rfl (by decide +kernel)
set_option maxRecDepth 20000 in
theorem gX10_checksum_X10_ofTrain : GoodIn wsX10_checksum (wsV RX10 150 RX10 yX10_ofTrain wsX10_ofTrain) := goodIn_app (goodIn_of _ (by decide +kernel)) ggX10_checksum_X10_ofTrain
theorem dX10_checksum_0 : decode cX10_checksum 0 = .ok (.lconst 0, 1) := by decide +kernel
theorem dX10_checksum_1 : decode cX10_checksum 1 = .ok (.lstore_n 1, 1) := by decide +kernel
theorem dX10_checksum_2 : decode cX10_checksum 2 = .ok (.iconst 0, 1) := by decide +kernel
theorem dX10_checksum_3 : decode cX10_checksum 3 = .ok (.istore_n 3, 1) := by decide +kernel
theorem dX10_checksum_4 : decode cX10_checksum 4 = .ok (.iload_n 3, 1) := by decide +kernel
theorem dX10_checksum_5 : decode cX10_checksum 5 = .ok (.bipush 13, 2) := by decide +kernel
theorem dX10_checksum_7 : decode cX10_checksum 7 = .ok (.if_icmp .ge 22, 3) := by decide +kernel
theorem dX10_checksum_10 : decode cX10_checksum 10 = .ok (.ldc2_w 138, 3) := by decide +kernel
theorem dX10_checksum_13 : decode cX10_checksum 13 = .ok (.lload_n 1, 1) := by decide +kernel
theorem dX10_checksum_14 : decode cX10_checksum 14 = .ok (.lmul, 1) := by decide +kernel
theorem dX10_checksum_15 : decode cX10_checksum 15 = .ok (.aload_n 0, 1) := by decide +kernel
theorem dX10_checksum_16 : decode cX10_checksum 16 = .ok (.iload_n 3, 1) := by decide +kernel
theorem dX10_checksum_17 : decode cX10_checksum 17 = .ok (.invokevirtual 140, 3) := by decide +kernel
theorem dX10_checksum_20 : decode cX10_checksum 20 = .ok (.i2l, 1) := by decide +kernel
theorem dX10_checksum_21 : decode cX10_checksum 21 = .ok (.ladd, 1) := by decide +kernel
theorem dX10_checksum_22 : decode cX10_checksum 22 = .ok (.lstore_n 1, 1) := by decide +kernel
theorem dX10_checksum_23 : decode cX10_checksum 23 = .ok (.iinc 3 1, 3) := by decide +kernel
theorem dX10_checksum_26 : decode cX10_checksum 26 = .ok (.goto (-22), 3) := by decide +kernel
theorem dX10_checksum_29 : decode cX10_checksum 29 = .ok (.iconst 0, 1) := by decide +kernel
theorem dX10_checksum_30 : decode cX10_checksum 30 = .ok (.istore_n 3, 1) := by decide +kernel
theorem dX10_checksum_31 : decode cX10_checksum 31 = .ok (.iload_n 3, 1) := by decide +kernel
theorem dX10_checksum_32 : decode cX10_checksum 32 = .ok (.aload_n 0, 1) := by decide +kernel
theorem dX10_checksum_33 : decode cX10_checksum 33 = .ok (.getfield 27, 3) := by decide +kernel
theorem dX10_checksum_36 : decode cX10_checksum 36 = .ok (.arraylength, 1) := by decide +kernel
theorem dX10_checksum_37 : decode cX10_checksum 37 = .ok (.if_icmp .ge 84, 3) := by decide +kernel
theorem dX10_checksum_40 : decode cX10_checksum 40 = .ok (.iconst 0, 1) := by decide +kernel
theorem dX10_checksum_41 : decode cX10_checksum 41 = .ok (.istore 4, 2) := by decide +kernel
theorem dX10_checksum_43 : decode cX10_checksum 43 = .ok (.iload 4, 2) := by decide +kernel
theorem dX10_checksum_45 : decode cX10_checksum 45 = .ok (.iconst 4, 1) := by decide +kernel
theorem dX10_checksum_46 : decode cX10_checksum 46 = .ok (.if_icmp .ge 24, 3) := by decide +kernel
theorem dX10_checksum_49 : decode cX10_checksum 49 = .ok (.ldc2_w 138, 3) := by decide +kernel
theorem dX10_checksum_52 : decode cX10_checksum 52 = .ok (.lload_n 1, 1) := by decide +kernel
theorem dX10_checksum_53 : decode cX10_checksum 53 = .ok (.lmul, 1) := by decide +kernel
theorem dX10_checksum_54 : decode cX10_checksum 54 = .ok (.aload_n 0, 1) := by decide +kernel
theorem dX10_checksum_55 : decode cX10_checksum 55 = .ok (.iload_n 3, 1) := by decide +kernel
theorem dX10_checksum_56 : decode cX10_checksum 56 = .ok (.iload 4, 2) := by decide +kernel
theorem dX10_checksum_58 : decode cX10_checksum 58 = .ok (.invokevirtual 143, 3) := by decide +kernel
theorem dX10_checksum_61 : decode cX10_checksum 61 = .ok (.i2l, 1) := by decide +kernel
theorem dX10_checksum_62 : decode cX10_checksum 62 = .ok (.ladd, 1) := by decide +kernel
theorem dX10_checksum_63 : decode cX10_checksum 63 = .ok (.lstore_n 1, 1) := by decide +kernel
theorem dX10_checksum_64 : decode cX10_checksum 64 = .ok (.iinc 4 1, 3) := by decide +kernel
theorem dX10_checksum_67 : decode cX10_checksum 67 = .ok (.goto (-24), 3) := by decide +kernel
theorem dX10_checksum_70 : decode cX10_checksum 70 = .ok (.aload_n 0, 1) := by decide +kernel
theorem dX10_checksum_71 : decode cX10_checksum 71 = .ok (.iload_n 3, 1) := by decide +kernel
theorem dX10_checksum_72 : decode cX10_checksum 72 = .ok (.invokevirtual 146, 3) := by decide +kernel
theorem dX10_checksum_75 : decode cX10_checksum 75 = .ok (.astore 4, 2) := by decide +kernel
theorem dX10_checksum_77 : decode cX10_checksum 77 = .ok (.aload 4, 2) := by decide +kernel
theorem dX10_checksum_79 : decode cX10_checksum 79 = .ok (.arraylength, 1) := by decide +kernel
theorem dX10_checksum_80 : decode cX10_checksum 80 = .ok (.istore 5, 2) := by decide +kernel
theorem dX10_checksum_82 : decode cX10_checksum 82 = .ok (.iconst 0, 1) := by decide +kernel
theorem dX10_checksum_83 : decode cX10_checksum 83 = .ok (.istore 6, 2) := by decide +kernel
