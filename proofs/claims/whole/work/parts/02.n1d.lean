theorem dX2_tileOfFirstLongest_38 : decode cX2_tileOfFirstLongest 38 = .ok (.if_icmp .gt 52, 3) := by decide +kernel
theorem dX2_tileOfFirstLongest_41 : decode cX2_tileOfFirstLongest 41 = .ok (.iload 6, 2) := by decide +kernel
theorem dX2_tileOfFirstLongest_43 : decode cX2_tileOfFirstLongest 43 = .ok (.iload_n 2, 1) := by decide +kernel
theorem dX2_tileOfFirstLongest_44 : decode cX2_tileOfFirstLongest 44 = .ok (.if_icmp .ge 46, 3) := by decide +kernel
theorem dX2_tileOfFirstLongest_47 : decode cX2_tileOfFirstLongest 47 = .ok (.aload_n 0, 1) := by decide +kernel
theorem dX2_tileOfFirstLongest_48 : decode cX2_tileOfFirstLongest 48 = .ok (.iload_n 3, 1) := by decide +kernel
theorem dX2_tileOfFirstLongest_49 : decode cX2_tileOfFirstLongest 49 = .ok (.iload 4, 2) := by decide +kernel
theorem dX2_tileOfFirstLongest_51 : decode cX2_tileOfFirstLongest 51 = .ok (.invokevirtual 101, 3) := by decide +kernel
theorem dX2_tileOfFirstLongest_54 : decode cX2_tileOfFirstLongest 54 = .ok (.istore 7, 2) := by decide +kernel
theorem dX2_tileOfFirstLongest_56 : decode cX2_tileOfFirstLongest 56 = .ok (.aload_n 0, 1) := by decide +kernel
theorem dX2_tileOfFirstLongest_57 : decode cX2_tileOfFirstLongest 57 = .ok (.getfield 9, 3) := by decide +kernel
theorem dX2_tileOfFirstLongest_60 : decode cX2_tileOfFirstLongest 60 = .ok (.iload 7, 2) := by decide +kernel
theorem dX2_tileOfFirstLongest_62 : decode cX2_tileOfFirstLongest 62 = .ok (.invokestatic 60, 3) := by decide +kernel
theorem dX2_tileOfFirstLongest_65 : decode cX2_tileOfFirstLongest 65 = .ok (.istore 5, 2) := by decide +kernel
theorem dX2_tileOfFirstLongest_67 : decode cX2_tileOfFirstLongest 67 = .ok (.iload_n 3, 1) := by decide +kernel
theorem dX2_tileOfFirstLongest_68 : decode cX2_tileOfFirstLongest 68 = .ok (.iconst 1, 1) := by decide +kernel
theorem dX2_tileOfFirstLongest_69 : decode cX2_tileOfFirstLongest 69 = .ok (.iload 7, 2) := by decide +kernel
theorem dX2_tileOfFirstLongest_71 : decode cX2_tileOfFirstLongest 71 = .ok (.ishl, 1) := by decide +kernel
theorem dX2_tileOfFirstLongest_72 : decode cX2_tileOfFirstLongest 72 = .ok (.ior, 1) := by decide +kernel
theorem dX2_tileOfFirstLongest_73 : decode cX2_tileOfFirstLongest 73 = .ok (.istore_n 3, 1) := by decide +kernel
theorem dX2_tileOfFirstLongest_74 : decode cX2_tileOfFirstLongest 74 = .ok (.iload 5, 2) := by decide +kernel
theorem dX2_tileOfFirstLongest_76 : decode cX2_tileOfFirstLongest 76 = .ok (.invokestatic 91, 3) := by decide +kernel
theorem dX2_tileOfFirstLongest_79 : decode cX2_tileOfFirstLongest 79 = .ok (.iload 4, 2) := by decide +kernel
theorem dX2_tileOfFirstLongest_81 : decode cX2_tileOfFirstLongest 81 = .ok (.isub, 1) := by decide +kernel
theorem dX2_tileOfFirstLongest_82 : decode cX2_tileOfFirstLongest 82 = .ok (.istore 4, 2) := by decide +kernel
theorem dX2_tileOfFirstLongest_84 : decode cX2_tileOfFirstLongest 84 = .ok (.iinc 6 1, 3) := by decide +kernel
theorem dX2_tileOfFirstLongest_87 : decode cX2_tileOfFirstLongest 87 = .ok (.goto (-52), 3) := by decide +kernel
theorem dX2_tileOfFirstLongest_90 : decode cX2_tileOfFirstLongest 90 = .ok (.iload 5, 2) := by decide +kernel
theorem dX2_tileOfFirstLongest_92 : decode cX2_tileOfFirstLongest 92 = .ok (.ireturn, 1) := by decide +kernel
set_option maxRecDepth 20000 in
theorem ggX2_findHopeful_X7_look : GoodIn wsX2_findHopeful wsX7_look := goodIn_r _ [7] rfl (by decide +kernel)
set_option maxRecDepth 20000 in
theorem gX2_findHopeful_X7_look_n60 : GoodIn wsX2_findHopeful (wsX7_look) := ggX2_findHopeful_X7_look
set_option maxRecDepth 20000 in
theorem ggX2_findHopeful_J6_bitCount_0f7a4 : GoodIn wsX2_findHopeful wsJ6_bitCount_0f7a4 := goodIn_r _ [11, 12, 13, 14] rfl (by decide +kernel)
set_option maxRecDepth 20000 in
theorem gX2_findHopeful_J6_bitCount_0f7a4 : GoodIn wsX2_findHopeful (va_wsS RX2 78 yJ6_bitCount_0f7a4 wsJ6_bitCount_0f7a4) := goodIn_app (goodIn_of _ (by decide +kernel)) ggX2_findHopeful_J6_bitCount_0f7a4
set_option maxRecDepth 20000 in
theorem ggX2_findHopeful_X2_hopeOf : GoodIn wsX2_findHopeful wsX2_hopeOf := goodIn_r _ [19, 20, 21, 4, 3, 5, 6, 7, 22, 23, 18, 24, 25, 26, 27, 28, 31, 32, 33, 34, 35, 36, 37] rfl (by decide +kernel)
set_option maxRecDepth 20000 in
theorem gX2_findHopeful_X2_hopeOf : GoodIn wsX2_findHopeful (wsV RX2 104 RX2 yX2_hopeOf wsX2_hopeOf) := goodIn_app (goodIn_of _ (by decide +kernel)) ggX2_findHopeful_X2_hopeOf
set_option maxRecDepth 20000 in
theorem ggX2_findHopeful_X7_put : GoodIn wsX2_findHopeful wsX7_put := goodIn_r _ [30] rfl (by decide +kernel)
set_option maxRecDepth 20000 in
theorem gX2_findHopeful_X7_put_n37 : GoodIn wsX2_findHopeful (wsX7_put) := ggX2_findHopeful_X7_put
theorem dX2_findHopeful_0 : decode cX2_findHopeful 0 = .ok (.aload_n 0, 1) := by decide +kernel
theorem dX2_findHopeful_1 : decode cX2_findHopeful 1 = .ok (.getfield 57, 3) := by decide +kernel
theorem dX2_findHopeful_4 : decode cX2_findHopeful 4 = .ok (.iconst 1, 1) := by decide +kernel
theorem dX2_findHopeful_5 : decode cX2_findHopeful 5 = .ok (.isub, 1) := by decide +kernel
theorem dX2_findHopeful_6 : decode cX2_findHopeful 6 = .ok (.istore_n 2, 1) := by decide +kernel
theorem dX2_findHopeful_7 : decode cX2_findHopeful 7 = .ok (.iload_n 2, 1) := by decide +kernel
theorem dX2_findHopeful_8 : decode cX2_findHopeful 8 = .ok (.ifCond .lt 54, 3) := by decide +kernel
theorem dX2_findHopeful_11 : decode cX2_findHopeful 11 = .ok (.aload_n 0, 1) := by decide +kernel
theorem dX2_findHopeful_12 : decode cX2_findHopeful 12 = .ok (.getfield 15, 3) := by decide +kernel
theorem dX2_findHopeful_15 : decode cX2_findHopeful 15 = .ok (.iload_n 2, 1) := by decide +kernel
theorem dX2_findHopeful_16 : decode cX2_findHopeful 16 = .ok (.invokestatic 60, 3) := by decide +kernel
theorem dX2_findHopeful_19 : decode cX2_findHopeful 19 = .ok (.istore_n 3, 1) := by decide +kernel
theorem dX2_findHopeful_20 : decode cX2_findHopeful 20 = .ok (.iload_n 3, 1) := by decide +kernel
theorem dX2_findHopeful_21 : decode cX2_findHopeful 21 = .ok (.invokestatic 78, 3) := by decide +kernel
theorem dX2_findHopeful_24 : decode cX2_findHopeful 24 = .ok (.iload_n 1, 1) := by decide +kernel
theorem dX2_findHopeful_25 : decode cX2_findHopeful 25 = .ok (.if_icmp .ne 14, 3) := by decide +kernel
theorem dX2_findHopeful_28 : decode cX2_findHopeful 28 = .ok (.aload_n 0, 1) := by decide +kernel
theorem dX2_findHopeful_29 : decode cX2_findHopeful 29 = .ok (.getfield 18, 3) := by decide +kernel
theorem dX2_findHopeful_32 : decode cX2_findHopeful 32 = .ok (.iload_n 3, 1) := by decide +kernel
theorem dX2_findHopeful_33 : decode cX2_findHopeful 33 = .ok (.invokestatic 60, 3) := by decide +kernel
theorem dX2_findHopeful_36 : decode cX2_findHopeful 36 = .ok (.goto 8, 3) := by decide +kernel
theorem dX2_findHopeful_39 : decode cX2_findHopeful 39 = .ok (.aload_n 0, 1) := by decide +kernel
theorem dX2_findHopeful_40 : decode cX2_findHopeful 40 = .ok (.iload_n 3, 1) := by decide +kernel
theorem dX2_findHopeful_41 : decode cX2_findHopeful 41 = .ok (.invokevirtual 104, 3) := by decide +kernel
theorem dX2_findHopeful_44 : decode cX2_findHopeful 44 = .ok (.istore 4, 2) := by decide +kernel
theorem dX2_findHopeful_46 : decode cX2_findHopeful 46 = .ok (.aload_n 0, 1) := by decide +kernel
theorem dX2_findHopeful_47 : decode cX2_findHopeful 47 = .ok (.getfield 21, 3) := by decide +kernel
theorem dX2_findHopeful_50 : decode cX2_findHopeful 50 = .ok (.iload_n 3, 1) := by decide +kernel
theorem dX2_findHopeful_51 : decode cX2_findHopeful 51 = .ok (.iload 4, 2) := by decide +kernel
theorem dX2_findHopeful_53 : decode cX2_findHopeful 53 = .ok (.invokestatic 37, 3) := by decide +kernel
theorem dX2_findHopeful_56 : decode cX2_findHopeful 56 = .ok (.iinc 2 (-1), 3) := by decide +kernel
theorem dX2_findHopeful_59 : decode cX2_findHopeful 59 = .ok (.goto (-52), 3) := by decide +kernel
theorem dX2_findHopeful_62 : decode cX2_findHopeful 62 = .ok (.return_, 1) := by decide +kernel
set_option maxRecDepth 20000 in
theorem ggX2_hopeOf_X7_look : GoodIn wsX2_hopeOf wsX7_look := goodIn_r _ [7] rfl (by decide +kernel)
set_option maxRecDepth 20000 in
theorem gX2_hopeOf_X7_look_n60 : GoodIn wsX2_hopeOf (wsX7_look) := ggX2_hopeOf_X7_look
set_option maxRecDepth 20000 in
theorem ggX2_hopeOf_X2_acrossTile : GoodIn wsX2_hopeOf wsX2_acrossTile := goodIn_r _ [11, 12, 6, 13, 14, 15] rfl (by decide +kernel)
set_option maxRecDepth 20000 in
theorem gX2_hopeOf_X2_acrossTile : GoodIn wsX2_hopeOf (va_wsS RX2 68 yX2_acrossTile wsX2_acrossTile) := goodIn_app (goodIn_of _ (by decide +kernel)) ggX2_hopeOf_X2_acrossTile
theorem dX2_hopeOf_0 : decode cX2_hopeOf 0 = .ok (.iconst 0, 1) := by decide +kernel
theorem dX2_hopeOf_1 : decode cX2_hopeOf 1 = .ok (.istore_n 2, 1) := by decide +kernel
theorem dX2_hopeOf_2 : decode cX2_hopeOf 2 = .ok (.iconst 0, 1) := by decide +kernel
theorem dX2_hopeOf_3 : decode cX2_hopeOf 3 = .ok (.istore_n 3, 1) := by decide +kernel
theorem dX2_hopeOf_4 : decode cX2_hopeOf 4 = .ok (.iload_n 3, 1) := by decide +kernel
theorem dX2_hopeOf_5 : decode cX2_hopeOf 5 = .ok (.aload_n 0, 1) := by decide +kernel
theorem dX2_hopeOf_6 : decode cX2_hopeOf 6 = .ok (.getfield 27, 3) := by decide +kernel
theorem dX2_hopeOf_9 : decode cX2_hopeOf 9 = .ok (.if_icmp .ge 43, 3) := by decide +kernel
theorem dX2_hopeOf_12 : decode cX2_hopeOf 12 = .ok (.iload_n 1, 1) := by decide +kernel
theorem dX2_hopeOf_13 : decode cX2_hopeOf 13 = .ok (.iconst 1, 1) := by decide +kernel
theorem dX2_hopeOf_14 : decode cX2_hopeOf 14 = .ok (.iload_n 3, 1) := by decide +kernel
theorem dX2_hopeOf_15 : decode cX2_hopeOf 15 = .ok (.ishl, 1) := by decide +kernel
theorem dX2_hopeOf_16 : decode cX2_hopeOf 16 = .ok (.iand, 1) := by decide +kernel
theorem dX2_hopeOf_17 : decode cX2_hopeOf 17 = .ok (.ifCond .ne 29, 3) := by decide +kernel
theorem dX2_hopeOf_20 : decode cX2_hopeOf 20 = .ok (.iload_n 2, 1) := by decide +kernel
theorem dX2_hopeOf_21 : decode cX2_hopeOf 21 = .ok (.aload_n 0, 1) := by decide +kernel
theorem dX2_hopeOf_22 : decode cX2_hopeOf 22 = .ok (.getfield 9, 3) := by decide +kernel
theorem dX2_hopeOf_25 : decode cX2_hopeOf 25 = .ok (.iload_n 3, 1) := by decide +kernel
theorem dX2_hopeOf_26 : decode cX2_hopeOf 26 = .ok (.invokestatic 60, 3) := by decide +kernel
theorem dX2_hopeOf_29 : decode cX2_hopeOf 29 = .ok (.aload_n 0, 1) := by decide +kernel
theorem dX2_hopeOf_30 : decode cX2_hopeOf 30 = .ok (.getfield 21, 3) := by decide +kernel
theorem dX2_hopeOf_33 : decode cX2_hopeOf 33 = .ok (.iload_n 1, 1) := by decide +kernel
theorem dX2_hopeOf_34 : decode cX2_hopeOf 34 = .ok (.iconst 1, 1) := by decide +kernel
theorem dX2_hopeOf_35 : decode cX2_hopeOf 35 = .ok (.iload_n 3, 1) := by decide +kernel
theorem dX2_hopeOf_36 : decode cX2_hopeOf 36 = .ok (.ishl, 1) := by decide +kernel
theorem dX2_hopeOf_37 : decode cX2_hopeOf 37 = .ok (.ior, 1) := by decide +kernel
theorem dX2_hopeOf_38 : decode cX2_hopeOf 38 = .ok (.invokestatic 60, 3) := by decide +kernel
theorem dX2_hopeOf_41 : decode cX2_hopeOf 41 = .ok (.invokestatic 68, 3) := by decide +kernel
theorem dX2_hopeOf_44 : decode cX2_hopeOf 44 = .ok (.ior, 1) := by decide +kernel
theorem dX2_hopeOf_45 : decode cX2_hopeOf 45 = .ok (.istore_n 2, 1) := by decide +kernel
theorem dX2_hopeOf_46 : decode cX2_hopeOf 46 = .ok (.iinc 3 1, 3) := by decide +kernel
theorem dX2_hopeOf_49 : decode cX2_hopeOf 49 = .ok (.goto (-45), 3) := by decide +kernel
theorem dX2_hopeOf_52 : decode cX2_hopeOf 52 = .ok (.iload_n 2, 1) := by decide +kernel
theorem dX2_hopeOf_53 : decode cX2_hopeOf 53 = .ok (.aload_n 0, 1) := by decide +kernel
theorem dX2_hopeOf_54 : decode cX2_hopeOf 54 = .ok (.getfield 18, 3) := by decide +kernel
theorem dX2_hopeOf_57 : decode cX2_hopeOf 57 = .ok (.iload_n 1, 1) := by decide +kernel
theorem dX2_hopeOf_58 : decode cX2_hopeOf 58 = .ok (.invokestatic 60, 3) := by decide +kernel
theorem dX2_hopeOf_61 : decode cX2_hopeOf 61 = .ok (.iand, 1) := by decide +kernel
theorem dX2_hopeOf_62 : decode cX2_hopeOf 62 = .ok (.ireturn, 1) := by decide +kernel
set_option maxRecDepth 20000 in
theorem ggX2_firstHopefulTile_X7_look : GoodIn wsX2_firstHopefulTile wsX7_look := goodIn_r _ [6] rfl (by decide +kernel)
set_option maxRecDepth 20000 in
theorem gX2_firstHopefulTile_X7_look_n60 : GoodIn wsX2_firstHopefulTile (wsX7_look) := ggX2_firstHopefulTile_X7_look
set_option maxRecDepth 20000 in
theorem ggX2_firstHopefulTile_X2_acrossTile : GoodIn wsX2_firstHopefulTile wsX2_acrossTile := goodIn_r _ [10, 11, 5, 12, 13, 14] rfl (by decide +kernel)
set_option maxRecDepth 20000 in
theorem gX2_firstHopefulTile_X2_acrossTile : GoodIn wsX2_firstHopefulTile (va_wsS RX2 68 yX2_acrossTile wsX2_acrossTile) := goodIn_app (goodIn_of _ (by decide +kernel)) ggX2_firstHopefulTile_X2_acrossTile
theorem dX2_firstHopefulTile_0 : decode cX2_firstHopefulTile 0 = .ok (.iconst 0, 1) := by decide +kernel
theorem dX2_firstHopefulTile_1 : decode cX2_firstHopefulTile 1 = .ok (.istore_n 3, 1) := by decide +kernel
theorem dX2_firstHopefulTile_2 : decode cX2_firstHopefulTile 2 = .ok (.iload_n 3, 1) := by decide +kernel
theorem dX2_firstHopefulTile_3 : decode cX2_firstHopefulTile 3 = .ok (.aload_n 0, 1) := by decide +kernel
theorem dX2_firstHopefulTile_4 : decode cX2_firstHopefulTile 4 = .ok (.getfield 27, 3) := by decide +kernel
theorem dX2_firstHopefulTile_7 : decode cX2_firstHopefulTile 7 = .ok (.if_icmp .ge 53, 3) := by decide +kernel
theorem dX2_firstHopefulTile_10 : decode cX2_firstHopefulTile 10 = .ok (.aload_n 0, 1) := by decide +kernel
theorem dX2_firstHopefulTile_11 : decode cX2_firstHopefulTile 11 = .ok (.getfield 9, 3) := by decide +kernel
theorem dX2_firstHopefulTile_14 : decode cX2_firstHopefulTile 14 = .ok (.iload_n 3, 1) := by decide +kernel
theorem dX2_firstHopefulTile_15 : decode cX2_firstHopefulTile 15 = .ok (.invokestatic 60, 3) := by decide +kernel
theorem dX2_firstHopefulTile_18 : decode cX2_firstHopefulTile 18 = .ok (.iconst 1, 1) := by decide +kernel
theorem dX2_firstHopefulTile_19 : decode cX2_firstHopefulTile 19 = .ok (.iload_n 2, 1) := by decide +kernel
theorem dX2_firstHopefulTile_20 : decode cX2_firstHopefulTile 20 = .ok (.ishl, 1) := by decide +kernel
theorem dX2_firstHopefulTile_21 : decode cX2_firstHopefulTile 21 = .ok (.invokestatic 68, 3) := by decide +kernel
theorem dX2_firstHopefulTile_24 : decode cX2_firstHopefulTile 24 = .ok (.istore 4, 2) := by decide +kernel
theorem dX2_firstHopefulTile_26 : decode cX2_firstHopefulTile 26 = .ok (.iload_n 1, 1) := by decide +kernel
theorem dX2_firstHopefulTile_27 : decode cX2_firstHopefulTile 27 = .ok (.iconst 1, 1) := by decide +kernel
theorem dX2_firstHopefulTile_28 : decode cX2_firstHopefulTile 28 = .ok (.iload_n 3, 1) := by decide +kernel
theorem dX2_firstHopefulTile_29 : decode cX2_firstHopefulTile 29 = .ok (.ishl, 1) := by decide +kernel
theorem dX2_firstHopefulTile_30 : decode cX2_firstHopefulTile 30 = .ok (.iand, 1) := by decide +kernel
theorem dX2_firstHopefulTile_31 : decode cX2_firstHopefulTile 31 = .ok (.ifCond .ne 23, 3) := by decide +kernel
theorem dX2_firstHopefulTile_34 : decode cX2_firstHopefulTile 34 = .ok (.iload 4, 2) := by decide +kernel
theorem dX2_firstHopefulTile_36 : decode cX2_firstHopefulTile 36 = .ok (.aload_n 0, 1) := by decide +kernel
theorem dX2_firstHopefulTile_37 : decode cX2_firstHopefulTile 37 = .ok (.getfield 21, 3) := by decide +kernel
theorem dX2_firstHopefulTile_40 : decode cX2_firstHopefulTile 40 = .ok (.iload_n 1, 1) := by decide +kernel
theorem dX2_firstHopefulTile_41 : decode cX2_firstHopefulTile 41 = .ok (.iconst 1, 1) := by decide +kernel
theorem dX2_firstHopefulTile_42 : decode cX2_firstHopefulTile 42 = .ok (.iload_n 3, 1) := by decide +kernel
theorem dX2_firstHopefulTile_43 : decode cX2_firstHopefulTile 43 = .ok (.ishl, 1) := by decide +kernel
theorem dX2_firstHopefulTile_44 : decode cX2_firstHopefulTile 44 = .ok (.ior, 1) := by decide +kernel
theorem dX2_firstHopefulTile_45 : decode cX2_firstHopefulTile 45 = .ok (.invokestatic 60, 3) := by decide +kernel
theorem dX2_firstHopefulTile_48 : decode cX2_firstHopefulTile 48 = .ok (.iand, 1) := by decide +kernel
theorem dX2_firstHopefulTile_49 : decode cX2_firstHopefulTile 49 = .ok (.ifCond .eq 5, 3) := by decide +kernel
theorem dX2_firstHopefulTile_52 : decode cX2_firstHopefulTile 52 = .ok (.iload_n 3, 1) := by decide +kernel
theorem dX2_firstHopefulTile_53 : decode cX2_firstHopefulTile 53 = .ok (.ireturn, 1) := by decide +kernel
theorem dX2_firstHopefulTile_54 : decode cX2_firstHopefulTile 54 = .ok (.iinc 3 1, 3) := by decide +kernel
theorem dX2_firstHopefulTile_57 : decode cX2_firstHopefulTile 57 = .ok (.goto (-55), 3) := by decide +kernel
theorem dX2_firstHopefulTile_60 : decode cX2_firstHopefulTile 60 = .ok (.iconst 0, 1) := by decide +kernel
theorem dX2_firstHopefulTile_61 : decode cX2_firstHopefulTile 61 = .ok (.ireturn, 1) := by decide +kernel
set_option maxRecDepth 20000 in
theorem ggX3_init_X5_init : GoodIn wsX3_init wsX5_init := goodIn_r _ [16, 17, 2, 3, 12, 18, 54, 55, 56, 57, 58, 59, 60] rfl (by decide +kernel)
set_option maxRecDepth 20000 in
theorem gX3_init_X5_init_n11 : GoodIn wsX3_init (wsX5_init) := ggX3_init_X5_init
set_option maxRecDepth 20000 in
theorem ggX3_init_X1_init : GoodIn wsX3_init wsX1_init := goodIn_r _ [21, 22, 2, 3, 23, 24, 25, 26, 27, 28, 12, 29, 30, 31, 32, 33, 34, 35, 36, 37, 38, 39, 40, 41, 42, 43, 44, 45, 46, 47, 48, 49, 50, 51, 52, 53, 72, 73, 74, 75, 76, 77, 78, 79, 80, 81, 82, 83, 84, 85, 86, 87, 88, 89, 90, 91, 92, 93, 94, 95] rfl (by decide +kernel)
set_option maxRecDepth 20000 in
theorem gX3_init_X1_init : GoodIn wsX3_init (wsX1_init) := ggX3_init_X1_init
theorem dX3_init_0 : decode cX3_init 0 = .ok (.aload_n 0, 1) := by decide +kernel
theorem dX3_init_1 : decode cX3_init 1 = .ok (.invokespecial 3, 3) := by decide +kernel
theorem dX3_init_4 : decode cX3_init 4 = .ok (.aload_n 0, 1) := by decide +kernel
theorem dX3_init_5 : decode cX3_init 5 = .ok (.new 9, 3) := by decide +kernel
theorem dX3_init_8 : decode cX3_init 8 = .ok (.dup, 1) := by decide +kernel
theorem dX3_init_9 : decode cX3_init 9 = .ok (.invokespecial 11, 3) := by decide +kernel
theorem dX3_init_12 : decode cX3_init 12 = .ok (.putfield 12, 3) := by decide +kernel
theorem dX3_init_15 : decode cX3_init 15 = .ok (.aload_n 0, 1) := by decide +kernel
theorem dX3_init_16 : decode cX3_init 16 = .ok (.new 18, 3) := by decide +kernel
theorem dX3_init_19 : decode cX3_init 19 = .ok (.dup, 1) := by decide +kernel
theorem dX3_init_20 : decode cX3_init 20 = .ok (.invokespecial 20, 3) := by decide +kernel
theorem dX3_init_23 : decode cX3_init 23 = .ok (.putfield 21, 3) := by decide +kernel
theorem dX3_init_26 : decode cX3_init 26 = .ok (.aload_n 0, 1) := by decide +kernel
theorem dX3_init_27 : decode cX3_init 27 = .ok (.sipush 500, 3) := by decide +kernel
theorem dX3_init_30 : decode cX3_init 30 = .ok (.newarray .int, 2) := by decide +kernel
theorem dX3_init_32 : decode cX3_init 32 = .ok (.putfield 25, 3) := by decide +kernel
theorem dX3_init_35 : decode cX3_init 35 = .ok (.aload_n 0, 1) := by decide +kernel
theorem dX3_init_36 : decode cX3_init 36 = .ok (.iconst (-1), 1) := by decide +kernel
theorem dX3_init_37 : decode cX3_init 37 = .ok (.putfield 29, 3) := by decide +kernel
theorem dX3_init_40 : decode cX3_init 40 = .ok (.return_, 1) := by decide +kernel
set_option maxRecDepth 20000 in
theorem ggX3_read_X1_clearHands : GoodIn wsX3_read wsX1_clearHands := goodIn_r _ [18, 19, 20, 21, 22, 23, 229, 230, 231, 232, 233, 234, 235, 236, 237, 238, 239, 240, 241, 242, 243, 244] rfl (by decide +kernel)
set_option maxRecDepth 20000 in
theorem gX3_read_X1_clearHands : GoodIn wsX3_read (wsV RX3 33 RX1 yX1_clearHands wsX1_clearHands) := goodIn_app (goodIn_of _ (by decide +kernel)) ggX3_read_X1_clearHands
set_option maxRecDepth 20000 in
theorem ggX3_read_X5_begin : GoodIn wsX3_read wsX5_begin := goodIn_r _ [28, 29, 30, 31, 32, 33, 34, 35, 36, 37, 38, 39, 40, 41, 27, 42, 43, 44, 45, 46, 245, 246, 247, 248, 249, 250, 251] rfl (by decide +kernel)
set_option maxRecDepth 20000 in
theorem gX3_read_X5_begin : GoodIn wsX3_read (wsV RX3 59 RX5 yX5_begin wsX5_begin) := goodIn_app (goodIn_of _ (by decide +kernel)) ggX3_read_X5_begin
set_option maxRecDepth 20000 in
theorem ggX3_read_X3_readHead : GoodIn wsX3_read wsX3_readHead := goodIn_r _ [51, 9, 1, 52, 53, 54, 55, 27, 56, 46, 38, 43, 29, 57, 58, 59, 60, 61, 62, 63, 64, 65, 66, 67, 68, 69, 70, 71, 72, 73, 74, 75, 76, 77, 78, 79, 80, 81, 82, 83, 84, 85, 86, 87, 88, 89, 90, 91, 92, 93, 94, 95, 96, 97, 98, 99, 100, 101, 102, 103, 104, 105, 106, 107, 108, 50, 109, 7, 8, 110, 40, 41, 42, 37, 44, 45, 111, 112, 113, 114, 115, 116, 117, 118, 119, 120, 121, 122, 123, 124, 125, 126, 218, 219, 220, 221, 222, 223, 224, 225, 226, 227, 228, 245, 246, 247, 248, 249, 250, 251, 229, 230, 231, 232, 233, 234, 235, 236, 237, 238, 239, 240, 241, 242, 243, 244] rfl (by decide +kernel)
set_option maxRecDepth 20000 in
theorem gX3_read_X3_readHead : GoodIn wsX3_read (wsV RX3 63 RX3 yX3_readHead wsX3_readHead) := goodIn_app (goodIn_of _ (by decide +kernel)) ggX3_read_X3_readHead
set_option maxRecDepth 20000 in
theorem ggX3_read_X3_readStatement : GoodIn wsX3_read wsX3_readStatement := goodIn_r _ [130, 9, 2, 6, 3, 4, 53, 54, 55, 27, 56, 46, 38, 43, 29, 57, 58, 59, 60, 61, 62, 63, 64, 65, 66, 67, 68, 69, 70, 71, 72, 73, 74, 75, 76, 77, 78, 79, 80, 81, 82, 83, 84, 85, 86, 87, 88, 89, 90, 91, 92, 93, 94, 95, 96, 97, 98, 99, 100, 101, 102, 103, 104, 105, 131, 132, 133, 50, 134, 1, 52, 110, 40, 41, 42, 37, 44, 45, 111, 112, 113, 114, 115, 116, 117, 118, 106, 107, 108, 109, 7, 8, 135, 136, 137, 138, 139, 140, 141, 142, 143, 144, 145, 146, 147, 31, 32, 33, 148, 35, 36, 119, 120, 121, 122, 123, 124, 125, 126, 149, 150, 151, 17, 152, 153, 154, 155, 156, 157, 19, 158, 159, 160, 161, 162, 163, 164, 165, 166, 167, 168, 169, 170, 171, 172, 173, 174, 175, 176, 177, 178, 179, 180, 181, 182, 183, 5, 13, 184, 185, 186, 187, 188, 189, 190, 191, 192, 218, 219, 220, 221, 222, 223, 224, 225, 226, 227, 228, 245, 246, 247, 248, 249, 250, 251, 229, 230, 231, 232, 233, 234, 235, 236, 237, 238, 239, 240, 241, 242, 243, 244] rfl (by decide +kernel)
set_option maxRecDepth 20000 in
theorem gX3_read_X3_readStatement : GoodIn wsX3_read (wsV RX3 70 RX3 yX3_readStatement wsX3_readStatement) := goodIn_app (goodIn_of _ (by decide +kernel)) ggX3_read_X3_readStatement
set_option maxRecDepth 20000 in
theorem ggX3_read_X3_takeSign : GoodIn wsX3_read wsX3_takeSign := goodIn_r _ [122, 9, 123, 124, 125, 27, 126, 46, 43, 29, 106, 107, 108, 50, 109, 7, 8, 110, 40, 41, 42, 37, 38, 44, 45, 218, 219, 220, 221, 222, 223, 224, 225, 226, 227, 228, 245, 246, 247, 248, 249, 250, 251] rfl (by decide +kernel)
set_option maxRecDepth 20000 in
theorem gX3_read_X3_takeSign : GoodIn wsX3_read (wsV RX3 73 RX3 yX3_takeSign wsX3_takeSign) := goodIn_app (goodIn_of _ (by decide +kernel)) ggX3_read_X3_takeSign
set_option maxRecDepth 20000 in
theorem ggX3_read_X0_init : GoodIn wsX3_read wsX0_init := goodIn_r _ [195, 196, 197, 198, 199, 200, 201, 31, 32, 33, 202, 35, 36, 203, 204, 205, 22, 206, 207, 208, 209, 210, 211, 212, 213, 214, 215, 216, 217, 252, 253] rfl (by decide +kernel)
set_option maxRecDepth 20000 in
theorem gX3_read_X0_init : GoodIn wsX3_read (wsX0_init) := ggX3_read_X0_init
theorem dX3_read_0 : decode cX3_read 0 = .ok (.aload_n 0, 1) := by decide +kernel
theorem dX3_read_1 : decode cX3_read 1 = .ok (.getfield 21, 3) := by decide +kernel
theorem dX3_read_4 : decode cX3_read 4 = .ok (.invokevirtual 33, 3) := by decide +kernel
theorem dX3_read_7 : decode cX3_read 7 = .ok (.aload_n 0, 1) := by decide +kernel
theorem dX3_read_8 : decode cX3_read 8 = .ok (.getfield 21, 3) := by decide +kernel
theorem dX3_read_11 : decode cX3_read 11 = .ok (.aconst_null, 1) := by decide +kernel
theorem dX3_read_12 : decode cX3_read 12 = .ok (.putfield 36, 3) := by decide +kernel
theorem dX3_read_15 : decode cX3_read 15 = .ok (.aload_n 0, 1) := by decide +kernel
theorem dX3_read_16 : decode cX3_read 16 = .ok (.iconst 0, 1) := by decide +kernel
theorem dX3_read_17 : decode cX3_read 17 = .ok (.putfield 40, 3) := by decide +kernel
theorem dX3_read_20 : decode cX3_read 20 = .ok (.aload_n 0, 1) := by decide +kernel
theorem dX3_read_21 : decode cX3_read 21 = .ok (.iconst 0, 1) := by decide +kernel
theorem dX3_read_22 : decode cX3_read 22 = .ok (.putfield 44, 3) := by decide +kernel
theorem dX3_read_25 : decode cX3_read 25 = .ok (.aload_n 0, 1) := by decide +kernel
theorem dX3_read_26 : decode cX3_read 26 = .ok (.iconst 0, 1) := by decide +kernel
theorem dX3_read_27 : decode cX3_read 27 = .ok (.putfield 47, 3) := by decide +kernel
theorem dX3_read_30 : decode cX3_read 30 = .ok (.aload_n 0, 1) := by decide +kernel
theorem dX3_read_31 : decode cX3_read 31 = .ok (.iconst 0, 1) := by decide +kernel
theorem dX3_read_32 : decode cX3_read 32 = .ok (.putfield 50, 3) := by decide +kernel
theorem dX3_read_35 : decode cX3_read 35 = .ok (.aload_n 0, 1) := by decide +kernel
theorem dX3_read_36 : decode cX3_read 36 = .ok (.iconst 0, 1) := by decide +kernel
theorem dX3_read_37 : decode cX3_read 37 = .ok (.putfield 53, 3) := by decide +kernel
theorem dX3_read_40 : decode cX3_read 40 = .ok (.aload_n 0, 1) := by decide +kernel
theorem dX3_read_41 : decode cX3_read 41 = .ok (.iconst 0, 1) := by decide +kernel
theorem dX3_read_42 : decode cX3_read 42 = .ok (.putfield 56, 3) := by decide +kernel
theorem dX3_read_45 : decode cX3_read 45 = .ok (.aload_n 0, 1) := by decide +kernel
theorem dX3_read_46 : decode cX3_read 46 = .ok (.iconst (-1), 1) := by decide +kernel
theorem dX3_read_47 : decode cX3_read 47 = .ok (.putfield 29, 3) := by decide +kernel
theorem dX3_read_50 : decode cX3_read 50 = .ok (.aload_n 0, 1) := by decide +kernel
theorem dX3_read_51 : decode cX3_read 51 = .ok (.getfield 12, 3) := by decide +kernel
theorem dX3_read_54 : decode cX3_read 54 = .ok (.iload_n 1, 1) := by decide +kernel
theorem dX3_read_55 : decode cX3_read 55 = .ok (.invokevirtual 59, 3) := by decide +kernel
theorem dX3_read_58 : decode cX3_read 58 = .ok (.aload_n 0, 1) := by decide +kernel
theorem dX3_read_59 : decode cX3_read 59 = .ok (.invokevirtual 63, 3) := by decide +kernel
theorem dX3_read_62 : decode cX3_read 62 = .ok (.istore_n 2, 1) := by decide +kernel
theorem dX3_read_63 : decode cX3_read 63 = .ok (.iconst 0, 1) := by decide +kernel
theorem dX3_read_64 : decode cX3_read 64 = .ok (.istore_n 3, 1) := by decide +kernel
theorem dX3_read_65 : decode cX3_read 65 = .ok (.iload_n 2, 1) := by decide +kernel
theorem dX3_read_66 : decode cX3_read 66 = .ok (.ifCond .eq 48, 3) := by decide +kernel
theorem dX3_read_69 : decode cX3_read 69 = .ok (.aload_n 0, 1) := by decide +kernel
theorem dX3_read_70 : decode cX3_read 70 = .ok (.getfield 12, 3) := by decide +kernel
theorem dX3_read_73 : decode cX3_read 73 = .ok (.getfield 67, 3) := by decide +kernel
theorem dX3_read_76 : decode cX3_read 76 = .ok (.ifCond .eq 38, 3) := by decide +kernel
theorem dX3_read_79 : decode cX3_read 79 = .ok (.iload_n 3, 1) := by decide +kernel
theorem dX3_read_80 : decode cX3_read 80 = .ok (.sipush 500, 3) := by decide +kernel
theorem dX3_read_83 : decode cX3_read 83 = .ok (.if_icmp .ge 31, 3) := by decide +kernel
theorem dX3_read_86 : decode cX3_read 86 = .ok (.aload_n 0, 1) := by decide +kernel
theorem dX3_read_87 : decode cX3_read 87 = .ok (.invokevirtual 70, 3) := by decide +kernel
theorem dX3_read_90 : decode cX3_read 90 = .ok (.ifCond .eq 16, 3) := by decide +kernel
theorem dX3_read_93 : decode cX3_read 93 = .ok (.aload_n 0, 1) := by decide +kernel
theorem dX3_read_94 : decode cX3_read 94 = .ok (.bipush 59, 2) := by decide +kernel
theorem dX3_read_96 : decode cX3_read 96 = .ok (.invokevirtual 73, 3) := by decide +kernel
theorem dX3_read_99 : decode cX3_read 99 = .ok (.ifCond .eq 7, 3) := by decide +kernel
theorem dX3_read_102 : decode cX3_read 102 = .ok (.iconst 1, 1) := by decide +kernel
theorem dX3_read_103 : decode cX3_read 103 = .ok (.goto 4, 3) := by decide +kernel
theorem dX3_read_106 : decode cX3_read 106 = .ok (.iconst 0, 1) := by decide +kernel
theorem dX3_read_107 : decode cX3_read 107 = .ok (.istore_n 2, 1) := by decide +kernel
theorem dX3_read_108 : decode cX3_read 108 = .ok (.iinc 3 1, 3) := by decide +kernel
theorem dX3_read_111 : decode cX3_read 111 = .ok (.goto (-46), 3) := by decide +kernel
theorem dX3_read_114 : decode cX3_read 114 = .ok (.iload_n 2, 1) := by decide +kernel
theorem dX3_read_115 : decode cX3_read 115 = .ok (.ifCond .eq 32, 3) := by decide +kernel
theorem dX3_read_118 : decode cX3_read 118 = .ok (.aload_n 0, 1) := by decide +kernel
theorem dX3_read_119 : decode cX3_read 119 = .ok (.getfield 47, 3) := by decide +kernel
theorem dX3_read_122 : decode cX3_read 122 = .ok (.ifCond .eq 25, 3) := by decide +kernel
theorem dX3_read_125 : decode cX3_read 125 = .ok (.aload_n 0, 1) := by decide +kernel
theorem dX3_read_126 : decode cX3_read 126 = .ok (.getfield 21, 3) := by decide +kernel
theorem dX3_read_129 : decode cX3_read 129 = .ok (.new 77, 3) := by decide +kernel
theorem dX3_read_132 : decode cX3_read 132 = .ok (.dup, 1) := by decide +kernel
theorem dX3_read_133 : decode cX3_read 133 = .ok (.aload_n 0, 1) := by decide +kernel
theorem dX3_read_134 : decode cX3_read 134 = .ok (.getfield 25, 3) := by decide +kernel
theorem dX3_read_137 : decode cX3_read 137 = .ok (.aload_n 0, 1) := by decide +kernel
theorem dX3_read_138 : decode cX3_read 138 = .ok (.getfield 50, 3) := by decide +kernel
theorem dX3_read_141 : decode cX3_read 141 = .ok (.invokespecial 79, 3) := by decide +kernel
theorem dX3_read_144 : decode cX3_read 144 = .ok (.putfield 36, 3) := by decide +kernel
theorem dX3_read_147 : decode cX3_read 147 = .ok (.aload_n 0, 1) := by decide +kernel
theorem dX3_read_148 : decode cX3_read 148 = .ok (.getfield 12, 3) := by decide +kernel
theorem dX3_read_151 : decode cX3_read 151 = .ok (.iconst 0, 1) := by decide +kernel
theorem dX3_read_152 : decode cX3_read 152 = .ok (.putfield 82, 3) := by decide +kernel
theorem dX3_read_155 : decode cX3_read 155 = .ok (.aload_n 0, 1) := by decide +kernel
theorem dX3_read_156 : decode cX3_read 156 = .ok (.getfield 56, 3) := by decide +kernel
theorem dX3_read_159 : decode cX3_read 159 = .ok (.ireturn, 1) := by decide +kernel
set_option maxRecDepth 20000 in
theorem ggX3_readHead_X5_isWord : GoodIn wsX3_readHead wsX5_isWord := goodIn_r _ [8, 9, 10, 11, 12, 13, 14, 15, 16, 17, 18, 19, 20, 21, 22, 23, 24, 25, 26, 27, 28, 29, 30, 31, 32, 33, 34, 35, 36, 37, 38, 39, 40, 41, 42, 43, 44, 45, 46, 47, 48, 49, 50, 51, 52, 53, 54, 55, 56, 57, 58, 59, 60, 61, 103, 104, 105, 106, 107, 108, 109] rfl (by decide +kernel)
set_option maxRecDepth 20000 in
theorem gX3_readHead_X5_isWord : GoodIn wsX3_readHead (wsV RX3 87 RX5 yX5_isWord wsX5_isWord) := goodIn_app (goodIn_of _ (by decide +kernel)) ggX3_readHead_X5_isWord
set_option maxRecDepth 20000 in
theorem ggX3_readHead_X3_fail : GoodIn wsX3_readHead wsX3_fail := goodIn_r _ [66, 67, 68, 92, 93, 94, 95, 96, 97, 98, 99, 100, 101, 102] rfl (by decide +kernel)
set_option maxRecDepth 20000 in
theorem gX3_readHead_X3_fail : GoodIn wsX3_readHead (wsV RX3 94 RX3 yX3_fail wsX3_fail) := goodIn_app (goodIn_of _ (by decide +kernel)) ggX3_readHead_X3_fail
set_option maxRecDepth 20000 in
theorem ggX3_readHead_X5_advance : GoodIn wsX3_readHead wsX5_advance := goodIn_r _ [72, 73, 12, 10, 11, 74, 75, 9, 103, 104, 105, 106, 107, 108, 109] rfl (by decide +kernel)
set_option maxRecDepth 20000 in
theorem gX3_readHead_X5_advance : GoodIn wsX3_readHead (wsV RX3 98 RX5 yX5_advance wsX5_advance) := goodIn_app (goodIn_of _ (by decide +kernel)) ggX3_readHead_X5_advance
set_option maxRecDepth 20000 in
theorem ggX3_readHead_X3_takeNumber : GoodIn wsX3_readHead wsX3_takeNumber := goodIn_r _ [79, 1, 3, 80, 81, 82, 7, 83, 9, 62, 63, 64, 65, 66, 67, 68, 69, 70, 71, 72, 73, 12, 10, 11, 74, 75, 92, 93, 94, 95, 96, 97, 98, 99, 100, 101, 102, 103, 104, 105, 106, 107, 108, 109] rfl (by decide +kernel)
set_option maxRecDepth 20000 in
theorem gX3_readHead_X3_takeNumber : GoodIn wsX3_readHead (wsV RX3 101 RX3 yX3_takeNumber wsX3_takeNumber) := goodIn_app (goodIn_of _ (by decide +kernel)) ggX3_readHead_X3_takeNumber
set_option maxRecDepth 20000 in
theorem ggX3_readHead_X3_takeSign : GoodIn wsX3_readHead wsX3_takeSign := goodIn_r _ [87, 1, 88, 89, 90, 7, 91, 9, 11, 12, 62, 63, 64, 65, 66, 67, 68, 69, 70, 71, 72, 73, 10, 74, 75, 92, 93, 94, 95, 96, 97, 98, 99, 100, 101, 102, 103, 104, 105, 106, 107, 108, 109] rfl (by decide +kernel)
set_option maxRecDepth 20000 in
theorem gX3_readHead_X3_takeSign : GoodIn wsX3_readHead (wsV RX3 73 RX3 yX3_takeSign wsX3_takeSign) := goodIn_app (goodIn_of _ (by decide +kernel)) ggX3_readHead_X3_takeSign
theorem dX3_readHead_0 : decode cX3_readHead 0 = .ok (.aload_n 0, 1) := by decide +kernel
theorem dX3_readHead_1 : decode cX3_readHead 1 = .ok (.getfield 12, 3) := by decide +kernel
theorem dX3_readHead_4 : decode cX3_readHead 4 = .ok (.ldc 85, 2) := by decide +kernel
theorem dX3_readHead_6 : decode cX3_readHead 6 = .ok (.invokevirtual 87, 3) := by decide +kernel
theorem dX3_readHead_9 : decode cX3_readHead 9 = .ok (.ifCond .ne 17, 3) := by decide +kernel
theorem dX3_readHead_12 : decode cX3_readHead 12 = .ok (.aload_n 0, 1) := by decide +kernel
theorem dX3_readHead_13 : decode cX3_readHead 13 = .ok (.bipush (-2), 2) := by decide +kernel
theorem dX3_readHead_15 : decode cX3_readHead 15 = .ok (.aload_n 0, 1) := by decide +kernel
theorem dX3_readHead_16 : decode cX3_readHead 16 = .ok (.getfield 12, 3) := by decide +kernel
theorem dX3_readHead_19 : decode cX3_readHead 19 = .ok (.getfield 91, 3) := by decide +kernel
theorem dX3_readHead_22 : decode cX3_readHead 22 = .ok (.invokevirtual 94, 3) := by decide +kernel
theorem dX3_readHead_25 : decode cX3_readHead 25 = .ok (.ireturn, 1) := by decide +kernel
theorem dX3_readHead_26 : decode cX3_readHead 26 = .ok (.aload_n 0, 1) := by decide +kernel
theorem dX3_readHead_27 : decode cX3_readHead 27 = .ok (.getfield 12, 3) := by decide +kernel
theorem dX3_readHead_30 : decode cX3_readHead 30 = .ok (.invokevirtual 98, 3) := by decide +kernel
theorem dX3_readHead_33 : decode cX3_readHead 33 = .ok (.aload_n 0, 1) := by decide +kernel
theorem dX3_readHead_34 : decode cX3_readHead 34 = .ok (.iconst 3, 1) := by decide +kernel
theorem dX3_readHead_35 : decode cX3_readHead 35 = .ok (.bipush 9, 2) := by decide +kernel
theorem dX3_readHead_37 : decode cX3_readHead 37 = .ok (.invokevirtual 101, 3) := by decide +kernel
theorem dX3_readHead_40 : decode cX3_readHead 40 = .ok (.ifCond .ne 5, 3) := by decide +kernel
theorem dX3_readHead_43 : decode cX3_readHead 43 = .ok (.iconst 0, 1) := by decide +kernel
theorem dX3_readHead_44 : decode cX3_readHead 44 = .ok (.ireturn, 1) := by decide +kernel
theorem dX3_readHead_45 : decode cX3_readHead 45 = .ok (.aload_n 0, 1) := by decide +kernel
theorem dX3_readHead_46 : decode cX3_readHead 46 = .ok (.getfield 21, 3) := by decide +kernel
theorem dX3_readHead_49 : decode cX3_readHead 49 = .ok (.aload_n 0, 1) := by decide +kernel
theorem dX3_readHead_50 : decode cX3_readHead 50 = .ok (.getfield 104, 3) := by decide +kernel
theorem dX3_readHead_53 : decode cX3_readHead 53 = .ok (.putfield 107, 3) := by decide +kernel
theorem dX3_readHead_56 : decode cX3_readHead 56 = .ok (.aload_n 0, 1) := by decide +kernel
theorem dX3_readHead_57 : decode cX3_readHead 57 = .ok (.getfield 21, 3) := by decide +kernel
theorem dX3_readHead_60 : decode cX3_readHead 60 = .ok (.aload_n 0, 1) := by decide +kernel
theorem dX3_readHead_61 : decode cX3_readHead 61 = .ok (.getfield 104, 3) := by decide +kernel
theorem dX3_readHead_64 : decode cX3_readHead 64 = .ok (.putfield 110, 3) := by decide +kernel
theorem dX3_readHead_67 : decode cX3_readHead 67 = .ok (.aload_n 0, 1) := by decide +kernel
theorem dX3_readHead_68 : decode cX3_readHead 68 = .ok (.getfield 21, 3) := by decide +kernel
theorem dX3_readHead_71 : decode cX3_readHead 71 = .ok (.iconst 1, 1) := by decide +kernel
theorem dX3_readHead_72 : decode cX3_readHead 72 = .ok (.putfield 113, 3) := by decide +kernel
theorem dX3_readHead_75 : decode cX3_readHead 75 = .ok (.aload_n 0, 1) := by decide +kernel
theorem dX3_readHead_76 : decode cX3_readHead 76 = .ok (.iconst 2, 1) := by decide +kernel
theorem dX3_readHead_77 : decode cX3_readHead 77 = .ok (.iconst 4, 1) := by decide +kernel
theorem dX3_readHead_78 : decode cX3_readHead 78 = .ok (.invokevirtual 101, 3) := by decide +kernel
theorem dX3_readHead_81 : decode cX3_readHead 81 = .ok (.ifCond .ne 5, 3) := by decide +kernel
theorem dX3_readHead_84 : decode cX3_readHead 84 = .ok (.iconst 0, 1) := by decide +kernel
theorem dX3_readHead_85 : decode cX3_readHead 85 = .ok (.ireturn, 1) := by decide +kernel
theorem dX3_readHead_86 : decode cX3_readHead 86 = .ok (.aload_n 0, 1) := by decide +kernel
theorem dX3_readHead_87 : decode cX3_readHead 87 = .ok (.getfield 21, 3) := by decide +kernel
theorem dX3_readHead_90 : decode cX3_readHead 90 = .ok (.aload_n 0, 1) := by decide +kernel
theorem dX3_readHead_91 : decode cX3_readHead 91 = .ok (.getfield 104, 3) := by decide +kernel
theorem dX3_readHead_94 : decode cX3_readHead 94 = .ok (.putfield 116, 3) := by decide +kernel
theorem dX3_readHead_97 : decode cX3_readHead 97 = .ok (.aload_n 0, 1) := by decide +kernel
theorem dX3_readHead_98 : decode cX3_readHead 98 = .ok (.iconst 1, 1) := by decide +kernel
theorem dX3_readHead_99 : decode cX3_readHead 99 = .ok (.bipush 12, 2) := by decide +kernel
theorem dX3_readHead_101 : decode cX3_readHead 101 = .ok (.invokevirtual 101, 3) := by decide +kernel
theorem dX3_readHead_104 : decode cX3_readHead 104 = .ok (.ifCond .ne 5, 3) := by decide +kernel
theorem dX3_readHead_107 : decode cX3_readHead 107 = .ok (.iconst 0, 1) := by decide +kernel
theorem dX3_readHead_108 : decode cX3_readHead 108 = .ok (.ireturn, 1) := by decide +kernel
theorem dX3_readHead_109 : decode cX3_readHead 109 = .ok (.aload_n 0, 1) := by decide +kernel
theorem dX3_readHead_110 : decode cX3_readHead 110 = .ok (.getfield 21, 3) := by decide +kernel
theorem dX3_readHead_113 : decode cX3_readHead 113 = .ok (.aload_n 0, 1) := by decide +kernel
theorem dX3_readHead_114 : decode cX3_readHead 114 = .ok (.getfield 104, 3) := by decide +kernel
theorem dX3_readHead_117 : decode cX3_readHead 117 = .ok (.putfield 119, 3) := by decide +kernel
theorem dX3_readHead_120 : decode cX3_readHead 120 = .ok (.aload_n 0, 1) := by decide +kernel
theorem dX3_readHead_121 : decode cX3_readHead 121 = .ok (.bipush 59, 2) := by decide +kernel
theorem dX3_readHead_123 : decode cX3_readHead 123 = .ok (.invokevirtual 73, 3) := by decide +kernel
theorem dX3_readHead_126 : decode cX3_readHead 126 = .ok (.ireturn, 1) := by decide +kernel
set_option maxRecDepth 20000 in
theorem ggX3_readStatement_X5_isWord : GoodIn wsX3_readStatement wsX5_isWord := goodIn_r _ [10, 11, 12, 13, 14, 15, 16, 17, 18, 19, 20, 21, 22, 23, 24, 25, 26, 27, 28, 29, 30, 31, 32, 33, 34, 35, 36, 37, 38, 39, 40, 41, 42, 43, 44, 45, 46, 47, 48, 49, 50, 51, 52, 53, 54, 55, 56, 57, 58, 59, 60, 61, 62, 63, 178, 179, 180, 181, 182, 183, 184] rfl (by decide +kernel)
set_option maxRecDepth 20000 in
theorem gX3_readStatement_X5_isWord : GoodIn wsX3_readStatement (wsV RX3 87 RX5 yX5_isWord wsX5_isWord) := goodIn_app (goodIn_of _ (by decide +kernel)) ggX3_readStatement_X5_isWord
set_option maxRecDepth 20000 in
theorem ggX3_readStatement_X3_readHub : GoodIn wsX3_readStatement wsX3_readHub := goodIn_r _ [68, 2, 1, 69, 70, 71, 72, 73, 9, 74, 75, 14, 12, 13, 76, 77, 11, 78, 79, 80, 67, 81, 82, 83, 84, 85, 86, 87, 88, 89, 90, 91, 167, 168, 169, 170, 171, 172, 173, 174, 175, 176, 177, 185, 186, 187, 188, 189, 190, 191, 192, 193, 194, 195, 196, 197, 198, 199, 200, 178, 179, 180, 181, 182, 183, 184] rfl (by decide +kernel)
set_option maxRecDepth 20000 in
theorem gX3_readStatement_X3_readHub : GoodIn wsX3_readStatement (wsV RX3 123 RX3 yX3_readHub wsX3_readHub) := goodIn_app (goodIn_of _ (by decide +kernel)) ggX3_readStatement_X3_readHub
set_option maxRecDepth 20000 in
theorem ggX3_readStatement_X3_readSeed : GoodIn wsX3_readStatement wsX3_readSeed := goodIn_r _ [95, 4, 1, 69, 70, 71, 72, 73, 9, 74, 75, 14, 12, 13, 76, 77, 11, 78, 79, 80, 67, 81, 82, 83, 84, 85, 86, 87, 88, 89, 90, 91, 167, 168, 169, 170, 171, 172, 173, 174, 175, 176, 177, 185, 186, 187, 188, 189, 190, 191, 192, 193, 194, 195, 196, 197, 198, 199, 200, 178, 179, 180, 181, 182, 183, 184] rfl (by decide +kernel)
set_option maxRecDepth 20000 in
theorem gX3_readStatement_X3_readSeed : GoodIn wsX3_readStatement (wsV RX3 127 RX3 yX3_readSeed wsX3_readSeed) := goodIn_app (goodIn_of _ (by decide +kernel)) ggX3_readStatement_X3_readSeed
set_option maxRecDepth 20000 in
theorem ggX3_readStatement_X3_readGive : GoodIn wsX3_readStatement wsX3_readGive := goodIn_r _ [99, 3, 1, 69, 70, 71, 72, 73, 9, 74, 75, 14, 12, 13, 76, 77, 11, 78, 79, 80, 67, 81, 82, 83, 84, 85, 86, 87, 88, 89, 90, 91, 100, 101, 102, 103, 104, 105, 106, 107, 108, 109, 110, 111, 112, 113, 114, 115, 116, 117, 118, 119, 120, 121, 122, 123, 124, 125, 126, 127, 128, 129, 130, 131, 132, 133, 134, 135, 136, 137, 138, 139, 140, 141, 142, 143, 144, 167, 168, 169, 170, 171, 172, 173, 174, 175, 176, 177, 185, 186, 187, 188, 189, 190, 191, 192, 193, 194, 195, 196, 197, 198, 199, 200, 178, 179, 180, 181, 182, 183, 184] rfl (by decide +kernel)
set_option maxRecDepth 20000 in
theorem gX3_readStatement_X3_readGive : GoodIn wsX3_readStatement (wsV RX3 132 RX3 yX3_readGive wsX3_readGive) := goodIn_app (goodIn_of _ (by decide +kernel)) ggX3_readStatement_X3_readGive
set_option maxRecDepth 20000 in
theorem ggX3_readStatement_X5_advance : GoodIn wsX3_readStatement wsX5_advance := goodIn_r _ [74, 75, 14, 12, 13, 76, 77, 11, 178, 179, 180, 181, 182, 183, 184] rfl (by decide +kernel)
set_option maxRecDepth 20000 in
theorem gX3_readStatement_X5_advance : GoodIn wsX3_readStatement (wsV RX3 98 RX5 yX5_advance wsX5_advance) := goodIn_app (goodIn_of _ (by decide +kernel)) ggX3_readStatement_X5_advance
set_option maxRecDepth 20000 in
theorem ggX3_readStatement_X3_readSum : GoodIn wsX3_readStatement wsX3_readSum := goodIn_r _ [148, 1, 149, 150, 151, 67, 115, 116, 117, 9, 118, 11, 13, 14, 71, 72, 73, 74, 75, 12, 76, 77, 152, 153, 154, 155, 156, 157, 143, 131, 144, 158, 70, 86, 87, 88, 89, 90, 91, 145, 146, 147, 111, 112, 113, 114, 82, 83, 84, 85, 78, 79, 80, 81, 159, 160, 161, 162, 6, 7, 8, 10, 15, 16, 17, 18, 19, 20, 21, 22, 23, 24, 25, 26, 27, 28, 29, 30, 31, 32, 33, 34, 35, 36, 37, 38, 39, 40, 41, 42, 43, 44, 45, 46, 47, 48, 49, 50, 51, 52, 53, 54, 55, 56, 57, 58, 59, 60, 61, 62, 63, 163, 164, 165, 166, 167, 168, 169, 170, 171, 172, 173, 174, 175, 176, 177, 178, 179, 180, 181, 182, 183, 184] rfl (by decide +kernel)
set_option maxRecDepth 20000 in
theorem gX3_readStatement_X3_readSum : GoodIn wsX3_readStatement (wsV RX3 137 RX3 yX3_readSum wsX3_readSum) := goodIn_app (goodIn_of _ (by decide +kernel)) ggX3_readStatement_X3_readSum
set_option maxRecDepth 20000 in
theorem ggX3_readStatement_X3_fail : GoodIn wsX3_readStatement wsX3_fail := goodIn_r _ [89, 90, 91, 167, 168, 169, 170, 171, 172, 173, 174, 175, 176, 177] rfl (by decide +kernel)
set_option maxRecDepth 20000 in
theorem gX3_readStatement_X3_fail : GoodIn wsX3_readStatement (wsV RX3 94 RX3 yX3_fail wsX3_fail) := goodIn_app (goodIn_of _ (by decide +kernel)) ggX3_readStatement_X3_fail
theorem dX3_readStatement_0 : decode cX3_readStatement 0 = .ok (.aload_n 0, 1) := by decide +kernel
theorem dX3_readStatement_1 : decode cX3_readStatement 1 = .ok (.getfield 12, 3) := by decide +kernel
theorem dX3_readStatement_4 : decode cX3_readStatement 4 = .ok (.ldc 122, 2) := by decide +kernel
theorem dX3_readStatement_6 : decode cX3_readStatement 6 = .ok (.invokevirtual 87, 3) := by decide +kernel
theorem dX3_readStatement_9 : decode cX3_readStatement 9 = .ok (.ifCond .eq 22, 3) := by decide +kernel
theorem dX3_readStatement_12 : decode cX3_readStatement 12 = .ok (.aload_n 0, 1) := by decide +kernel
theorem dX3_readStatement_13 : decode cX3_readStatement 13 = .ok (.getfield 40, 3) := by decide +kernel
theorem dX3_readStatement_16 : decode cX3_readStatement 16 = .ok (.ifCond .ne 15, 3) := by decide +kernel
theorem dX3_readStatement_19 : decode cX3_readStatement 19 = .ok (.aload_n 0, 1) := by decide +kernel
theorem dX3_readStatement_20 : decode cX3_readStatement 20 = .ok (.getfield 53, 3) := by decide +kernel
theorem dX3_readStatement_23 : decode cX3_readStatement 23 = .ok (.ifCond .ne 8, 3) := by decide +kernel
theorem dX3_readStatement_26 : decode cX3_readStatement 26 = .ok (.aload_n 0, 1) := by decide +kernel
theorem dX3_readStatement_27 : decode cX3_readStatement 27 = .ok (.invokevirtual 123, 3) := by decide +kernel
theorem dX3_readStatement_30 : decode cX3_readStatement 30 = .ok (.ireturn, 1) := by decide +kernel
theorem dX3_readStatement_31 : decode cX3_readStatement 31 = .ok (.aload_n 0, 1) := by decide +kernel
theorem dX3_readStatement_32 : decode cX3_readStatement 32 = .ok (.getfield 12, 3) := by decide +kernel
theorem dX3_readStatement_35 : decode cX3_readStatement 35 = .ok (.ldc 126, 2) := by decide +kernel
theorem dX3_readStatement_37 : decode cX3_readStatement 37 = .ok (.invokevirtual 87, 3) := by decide +kernel
theorem dX3_readStatement_40 : decode cX3_readStatement 40 = .ok (.ifCond .eq 15, 3) := by decide +kernel
theorem dX3_readStatement_43 : decode cX3_readStatement 43 = .ok (.aload_n 0, 1) := by decide +kernel
theorem dX3_readStatement_44 : decode cX3_readStatement 44 = .ok (.getfield 44, 3) := by decide +kernel
theorem dX3_readStatement_47 : decode cX3_readStatement 47 = .ok (.ifCond .ne 8, 3) := by decide +kernel
theorem dX3_readStatement_50 : decode cX3_readStatement 50 = .ok (.aload_n 0, 1) := by decide +kernel
theorem dX3_readStatement_51 : decode cX3_readStatement 51 = .ok (.invokevirtual 127, 3) := by decide +kernel
theorem dX3_readStatement_54 : decode cX3_readStatement 54 = .ok (.ireturn, 1) := by decide +kernel
theorem dX3_readStatement_55 : decode cX3_readStatement 55 = .ok (.aload_n 0, 1) := by decide +kernel
theorem dX3_readStatement_56 : decode cX3_readStatement 56 = .ok (.getfield 12, 3) := by decide +kernel
theorem dX3_readStatement_59 : decode cX3_readStatement 59 = .ok (.ldc 130, 2) := by decide +kernel
theorem dX3_readStatement_61 : decode cX3_readStatement 61 = .ok (.invokevirtual 87, 3) := by decide +kernel
theorem dX3_readStatement_64 : decode cX3_readStatement 64 = .ok (.ifCond .eq 8, 3) := by decide +kernel
theorem dX3_readStatement_67 : decode cX3_readStatement 67 = .ok (.aload_n 0, 1) := by decide +kernel
theorem dX3_readStatement_68 : decode cX3_readStatement 68 = .ok (.invokevirtual 132, 3) := by decide +kernel
theorem dX3_readStatement_71 : decode cX3_readStatement 71 = .ok (.ireturn, 1) := by decide +kernel
theorem dX3_readStatement_72 : decode cX3_readStatement 72 = .ok (.aload_n 0, 1) := by decide +kernel
theorem dX3_readStatement_73 : decode cX3_readStatement 73 = .ok (.getfield 12, 3) := by decide +kernel
theorem dX3_readStatement_76 : decode cX3_readStatement 76 = .ok (.ldc 135, 2) := by decide +kernel
theorem dX3_readStatement_78 : decode cX3_readStatement 78 = .ok (.invokevirtual 87, 3) := by decide +kernel
theorem dX3_readStatement_81 : decode cX3_readStatement 81 = .ok (.ifCond .eq 28, 3) := by decide +kernel
theorem dX3_readStatement_84 : decode cX3_readStatement 84 = .ok (.aload_n 0, 1) := by decide +kernel
theorem dX3_readStatement_85 : decode cX3_readStatement 85 = .ok (.getfield 47, 3) := by decide +kernel
theorem dX3_readStatement_88 : decode cX3_readStatement 88 = .ok (.ifCond .ne 21, 3) := by decide +kernel
theorem dX3_readStatement_91 : decode cX3_readStatement 91 = .ok (.aload_n 0, 1) := by decide +kernel
theorem dX3_readStatement_92 : decode cX3_readStatement 92 = .ok (.iconst 1, 1) := by decide +kernel
theorem dX3_readStatement_93 : decode cX3_readStatement 93 = .ok (.putfield 47, 3) := by decide +kernel
theorem dX3_readStatement_96 : decode cX3_readStatement 96 = .ok (.aload_n 0, 1) := by decide +kernel
theorem dX3_readStatement_97 : decode cX3_readStatement 97 = .ok (.getfield 12, 3) := by decide +kernel
theorem dX3_readStatement_100 : decode cX3_readStatement 100 = .ok (.invokevirtual 98, 3) := by decide +kernel
theorem dX3_readStatement_103 : decode cX3_readStatement 103 = .ok (.aload_n 0, 1) := by decide +kernel
theorem dX3_readStatement_104 : decode cX3_readStatement 104 = .ok (.iconst 0, 1) := by decide +kernel
theorem dX3_readStatement_105 : decode cX3_readStatement 105 = .ok (.invokevirtual 137, 3) := by decide +kernel
theorem dX3_readStatement_108 : decode cX3_readStatement 108 = .ok (.ireturn, 1) := by decide +kernel
theorem dX3_readStatement_109 : decode cX3_readStatement 109 = .ok (.aload_n 0, 1) := by decide +kernel
theorem dX3_readStatement_110 : decode cX3_readStatement 110 = .ok (.bipush (-2), 2) := by decide +kernel
theorem dX3_readStatement_112 : decode cX3_readStatement 112 = .ok (.aload_n 0, 1) := by decide +kernel
theorem dX3_readStatement_113 : decode cX3_readStatement 113 = .ok (.getfield 12, 3) := by decide +kernel
theorem dX3_readStatement_116 : decode cX3_readStatement 116 = .ok (.getfield 91, 3) := by decide +kernel
theorem dX3_readStatement_119 : decode cX3_readStatement 119 = .ok (.invokevirtual 94, 3) := by decide +kernel
theorem dX3_readStatement_122 : decode cX3_readStatement 122 = .ok (.ireturn, 1) := by decide +kernel
set_option maxRecDepth 20000 in
theorem ggX3_readHub_X5_advance : GoodIn wsX3_readHub wsX5_advance := goodIn_r _ [9, 10, 11, 12, 13, 14, 15, 16, 59, 60, 61, 62, 63, 64, 65] rfl (by decide +kernel)
set_option maxRecDepth 20000 in
theorem gX3_readHub_X5_advance : GoodIn wsX3_readHub (wsV RX3 98 RX5 yX5_advance wsX5_advance) := goodIn_app (goodIn_of _ (by decide +kernel)) ggX3_readHub_X5_advance
set_option maxRecDepth 20000 in
theorem ggX3_readHub_X3_takeNumber : GoodIn wsX3_readHub wsX3_takeNumber := goodIn_r _ [21, 2, 4, 22, 23, 24, 8, 25, 16, 26, 27, 28, 20, 29, 30, 31, 5, 6, 7, 9, 10, 11, 12, 13, 14, 15, 32, 33, 34, 35, 36, 37, 38, 39, 40, 41, 42, 59, 60, 61, 62, 63, 64, 65] rfl (by decide +kernel)
set_option maxRecDepth 20000 in
theorem gX3_readHub_X3_takeNumber : GoodIn wsX3_readHub (wsV RX3 101 RX3 yX3_takeNumber wsX3_takeNumber) := goodIn_app (goodIn_of _ (by decide +kernel)) ggX3_readHub_X3_takeNumber
theorem dX3_readHub_0 : decode cX3_readHub 0 = .ok (.aload_n 0, 1) := by decide +kernel
theorem dX3_readHub_1 : decode cX3_readHub 1 = .ok (.iconst 1, 1) := by decide +kernel
theorem dX3_readHub_2 : decode cX3_readHub 2 = .ok (.putfield 40, 3) := by decide +kernel
theorem dX3_readHub_5 : decode cX3_readHub 5 = .ok (.aload_n 0, 1) := by decide +kernel
theorem dX3_readHub_6 : decode cX3_readHub 6 = .ok (.getfield 12, 3) := by decide +kernel
theorem dX3_readHub_9 : decode cX3_readHub 9 = .ok (.invokevirtual 98, 3) := by decide +kernel
theorem dX3_readHub_12 : decode cX3_readHub 12 = .ok (.aload_n 0, 1) := by decide +kernel
theorem dX3_readHub_13 : decode cX3_readHub 13 = .ok (.iconst 0, 1) := by decide +kernel
theorem dX3_readHub_14 : decode cX3_readHub 14 = .ok (.aload_n 0, 1) := by decide +kernel
theorem dX3_readHub_15 : decode cX3_readHub 15 = .ok (.getfield 21, 3) := by decide +kernel
theorem dX3_readHub_18 : decode cX3_readHub 18 = .ok (.getfield 107, 3) := by decide +kernel
theorem dX3_readHub_21 : decode cX3_readHub 21 = .ok (.invokevirtual 101, 3) := by decide +kernel
theorem dX3_readHub_24 : decode cX3_readHub 24 = .ok (.ifCond .ne 5, 3) := by decide +kernel
theorem dX3_readHub_27 : decode cX3_readHub 27 = .ok (.iconst 0, 1) := by decide +kernel
theorem dX3_readHub_28 : decode cX3_readHub 28 = .ok (.ireturn, 1) := by decide +kernel
theorem dX3_readHub_29 : decode cX3_readHub 29 = .ok (.aload_n 0, 1) := by decide +kernel
theorem dX3_readHub_30 : decode cX3_readHub 30 = .ok (.getfield 21, 3) := by decide +kernel
theorem dX3_readHub_33 : decode cX3_readHub 33 = .ok (.aload_n 0, 1) := by decide +kernel
theorem dX3_readHub_34 : decode cX3_readHub 34 = .ok (.getfield 104, 3) := by decide +kernel
theorem dX3_readHub_37 : decode cX3_readHub 37 = .ok (.putfield 110, 3) := by decide +kernel
theorem dX3_readHub_40 : decode cX3_readHub 40 = .ok (.iconst 1, 1) := by decide +kernel
theorem dX3_readHub_41 : decode cX3_readHub 41 = .ok (.ireturn, 1) := by decide +kernel
set_option maxRecDepth 20000 in
theorem ggX3_readSeed_X5_advance : GoodIn wsX3_readSeed wsX5_advance := goodIn_r _ [9, 10, 11, 12, 13, 14, 15, 16, 59, 60, 61, 62, 63, 64, 65] rfl (by decide +kernel)
set_option maxRecDepth 20000 in
theorem gX3_readSeed_X5_advance : GoodIn wsX3_readSeed (wsV RX3 98 RX5 yX5_advance wsX5_advance) := goodIn_app (goodIn_of _ (by decide +kernel)) ggX3_readSeed_X5_advance
set_option maxRecDepth 20000 in
theorem ggX3_readSeed_X3_takeNumber : GoodIn wsX3_readSeed wsX3_takeNumber := goodIn_r _ [21, 2, 4, 22, 23, 24, 8, 25, 16, 26, 27, 28, 20, 29, 30, 31, 5, 6, 7, 9, 10, 11, 12, 13, 14, 15, 32, 33, 34, 35, 36, 37, 38, 39, 40, 41, 42, 59, 60, 61, 62, 63, 64, 65] rfl (by decide +kernel)
set_option maxRecDepth 20000 in
theorem gX3_readSeed_X3_takeNumber : GoodIn wsX3_readSeed (wsV RX3 101 RX3 yX3_takeNumber wsX3_takeNumber) := goodIn_app (goodIn_of _ (by decide +kernel)) ggX3_readSeed_X3_takeNumber
theorem dX3_readSeed_0 : decode cX3_readSeed 0 = .ok (.aload_n 0, 1) := by decide +kernel
theorem dX3_readSeed_1 : decode cX3_readSeed 1 = .ok (.iconst 1, 1) := by decide +kernel
theorem dX3_readSeed_2 : decode cX3_readSeed 2 = .ok (.putfield 44, 3) := by decide +kernel
theorem dX3_readSeed_5 : decode cX3_readSeed 5 = .ok (.aload_n 0, 1) := by decide +kernel
theorem dX3_readSeed_6 : decode cX3_readSeed 6 = .ok (.getfield 12, 3) := by decide +kernel
theorem dX3_readSeed_9 : decode cX3_readSeed 9 = .ok (.invokevirtual 98, 3) := by decide +kernel
theorem dX3_readSeed_12 : decode cX3_readSeed 12 = .ok (.aload_n 0, 1) := by decide +kernel
theorem dX3_readSeed_13 : decode cX3_readSeed 13 = .ok (.iconst 0, 1) := by decide +kernel
theorem dX3_readSeed_14 : decode cX3_readSeed 14 = .ok (.sipush 9999, 3) := by decide +kernel
theorem dX3_readSeed_17 : decode cX3_readSeed 17 = .ok (.invokevirtual 101, 3) := by decide +kernel
theorem dX3_readSeed_20 : decode cX3_readSeed 20 = .ok (.ifCond .ne 5, 3) := by decide +kernel
theorem dX3_readSeed_23 : decode cX3_readSeed 23 = .ok (.iconst 0, 1) := by decide +kernel
theorem dX3_readSeed_24 : decode cX3_readSeed 24 = .ok (.ireturn, 1) := by decide +kernel
theorem dX3_readSeed_25 : decode cX3_readSeed 25 = .ok (.aload_n 0, 1) := by decide +kernel
theorem dX3_readSeed_26 : decode cX3_readSeed 26 = .ok (.getfield 21, 3) := by decide +kernel
theorem dX3_readSeed_29 : decode cX3_readSeed 29 = .ok (.aload_n 0, 1) := by decide +kernel
theorem dX3_readSeed_30 : decode cX3_readSeed 30 = .ok (.getfield 104, 3) := by decide +kernel
theorem dX3_readSeed_33 : decode cX3_readSeed 33 = .ok (.putfield 113, 3) := by decide +kernel
theorem dX3_readSeed_36 : decode cX3_readSeed 36 = .ok (.iconst 1, 1) := by decide +kernel
theorem dX3_readSeed_37 : decode cX3_readSeed 37 = .ok (.ireturn, 1) := by decide +kernel
set_option maxRecDepth 20000 in
theorem ggX3_readGive_X5_advance : GoodIn wsX3_readGive wsX5_advance := goodIn_r _ [9, 10, 11, 12, 13, 14, 15, 16, 104, 105, 106, 107, 108, 109, 110] rfl (by decide +kernel)
set_option maxRecDepth 20000 in
theorem gX3_readGive_X5_advance : GoodIn wsX3_readGive (wsV RX3 98 RX5 yX5_advance wsX5_advance) := goodIn_app (goodIn_of _ (by decide +kernel)) ggX3_readGive_X5_advance
set_option maxRecDepth 20000 in
theorem ggX3_readGive_X3_takeNumber : GoodIn wsX3_readGive wsX3_takeNumber := goodIn_r _ [21, 2, 4, 22, 23, 24, 8, 25, 16, 26, 27, 28, 20, 29, 30, 31, 5, 6, 7, 9, 10, 11, 12, 13, 14, 15, 77, 78, 79, 80, 81, 82, 83, 84, 85, 86, 87, 104, 105, 106, 107, 108, 109, 110] rfl (by decide +kernel)
set_option maxRecDepth 20000 in
theorem gX3_readGive_X3_takeNumber : GoodIn wsX3_readGive (wsV RX3 101 RX3 yX3_takeNumber wsX3_takeNumber) := goodIn_app (goodIn_of _ (by decide +kernel)) ggX3_readGive_X3_takeNumber
set_option maxRecDepth 20000 in
theorem ggX3_readGive_X3_readTile : GoodIn wsX3_readGive wsX3_readTile := goodIn_r _ [35, 2, 3, 4, 36, 37, 38, 39, 40, 41, 42, 17, 18, 19, 20, 21, 22, 23, 24, 8, 25, 16, 26, 27, 28, 29, 30, 31, 5, 6, 7, 9, 10, 11, 12, 13, 14, 15, 43, 44, 45, 46, 47, 48, 49, 50, 51, 52, 53, 54, 55, 56, 57, 58, 59, 60, 61, 62, 63, 64, 65, 66, 67, 68, 69, 70, 71, 72, 73, 74, 75, 76, 77, 78, 79, 80, 81, 82, 83, 84, 85, 86, 87, 104, 105, 106, 107, 108, 109, 110, 88, 89, 90, 91, 92, 93, 94, 95, 96, 97, 98, 99, 100, 101, 102, 103] rfl (by decide +kernel)
set_option maxRecDepth 20000 in
theorem gX3_readGive_X3_readTile : GoodIn wsX3_readGive (wsV RX3 141 RX3 yX3_readTile wsX3_readTile) := goodIn_app (goodIn_of _ (by decide +kernel)) ggX3_readGive_X3_readTile
set_option maxRecDepth 20000 in
theorem ggX3_readGive_X5_isNumber : GoodIn wsX3_readGive wsX5_isNumber := goodIn_r _ [25, 16, 104, 105, 106, 107, 108, 109, 110] rfl (by decide +kernel)
set_option maxRecDepth 20000 in
theorem gX3_readGive_X5_isNumber : GoodIn wsX3_readGive (wsV RX3 144 RX5 yX5_isNumber wsX5_isNumber) := goodIn_app (goodIn_of _ (by decide +kernel)) ggX3_readGive_X5_isNumber
theorem dX3_readGive_0 : decode cX3_readGive 0 = .ok (.aload_n 0, 1) := by decide +kernel
theorem dX3_readGive_1 : decode cX3_readGive 1 = .ok (.iconst 1, 1) := by decide +kernel
theorem dX3_readGive_2 : decode cX3_readGive 2 = .ok (.putfield 53, 3) := by decide +kernel
theorem dX3_readGive_5 : decode cX3_readGive 5 = .ok (.aload_n 0, 1) := by decide +kernel
theorem dX3_readGive_6 : decode cX3_readGive 6 = .ok (.getfield 12, 3) := by decide +kernel
theorem dX3_readGive_9 : decode cX3_readGive 9 = .ok (.invokevirtual 98, 3) := by decide +kernel
theorem dX3_readGive_12 : decode cX3_readGive 12 = .ok (.aload_n 0, 1) := by decide +kernel
theorem dX3_readGive_13 : decode cX3_readGive 13 = .ok (.iconst 0, 1) := by decide +kernel
theorem dX3_readGive_14 : decode cX3_readGive 14 = .ok (.aload_n 0, 1) := by decide +kernel
theorem dX3_readGive_15 : decode cX3_readGive 15 = .ok (.getfield 21, 3) := by decide +kernel
theorem dX3_readGive_18 : decode cX3_readGive 18 = .ok (.getfield 116, 3) := by decide +kernel
theorem dX3_readGive_21 : decode cX3_readGive 21 = .ok (.iconst 1, 1) := by decide +kernel
theorem dX3_readGive_22 : decode cX3_readGive 22 = .ok (.isub, 1) := by decide +kernel
theorem dX3_readGive_23 : decode cX3_readGive 23 = .ok (.invokevirtual 101, 3) := by decide +kernel
theorem dX3_readGive_26 : decode cX3_readGive 26 = .ok (.ifCond .ne 5, 3) := by decide +kernel
theorem dX3_readGive_29 : decode cX3_readGive 29 = .ok (.iconst 0, 1) := by decide +kernel
theorem dX3_readGive_30 : decode cX3_readGive 30 = .ok (.ireturn, 1) := by decide +kernel
theorem dX3_readGive_31 : decode cX3_readGive 31 = .ok (.aload_n 0, 1) := by decide +kernel
theorem dX3_readGive_32 : decode cX3_readGive 32 = .ok (.getfield 104, 3) := by decide +kernel
theorem dX3_readGive_35 : decode cX3_readGive 35 = .ok (.istore_n 1, 1) := by decide +kernel
theorem dX3_readGive_36 : decode cX3_readGive 36 = .ok (.aload_n 0, 1) := by decide +kernel
theorem dX3_readGive_37 : decode cX3_readGive 37 = .ok (.iload_n 1, 1) := by decide +kernel
theorem dX3_readGive_38 : decode cX3_readGive 38 = .ok (.invokevirtual 141, 3) := by decide +kernel
theorem dX3_readGive_41 : decode cX3_readGive 41 = .ok (.istore_n 2, 1) := by decide +kernel
theorem dX3_readGive_42 : decode cX3_readGive 42 = .ok (.iconst 0, 1) := by decide +kernel
theorem dX3_readGive_43 : decode cX3_readGive 43 = .ok (.istore_n 3, 1) := by decide +kernel
theorem dX3_readGive_44 : decode cX3_readGive 44 = .ok (.iload_n 2, 1) := by decide +kernel
theorem dX3_readGive_45 : decode cX3_readGive 45 = .ok (.ifCond .eq 32, 3) := by decide +kernel
theorem dX3_readGive_48 : decode cX3_readGive 48 = .ok (.aload_n 0, 1) := by decide +kernel
theorem dX3_readGive_49 : decode cX3_readGive 49 = .ok (.getfield 12, 3) := by decide +kernel
theorem dX3_readGive_52 : decode cX3_readGive 52 = .ok (.invokevirtual 144, 3) := by decide +kernel
theorem dX3_readGive_55 : decode cX3_readGive 55 = .ok (.ifCond .eq 22, 3) := by decide +kernel
theorem dX3_readGive_58 : decode cX3_readGive 58 = .ok (.iload_n 3, 1) := by decide +kernel
theorem dX3_readGive_59 : decode cX3_readGive 59 = .ok (.sipush 500, 3) := by decide +kernel
theorem dX3_readGive_62 : decode cX3_readGive 62 = .ok (.if_icmp .ge 15, 3) := by decide +kernel
theorem dX3_readGive_65 : decode cX3_readGive 65 = .ok (.aload_n 0, 1) := by decide +kernel
theorem dX3_readGive_66 : decode cX3_readGive 66 = .ok (.iload_n 1, 1) := by decide +kernel
theorem dX3_readGive_67 : decode cX3_readGive 67 = .ok (.invokevirtual 141, 3) := by decide +kernel
theorem dX3_readGive_70 : decode cX3_readGive 70 = .ok (.istore_n 2, 1) := by decide +kernel
theorem dX3_readGive_71 : decode cX3_readGive 71 = .ok (.iinc 3 1, 3) := by decide +kernel
theorem dX3_readGive_74 : decode cX3_readGive 74 = .ok (.goto (-30), 3) := by decide +kernel
theorem dX3_readGive_77 : decode cX3_readGive 77 = .ok (.iload_n 2, 1) := by decide +kernel
theorem dX3_readGive_78 : decode cX3_readGive 78 = .ok (.ireturn, 1) := by decide +kernel
set_option maxRecDepth 20000 in
theorem ggX3_readTile_X3_takeNumber : GoodIn wsX3_readTile wsX3_takeNumber := goodIn_r _ [15, 1, 3, 16, 17, 18, 19, 20, 21, 22, 23, 24, 14, 25, 26, 27, 28, 29, 30, 31, 32, 33, 34, 35, 36, 37, 72, 73, 74, 75, 76, 77, 78, 79, 80, 81, 82, 83, 84, 85, 86, 87, 88, 89] rfl (by decide +kernel)
set_option maxRecDepth 20000 in
theorem gX3_readTile_X3_takeNumber : GoodIn wsX3_readTile (wsV RX3 101 RX3 yX3_takeNumber wsX3_takeNumber) := goodIn_app (goodIn_of _ (by decide +kernel)) ggX3_readTile_X3_takeNumber
set_option maxRecDepth 20000 in
theorem ggX3_readTile_X3_takeSign : GoodIn wsX3_readTile wsX3_takeSign := goodIn_r _ [41, 1, 42, 43, 44, 19, 45, 21, 35, 33, 22, 23, 24, 14, 25, 26, 27, 28, 29, 30, 31, 32, 34, 36, 37, 72, 73, 74, 75, 76, 77, 78, 79, 80, 81, 82, 83, 84, 85, 86, 87, 88, 89] rfl (by decide +kernel)
set_option maxRecDepth 20000 in
theorem gX3_readTile_X3_takeSign : GoodIn wsX3_readTile (wsV RX3 73 RX3 yX3_takeSign wsX3_takeSign) := goodIn_app (goodIn_of _ (by decide +kernel)) ggX3_readTile_X3_takeSign
set_option maxRecDepth 20000 in
theorem ggX3_readTile_X1_isFree : GoodIn wsX3_readTile wsX1_isFree := goodIn_r _ [50, 51, 52, 53, 54, 49, 55, 56, 57, 58, 59, 60, 61, 62, 63, 64, 65, 90, 91, 92, 93, 94, 95, 96, 97, 98, 99, 100, 101, 102, 103, 104, 105] rfl (by decide +kernel)
