theorem dX6_isOpen_1 : decode cX6_isOpen 1 = .ok (.getfield 21, 3) := by decide +kernel
theorem dX6_isOpen_4 : decode cX6_isOpen 4 = .ok (.iload_n 1, 1) := by decide +kernel
theorem dX6_isOpen_5 : decode cX6_isOpen 5 = .ok (.invokestatic 49, 3) := by decide +kernel
theorem dX6_isOpen_8 : decode cX6_isOpen 8 = .ok (.iconst 1, 1) := by decide +kernel
theorem dX6_isOpen_9 : decode cX6_isOpen 9 = .ok (.if_icmp .ne 7, 3) := by decide +kernel
theorem dX6_isOpen_12 : decode cX6_isOpen 12 = .ok (.iconst 1, 1) := by decide +kernel
theorem dX6_isOpen_13 : decode cX6_isOpen 13 = .ok (.goto 4, 3) := by decide +kernel
theorem dX6_isOpen_16 : decode cX6_isOpen 16 = .ok (.iconst 0, 1) := by decide +kernel
theorem dX6_isOpen_17 : decode cX6_isOpen 17 = .ok (.ireturn, 1) := by decide +kernel
set_option maxRecDepth 20000 in
theorem ggX6_setOpen_X7_put : GoodIn wsX6_setOpen wsX7_put := goodIn_r _ [4] rfl (by decide +kernel)
set_option maxRecDepth 20000 in
theorem gX6_setOpen_X7_put_n38 : GoodIn wsX6_setOpen (wsX7_put) := ggX6_setOpen_X7_put
theorem dX6_setOpen_0 : decode cX6_setOpen 0 = .ok (.aload_n 0, 1) := by decide +kernel
theorem dX6_setOpen_1 : decode cX6_setOpen 1 = .ok (.getfield 21, 3) := by decide +kernel
theorem dX6_setOpen_4 : decode cX6_setOpen 4 = .ok (.iload_n 1, 1) := by decide +kernel
theorem dX6_setOpen_5 : decode cX6_setOpen 5 = .ok (.iload_n 2, 1) := by decide +kernel
theorem dX6_setOpen_6 : decode cX6_setOpen 6 = .ok (.ifCond .eq 7, 3) := by decide +kernel
theorem dX6_setOpen_9 : decode cX6_setOpen 9 = .ok (.iconst 1, 1) := by decide +kernel
theorem dX6_setOpen_10 : decode cX6_setOpen 10 = .ok (.goto 4, 3) := by decide +kernel
theorem dX6_setOpen_13 : decode cX6_setOpen 13 = .ok (.iconst 0, 1) := by decide +kernel
theorem dX6_setOpen_14 : decode cX6_setOpen 14 = .ok (.invokestatic 38, 3) := by decide +kernel
theorem dX6_setOpen_17 : decode cX6_setOpen 17 = .ok (.return_, 1) := by decide +kernel
set_option maxRecDepth 20000 in
theorem ggX6_countOf_X7_look : GoodIn wsX6_countOf wsX7_look := goodIn_r _ [5] rfl (by decide +kernel)
set_option maxRecDepth 20000 in
theorem gX6_countOf_X7_look_n49 : GoodIn wsX6_countOf (wsX7_look) := ggX6_countOf_X7_look
theorem dX6_countOf_0 : decode cX6_countOf 0 = .ok (.iconst 0, 1) := by decide +kernel
theorem dX6_countOf_1 : decode cX6_countOf 1 = .ok (.istore_n 2, 1) := by decide +kernel
theorem dX6_countOf_2 : decode cX6_countOf 2 = .ok (.iconst 0, 1) := by decide +kernel
theorem dX6_countOf_3 : decode cX6_countOf 3 = .ok (.istore_n 3, 1) := by decide +kernel
theorem dX6_countOf_4 : decode cX6_countOf 4 = .ok (.iload_n 3, 1) := by decide +kernel
theorem dX6_countOf_5 : decode cX6_countOf 5 = .ok (.aload_n 0, 1) := by decide +kernel
theorem dX6_countOf_6 : decode cX6_countOf 6 = .ok (.getfield 28, 3) := by decide +kernel
theorem dX6_countOf_9 : decode cX6_countOf 9 = .ok (.if_icmp .ge 24, 3) := by decide +kernel
theorem dX6_countOf_12 : decode cX6_countOf 12 = .ok (.aload_n 0, 1) := by decide +kernel
theorem dX6_countOf_13 : decode cX6_countOf 13 = .ok (.getfield 15, 3) := by decide +kernel
theorem dX6_countOf_16 : decode cX6_countOf 16 = .ok (.iload_n 3, 1) := by decide +kernel
theorem dX6_countOf_17 : decode cX6_countOf 17 = .ok (.invokestatic 49, 3) := by decide +kernel
theorem dX6_countOf_20 : decode cX6_countOf 20 = .ok (.iload_n 1, 1) := by decide +kernel
theorem dX6_countOf_21 : decode cX6_countOf 21 = .ok (.if_icmp .ne 6, 3) := by decide +kernel
theorem dX6_countOf_24 : decode cX6_countOf 24 = .ok (.iinc 2 1, 3) := by decide +kernel
theorem dX6_countOf_27 : decode cX6_countOf 27 = .ok (.iinc 3 1, 3) := by decide +kernel
theorem dX6_countOf_30 : decode cX6_countOf 30 = .ok (.goto (-26), 3) := by decide +kernel
theorem dX6_countOf_33 : decode cX6_countOf 33 = .ok (.iload_n 2, 1) := by decide +kernel
theorem dX6_countOf_34 : decode cX6_countOf 34 = .ok (.ireturn, 1) := by decide +kernel
set_option maxRecDepth 20000 in
theorem ggX6_pipsOn_X7_look : GoodIn wsX6_pipsOn wsX7_look := goodIn_r _ [6] rfl (by decide +kernel)
set_option maxRecDepth 20000 in
theorem gX6_pipsOn_X7_look_n49 : GoodIn wsX6_pipsOn (wsX7_look) := ggX6_pipsOn_X7_look
set_option maxRecDepth 20000 in
theorem ggX6_pipsOn_X7_pipsOf : GoodIn wsX6_pipsOn wsX7_pipsOf := goodIn_r _ [8, 9, 10, 5, 11, 12, 13, 14] rfl (by decide +kernel)
set_option maxRecDepth 20000 in
theorem gX6_pipsOn_X7_pipsOf_n42 : GoodIn wsX6_pipsOn (wsX7_pipsOf) := ggX6_pipsOn_X7_pipsOf
theorem dX6_pipsOn_0 : decode cX6_pipsOn 0 = .ok (.iconst 0, 1) := by decide +kernel
theorem dX6_pipsOn_1 : decode cX6_pipsOn 1 = .ok (.istore_n 2, 1) := by decide +kernel
theorem dX6_pipsOn_2 : decode cX6_pipsOn 2 = .ok (.iconst 0, 1) := by decide +kernel
theorem dX6_pipsOn_3 : decode cX6_pipsOn 3 = .ok (.istore_n 3, 1) := by decide +kernel
theorem dX6_pipsOn_4 : decode cX6_pipsOn 4 = .ok (.iload_n 3, 1) := by decide +kernel
theorem dX6_pipsOn_5 : decode cX6_pipsOn 5 = .ok (.aload_n 0, 1) := by decide +kernel
theorem dX6_pipsOn_6 : decode cX6_pipsOn 6 = .ok (.getfield 28, 3) := by decide +kernel
theorem dX6_pipsOn_9 : decode cX6_pipsOn 9 = .ok (.if_icmp .ge 35, 3) := by decide +kernel
theorem dX6_pipsOn_12 : decode cX6_pipsOn 12 = .ok (.aload_n 0, 1) := by decide +kernel
theorem dX6_pipsOn_13 : decode cX6_pipsOn 13 = .ok (.getfield 15, 3) := by decide +kernel
theorem dX6_pipsOn_16 : decode cX6_pipsOn 16 = .ok (.iload_n 3, 1) := by decide +kernel
theorem dX6_pipsOn_17 : decode cX6_pipsOn 17 = .ok (.invokestatic 49, 3) := by decide +kernel
theorem dX6_pipsOn_20 : decode cX6_pipsOn 20 = .ok (.iload_n 1, 1) := by decide +kernel
theorem dX6_pipsOn_21 : decode cX6_pipsOn 21 = .ok (.if_icmp .ne 17, 3) := by decide +kernel
theorem dX6_pipsOn_24 : decode cX6_pipsOn 24 = .ok (.iload_n 2, 1) := by decide +kernel
theorem dX6_pipsOn_25 : decode cX6_pipsOn 25 = .ok (.aload_n 0, 1) := by decide +kernel
theorem dX6_pipsOn_26 : decode cX6_pipsOn 26 = .ok (.getfield 9, 3) := by decide +kernel
theorem dX6_pipsOn_29 : decode cX6_pipsOn 29 = .ok (.iload_n 3, 1) := by decide +kernel
theorem dX6_pipsOn_30 : decode cX6_pipsOn 30 = .ok (.invokestatic 49, 3) := by decide +kernel
theorem dX6_pipsOn_33 : decode cX6_pipsOn 33 = .ok (.invokestatic 42, 3) := by decide +kernel
theorem dX6_pipsOn_36 : decode cX6_pipsOn 36 = .ok (.iadd, 1) := by decide +kernel
theorem dX6_pipsOn_37 : decode cX6_pipsOn 37 = .ok (.istore_n 2, 1) := by decide +kernel
theorem dX6_pipsOn_38 : decode cX6_pipsOn 38 = .ok (.iinc 3 1, 3) := by decide +kernel
theorem dX6_pipsOn_41 : decode cX6_pipsOn 41 = .ok (.goto (-37), 3) := by decide +kernel
theorem dX6_pipsOn_44 : decode cX6_pipsOn 44 = .ok (.iload_n 2, 1) := by decide +kernel
theorem dX6_pipsOn_45 : decode cX6_pipsOn 45 = .ok (.ireturn, 1) := by decide +kernel
set_option maxRecDepth 20000 in
theorem ggX6_tileAt_X7_look : GoodIn wsX6_tileAt wsX7_look := goodIn_r _ [6] rfl (by decide +kernel)
set_option maxRecDepth 20000 in
theorem gX6_tileAt_X7_look_n49 : GoodIn wsX6_tileAt (wsX7_look) := ggX6_tileAt_X7_look
theorem dX6_tileAt_0 : decode cX6_tileAt 0 = .ok (.iconst 0, 1) := by decide +kernel
theorem dX6_tileAt_1 : decode cX6_tileAt 1 = .ok (.istore_n 3, 1) := by decide +kernel
theorem dX6_tileAt_2 : decode cX6_tileAt 2 = .ok (.iconst 0, 1) := by decide +kernel
theorem dX6_tileAt_3 : decode cX6_tileAt 3 = .ok (.istore 4, 2) := by decide +kernel
theorem dX6_tileAt_5 : decode cX6_tileAt 5 = .ok (.iload 4, 2) := by decide +kernel
theorem dX6_tileAt_7 : decode cX6_tileAt 7 = .ok (.aload_n 0, 1) := by decide +kernel
theorem dX6_tileAt_8 : decode cX6_tileAt 8 = .ok (.getfield 28, 3) := by decide +kernel
theorem dX6_tileAt_11 : decode cX6_tileAt 11 = .ok (.if_icmp .ge 40, 3) := by decide +kernel
theorem dX6_tileAt_14 : decode cX6_tileAt 14 = .ok (.aload_n 0, 1) := by decide +kernel
theorem dX6_tileAt_15 : decode cX6_tileAt 15 = .ok (.getfield 15, 3) := by decide +kernel
theorem dX6_tileAt_18 : decode cX6_tileAt 18 = .ok (.iload 4, 2) := by decide +kernel
theorem dX6_tileAt_20 : decode cX6_tileAt 20 = .ok (.invokestatic 49, 3) := by decide +kernel
theorem dX6_tileAt_23 : decode cX6_tileAt 23 = .ok (.iload_n 1, 1) := by decide +kernel
theorem dX6_tileAt_24 : decode cX6_tileAt 24 = .ok (.if_icmp .ne 21, 3) := by decide +kernel
theorem dX6_tileAt_27 : decode cX6_tileAt 27 = .ok (.iload_n 3, 1) := by decide +kernel
theorem dX6_tileAt_28 : decode cX6_tileAt 28 = .ok (.iload_n 2, 1) := by decide +kernel
theorem dX6_tileAt_29 : decode cX6_tileAt 29 = .ok (.if_icmp .ne 13, 3) := by decide +kernel
theorem dX6_tileAt_32 : decode cX6_tileAt 32 = .ok (.aload_n 0, 1) := by decide +kernel
theorem dX6_tileAt_33 : decode cX6_tileAt 33 = .ok (.getfield 9, 3) := by decide +kernel
theorem dX6_tileAt_36 : decode cX6_tileAt 36 = .ok (.iload 4, 2) := by decide +kernel
theorem dX6_tileAt_38 : decode cX6_tileAt 38 = .ok (.invokestatic 49, 3) := by decide +kernel
theorem dX6_tileAt_41 : decode cX6_tileAt 41 = .ok (.ireturn, 1) := by decide +kernel
theorem dX6_tileAt_42 : decode cX6_tileAt 42 = .ok (.iinc 3 1, 3) := by decide +kernel
theorem dX6_tileAt_45 : decode cX6_tileAt 45 = .ok (.iinc 4 1, 3) := by decide +kernel
theorem dX6_tileAt_48 : decode cX6_tileAt 48 = .ok (.goto (-43), 3) := by decide +kernel
theorem dX6_tileAt_51 : decode cX6_tileAt 51 = .ok (.iconst (-1), 1) := by decide +kernel
theorem dX6_tileAt_52 : decode cX6_tileAt 52 = .ok (.ireturn, 1) := by decide +kernel
set_option maxRecDepth 20000 in
theorem ggX7_init_X1_init : GoodIn wsX7_init wsX1_init := goodIn_r _ [20, 21, 2, 3, 22, 23, 24, 25, 26, 27, 28, 29, 30, 31, 32, 33, 34, 35, 36, 37, 38, 39, 40, 41, 42, 43, 44, 45, 46, 47, 48, 49, 50, 51, 52, 53, 147, 148, 149, 150, 151, 152, 153, 154, 155, 156, 157, 158, 159, 160, 161, 162, 188, 189, 190, 191, 192, 193, 194, 195] rfl (by decide +kernel)
set_option maxRecDepth 20000 in
theorem gX7_init_X1_init : GoodIn wsX7_init (wsX1_init) := ggX7_init_X1_init
set_option maxRecDepth 20000 in
theorem ggX7_init_X3_init : GoodIn wsX7_init wsX3_init := goodIn_r _ [55, 56, 2, 3, 57, 58, 59, 60, 61, 5, 6, 62, 28, 63, 64, 65, 66, 67, 68, 69, 19, 20, 21, 22, 23, 24, 25, 26, 27, 29, 30, 31, 32, 33, 34, 35, 36, 37, 38, 39, 40, 41, 42, 43, 44, 45, 46, 47, 48, 49, 50, 51, 52, 53, 196, 197, 198, 199, 200, 201, 202, 170, 171, 172, 173, 174, 175, 176, 177, 178, 179, 180, 147, 148, 149, 150, 151, 152, 153, 154, 155, 156, 157, 158, 159, 160, 161, 162, 188, 189, 190, 191, 192, 193, 194, 195] rfl (by decide +kernel)
set_option maxRecDepth 20000 in
theorem gX7_init_X3_init_n25 : GoodIn wsX7_init (wsX3_init) := ggX7_init_X3_init
set_option maxRecDepth 20000 in
theorem ggX7_init_X2_init : GoodIn wsX7_init wsX2_init := goodIn_r _ [71, 72, 2, 3, 28, 73, 74, 75, 76, 181, 182, 183, 184, 185, 186, 187] rfl (by decide +kernel)
set_option maxRecDepth 20000 in
theorem gX7_init_X2_init_n32 : GoodIn wsX7_init (wsX2_init) := ggX7_init_X2_init
set_option maxRecDepth 20000 in
theorem ggX7_init_X1_dealRound : GoodIn wsX7_init wsX1_dealRound := goodIn_r _ [80, 34, 26, 23, 38, 25, 81, 82, 27, 83, 84, 85, 86, 87, 33, 88, 89, 90, 91, 92, 93, 6, 94, 22, 95, 96, 97, 98, 99, 100, 101, 102, 103, 104, 105, 106, 107, 29, 108, 109, 110, 111, 112, 113, 114, 115, 42, 116, 117, 118, 119, 120, 121, 122, 123, 124, 125, 126, 127, 128, 24, 129, 130, 131, 132, 133, 134, 135, 136, 137, 138, 139, 140, 141, 142, 143, 37, 144, 145, 48, 49, 146, 51, 52, 53, 147, 148, 149, 150, 151, 152, 153, 154, 155, 156, 157, 158, 159, 160, 161, 162, 188, 189, 190, 191, 192, 193, 194, 195] rfl (by decide +kernel)
set_option maxRecDepth 20000 in
theorem gX7_init_X1_dealRound : GoodIn wsX7_init (wsV RX7 37 RX1 yX1_dealRound wsX1_dealRound) := goodIn_app (goodIn_of _ (by decide +kernel)) ggX7_init_X1_dealRound
theorem dX7_init_0 : decode cX7_init 0 = .ok (.aload_n 0, 1) := by decide +kernel
theorem dX7_init_1 : decode cX7_init 1 = .ok (.invokespecial 1, 3) := by decide +kernel
theorem dX7_init_4 : decode cX7_init 4 = .ok (.aload_n 0, 1) := by decide +kernel
theorem dX7_init_5 : decode cX7_init 5 = .ok (.new 7, 3) := by decide +kernel
theorem dX7_init_8 : decode cX7_init 8 = .ok (.dup, 1) := by decide +kernel
theorem dX7_init_9 : decode cX7_init 9 = .ok (.invokespecial 9, 3) := by decide +kernel
theorem dX7_init_12 : decode cX7_init 12 = .ok (.putfield 10, 3) := by decide +kernel
theorem dX7_init_15 : decode cX7_init 15 = .ok (.aload_n 0, 1) := by decide +kernel
theorem dX7_init_16 : decode cX7_init 16 = .ok (.new 7, 3) := by decide +kernel
theorem dX7_init_19 : decode cX7_init 19 = .ok (.dup, 1) := by decide +kernel
theorem dX7_init_20 : decode cX7_init 20 = .ok (.invokespecial 9, 3) := by decide +kernel
theorem dX7_init_23 : decode cX7_init 23 = .ok (.putfield 16, 3) := by decide +kernel
theorem dX7_init_26 : decode cX7_init 26 = .ok (.aload_n 0, 1) := by decide +kernel
theorem dX7_init_27 : decode cX7_init 27 = .ok (.bipush 8, 2) := by decide +kernel
theorem dX7_init_29 : decode cX7_init 29 = .ok (.anewarray 7, 3) := by decide +kernel
theorem dX7_init_32 : decode cX7_init 32 = .ok (.putfield 19, 3) := by decide +kernel
theorem dX7_init_35 : decode cX7_init 35 = .ok (.aload_n 0, 1) := by decide +kernel
theorem dX7_init_36 : decode cX7_init 36 = .ok (.new 23, 3) := by decide +kernel
theorem dX7_init_39 : decode cX7_init 39 = .ok (.dup, 1) := by decide +kernel
theorem dX7_init_40 : decode cX7_init 40 = .ok (.invokespecial 25, 3) := by decide +kernel
theorem dX7_init_43 : decode cX7_init 43 = .ok (.putfield 26, 3) := by decide +kernel
theorem dX7_init_46 : decode cX7_init 46 = .ok (.aload_n 0, 1) := by decide +kernel
theorem dX7_init_47 : decode cX7_init 47 = .ok (.new 30, 3) := by decide +kernel
theorem dX7_init_50 : decode cX7_init 50 = .ok (.dup, 1) := by decide +kernel
theorem dX7_init_51 : decode cX7_init 51 = .ok (.invokespecial 32, 3) := by decide +kernel
theorem dX7_init_54 : decode cX7_init 54 = .ok (.putfield 33, 3) := by decide +kernel
theorem dX7_init_57 : decode cX7_init 57 = .ok (.iconst 0, 1) := by decide +kernel
theorem dX7_init_58 : decode cX7_init 58 = .ok (.istore_n 1, 1) := by decide +kernel
theorem dX7_init_59 : decode cX7_init 59 = .ok (.iload_n 1, 1) := by decide +kernel
theorem dX7_init_60 : decode cX7_init 60 = .ok (.aload_n 0, 1) := by decide +kernel
theorem dX7_init_61 : decode cX7_init 61 = .ok (.getfield 19, 3) := by decide +kernel
theorem dX7_init_64 : decode cX7_init 64 = .ok (.arraylength, 1) := by decide +kernel
theorem dX7_init_65 : decode cX7_init 65 = .ok (.if_icmp .ge 22, 3) := by decide +kernel
theorem dX7_init_68 : decode cX7_init 68 = .ok (.aload_n 0, 1) := by decide +kernel
theorem dX7_init_69 : decode cX7_init 69 = .ok (.getfield 19, 3) := by decide +kernel
theorem dX7_init_72 : decode cX7_init 72 = .ok (.iload_n 1, 1) := by decide +kernel
theorem dX7_init_73 : decode cX7_init 73 = .ok (.new 7, 3) := by decide +kernel
theorem dX7_init_76 : decode cX7_init 76 = .ok (.dup, 1) := by decide +kernel
theorem dX7_init_77 : decode cX7_init 77 = .ok (.invokespecial 9, 3) := by decide +kernel
theorem dX7_init_80 : decode cX7_init 80 = .ok (.aastore, 1) := by decide +kernel
theorem dX7_init_81 : decode cX7_init 81 = .ok (.iinc 1 1, 3) := by decide +kernel
theorem dX7_init_84 : decode cX7_init 84 = .ok (.goto (-25), 3) := by decide +kernel
theorem dX7_init_87 : decode cX7_init 87 = .ok (.aload_n 0, 1) := by decide +kernel
theorem dX7_init_88 : decode cX7_init 88 = .ok (.getfield 10, 3) := by decide +kernel
theorem dX7_init_91 : decode cX7_init 91 = .ok (.invokevirtual 37, 3) := by decide +kernel
theorem dX7_init_94 : decode cX7_init 94 = .ok (.return_, 1) := by decide +kernel
set_option maxRecDepth 20000 in
theorem ggX7_append_X5_store : GoodIn wsX7_append wsX5_store := goodIn_r _ [6, 7, 8, 9, 10, 11, 30, 31, 32, 33, 34, 35, 36] rfl (by decide +kernel)
set_option maxRecDepth 20000 in
theorem gX7_append_X5_store : GoodIn wsX7_append (wsV RX7 50 RX5 yX5_store wsX5_store) := goodIn_app (goodIn_of _ (by decide +kernel)) ggX7_append_X5_store
theorem dX7_append_0 : decode cX7_append 0 = .ok (.aload_n 0, 1) := by decide +kernel
theorem dX7_append_1 : decode cX7_append 1 = .ok (.getfield 26, 3) := by decide +kernel
theorem dX7_append_4 : decode cX7_append 4 = .ok (.getfield 40, 3) := by decide +kernel
theorem dX7_append_7 : decode cX7_append 7 = .ok (.astore 6, 2) := by decide +kernel
theorem dX7_append_9 : decode cX7_append 9 = .ok (.aload 6, 2) := by decide +kernel
theorem dX7_append_11 : decode cX7_append 11 = .ok (.getfield 44, 3) := by decide +kernel
theorem dX7_append_14 : decode cX7_append 14 = .ok (.bipush 20, 2) := by decide +kernel
theorem dX7_append_16 : decode cX7_append 16 = .ok (.iadd, 1) := by decide +kernel
theorem dX7_append_17 : decode cX7_append 17 = .ok (.sipush 500, 3) := by decide +kernel
theorem dX7_append_20 : decode cX7_append 20 = .ok (.if_icmp .le 5, 3) := by decide +kernel
theorem dX7_append_23 : decode cX7_append 23 = .ok (.iconst (-1), 1) := by decide +kernel
theorem dX7_append_24 : decode cX7_append 24 = .ok (.ireturn, 1) := by decide +kernel
theorem dX7_append_25 : decode cX7_append 25 = .ok (.aload 6, 2) := by decide +kernel
theorem dX7_append_27 : decode cX7_append 27 = .ok (.iload_n 1, 1) := by decide +kernel
theorem dX7_append_28 : decode cX7_append 28 = .ok (.invokevirtual 50, 3) := by decide +kernel
theorem dX7_append_31 : decode cX7_append 31 = .ok (.aload 6, 2) := by decide +kernel
theorem dX7_append_33 : decode cX7_append 33 = .ok (.iload_n 2, 1) := by decide +kernel
theorem dX7_append_34 : decode cX7_append 34 = .ok (.invokevirtual 50, 3) := by decide +kernel
theorem dX7_append_37 : decode cX7_append 37 = .ok (.aload 6, 2) := by decide +kernel
theorem dX7_append_39 : decode cX7_append 39 = .ok (.iload_n 3, 1) := by decide +kernel
theorem dX7_append_40 : decode cX7_append 40 = .ok (.invokevirtual 50, 3) := by decide +kernel
theorem dX7_append_43 : decode cX7_append 43 = .ok (.aload 6, 2) := by decide +kernel
theorem dX7_append_45 : decode cX7_append 45 = .ok (.iload 4, 2) := by decide +kernel
theorem dX7_append_47 : decode cX7_append 47 = .ok (.invokevirtual 50, 3) := by decide +kernel
theorem dX7_append_50 : decode cX7_append 50 = .ok (.aload 6, 2) := by decide +kernel
theorem dX7_append_52 : decode cX7_append 52 = .ok (.iload 5, 2) := by decide +kernel
theorem dX7_append_54 : decode cX7_append 54 = .ok (.invokevirtual 50, 3) := by decide +kernel
theorem dX7_append_57 : decode cX7_append 57 = .ok (.aload 6, 2) := by decide +kernel
theorem dX7_append_59 : decode cX7_append 59 = .ok (.getfield 44, 3) := by decide +kernel
theorem dX7_append_62 : decode cX7_append 62 = .ok (.ireturn, 1) := by decide +kernel
set_option maxRecDepth 20000 in
theorem ggX7_load_X3_read : GoodIn wsX7_load wsX3_read := goodIn_r _ [9, 10, 11, 12, 13, 14, 15, 16, 17, 18, 19, 20, 21, 22, 23, 24, 25, 26, 27, 28, 29, 30, 31, 32, 33, 34, 35, 36, 37, 38, 39, 40, 41, 42, 43, 44, 45, 46, 47, 48, 49, 50, 51, 52, 53, 54, 55, 56, 57, 58, 8, 59, 60, 61, 62, 63, 64, 65, 66, 67, 68, 69, 70, 71, 72, 73, 74, 75, 76, 77, 78, 79, 80, 81, 82, 83, 84, 85, 86, 87, 88, 89, 90, 91, 92, 93, 94, 95, 96, 97, 98, 99, 100, 101, 102, 103, 104, 105, 106, 107, 108, 109, 110, 111, 112, 113, 114, 115, 116, 117, 118, 119, 120, 121, 122, 123, 124, 125, 126, 127, 128, 129, 130, 131, 132, 133, 134, 135, 136, 137, 138, 139, 140, 141, 142, 143, 144, 145, 146, 147, 148, 149, 150, 151, 152, 153, 154, 155, 156, 157, 158, 159, 160, 161, 162, 163, 164, 165, 166, 167, 168, 169, 170, 171, 172, 173, 174, 175, 176, 177, 178, 179, 180, 181, 182, 183, 184, 185, 186, 187, 188, 189, 190, 191, 192, 193, 194, 195, 196, 197, 198, 199, 200, 201, 202, 203, 204, 205, 206, 207, 208, 209, 210, 211, 212, 213, 214, 215, 216, 217, 218, 219, 220, 221, 222, 223, 224, 225, 323, 324, 325, 326, 327, 328, 329, 330, 331, 332, 333, 341, 342, 343, 344, 345, 346, 347, 348, 349, 350, 351, 352, 353, 354, 355, 356, 334, 335, 336, 337, 338, 339, 340, 357, 358, 359, 360, 361, 362] rfl (by decide +kernel)
set_option maxRecDepth 20000 in
theorem gX7_load_X3_read : GoodIn wsX7_load (wsV RX7 57 RX3 yX3_read wsX3_read) := goodIn_app (goodIn_of _ (by decide +kernel)) ggX7_load_X3_read
set_option maxRecDepth 20000 in
theorem ggX7_load_X7_remember : GoodIn wsX7_load wsX7_remember := goodIn_r _ [229, 230, 231, 4, 232, 233, 40, 41, 42, 234, 235, 236, 26, 237, 238, 239, 240, 161, 241, 242, 243, 244, 245, 246, 247, 248, 28, 249, 250, 251, 252, 167, 253, 254, 223, 224, 225, 255, 256, 257, 258, 259, 260, 261, 262, 263, 264, 265, 266, 267, 268, 269, 270, 271, 272, 316, 317, 318, 319, 320, 321, 322, 341, 342, 343, 344, 345, 346, 347, 348, 349, 350, 351, 352, 353, 354, 355, 356, 363, 364, 365, 366, 367, 368, 369, 370] rfl (by decide +kernel)
set_option maxRecDepth 20000 in
theorem gX7_load_X7_remember : GoodIn wsX7_load (wsV RX7 61 RX7 yX7_remember wsX7_remember) := goodIn_app (goodIn_of _ (by decide +kernel)) ggX7_load_X7_remember
set_option maxRecDepth 20000 in
theorem ggX7_load_X1_takeOver : GoodIn wsX7_load wsX1_takeOver := goodIn_r _ [237, 238, 239, 240, 161, 241, 242, 243, 244, 245, 246, 247, 248, 28, 249, 250, 251, 252, 167, 253, 233, 40, 41, 42, 254, 223, 224, 225, 255, 256, 257, 258, 259, 260, 261, 262, 263, 264, 265, 266, 267, 268, 269, 270, 271, 272, 341, 342, 343, 344, 345, 346, 347, 348, 349, 350, 351, 352, 353, 354, 355, 356, 363, 364, 365, 366, 367, 368, 369, 370] rfl (by decide +kernel)
set_option maxRecDepth 20000 in
theorem gX7_load_X1_takeOver : GoodIn wsX7_load (wsV RX7 65 RX1 yX1_takeOver wsX1_takeOver) := goodIn_app (goodIn_of _ (by decide +kernel)) ggX7_load_X1_takeOver
set_option maxRecDepth 20000 in
theorem ggX7_load_X1_dealRound : GoodIn wsX7_load wsX1_dealRound := goodIn_r _ [276, 250, 241, 239, 251, 161, 242, 243, 244, 245, 247, 277, 278, 279, 258, 280, 261, 262, 281, 282, 283, 26, 284, 238, 170, 167, 171, 173, 174, 285, 158, 159, 160, 162, 163, 164, 165, 28, 166, 168, 169, 172, 286, 287, 288, 289, 260, 179, 180, 290, 291, 292, 293, 294, 295, 296, 297, 298, 299, 300, 240, 301, 176, 177, 178, 302, 303, 304, 305, 306, 307, 308, 309, 310, 311, 312, 266, 313, 270, 271, 272, 314, 30, 31, 32, 341, 342, 343, 344, 345, 346, 347, 348, 349, 350, 351, 352, 353, 354, 355, 356, 363, 364, 365, 366, 367, 368, 369, 370] rfl (by decide +kernel)
set_option maxRecDepth 20000 in
theorem gX7_load_X1_dealRound : GoodIn wsX7_load (wsV RX7 37 RX1 yX1_dealRound wsX1_dealRound) := goodIn_app (goodIn_of _ (by decide +kernel)) ggX7_load_X1_dealRound
set_option maxRecDepth 20000 in
theorem ggX7_load_X4_size : GoodIn wsX7_load wsX4_size := goodIn_r _ [305, 262, 261, 363, 364, 365] rfl (by decide +kernel)
set_option maxRecDepth 20000 in
theorem gX7_load_X4_size : GoodIn wsX7_load (wsV RX7 73 RX4 yX4_size wsX4_size) := goodIn_app (goodIn_of _ (by decide +kernel)) ggX7_load_X4_size
theorem dX7_load_0 : decode cX7_load 0 = .ok (.iload_n 1, 1) := by decide +kernel
theorem dX7_load_1 : decode cX7_load 1 = .ok (.ifCond .lt 17, 3) := by decide +kernel
theorem dX7_load_4 : decode cX7_load 4 = .ok (.iload_n 1, 1) := by decide +kernel
theorem dX7_load_5 : decode cX7_load 5 = .ok (.aload_n 0, 1) := by decide +kernel
theorem dX7_load_6 : decode cX7_load 6 = .ok (.getfield 26, 3) := by decide +kernel
theorem dX7_load_9 : decode cX7_load 9 = .ok (.getfield 40, 3) := by decide +kernel
theorem dX7_load_12 : decode cX7_load 12 = .ok (.getfield 44, 3) := by decide +kernel
theorem dX7_load_15 : decode cX7_load 15 = .ok (.if_icmp .le 11, 3) := by decide +kernel
theorem dX7_load_18 : decode cX7_load 18 = .ok (.new 54, 3) := by decide +kernel
theorem dX7_load_21 : decode cX7_load 21 = .ok (.dup, 1) := by decide +kernel
theorem dX7_load_22 : decode cX7_load 22 = .ok (.invokespecial 56, 3) := by decide +kernel
theorem dX7_load_25 : decode cX7_load 25 = .ok (.athrow, 1) := by decide +kernel
theorem dX7_load_26 : decode cX7_load 26 = .ok (.aload_n 0, 1) := by decide +kernel
theorem dX7_load_27 : decode cX7_load 27 = .ok (.getfield 26, 3) := by decide +kernel
theorem dX7_load_30 : decode cX7_load 30 = .ok (.iload_n 1, 1) := by decide +kernel
theorem dX7_load_31 : decode cX7_load 31 = .ok (.invokevirtual 57, 3) := by decide +kernel
theorem dX7_load_34 : decode cX7_load 34 = .ok (.istore_n 2, 1) := by decide +kernel
theorem dX7_load_35 : decode cX7_load 35 = .ok (.iload_n 2, 1) := by decide +kernel
theorem dX7_load_36 : decode cX7_load 36 = .ok (.ifCond .eq 5, 3) := by decide +kernel
theorem dX7_load_39 : decode cX7_load 39 = .ok (.iload_n 2, 1) := by decide +kernel
theorem dX7_load_40 : decode cX7_load 40 = .ok (.ireturn, 1) := by decide +kernel
theorem dX7_load_41 : decode cX7_load 41 = .ok (.aload_n 0, 1) := by decide +kernel
theorem dX7_load_42 : decode cX7_load 42 = .ok (.invokevirtual 61, 3) := by decide +kernel
theorem dX7_load_45 : decode cX7_load 45 = .ok (.aload_n 0, 1) := by decide +kernel
theorem dX7_load_46 : decode cX7_load 46 = .ok (.getfield 10, 3) := by decide +kernel
theorem dX7_load_49 : decode cX7_load 49 = .ok (.aload_n 0, 1) := by decide +kernel
theorem dX7_load_50 : decode cX7_load 50 = .ok (.getfield 26, 3) := by decide +kernel
theorem dX7_load_53 : decode cX7_load 53 = .ok (.getfield 64, 3) := by decide +kernel
theorem dX7_load_56 : decode cX7_load 56 = .ok (.invokevirtual 65, 3) := by decide +kernel
theorem dX7_load_59 : decode cX7_load 59 = .ok (.aload_n 0, 1) := by decide +kernel
theorem dX7_load_60 : decode cX7_load 60 = .ok (.getfield 10, 3) := by decide +kernel
theorem dX7_load_63 : decode cX7_load 63 = .ok (.invokevirtual 37, 3) := by decide +kernel
theorem dX7_load_66 : decode cX7_load 66 = .ok (.aload_n 0, 1) := by decide +kernel
theorem dX7_load_67 : decode cX7_load 67 = .ok (.getfield 10, 3) := by decide +kernel
theorem dX7_load_70 : decode cX7_load 70 = .ok (.getfield 69, 3) := by decide +kernel
theorem dX7_load_73 : decode cX7_load 73 = .ok (.invokevirtual 73, 3) := by decide +kernel
theorem dX7_load_76 : decode cX7_load 76 = .ok (.ireturn, 1) := by decide +kernel
theorem dX7_errorOffset_0 : decode cX7_errorOffset 0 = .ok (.aload_n 0, 1) := by decide +kernel
theorem dX7_errorOffset_1 : decode cX7_errorOffset 1 = .ok (.getfield 26, 3) := by decide +kernel
theorem dX7_errorOffset_4 : decode cX7_errorOffset 4 = .ok (.getfield 79, 3) := by decide +kernel
theorem dX7_errorOffset_7 : decode cX7_errorOffset 7 = .ok (.ireturn, 1) := by decide +kernel
set_option maxRecDepth 20000 in
theorem ggX7_state_X7_checkWhat : GoodIn wsX7_state wsX7_checkWhat := goodIn_ca (goodIn_r _ [5, 6, 7] rfl (by decide +kernel)) (goodIn_sub (fun _ h => List.mem_cons_of_mem _ (List.mem_append_right _ h)) (by decide +kernel))
set_option maxRecDepth 20000 in
theorem gX7_state_X7_checkWhat : GoodIn wsX7_state (va_wsS RX7 82 yX7_checkWhat wsX7_checkWhat) := goodIn_app (goodIn_of _ (by decide +kernel)) ggX7_state_X7_checkWhat
set_option maxRecDepth 20000 in
theorem ggX7_state_X1_stateNumber : GoodIn wsX7_state wsX1_stateNumber := goodIn_r _ [12, 13, 14, 15, 16, 17, 18, 19, 20, 21, 22, 23, 24, 25, 26, 27, 28, 29, 30, 31, 32, 33, 34, 11, 35, 36, 37, 38, 39, 40, 41, 42, 43, 44, 45, 46, 47, 48, 49, 50, 51, 52, 53, 54, 55, 56, 57, 58, 59, 60, 4, 61, 62, 63, 64, 65, 66, 67, 68, 69, 70, 71, 72, 73, 74, 82, 83, 84, 85, 86, 87, 88, 89, 90, 91, 92, 93, 94, 95, 96, 97, 98, 99, 100, 101, 102, 103, 104, 105] rfl (by decide +kernel)
set_option maxRecDepth 20000 in
theorem gX7_state_X1_stateNumber : GoodIn wsX7_state (wsV RX7 86 RX1 yX1_stateNumber wsX1_stateNumber) := goodIn_app (goodIn_of _ (by decide +kernel)) ggX7_state_X1_stateNumber
theorem dX7_state_0 : decode cX7_state 0 = .ok (.iload_n 1, 1) := by decide +kernel
theorem dX7_state_1 : decode cX7_state 1 = .ok (.bipush 13, 2) := by decide +kernel
theorem dX7_state_3 : decode cX7_state 3 = .ok (.invokestatic 82, 3) := by decide +kernel
theorem dX7_state_6 : decode cX7_state 6 = .ok (.aload_n 0, 1) := by decide +kernel
theorem dX7_state_7 : decode cX7_state 7 = .ok (.getfield 10, 3) := by decide +kernel
theorem dX7_state_10 : decode cX7_state 10 = .ok (.iload_n 1, 1) := by decide +kernel
theorem dX7_state_11 : decode cX7_state 11 = .ok (.invokevirtual 86, 3) := by decide +kernel
theorem dX7_state_14 : decode cX7_state 14 = .ok (.ireturn, 1) := by decide +kernel
set_option maxRecDepth 20000 in
theorem ggX7_player_X7_checkPlayer : GoodIn wsX7_player wsX7_checkPlayer := goodIn_ca (goodIn_r _ [6, 7, 8, 1, 77, 78, 79, 80, 81, 82, 83, 84, 85, 86, 87, 88, 89, 90, 91, 92, 93, 94, 95, 96, 97, 98, 99] rfl (by decide +kernel)) (goodIn_sub (fun _ h => List.mem_cons_of_mem _ (List.mem_append_left _ (List.mem_append_right _ h))) (by decide +kernel))
set_option maxRecDepth 20000 in
theorem gX7_player_X7_checkPlayer : GoodIn wsX7_player (wsV RX7 89 RX7 yX7_checkPlayer wsX7_checkPlayer) := goodIn_app (goodIn_of _ (by decide +kernel)) ggX7_player_X7_checkPlayer
set_option maxRecDepth 20000 in
theorem ggX7_player_X7_checkWhat : GoodIn wsX7_player wsX7_checkWhat := goodIn_ca (goodIn_r _ [11, 12, 13] rfl (by decide +kernel)) (goodIn_sub (fun _ h => List.mem_cons_of_mem _ (List.mem_append_right _ h)) (by decide +kernel))
set_option maxRecDepth 20000 in
theorem gX7_player_X7_checkWhat : GoodIn wsX7_player (va_wsS RX7 82 yX7_checkWhat wsX7_checkWhat) := goodIn_app (goodIn_of _ (by decide +kernel)) ggX7_player_X7_checkWhat
set_option maxRecDepth 20000 in
theorem ggX7_player_X1_playerNumber : GoodIn wsX7_player wsX1_playerNumber := goodIn_r _ [18, 19, 20, 21, 22, 17, 23, 24, 25, 26, 27, 28, 29, 30, 31, 32, 33, 5, 34, 35, 36, 37, 38, 39, 40, 41, 42, 43, 44, 45, 46, 47, 48, 49, 50, 51, 52, 53, 54, 55, 56, 57, 58, 59, 60, 61, 62, 63, 64, 65, 66, 67, 68, 69, 70, 71, 72, 73, 74, 75, 76, 84, 85, 86, 87, 88, 89, 90, 91, 92, 93, 94, 95, 96, 97, 98, 99, 100, 101, 102, 103, 104] rfl (by decide +kernel)
set_option maxRecDepth 20000 in
theorem gX7_player_X1_playerNumber : GoodIn wsX7_player (wsV RX7 92 RX1 yX1_playerNumber wsX1_playerNumber) := goodIn_app (goodIn_of _ (by decide +kernel)) ggX7_player_X1_playerNumber
theorem dX7_player_0 : decode cX7_player 0 = .ok (.aload_n 0, 1) := by decide +kernel
theorem dX7_player_1 : decode cX7_player 1 = .ok (.iload_n 1, 1) := by decide +kernel
theorem dX7_player_2 : decode cX7_player 2 = .ok (.invokevirtual 89, 3) := by decide +kernel
theorem dX7_player_5 : decode cX7_player 5 = .ok (.iload_n 2, 1) := by decide +kernel
theorem dX7_player_6 : decode cX7_player 6 = .ok (.iconst 4, 1) := by decide +kernel
theorem dX7_player_7 : decode cX7_player 7 = .ok (.invokestatic 82, 3) := by decide +kernel
theorem dX7_player_10 : decode cX7_player 10 = .ok (.aload_n 0, 1) := by decide +kernel
theorem dX7_player_11 : decode cX7_player 11 = .ok (.getfield 10, 3) := by decide +kernel
theorem dX7_player_14 : decode cX7_player 14 = .ok (.iload_n 1, 1) := by decide +kernel
theorem dX7_player_15 : decode cX7_player 15 = .ok (.iload_n 2, 1) := by decide +kernel
theorem dX7_player_16 : decode cX7_player 16 = .ok (.invokevirtual 92, 3) := by decide +kernel
theorem dX7_player_19 : decode cX7_player 19 = .ok (.ireturn, 1) := by decide +kernel
set_option maxRecDepth 20000 in
theorem ggX7_tile_X7_checkPlayer : GoodIn wsX7_tile wsX7_checkPlayer := goodIn_ca (goodIn_r _ [8, 9, 10, 3, 21, 22, 23, 24, 25, 26, 27, 28, 29, 30, 31, 32, 33, 34, 35, 36, 37, 38, 39, 40, 41, 42, 43] rfl (by decide +kernel)) (goodIn_sub (fun _ h => List.mem_cons_of_mem _ (List.mem_append_right _ h)) (by decide +kernel))
set_option maxRecDepth 20000 in
theorem gX7_tile_X7_checkPlayer : GoodIn wsX7_tile (wsV RX7 89 RX7 yX7_checkPlayer wsX7_checkPlayer) := goodIn_app (goodIn_of _ (by decide +kernel)) ggX7_tile_X7_checkPlayer
set_option maxRecDepth 20000 in
theorem ggX7_tile_X1_tileInHand : GoodIn wsX7_tile wsX1_tileInHand := goodIn_r _ [15, 16, 17, 18, 14, 19, 20, 28, 29, 30, 31, 32, 33, 34, 35, 36, 37, 38, 39, 40, 41, 42, 43] rfl (by decide +kernel)
set_option maxRecDepth 20000 in
theorem gX7_tile_X1_tileInHand : GoodIn wsX7_tile (wsV RX7 96 RX1 yX1_tileInHand wsX1_tileInHand) := goodIn_app (goodIn_of _ (by decide +kernel)) ggX7_tile_X1_tileInHand
theorem dX7_tile_0 : decode cX7_tile 0 = .ok (.aload_n 0, 1) := by decide +kernel
theorem dX7_tile_1 : decode cX7_tile 1 = .ok (.iload_n 1, 1) := by decide +kernel
theorem dX7_tile_2 : decode cX7_tile 2 = .ok (.invokevirtual 89, 3) := by decide +kernel
theorem dX7_tile_5 : decode cX7_tile 5 = .ok (.aload_n 0, 1) := by decide +kernel
theorem dX7_tile_6 : decode cX7_tile 6 = .ok (.getfield 10, 3) := by decide +kernel
theorem dX7_tile_9 : decode cX7_tile 9 = .ok (.iload_n 1, 1) := by decide +kernel
theorem dX7_tile_10 : decode cX7_tile 10 = .ok (.iload_n 2, 1) := by decide +kernel
theorem dX7_tile_11 : decode cX7_tile 11 = .ok (.invokevirtual 96, 3) := by decide +kernel
theorem dX7_tile_14 : decode cX7_tile 14 = .ok (.istore_n 3, 1) := by decide +kernel
theorem dX7_tile_15 : decode cX7_tile 15 = .ok (.iload_n 3, 1) := by decide +kernel
theorem dX7_tile_16 : decode cX7_tile 16 = .ok (.iconst (-1), 1) := by decide +kernel
theorem dX7_tile_17 : decode cX7_tile 17 = .ok (.if_icmp .ne 11, 3) := by decide +kernel
theorem dX7_tile_20 : decode cX7_tile 20 = .ok (.new 99, 3) := by decide +kernel
theorem dX7_tile_23 : decode cX7_tile 23 = .ok (.dup, 1) := by decide +kernel
theorem dX7_tile_24 : decode cX7_tile 24 = .ok (.invokespecial 101, 3) := by decide +kernel
theorem dX7_tile_27 : decode cX7_tile 27 = .ok (.athrow, 1) := by decide +kernel
theorem dX7_tile_28 : decode cX7_tile 28 = .ok (.iload_n 3, 1) := by decide +kernel
theorem dX7_tile_29 : decode cX7_tile 29 = .ok (.ireturn, 1) := by decide +kernel
set_option maxRecDepth 20000 in
theorem ggX7_train_X7_checkTrain : GoodIn wsX7_train wsX7_checkTrain := goodIn_ca (goodIn_r _ [6, 7, 8, 1, 61, 62, 63, 64, 65, 66, 67, 68, 69, 70, 71, 72, 73, 74, 75, 76, 77, 78, 79, 80, 81, 82, 83] rfl (by decide +kernel)) (goodIn_sub (fun _ h => List.mem_cons_of_mem _ (List.mem_append_left _ (List.mem_append_right _ h))) (by decide +kernel))
set_option maxRecDepth 20000 in
theorem gX7_train_X7_checkTrain : GoodIn wsX7_train (wsV RX7 102 RX7 yX7_checkTrain wsX7_checkTrain) := goodIn_app (goodIn_of _ (by decide +kernel)) ggX7_train_X7_checkTrain
set_option maxRecDepth 20000 in
theorem ggX7_train_X7_checkWhat : GoodIn wsX7_train wsX7_checkWhat := goodIn_ca (goodIn_r _ [11, 12, 13] rfl (by decide +kernel)) (goodIn_sub (fun _ h => List.mem_cons_of_mem _ (List.mem_append_right _ h)) (by decide +kernel))
set_option maxRecDepth 20000 in
theorem gX7_train_X7_checkWhat : GoodIn wsX7_train (va_wsS RX7 82 yX7_checkWhat wsX7_checkWhat) := goodIn_app (goodIn_of _ (by decide +kernel)) ggX7_train_X7_checkWhat
set_option maxRecDepth 20000 in
theorem ggX7_train_X1_trainNumber : GoodIn wsX7_train wsX1_trainNumber := goodIn_r _ [18, 19, 20, 21, 22, 23, 24, 25, 26, 27, 5, 28, 29, 30, 31, 32, 33, 34, 35, 36, 17, 37, 38, 39, 40, 41, 42, 43, 44, 45, 46, 47, 48, 49, 50, 51, 52, 53, 54, 55, 56, 57, 58, 59, 60, 68, 69, 70, 71, 72, 73, 74, 75, 76, 77, 78, 79, 80, 81, 82, 83, 84, 85, 86, 87, 88] rfl (by decide +kernel)
set_option maxRecDepth 20000 in
theorem gX7_train_X1_trainNumber : GoodIn wsX7_train (wsV RX7 105 RX1 yX1_trainNumber wsX1_trainNumber) := goodIn_app (goodIn_of _ (by decide +kernel)) ggX7_train_X1_trainNumber
theorem dX7_train_0 : decode cX7_train 0 = .ok (.aload_n 0, 1) := by decide +kernel
theorem dX7_train_1 : decode cX7_train 1 = .ok (.iload_n 1, 1) := by decide +kernel
theorem dX7_train_2 : decode cX7_train 2 = .ok (.invokevirtual 102, 3) := by decide +kernel
theorem dX7_train_5 : decode cX7_train 5 = .ok (.iload_n 2, 1) := by decide +kernel
theorem dX7_train_6 : decode cX7_train 6 = .ok (.iconst 5, 1) := by decide +kernel
theorem dX7_train_7 : decode cX7_train 7 = .ok (.invokestatic 82, 3) := by decide +kernel
theorem dX7_train_10 : decode cX7_train 10 = .ok (.aload_n 0, 1) := by decide +kernel
theorem dX7_train_11 : decode cX7_train 11 = .ok (.getfield 10, 3) := by decide +kernel
theorem dX7_train_14 : decode cX7_train 14 = .ok (.iload_n 1, 1) := by decide +kernel
theorem dX7_train_15 : decode cX7_train 15 = .ok (.iload_n 2, 1) := by decide +kernel
theorem dX7_train_16 : decode cX7_train 16 = .ok (.invokevirtual 105, 3) := by decide +kernel
theorem dX7_train_19 : decode cX7_train 19 = .ok (.ireturn, 1) := by decide +kernel
set_option maxRecDepth 20000 in
theorem ggX7_laid_X7_checkTrain : GoodIn wsX7_laid wsX7_checkTrain := goodIn_ca (goodIn_r _ [8, 9, 10, 3, 21, 22, 23, 24, 25, 26, 27, 28, 29, 30, 31, 32, 33, 34, 35, 36, 37, 38, 39, 40, 41, 42, 43] rfl (by decide +kernel)) (goodIn_sub (fun _ h => List.mem_cons_of_mem _ (List.mem_append_right _ h)) (by decide +kernel))
set_option maxRecDepth 20000 in
theorem gX7_laid_X7_checkTrain : GoodIn wsX7_laid (wsV RX7 102 RX7 yX7_checkTrain wsX7_checkTrain) := goodIn_app (goodIn_of _ (by decide +kernel)) ggX7_laid_X7_checkTrain
set_option maxRecDepth 20000 in
theorem ggX7_laid_X6_tileAt : GoodIn wsX7_laid wsX6_tileAt := goodIn_r _ [15, 16, 17, 18, 19, 7, 20, 44, 45, 46, 47, 48] rfl (by decide +kernel)
set_option maxRecDepth 20000 in
theorem gX7_laid_X6_tileAt : GoodIn wsX7_laid (wsV RX7 112 RX6 yX6_tileAt wsX6_tileAt) := goodIn_app (goodIn_of _ (by decide +kernel)) ggX7_laid_X6_tileAt
theorem dX7_laid_0 : decode cX7_laid 0 = .ok (.aload_n 0, 1) := by decide +kernel
theorem dX7_laid_1 : decode cX7_laid 1 = .ok (.iload_n 1, 1) := by decide +kernel
theorem dX7_laid_2 : decode cX7_laid 2 = .ok (.invokevirtual 102, 3) := by decide +kernel
theorem dX7_laid_5 : decode cX7_laid 5 = .ok (.aload_n 0, 1) := by decide +kernel
theorem dX7_laid_6 : decode cX7_laid 6 = .ok (.getfield 10, 3) := by decide +kernel
theorem dX7_laid_9 : decode cX7_laid 9 = .ok (.getfield 108, 3) := by decide +kernel
theorem dX7_laid_12 : decode cX7_laid 12 = .ok (.iload_n 1, 1) := by decide +kernel
theorem dX7_laid_13 : decode cX7_laid 13 = .ok (.iload_n 2, 1) := by decide +kernel
theorem dX7_laid_14 : decode cX7_laid 14 = .ok (.invokevirtual 112, 3) := by decide +kernel
theorem dX7_laid_17 : decode cX7_laid 17 = .ok (.istore_n 3, 1) := by decide +kernel
theorem dX7_laid_18 : decode cX7_laid 18 = .ok (.iload_n 3, 1) := by decide +kernel
theorem dX7_laid_19 : decode cX7_laid 19 = .ok (.iconst (-1), 1) := by decide +kernel
theorem dX7_laid_20 : decode cX7_laid 20 = .ok (.if_icmp .ne 11, 3) := by decide +kernel
theorem dX7_laid_23 : decode cX7_laid 23 = .ok (.new 99, 3) := by decide +kernel
theorem dX7_laid_26 : decode cX7_laid 26 = .ok (.dup, 1) := by decide +kernel
theorem dX7_laid_27 : decode cX7_laid 27 = .ok (.invokespecial 101, 3) := by decide +kernel
theorem dX7_laid_30 : decode cX7_laid 30 = .ok (.athrow, 1) := by decide +kernel
theorem dX7_laid_31 : decode cX7_laid 31 = .ok (.iload_n 3, 1) := by decide +kernel
theorem dX7_laid_32 : decode cX7_laid 32 = .ok (.ireturn, 1) := by decide +kernel
set_option maxRecDepth 20000 in
theorem ggX7_why_X7_checkTrain : GoodIn wsX7_why wsX7_checkTrain := goodIn_ca (goodIn_r _ [6, 7, 8, 1, 60, 61, 62, 63, 64, 65, 66, 67, 68, 69, 70, 71, 72, 73, 74, 75, 76, 77, 78, 79, 80, 81, 82] rfl (by decide +kernel)) (goodIn_sub (fun _ h => List.mem_cons_of_mem _ (List.mem_append_left _ (List.mem_append_right _ h))) (by decide +kernel))
set_option maxRecDepth 20000 in
theorem gX7_why_X7_checkTrain : GoodIn wsX7_why (wsV RX7 102 RX7 yX7_checkTrain wsX7_checkTrain) := goodIn_app (goodIn_of _ (by decide +kernel)) ggX7_why_X7_checkTrain
set_option maxRecDepth 20000 in
theorem ggX7_why_X7_checkTile : GoodIn wsX7_why wsX7_checkTile := goodIn_ca (goodIn_r _ [12, 13, 14, 1, 15, 16, 17, 18, 19, 20, 21, 5, 22, 23, 24, 60, 61, 62, 63, 64, 65, 66, 67, 68, 69, 70, 71, 72, 73, 74, 75, 76, 77, 78, 79, 80, 81, 82] rfl (by decide +kernel)) (goodIn_sub (fun _ h => List.mem_cons_of_mem _ (List.mem_append_right _ h)) (by decide +kernel))
set_option maxRecDepth 20000 in
theorem gX7_why_X7_checkTile : GoodIn wsX7_why (wsV RX7 117 RX7 yX7_checkTile wsX7_checkTile) := goodIn_app (goodIn_of _ (by decide +kernel)) ggX7_why_X7_checkTile
set_option maxRecDepth 20000 in
theorem ggX7_why_X1_obstacle : GoodIn wsX7_why wsX1_obstacle := goodIn_r _ [28, 29, 30, 31, 32, 33, 34, 35, 18, 36, 37, 38, 39, 40, 41, 42, 43, 44, 45, 46, 47, 48, 49, 5, 50, 51, 52, 53, 54, 55, 56, 57, 58, 21, 22, 59, 23, 24, 67, 68, 69, 70, 71, 72, 73, 74, 75, 76, 77, 78, 79, 80, 81, 82, 83, 84, 85, 86, 87] rfl (by decide +kernel)
set_option maxRecDepth 20000 in
theorem gX7_why_X1_obstacle : GoodIn wsX7_why (wsV RX7 120 RX1 yX1_obstacle wsX1_obstacle) := goodIn_app (goodIn_of _ (by decide +kernel)) ggX7_why_X1_obstacle
theorem dX7_why_0 : decode cX7_why 0 = .ok (.aload_n 0, 1) := by decide +kernel
theorem dX7_why_1 : decode cX7_why 1 = .ok (.iload_n 2, 1) := by decide +kernel
theorem dX7_why_2 : decode cX7_why 2 = .ok (.invokevirtual 102, 3) := by decide +kernel
theorem dX7_why_5 : decode cX7_why 5 = .ok (.aload_n 0, 1) := by decide +kernel
theorem dX7_why_6 : decode cX7_why 6 = .ok (.iload_n 1, 1) := by decide +kernel
theorem dX7_why_7 : decode cX7_why 7 = .ok (.invokevirtual 117, 3) := by decide +kernel
theorem dX7_why_10 : decode cX7_why 10 = .ok (.aload_n 0, 1) := by decide +kernel
theorem dX7_why_11 : decode cX7_why 11 = .ok (.getfield 10, 3) := by decide +kernel
theorem dX7_why_14 : decode cX7_why 14 = .ok (.iload_n 1, 1) := by decide +kernel
theorem dX7_why_15 : decode cX7_why 15 = .ok (.iload_n 2, 1) := by decide +kernel
theorem dX7_why_16 : decode cX7_why 16 = .ok (.invokevirtual 120, 3) := by decide +kernel
theorem dX7_why_19 : decode cX7_why 19 = .ok (.ireturn, 1) := by decide +kernel
set_option maxRecDepth 20000 in
theorem ggX7_best_X1_bestPlay : GoodIn wsX7_best wsX1_bestPlay := goodIn_r _ [6, 7, 8, 9, 10, 11, 5, 12, 13, 14, 15, 16, 17, 18, 19, 20, 21, 22, 23, 24, 25, 26, 27, 28, 29, 30, 31, 32, 33, 34, 35, 36, 37, 38, 39, 40, 41, 42, 43, 44, 45, 46, 47, 48, 49, 50, 51, 52, 53, 54, 55, 56, 57, 58, 59, 60, 61, 62, 63, 64, 65, 66, 67, 68, 69, 70, 71, 72, 73, 74, 75, 76, 77, 78, 79, 80, 81, 82, 83, 91, 92, 93, 94, 95, 96, 97, 98, 99, 100, 101, 102, 103, 104, 105, 106, 107, 108, 109, 110, 111, 112, 113] rfl (by decide +kernel)
set_option maxRecDepth 20000 in
theorem gX7_best_X1_bestPlay : GoodIn wsX7_best (wsV RX7 123 RX1 yX1_bestPlay wsX1_bestPlay) := goodIn_app (goodIn_of _ (by decide +kernel)) ggX7_best_X1_bestPlay
theorem dX7_best_0 : decode cX7_best 0 = .ok (.aload_n 0, 1) := by decide +kernel
theorem dX7_best_1 : decode cX7_best 1 = .ok (.getfield 10, 3) := by decide +kernel
theorem dX7_best_4 : decode cX7_best 4 = .ok (.invokevirtual 123, 3) := by decide +kernel
theorem dX7_best_7 : decode cX7_best 7 = .ok (.ireturn, 1) := by decide +kernel
set_option maxRecDepth 20000 in
theorem ggX7_rank_X7_checkTrain : GoodIn wsX7_rank wsX7_checkTrain := goodIn_ca (goodIn_r _ [8, 9, 10, 3, 103, 104, 105, 106, 107, 108, 109, 110, 111, 112, 113, 114, 115, 116, 117, 118, 119, 120, 121, 122, 123, 124, 125] rfl (by decide +kernel)) (goodIn_sub (fun _ h => List.mem_cons_of_mem _ (List.mem_append_left _ (List.mem_append_right _ h))) (by decide +kernel))
set_option maxRecDepth 20000 in
theorem gX7_rank_X7_checkTrain : GoodIn wsX7_rank (wsV RX7 102 RX7 yX7_checkTrain wsX7_checkTrain) := goodIn_app (goodIn_of _ (by decide +kernel)) ggX7_rank_X7_checkTrain
set_option maxRecDepth 20000 in
theorem ggX7_rank_X7_checkTile : GoodIn wsX7_rank wsX7_checkTile := goodIn_ca (goodIn_r _ [14, 15, 16, 3, 17, 18, 19, 20, 21, 22, 23, 7, 24, 25, 26, 103, 104, 105, 106, 107, 108, 109, 110, 111, 112, 113, 114, 115, 116, 117, 118, 119, 120, 121, 122, 123, 124, 125] rfl (by decide +kernel)) (goodIn_sub (fun _ h => List.mem_cons_of_mem _ (List.mem_append_right _ h)) (by decide +kernel))
set_option maxRecDepth 20000 in
theorem gX7_rank_X7_checkTile : GoodIn wsX7_rank (wsV RX7 117 RX7 yX7_checkTile wsX7_checkTile) := goodIn_app (goodIn_of _ (by decide +kernel)) ggX7_rank_X7_checkTile
set_option maxRecDepth 20000 in
theorem ggX7_rank_X1_canPlay : GoodIn wsX7_rank wsX1_canPlay := goodIn_r _ [30, 31, 32, 33, 20, 34, 35, 36, 37, 38, 39, 40, 41, 42, 43, 44, 45, 46, 47, 48, 49, 50, 51, 52, 53, 54, 55, 7, 56, 57, 58, 59, 60, 61, 62, 63, 64, 23, 24, 65, 25, 26, 110, 111, 112, 113, 114, 115, 116, 117, 118, 119, 120, 121, 122, 123, 124, 125, 126, 127, 128, 129, 130] rfl (by decide +kernel)
set_option maxRecDepth 20000 in
theorem gX7_rank_X1_canPlay : GoodIn wsX7_rank (wsV RX7 126 RX1 yX1_canPlay wsX1_canPlay) := goodIn_app (goodIn_of _ (by decide +kernel)) ggX7_rank_X1_canPlay
set_option maxRecDepth 20000 in
theorem ggX7_rank_X1_rankOf : GoodIn wsX7_rank wsX1_rankOf := goodIn_r _ [69, 70, 36, 48, 71, 7, 72, 64, 23, 24, 65, 25, 26, 73, 74, 75, 20, 76, 39, 40, 41, 42, 43, 77, 78, 79, 80, 81, 82, 83, 84, 85, 55, 56, 86, 87, 88, 89, 90, 91, 92, 93, 94, 95, 96, 97, 98, 99, 100, 101, 102, 110, 111, 112, 113, 114, 115, 116, 117, 118, 119, 120, 121, 122, 123, 124, 125, 131, 132] rfl (by decide +kernel)
set_option maxRecDepth 20000 in
theorem gX7_rank_X1_rankOf : GoodIn wsX7_rank (wsV RX7 130 RX1 yX1_rankOf wsX1_rankOf) := goodIn_app (goodIn_of _ (by decide +kernel)) ggX7_rank_X1_rankOf
theorem dX7_rank_0 : decode cX7_rank 0 = .ok (.aload_n 0, 1) := by decide +kernel
theorem dX7_rank_1 : decode cX7_rank 1 = .ok (.iload_n 2, 1) := by decide +kernel
theorem dX7_rank_2 : decode cX7_rank 2 = .ok (.invokevirtual 102, 3) := by decide +kernel
theorem dX7_rank_5 : decode cX7_rank 5 = .ok (.aload_n 0, 1) := by decide +kernel
theorem dX7_rank_6 : decode cX7_rank 6 = .ok (.iload_n 1, 1) := by decide +kernel
theorem dX7_rank_7 : decode cX7_rank 7 = .ok (.invokevirtual 117, 3) := by decide +kernel
theorem dX7_rank_10 : decode cX7_rank 10 = .ok (.aload_n 0, 1) := by decide +kernel
theorem dX7_rank_11 : decode cX7_rank 11 = .ok (.getfield 10, 3) := by decide +kernel
theorem dX7_rank_14 : decode cX7_rank 14 = .ok (.iload_n 1, 1) := by decide +kernel
theorem dX7_rank_15 : decode cX7_rank 15 = .ok (.iload_n 2, 1) := by decide +kernel
theorem dX7_rank_16 : decode cX7_rank 16 = .ok (.invokevirtual 126, 3) := by decide +kernel
theorem dX7_rank_19 : decode cX7_rank 19 = .ok (.ifCond .ne 11, 3) := by decide +kernel
theorem dX7_rank_22 : decode cX7_rank 22 = .ok (.new 99, 3) := by decide +kernel
theorem dX7_rank_25 : decode cX7_rank 25 = .ok (.dup, 1) := by decide +kernel
theorem dX7_rank_26 : decode cX7_rank 26 = .ok (.invokespecial 101, 3) := by decide +kernel
theorem dX7_rank_29 : decode cX7_rank 29 = .ok (.athrow, 1) := by decide +kernel
theorem dX7_rank_30 : decode cX7_rank 30 = .ok (.aload_n 0, 1) := by decide +kernel
theorem dX7_rank_31 : decode cX7_rank 31 = .ok (.getfield 10, 3) := by decide +kernel
theorem dX7_rank_34 : decode cX7_rank 34 = .ok (.iload_n 1, 1) := by decide +kernel
theorem dX7_rank_35 : decode cX7_rank 35 = .ok (.iload_n 2, 1) := by decide +kernel
theorem dX7_rank_36 : decode cX7_rank 36 = .ok (.invokevirtual 130, 3) := by decide +kernel
theorem dX7_rank_39 : decode cX7_rank 39 = .ok (.ireturn, 1) := by decide +kernel
set_option maxRecDepth 20000 in
theorem ggX7_longest_X7_checkPlayer : GoodIn wsX7_longest wsX7_checkPlayer := goodIn_ca (goodIn_r _ [6, 7, 8, 9, 77, 78, 79, 80, 81, 82, 83, 84, 85, 86, 87, 88, 89, 90, 91, 92, 93, 94, 95, 96, 97, 98, 99] rfl (by decide +kernel)) (goodIn_sub (fun _ h => List.mem_cons_of_mem _ (List.mem_append_right _ h)) (by decide +kernel))
set_option maxRecDepth 20000 in
theorem gX7_longest_X7_checkPlayer : GoodIn wsX7_longest (wsV RX7 89 RX7 yX7_checkPlayer wsX7_checkPlayer) := goodIn_app (goodIn_of _ (by decide +kernel)) ggX7_longest_X7_checkPlayer
set_option maxRecDepth 20000 in
theorem ggX7_longest_X7_exploreRows : GoodIn wsX7_longest wsX7_exploreRows := goodIn_r _ [13, 9, 1, 14, 15, 16, 17, 18, 19, 20, 21, 22, 23, 24, 25, 26, 27, 28, 29, 30, 31, 32, 33, 34, 35, 36, 37, 38, 39, 40, 5, 41, 42, 43, 44, 45, 46, 47, 48, 49, 50, 51, 52, 53, 54, 55, 56, 57, 58, 59, 60, 61, 62, 63, 64, 65, 77, 78, 79, 80, 81, 82, 83, 84, 85, 86, 87, 88, 89, 90, 91, 92, 93, 94, 95, 96, 97, 98, 99, 100, 101, 102, 103, 104, 105, 106, 107, 108, 109, 110, 111] rfl (by decide +kernel)
set_option maxRecDepth 20000 in
theorem gX7_longest_X7_exploreRows : GoodIn wsX7_longest (wsV RX7 133 RX7 yX7_exploreRows wsX7_exploreRows) := goodIn_app (goodIn_of _ (by decide +kernel)) ggX7_longest_X7_exploreRows
set_option maxRecDepth 20000 in
theorem ggX7_longest_X2_longestLength : GoodIn wsX7_longest wsX2_longestLength := goodIn_r _ [69, 33, 32, 40, 5, 41, 70, 71, 72, 73, 74, 75, 76, 100, 101, 102, 103, 104, 105, 106] rfl (by decide +kernel)
set_option maxRecDepth 20000 in
theorem gX7_longest_X2_longestLength : GoodIn wsX7_longest (wsV RX7 137 RX2 yX2_longestLength wsX2_longestLength) := goodIn_app (goodIn_of _ (by decide +kernel)) ggX7_longest_X2_longestLength
theorem dX7_longest_0 : decode cX7_longest 0 = .ok (.aload_n 0, 1) := by decide +kernel
theorem dX7_longest_1 : decode cX7_longest 1 = .ok (.iload_n 1, 1) := by decide +kernel
theorem dX7_longest_2 : decode cX7_longest 2 = .ok (.invokevirtual 89, 3) := by decide +kernel
theorem dX7_longest_5 : decode cX7_longest 5 = .ok (.aload_n 0, 1) := by decide +kernel
theorem dX7_longest_6 : decode cX7_longest 6 = .ok (.iload_n 1, 1) := by decide +kernel
theorem dX7_longest_7 : decode cX7_longest 7 = .ok (.invokevirtual 133, 3) := by decide +kernel
theorem dX7_longest_10 : decode cX7_longest 10 = .ok (.ifCond .ne 6, 3) := by decide +kernel
theorem dX7_longest_13 : decode cX7_longest 13 = .ok (.bipush (-2), 2) := by decide +kernel
theorem dX7_longest_15 : decode cX7_longest 15 = .ok (.ireturn, 1) := by decide +kernel
theorem dX7_longest_16 : decode cX7_longest 16 = .ok (.aload_n 0, 1) := by decide +kernel
theorem dX7_longest_17 : decode cX7_longest 17 = .ok (.getfield 33, 3) := by decide +kernel
theorem dX7_longest_20 : decode cX7_longest 20 = .ok (.invokevirtual 137, 3) := by decide +kernel
theorem dX7_longest_23 : decode cX7_longest 23 = .ok (.ireturn, 1) := by decide +kernel
set_option maxRecDepth 20000 in
theorem ggX7_longestTile_X7_checkPlayer : GoodIn wsX7_longestTile wsX7_checkPlayer := goodIn_ca (goodIn_r _ [8, 9, 10, 11, 99, 100, 101, 102, 103, 104, 105, 106, 107, 108, 109, 110, 111, 112, 113, 114, 115, 116, 117, 118, 119, 120, 121] rfl (by decide +kernel)) (goodIn_sub (fun _ h => List.mem_cons_of_mem _ (List.mem_append_right _ h)) (by decide +kernel))
set_option maxRecDepth 20000 in
theorem gX7_longestTile_X7_checkPlayer : GoodIn wsX7_longestTile (wsV RX7 89 RX7 yX7_checkPlayer wsX7_checkPlayer) := goodIn_app (goodIn_of _ (by decide +kernel)) ggX7_longestTile_X7_checkPlayer
set_option maxRecDepth 20000 in
theorem ggX7_longestTile_X7_exploreRows : GoodIn wsX7_longestTile wsX7_exploreRows := goodIn_r _ [15, 11, 3, 16, 17, 18, 19, 20, 21, 22, 23, 24, 25, 26, 27, 28, 29, 30, 31, 32, 33, 34, 35, 36, 37, 38, 39, 40, 41, 42, 7, 43, 44, 45, 46, 47, 48, 49, 50, 51, 52, 53, 54, 55, 56, 57, 58, 59, 60, 61, 62, 63, 64, 65, 66, 67, 99, 100, 101, 102, 103, 104, 105, 106, 107, 108, 109, 110, 111, 112, 113, 114, 115, 116, 117, 118, 119, 120, 121, 122, 123, 124, 125, 126, 127, 128, 129, 130, 131, 132, 133] rfl (by decide +kernel)
set_option maxRecDepth 20000 in
theorem gX7_longestTile_X7_exploreRows : GoodIn wsX7_longestTile (wsV RX7 133 RX7 yX7_exploreRows wsX7_exploreRows) := goodIn_app (goodIn_of _ (by decide +kernel)) ggX7_longestTile_X7_exploreRows
set_option maxRecDepth 20000 in
theorem ggX7_longestTile_X2_tileOfFirstLongest : GoodIn wsX7_longestTile wsX2_tileOfFirstLongest := goodIn_r _ [71, 33, 32, 72, 73, 74, 29, 75, 35, 34, 42, 7, 43, 76, 77, 78, 79, 80, 81, 82, 83, 84, 85, 86, 40, 41, 87, 88, 89, 90, 31, 61, 62, 63, 64, 65, 66, 67, 44, 45, 91, 92, 93, 94, 95, 96, 97, 98, 122, 123, 124, 125, 126, 127, 128] rfl (by decide +kernel)
set_option maxRecDepth 20000 in
theorem gX7_longestTile_X2_tileOfFirstLongest : GoodIn wsX7_longestTile (wsV RX7 140 RX2 yX2_tileOfFirstLongest wsX2_tileOfFirstLongest) := goodIn_app (goodIn_of _ (by decide +kernel)) ggX7_longestTile_X2_tileOfFirstLongest
theorem dX7_longestTile_0 : decode cX7_longestTile 0 = .ok (.aload_n 0, 1) := by decide +kernel
theorem dX7_longestTile_1 : decode cX7_longestTile 1 = .ok (.iload_n 1, 1) := by decide +kernel
theorem dX7_longestTile_2 : decode cX7_longestTile 2 = .ok (.invokevirtual 89, 3) := by decide +kernel
theorem dX7_longestTile_5 : decode cX7_longestTile 5 = .ok (.aload_n 0, 1) := by decide +kernel
theorem dX7_longestTile_6 : decode cX7_longestTile 6 = .ok (.iload_n 1, 1) := by decide +kernel
theorem dX7_longestTile_7 : decode cX7_longestTile 7 = .ok (.invokevirtual 133, 3) := by decide +kernel
theorem dX7_longestTile_10 : decode cX7_longestTile 10 = .ok (.ifCond .eq 14, 3) := by decide +kernel
theorem dX7_longestTile_13 : decode cX7_longestTile 13 = .ok (.aload_n 0, 1) := by decide +kernel
theorem dX7_longestTile_14 : decode cX7_longestTile 14 = .ok (.getfield 33, 3) := by decide +kernel
theorem dX7_longestTile_17 : decode cX7_longestTile 17 = .ok (.iload_n 2, 1) := by decide +kernel
theorem dX7_longestTile_18 : decode cX7_longestTile 18 = .ok (.invokevirtual 140, 3) := by decide +kernel
theorem dX7_longestTile_21 : decode cX7_longestTile 21 = .ok (.goto 4, 3) := by decide +kernel
theorem dX7_longestTile_24 : decode cX7_longestTile 24 = .ok (.iconst (-1), 1) := by decide +kernel
theorem dX7_longestTile_25 : decode cX7_longestTile 25 = .ok (.istore_n 3, 1) := by decide +kernel
theorem dX7_longestTile_26 : decode cX7_longestTile 26 = .ok (.iload_n 3, 1) := by decide +kernel
theorem dX7_longestTile_27 : decode cX7_longestTile 27 = .ok (.iconst (-1), 1) := by decide +kernel
theorem dX7_longestTile_28 : decode cX7_longestTile 28 = .ok (.if_icmp .ne 11, 3) := by decide +kernel
theorem dX7_longestTile_31 : decode cX7_longestTile 31 = .ok (.new 99, 3) := by decide +kernel
theorem dX7_longestTile_34 : decode cX7_longestTile 34 = .ok (.dup, 1) := by decide +kernel
theorem dX7_longestTile_35 : decode cX7_longestTile 35 = .ok (.invokespecial 101, 3) := by decide +kernel
theorem dX7_longestTile_38 : decode cX7_longestTile 38 = .ok (.athrow, 1) := by decide +kernel
theorem dX7_longestTile_39 : decode cX7_longestTile 39 = .ok (.iload_n 3, 1) := by decide +kernel
theorem dX7_longestTile_40 : decode cX7_longestTile 40 = .ok (.ireturn, 1) := by decide +kernel
set_option maxRecDepth 20000 in
theorem ggX7_heaviest_X7_checkPlayer : GoodIn wsX7_heaviest wsX7_checkPlayer := goodIn_ca (goodIn_r _ [6, 7, 8, 9, 82, 83, 84, 85, 86, 87, 88, 89, 90, 91, 92, 93, 94, 95, 96, 97, 98, 99, 100, 101, 102, 103, 104] rfl (by decide +kernel)) (goodIn_sub (fun _ h => List.mem_cons_of_mem _ (List.mem_append_right _ h)) (by decide +kernel))
set_option maxRecDepth 20000 in
theorem gX7_heaviest_X7_checkPlayer : GoodIn wsX7_heaviest (wsV RX7 89 RX7 yX7_checkPlayer wsX7_checkPlayer) := goodIn_app (goodIn_of _ (by decide +kernel)) ggX7_heaviest_X7_checkPlayer
set_option maxRecDepth 20000 in
theorem ggX7_heaviest_X7_exploreRows : GoodIn wsX7_heaviest wsX7_exploreRows := goodIn_r _ [13, 9, 1, 14, 15, 16, 17, 18, 19, 20, 21, 22, 23, 24, 25, 26, 27, 28, 29, 30, 31, 32, 33, 34, 35, 36, 37, 38, 39, 40, 5, 41, 42, 43, 44, 45, 46, 47, 48, 49, 50, 51, 52, 53, 54, 55, 56, 57, 58, 59, 60, 61, 62, 63, 64, 65, 82, 83, 84, 85, 86, 87, 88, 89, 90, 91, 92, 93, 94, 95, 96, 97, 98, 99, 100, 101, 102, 103, 104, 105, 106, 107, 108, 109, 110, 111, 112, 113, 114, 115, 116] rfl (by decide +kernel)
set_option maxRecDepth 20000 in
theorem gX7_heaviest_X7_exploreRows : GoodIn wsX7_heaviest (wsV RX7 133 RX7 yX7_exploreRows wsX7_exploreRows) := goodIn_app (goodIn_of _ (by decide +kernel)) ggX7_heaviest_X7_exploreRows
set_option maxRecDepth 20000 in
theorem ggX7_heaviest_X2_mostPips : GoodIn wsX7_heaviest wsX2_mostPips := goodIn_r _ [69, 32, 33, 70, 71, 72, 73, 40, 5, 41, 74, 75, 76, 27, 77, 29, 30, 78, 79, 80, 62, 63, 81, 64, 65, 105, 106, 107, 108, 109, 110, 111] rfl (by decide +kernel)
set_option maxRecDepth 20000 in
theorem gX7_heaviest_X2_mostPips : GoodIn wsX7_heaviest (wsV RX7 143 RX2 yX2_mostPips wsX2_mostPips) := goodIn_app (goodIn_of _ (by decide +kernel)) ggX7_heaviest_X2_mostPips
theorem dX7_heaviest_0 : decode cX7_heaviest 0 = .ok (.aload_n 0, 1) := by decide +kernel
theorem dX7_heaviest_1 : decode cX7_heaviest 1 = .ok (.iload_n 1, 1) := by decide +kernel
theorem dX7_heaviest_2 : decode cX7_heaviest 2 = .ok (.invokevirtual 89, 3) := by decide +kernel
theorem dX7_heaviest_5 : decode cX7_heaviest 5 = .ok (.aload_n 0, 1) := by decide +kernel
theorem dX7_heaviest_6 : decode cX7_heaviest 6 = .ok (.iload_n 1, 1) := by decide +kernel
theorem dX7_heaviest_7 : decode cX7_heaviest 7 = .ok (.invokevirtual 133, 3) := by decide +kernel
theorem dX7_heaviest_10 : decode cX7_heaviest 10 = .ok (.ifCond .ne 6, 3) := by decide +kernel
theorem dX7_heaviest_13 : decode cX7_heaviest 13 = .ok (.bipush (-2), 2) := by decide +kernel
theorem dX7_heaviest_15 : decode cX7_heaviest 15 = .ok (.ireturn, 1) := by decide +kernel
theorem dX7_heaviest_16 : decode cX7_heaviest 16 = .ok (.aload_n 0, 1) := by decide +kernel
theorem dX7_heaviest_17 : decode cX7_heaviest 17 = .ok (.getfield 33, 3) := by decide +kernel
theorem dX7_heaviest_20 : decode cX7_heaviest 20 = .ok (.invokevirtual 143, 3) := by decide +kernel
theorem dX7_heaviest_23 : decode cX7_heaviest 23 = .ok (.ireturn, 1) := by decide +kernel
set_option maxRecDepth 20000 in
theorem ggX7_play_X7_checkTrain : GoodIn wsX7_play wsX7_checkTrain := goodIn_ca (goodIn_r _ [6, 7, 8, 1, 150, 151, 152, 153, 154, 155, 156, 157, 158, 159, 160, 161, 162, 163, 164, 165, 166, 167, 168, 169, 170, 171, 172] rfl (by decide +kernel)) (goodIn_sub (fun _ h => List.mem_cons_of_mem _ (List.mem_append_left _ (List.mem_append_left _ (List.mem_append_right _ h)))) (by decide +kernel))
set_option maxRecDepth 20000 in
theorem gX7_play_X7_checkTrain : GoodIn wsX7_play (wsV RX7 102 RX7 yX7_checkTrain wsX7_checkTrain) := goodIn_app (goodIn_of _ (by decide +kernel)) ggX7_play_X7_checkTrain
set_option maxRecDepth 20000 in
theorem ggX7_play_X7_checkTile : GoodIn wsX7_play wsX7_checkTile := goodIn_ca (goodIn_r _ [12, 13, 14, 1, 15, 16, 17, 18, 19, 20, 21, 5, 22, 23, 24, 150, 151, 152, 153, 154, 155, 156, 157, 158, 159, 160, 161, 162, 163, 164, 165, 166, 167, 168, 169, 170, 171, 172] rfl (by decide +kernel)) (goodIn_sub (fun _ h => List.mem_cons_of_mem _ (List.mem_append_left _ (List.mem_append_right _ h))) (by decide +kernel))
set_option maxRecDepth 20000 in
theorem gX7_play_X7_checkTile : GoodIn wsX7_play (wsV RX7 117 RX7 yX7_checkTile wsX7_checkTile) := goodIn_app (goodIn_of _ (by decide +kernel)) ggX7_play_X7_checkTile
set_option maxRecDepth 20000 in
theorem ggX7_play_X1_canPlay : GoodIn wsX7_play wsX1_canPlay := goodIn_r _ [28, 29, 30, 31, 18, 32, 33, 34, 35, 36, 37, 38, 39, 40, 41, 42, 43, 44, 45, 46, 47, 48, 49, 50, 51, 52, 53, 5, 54, 55, 56, 57, 58, 59, 60, 61, 62, 21, 22, 63, 23, 24, 157, 158, 159, 160, 161, 162, 163, 164, 165, 166, 167, 168, 169, 170, 171, 172, 173, 174, 175, 176, 177] rfl (by decide +kernel)
set_option maxRecDepth 20000 in
theorem gX7_play_X1_canPlay : GoodIn wsX7_play (wsV RX7 126 RX1 yX1_canPlay wsX1_canPlay) := goodIn_app (goodIn_of _ (by decide +kernel)) ggX7_play_X1_canPlay
set_option maxRecDepth 20000 in
theorem ggX7_play_X7_checkAllowed : GoodIn wsX7_play wsX7_checkAllowed := goodIn_ca (goodIn_r _ [66, 67, 68] rfl (by decide +kernel)) (goodIn_sub (fun _ h => List.mem_cons_of_mem _ (List.mem_append_right _ h)) (by decide +kernel))
set_option maxRecDepth 20000 in
theorem gX7_play_X7_checkAllowed : GoodIn wsX7_play (va_wsS RX7 162 yX7_checkAllowed wsX7_checkAllowed) := goodIn_app (goodIn_of _ (by decide +kernel)) ggX7_play_X7_checkAllowed
set_option maxRecDepth 20000 in
theorem ggX7_play_X7_remember : GoodIn wsX7_play wsX7_remember := goodIn_r _ [72, 73, 74, 1, 75, 76, 77, 78, 79, 80, 81, 82, 18, 83, 20, 46, 84, 85, 86, 34, 87, 35, 33, 88, 89, 90, 41, 91, 92, 36, 93, 5, 94, 95, 96, 97, 98, 99, 100, 101, 102, 103, 104, 105, 106, 107, 108, 109, 50, 110, 111, 112, 113, 59, 52, 150, 151, 152, 153, 154, 155, 156, 157, 158, 159, 160, 161, 162, 163, 164, 165, 166, 167, 168, 169, 170, 171, 172, 178, 179, 180, 173, 174, 175, 176, 177] rfl (by decide +kernel)
set_option maxRecDepth 20000 in
theorem gX7_play_X7_remember : GoodIn wsX7_play (wsV RX7 61 RX7 yX7_remember wsX7_remember) := goodIn_app (goodIn_of _ (by decide +kernel)) ggX7_play_X7_remember
set_option maxRecDepth 20000 in
theorem ggX7_play_X1_layTile : GoodIn wsX7_play wsX1_layTile := goodIn_r _ [117, 41, 36, 34, 35, 89, 87, 118, 5, 119, 120, 121, 122, 50, 123, 113, 111, 112, 59, 124, 125, 62, 21, 22, 63, 23, 24, 126, 56, 57, 58, 53, 54, 127, 128, 129, 130, 52, 131, 132, 133, 134, 135, 18, 136, 37, 38, 39, 40, 137, 138, 139, 140, 33, 88, 46, 91, 141, 142, 143, 144, 145, 146, 147, 148, 157, 158, 159, 160, 161, 162, 163, 164, 165, 166, 167, 168, 169, 170, 171, 172, 173, 174, 175, 176, 177] rfl (by decide +kernel)
set_option maxRecDepth 20000 in
theorem gX7_play_X1_layTile : GoodIn wsX7_play (wsV RX7 166 RX1 yX1_layTile wsX1_layTile) := goodIn_app (goodIn_of _ (by decide +kernel)) ggX7_play_X1_layTile
set_option maxRecDepth 20000 in
theorem ggX7_play_X6_endOf : GoodIn wsX7_play wsX6_endOf := goodIn_r _ [58, 59, 53, 5, 54, 173, 174, 175, 176, 177] rfl (by decide +kernel)
set_option maxRecDepth 20000 in
theorem gX7_play_X6_endOf : GoodIn wsX7_play (wsV RX7 169 RX6 yX6_endOf wsX6_endOf) := goodIn_app (goodIn_of _ (by decide +kernel)) ggX7_play_X6_endOf
theorem dX7_play_0 : decode cX7_play 0 = .ok (.aload_n 0, 1) := by decide +kernel
theorem dX7_play_1 : decode cX7_play 1 = .ok (.iload_n 2, 1) := by decide +kernel
theorem dX7_play_2 : decode cX7_play 2 = .ok (.invokevirtual 102, 3) := by decide +kernel
theorem dX7_play_5 : decode cX7_play 5 = .ok (.aload_n 0, 1) := by decide +kernel
theorem dX7_play_6 : decode cX7_play 6 = .ok (.iload_n 1, 1) := by decide +kernel
theorem dX7_play_7 : decode cX7_play 7 = .ok (.invokevirtual 117, 3) := by decide +kernel
theorem dX7_play_10 : decode cX7_play 10 = .ok (.aload_n 0, 1) := by decide +kernel
theorem dX7_play_11 : decode cX7_play 11 = .ok (.getfield 10, 3) := by decide +kernel
theorem dX7_play_14 : decode cX7_play 14 = .ok (.iload_n 1, 1) := by decide +kernel
theorem dX7_play_15 : decode cX7_play 15 = .ok (.iload_n 2, 1) := by decide +kernel
theorem dX7_play_16 : decode cX7_play 16 = .ok (.invokevirtual 126, 3) := by decide +kernel
theorem dX7_play_19 : decode cX7_play 19 = .ok (.invokestatic 162, 3) := by decide +kernel
theorem dX7_play_22 : decode cX7_play 22 = .ok (.aload_n 0, 1) := by decide +kernel
theorem dX7_play_23 : decode cX7_play 23 = .ok (.invokevirtual 61, 3) := by decide +kernel
theorem dX7_play_26 : decode cX7_play 26 = .ok (.aload_n 0, 1) := by decide +kernel
theorem dX7_play_27 : decode cX7_play 27 = .ok (.getfield 10, 3) := by decide +kernel
theorem dX7_play_30 : decode cX7_play 30 = .ok (.iload_n 1, 1) := by decide +kernel
theorem dX7_play_31 : decode cX7_play 31 = .ok (.iload_n 2, 1) := by decide +kernel
theorem dX7_play_32 : decode cX7_play 32 = .ok (.invokevirtual 166, 3) := by decide +kernel
theorem dX7_play_35 : decode cX7_play 35 = .ok (.aload_n 0, 1) := by decide +kernel
theorem dX7_play_36 : decode cX7_play 36 = .ok (.getfield 10, 3) := by decide +kernel
theorem dX7_play_39 : decode cX7_play 39 = .ok (.getfield 108, 3) := by decide +kernel
theorem dX7_play_42 : decode cX7_play 42 = .ok (.iload_n 2, 1) := by decide +kernel
theorem dX7_play_43 : decode cX7_play 43 = .ok (.invokevirtual 169, 3) := by decide +kernel
theorem dX7_play_46 : decode cX7_play 46 = .ok (.ireturn, 1) := by decide +kernel
set_option maxRecDepth 20000 in
theorem ggX7_draw_X1_mayDraw : GoodIn wsX7_draw wsX1_mayDraw := goodIn_r _ [6, 7, 8, 9, 10, 11, 12, 13, 14, 15, 16, 17, 18, 19, 5, 20, 21, 22, 23, 24, 25, 26, 27, 28, 29, 30, 31, 32, 33, 34, 35, 36, 37, 38, 39, 40, 41, 42, 43, 44, 45, 46, 47, 48, 49, 50, 51, 52, 53, 54, 55, 56, 57, 58, 59, 60, 61, 62, 63, 127, 128, 129, 130, 131, 132, 133, 134, 135, 136, 137, 138, 139, 140, 141, 142, 143, 144, 145, 146, 147, 148, 149, 150] rfl (by decide +kernel)
set_option maxRecDepth 20000 in
theorem gX7_draw_X1_mayDraw : GoodIn wsX7_draw (wsV RX7 172 RX1 yX1_mayDraw wsX1_mayDraw) := goodIn_app (goodIn_of _ (by decide +kernel)) ggX7_draw_X1_mayDraw
set_option maxRecDepth 20000 in
theorem ggX7_draw_X7_checkAllowed : GoodIn wsX7_draw wsX7_checkAllowed := goodIn_ca (goodIn_r _ [66, 67, 68] rfl (by decide +kernel)) (goodIn_sub (fun _ h => List.mem_cons_of_mem _ (List.mem_append_right _ h)) (by decide +kernel))
set_option maxRecDepth 20000 in
theorem gX7_draw_X7_checkAllowed : GoodIn wsX7_draw (va_wsS RX7 162 yX7_checkAllowed wsX7_checkAllowed) := goodIn_app (goodIn_of _ (by decide +kernel)) ggX7_draw_X7_checkAllowed
set_option maxRecDepth 20000 in
theorem ggX7_draw_X7_remember : GoodIn wsX7_draw wsX7_remember := goodIn_r _ [72, 73, 74, 1, 75, 76, 77, 78, 79, 80, 81, 82, 5, 83, 84, 31, 85, 86, 87, 21, 8, 36, 7, 88, 89, 90, 26, 91, 9, 37, 92, 49, 93, 94, 95, 96, 97, 98, 99, 100, 13, 101, 102, 16, 15, 103, 104, 105, 45, 106, 107, 108, 109, 55, 47, 120, 121, 122, 123, 124, 125, 126, 127, 128, 129, 130, 131, 132, 133, 134, 135, 136, 137, 138, 139, 140, 141, 142, 143, 144, 145, 146, 147, 148, 149, 150] rfl (by decide +kernel)
set_option maxRecDepth 20000 in
theorem gX7_draw_X7_remember : GoodIn wsX7_draw (wsV RX7 61 RX7 yX7_remember wsX7_remember) := goodIn_app (goodIn_of _ (by decide +kernel)) ggX7_draw_X7_remember
set_option maxRecDepth 20000 in
theorem ggX7_draw_X1_drawTile : GoodIn wsX7_draw wsX1_drawTile := goodIn_r _ [113, 9, 26, 21, 8, 89, 114, 115, 116, 13, 117, 16, 15, 102, 48, 49, 50, 118, 119, 127, 128, 129, 130, 131, 132, 133, 134, 135, 136, 137, 138, 139, 140, 141, 142, 143, 144, 145] rfl (by decide +kernel)
set_option maxRecDepth 20000 in
theorem gX7_draw_X1_drawTile : GoodIn wsX7_draw (wsV RX7 176 RX1 yX1_drawTile wsX1_drawTile) := goodIn_app (goodIn_of _ (by decide +kernel)) ggX7_draw_X1_drawTile
theorem dX7_draw_0 : decode cX7_draw 0 = .ok (.aload_n 0, 1) := by decide +kernel
theorem dX7_draw_1 : decode cX7_draw 1 = .ok (.getfield 10, 3) := by decide +kernel
theorem dX7_draw_4 : decode cX7_draw 4 = .ok (.invokevirtual 172, 3) := by decide +kernel
theorem dX7_draw_7 : decode cX7_draw 7 = .ok (.invokestatic 162, 3) := by decide +kernel
theorem dX7_draw_10 : decode cX7_draw 10 = .ok (.aload_n 0, 1) := by decide +kernel
theorem dX7_draw_11 : decode cX7_draw 11 = .ok (.invokevirtual 61, 3) := by decide +kernel
theorem dX7_draw_14 : decode cX7_draw 14 = .ok (.aload_n 0, 1) := by decide +kernel
theorem dX7_draw_15 : decode cX7_draw 15 = .ok (.getfield 10, 3) := by decide +kernel
theorem dX7_draw_18 : decode cX7_draw 18 = .ok (.invokevirtual 176, 3) := by decide +kernel
theorem dX7_draw_21 : decode cX7_draw 21 = .ok (.ireturn, 1) := by decide +kernel
set_option maxRecDepth 20000 in
theorem ggX7_pass_X1_mayPass : GoodIn wsX7_pass wsX1_mayPass := goodIn_r _ [6, 7, 8, 9, 10, 11, 12, 13, 14, 15, 16, 17, 18, 19, 5, 20, 21, 22, 23, 24, 25, 26, 27, 28, 29, 30, 31, 32, 33, 34, 35, 36, 37, 38, 39, 40, 41, 42, 43, 44, 45, 46, 47, 48, 49, 50, 51, 52, 53, 54, 55, 56, 57, 58, 59, 60, 61, 62, 63, 141, 142, 143, 144, 145, 146, 147, 148, 149, 150, 151, 152, 153, 154, 155, 156, 157, 158, 159, 160, 161, 162, 163, 164] rfl (by decide +kernel)
set_option maxRecDepth 20000 in
theorem gX7_pass_X1_mayPass : GoodIn wsX7_pass (wsV RX7 179 RX1 yX1_mayPass wsX1_mayPass) := goodIn_app (goodIn_of _ (by decide +kernel)) ggX7_pass_X1_mayPass
set_option maxRecDepth 20000 in
theorem ggX7_pass_X7_checkAllowed : GoodIn wsX7_pass wsX7_checkAllowed := goodIn_ca (goodIn_r _ [66, 67, 68] rfl (by decide +kernel)) (goodIn_sub (fun _ h => List.mem_cons_of_mem _ (List.mem_append_right _ h)) (by decide +kernel))
set_option maxRecDepth 20000 in
theorem gX7_pass_X7_checkAllowed : GoodIn wsX7_pass (va_wsS RX7 162 yX7_checkAllowed wsX7_checkAllowed) := goodIn_app (goodIn_of _ (by decide +kernel)) ggX7_pass_X7_checkAllowed
set_option maxRecDepth 20000 in
theorem ggX7_pass_X7_remember : GoodIn wsX7_pass wsX7_remember := goodIn_r _ [72, 73, 74, 1, 75, 76, 77, 78, 79, 80, 81, 82, 5, 83, 84, 31, 85, 86, 87, 21, 8, 36, 7, 88, 89, 90, 26, 91, 9, 37, 92, 49, 93, 94, 95, 96, 97, 98, 99, 100, 13, 101, 102, 16, 15, 103, 104, 105, 45, 106, 107, 108, 109, 55, 47, 134, 135, 136, 137, 138, 139, 140, 141, 142, 143, 144, 145, 146, 147, 148, 149, 150, 151, 152, 153, 154, 155, 156, 157, 158, 159, 160, 161, 162, 163, 164] rfl (by decide +kernel)
set_option maxRecDepth 20000 in
theorem gX7_pass_X7_remember : GoodIn wsX7_pass (wsV RX7 61 RX7 yX7_remember wsX7_remember) := goodIn_app (goodIn_of _ (by decide +kernel)) ggX7_pass_X7_remember
set_option maxRecDepth 20000 in
theorem ggX7_pass_X1_passTurn : GoodIn wsX7_pass wsX1_passTurn := goodIn_r _ [113, 37, 21, 89, 31, 114, 115, 116, 45, 117, 47, 118, 49, 119, 120, 121, 122, 5, 123, 7, 88, 91, 48, 50, 124, 125, 126, 127, 22, 23, 24, 25, 26, 128, 129, 58, 59, 60, 61, 62, 63, 130, 131, 132, 133, 8, 141, 142, 143, 144, 145, 146, 147, 148, 149, 150, 151, 152, 153, 154, 155, 156, 160, 161, 162, 163, 164] rfl (by decide +kernel)
set_option maxRecDepth 20000 in
theorem gX7_pass_X1_passTurn : GoodIn wsX7_pass (wsV RX7 182 RX1 yX1_passTurn wsX1_passTurn) := goodIn_app (goodIn_of _ (by decide +kernel)) ggX7_pass_X1_passTurn
theorem dX7_pass_0 : decode cX7_pass 0 = .ok (.aload_n 0, 1) := by decide +kernel
theorem dX7_pass_1 : decode cX7_pass 1 = .ok (.getfield 10, 3) := by decide +kernel
theorem dX7_pass_4 : decode cX7_pass 4 = .ok (.invokevirtual 179, 3) := by decide +kernel
theorem dX7_pass_7 : decode cX7_pass 7 = .ok (.invokestatic 162, 3) := by decide +kernel
theorem dX7_pass_10 : decode cX7_pass 10 = .ok (.aload_n 0, 1) := by decide +kernel
theorem dX7_pass_11 : decode cX7_pass 11 = .ok (.invokevirtual 61, 3) := by decide +kernel
theorem dX7_pass_14 : decode cX7_pass 14 = .ok (.aload_n 0, 1) := by decide +kernel
theorem dX7_pass_15 : decode cX7_pass 15 = .ok (.getfield 10, 3) := by decide +kernel
theorem dX7_pass_18 : decode cX7_pass 18 = .ok (.invokevirtual 182, 3) := by decide +kernel
theorem dX7_pass_21 : decode cX7_pass 21 = .ok (.aload_n 0, 1) := by decide +kernel
theorem dX7_pass_22 : decode cX7_pass 22 = .ok (.getfield 10, 3) := by decide +kernel
theorem dX7_pass_25 : decode cX7_pass 25 = .ok (.getfield 185, 3) := by decide +kernel
theorem dX7_pass_28 : decode cX7_pass 28 = .ok (.ireturn, 1) := by decide +kernel
set_option maxRecDepth 20000 in
theorem ggX7_auto_X7_remember : GoodIn wsX7_auto wsX7_remember := goodIn_r _ [8, 9, 10, 3, 11, 12, 13, 14, 15, 16, 17, 18, 19, 20, 21, 22, 23, 24, 25, 26, 27, 28, 29, 30, 31, 32, 33, 34, 35, 36, 37, 7, 38, 39, 40, 41, 42, 43, 44, 45, 46, 47, 48, 49, 50, 51, 52, 53, 54, 55, 56, 57, 58, 59, 60, 179, 180, 181, 182, 183, 184, 185, 186, 187, 188, 189, 190, 191, 192, 193, 194, 195, 196, 197, 198, 199, 200, 201, 202, 203, 204, 205, 206, 207, 208, 209] rfl (by decide +kernel)
set_option maxRecDepth 20000 in
theorem gX7_auto_X7_remember : GoodIn wsX7_auto (wsV RX7 61 RX7 yX7_remember wsX7_remember) := goodIn_app (goodIn_of _ (by decide +kernel)) ggX7_auto_X7_remember
set_option maxRecDepth 20000 in
theorem ggX7_auto_X1_playOn : GoodIn wsX7_auto wsX1_playOn := goodIn_r _ [64, 29, 65, 66, 67, 19, 68, 27, 35, 69, 70, 71, 72, 26, 22, 73, 74, 75, 76, 33, 77, 78, 79, 80, 28, 36, 81, 82, 83, 84, 85, 86, 87, 54, 88, 60, 89, 7, 90, 91, 92, 93, 94, 59, 95, 96, 97, 98, 99, 100, 101, 102, 103, 104, 105, 106, 32, 107, 108, 109, 110, 111, 112, 113, 114, 115, 116, 117, 118, 119, 120, 121, 122, 123, 124, 125, 126, 127, 128, 14, 129, 130, 131, 132, 133, 134, 135, 136, 137, 138, 139, 140, 141, 31, 142, 143, 144, 145, 58, 56, 57, 146, 147, 148, 149, 150, 151, 152, 153, 154, 30, 34, 155, 156, 157, 158, 159, 160, 161, 162, 163, 164, 165, 46, 166, 50, 49, 167, 168, 169, 170, 171, 172, 173, 174, 48, 175, 176, 177, 178, 186, 187, 188, 189, 190, 191, 192, 193, 194, 195, 196, 197, 198, 199, 200, 201, 205, 206, 207, 208, 209, 210, 211, 202, 203, 204] rfl (by decide +kernel)
set_option maxRecDepth 20000 in
theorem gX7_auto_X1_playOn : GoodIn wsX7_auto (wsV RX7 147 RX1 yX1_playOn wsX1_playOn) := goodIn_app (goodIn_of _ (by decide +kernel)) ggX7_auto_X1_playOn
theorem dX7_auto_0 : decode cX7_auto 0 = .ok (.iload_n 1, 1) := by decide +kernel
theorem dX7_auto_1 : decode cX7_auto 1 = .ok (.iconst 1, 1) := by decide +kernel
theorem dX7_auto_2 : decode cX7_auto 2 = .ok (.if_icmp .lt 10, 3) := by decide +kernel
theorem dX7_auto_5 : decode cX7_auto 5 = .ok (.iload_n 1, 1) := by decide +kernel
theorem dX7_auto_6 : decode cX7_auto 6 = .ok (.sipush 200, 3) := by decide +kernel
theorem dX7_auto_9 : decode cX7_auto 9 = .ok (.if_icmp .le 11, 3) := by decide +kernel
theorem dX7_auto_12 : decode cX7_auto 12 = .ok (.new 54, 3) := by decide +kernel
theorem dX7_auto_15 : decode cX7_auto 15 = .ok (.dup, 1) := by decide +kernel
theorem dX7_auto_16 : decode cX7_auto 16 = .ok (.invokespecial 56, 3) := by decide +kernel
theorem dX7_auto_19 : decode cX7_auto 19 = .ok (.athrow, 1) := by decide +kernel
theorem dX7_auto_20 : decode cX7_auto 20 = .ok (.aload_n 0, 1) := by decide +kernel
theorem dX7_auto_21 : decode cX7_auto 21 = .ok (.invokevirtual 61, 3) := by decide +kernel
theorem dX7_auto_24 : decode cX7_auto 24 = .ok (.aload_n 0, 1) := by decide +kernel
theorem dX7_auto_25 : decode cX7_auto 25 = .ok (.getfield 10, 3) := by decide +kernel
theorem dX7_auto_28 : decode cX7_auto 28 = .ok (.iload_n 1, 1) := by decide +kernel
theorem dX7_auto_29 : decode cX7_auto 29 = .ok (.invokevirtual 147, 3) := by decide +kernel
theorem dX7_auto_32 : decode cX7_auto 32 = .ok (.ireturn, 1) := by decide +kernel
set_option maxRecDepth 20000 in
theorem ggX7_deal_X7_checkAllowed : GoodIn wsX7_deal wsX7_checkAllowed := goodIn_ca (goodIn_r _ [7, 8, 9] rfl (by decide +kernel)) (goodIn_sub (fun _ h => List.mem_cons_of_mem _ (List.mem_append_right _ h)) (by decide +kernel))
set_option maxRecDepth 20000 in
theorem gX7_deal_X7_checkAllowed : GoodIn wsX7_deal (va_wsS RX7 162 yX7_checkAllowed wsX7_checkAllowed) := goodIn_app (goodIn_of _ (by decide +kernel)) ggX7_deal_X7_checkAllowed
set_option maxRecDepth 20000 in
theorem ggX7_deal_X7_remember : GoodIn wsX7_deal wsX7_remember := goodIn_r _ [13, 14, 15, 3, 16, 17, 18, 19, 20, 21, 22, 23, 24, 25, 26, 27, 28, 29, 30, 31, 32, 33, 34, 35, 36, 37, 38, 39, 40, 41, 42, 6, 43, 44, 45, 46, 47, 48, 49, 50, 51, 52, 53, 54, 55, 56, 57, 58, 59, 60, 61, 62, 63, 64, 65, 137, 138, 139, 140, 141, 142, 143, 144, 145, 146, 147, 148, 149, 150, 151, 152, 153, 154, 155, 156, 157, 158, 159, 160, 161, 162, 163, 164, 165, 166, 167] rfl (by decide +kernel)
set_option maxRecDepth 20000 in
theorem gX7_deal_X7_remember : GoodIn wsX7_deal (wsV RX7 61 RX7 yX7_remember wsX7_remember) := goodIn_app (goodIn_of _ (by decide +kernel)) ggX7_deal_X7_remember
set_option maxRecDepth 20000 in
theorem ggX7_deal_X1_clearHands : GoodIn wsX7_deal wsX1_clearHands := goodIn_r _ [69, 38, 70, 71, 72, 73, 144, 145, 146, 147, 148, 149, 150, 151, 152, 153, 154, 155, 156, 157, 158, 159] rfl (by decide +kernel)
set_option maxRecDepth 20000 in
theorem gX7_deal_X1_clearHands : GoodIn wsX7_deal (wsV RX7 201 RX1 yX1_clearHands wsX1_clearHands) := goodIn_app (goodIn_of _ (by decide +kernel)) ggX7_deal_X1_clearHands
set_option maxRecDepth 20000 in
theorem ggX7_deal_X1_dealRound : GoodIn wsX7_deal wsX1_dealRound := goodIn_r _ [77, 40, 30, 27, 41, 29, 31, 32, 33, 34, 36, 78, 79, 80, 51, 81, 54, 55, 82, 83, 84, 24, 85, 26, 86, 6, 87, 88, 89, 90, 91, 92, 93, 94, 95, 96, 97, 38, 98, 99, 100, 101, 102, 103, 104, 105, 53, 106, 107, 108, 109, 110, 111, 112, 113, 114, 115, 116, 117, 118, 28, 119, 120, 121, 122, 123, 124, 125, 126, 127, 128, 129, 130, 131, 132, 133, 59, 134, 63, 64, 65, 135, 71, 72, 73, 144, 145, 146, 147, 148, 149, 150, 151, 152, 153, 154, 155, 156, 157, 158, 159, 160, 161, 162, 163, 164, 165, 166, 167] rfl (by decide +kernel)
set_option maxRecDepth 20000 in
theorem gX7_deal_X1_dealRound : GoodIn wsX7_deal (wsV RX7 37 RX1 yX1_dealRound wsX1_dealRound) := goodIn_app (goodIn_of _ (by decide +kernel)) ggX7_deal_X1_dealRound
set_option maxRecDepth 20000 in
theorem ggX7_deal_X4_size : GoodIn wsX7_deal wsX4_size := goodIn_r _ [126, 55, 54, 160, 161, 162] rfl (by decide +kernel)
set_option maxRecDepth 20000 in
theorem gX7_deal_X4_size : GoodIn wsX7_deal (wsV RX7 73 RX4 yX4_size wsX4_size) := goodIn_app (goodIn_of _ (by decide +kernel)) ggX7_deal_X4_size
theorem dX7_deal_0 : decode cX7_deal 0 = .ok (.iload_n 1, 1) := by decide +kernel
theorem dX7_deal_1 : decode cX7_deal 1 = .ok (.ifCond .lt 25, 3) := by decide +kernel
theorem dX7_deal_4 : decode cX7_deal 4 = .ok (.iload_n 1, 1) := by decide +kernel
theorem dX7_deal_5 : decode cX7_deal 5 = .ok (.aload_n 0, 1) := by decide +kernel
theorem dX7_deal_6 : decode cX7_deal 6 = .ok (.getfield 10, 3) := by decide +kernel
theorem dX7_deal_9 : decode cX7_deal 9 = .ok (.getfield 188, 3) := by decide +kernel
theorem dX7_deal_12 : decode cX7_deal 12 = .ok (.if_icmp .gt 14, 3) := by decide +kernel
theorem dX7_deal_15 : decode cX7_deal 15 = .ok (.iload_n 2, 1) := by decide +kernel
theorem dX7_deal_16 : decode cX7_deal 16 = .ok (.ifCond .lt 10, 3) := by decide +kernel
theorem dX7_deal_19 : decode cX7_deal 19 = .ok (.iload_n 2, 1) := by decide +kernel
theorem dX7_deal_20 : decode cX7_deal 20 = .ok (.sipush 9999, 3) := by decide +kernel
theorem dX7_deal_23 : decode cX7_deal 23 = .ok (.if_icmp .le 11, 3) := by decide +kernel
theorem dX7_deal_26 : decode cX7_deal 26 = .ok (.new 54, 3) := by decide +kernel
theorem dX7_deal_29 : decode cX7_deal 29 = .ok (.dup, 1) := by decide +kernel
theorem dX7_deal_30 : decode cX7_deal 30 = .ok (.invokespecial 56, 3) := by decide +kernel
theorem dX7_deal_33 : decode cX7_deal 33 = .ok (.athrow, 1) := by decide +kernel
theorem dX7_deal_34 : decode cX7_deal 34 = .ok (.aload_n 0, 1) := by decide +kernel
theorem dX7_deal_35 : decode cX7_deal 35 = .ok (.getfield 10, 3) := by decide +kernel
theorem dX7_deal_38 : decode cX7_deal 38 = .ok (.getfield 191, 3) := by decide +kernel
theorem dX7_deal_41 : decode cX7_deal 41 = .ok (.invokestatic 162, 3) := by decide +kernel
theorem dX7_deal_44 : decode cX7_deal 44 = .ok (.aload_n 0, 1) := by decide +kernel
theorem dX7_deal_45 : decode cX7_deal 45 = .ok (.invokevirtual 61, 3) := by decide +kernel
theorem dX7_deal_48 : decode cX7_deal 48 = .ok (.aload_n 0, 1) := by decide +kernel
theorem dX7_deal_49 : decode cX7_deal 49 = .ok (.getfield 10, 3) := by decide +kernel
theorem dX7_deal_52 : decode cX7_deal 52 = .ok (.iload_n 1, 1) := by decide +kernel
theorem dX7_deal_53 : decode cX7_deal 53 = .ok (.putfield 195, 3) := by decide +kernel
theorem dX7_deal_56 : decode cX7_deal 56 = .ok (.aload_n 0, 1) := by decide +kernel
theorem dX7_deal_57 : decode cX7_deal 57 = .ok (.getfield 10, 3) := by decide +kernel
theorem dX7_deal_60 : decode cX7_deal 60 = .ok (.iload_n 2, 1) := by decide +kernel
theorem dX7_deal_61 : decode cX7_deal 61 = .ok (.putfield 198, 3) := by decide +kernel
theorem dX7_deal_64 : decode cX7_deal 64 = .ok (.aload_n 0, 1) := by decide +kernel
theorem dX7_deal_65 : decode cX7_deal 65 = .ok (.getfield 10, 3) := by decide +kernel
theorem dX7_deal_68 : decode cX7_deal 68 = .ok (.invokevirtual 201, 3) := by decide +kernel
theorem dX7_deal_71 : decode cX7_deal 71 = .ok (.aload_n 0, 1) := by decide +kernel
theorem dX7_deal_72 : decode cX7_deal 72 = .ok (.getfield 10, 3) := by decide +kernel
theorem dX7_deal_75 : decode cX7_deal 75 = .ok (.invokevirtual 37, 3) := by decide +kernel
theorem dX7_deal_78 : decode cX7_deal 78 = .ok (.aload_n 0, 1) := by decide +kernel
theorem dX7_deal_79 : decode cX7_deal 79 = .ok (.getfield 10, 3) := by decide +kernel
theorem dX7_deal_82 : decode cX7_deal 82 = .ok (.getfield 69, 3) := by decide +kernel
