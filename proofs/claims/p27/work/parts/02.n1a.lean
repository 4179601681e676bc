theorem inJx145de : ∀ w ∈ wsJx145de0, w ∈ lw_tbl := by decide +kernel
theorem inJ5 : ∀ w ∈ wsJ50, w ∈ lw_tbl := by decide +kernel
theorem inJx2cfe8 : ∀ w ∈ wsJx2cfe80, w ∈ lw_tbl := by decide +kernel
theorem inJx9f9b0 : ∀ w ∈ wsJx9f9b00, w ∈ lw_tbl := by decide +kernel
theorem inJx8e188 : ∀ w ∈ wsJx8e1880, w ∈ lw_tbl := by decide +kernel
theorem inJxb160c : ∀ w ∈ wsJxb160c0, w ∈ lw_tbl := by decide +kernel
theorem inJ6 : ∀ w ∈ wsJ60, w ∈ lw_tbl := by decide +kernel
theorem inJ9 : ∀ w ∈ wsJ90, w ∈ lw_tbl := by decide +kernel
theorem inJxd2413 : ∀ w ∈ wsJxd24130, w ∈ lw_tbl := by decide +kernel
theorem inJ1 : ∀ w ∈ wsJ10, w ∈ lw_tbl := by decide +kernel
theorem inJ2 : ∀ w ∈ wsJ20, w ∈ lw_tbl := by decide +kernel
theorem inJ10 : ∀ w ∈ wsJ100, w ∈ lw_tbl := by decide +kernel
theorem inJxfd54e : ∀ w ∈ wsJxfd54e0, w ∈ lw_tbl := by decide +kernel
theorem inJx3cf43 : ∀ w ∈ wsJx3cf430, w ∈ lw_tbl := by decide +kernel
theorem inJ7 : ∀ w ∈ wsJ70, w ∈ lw_tbl := by decide +kernel
theorem inJ8 : ∀ w ∈ wsJ80, w ∈ lw_tbl := by decide +kernel
theorem inJ3 : ∀ w ∈ wsJ30, w ∈ lw_tbl := by decide +kernel
set_option maxRecDepth 20000 in
theorem ggX0_init_J7_copyOf_59c91 : GoodIn wsX0_init wsJ7_copyOf_59c91 := goodIn_r _ [17, 18, 19, 20, 21, 22, 23, 4, 24, 7, 8, 9, 25, 26, 27, 28] rfl (by decide +kernel)
set_option maxRecDepth 20000 in
theorem gX0_init_J7_copyOf_59c91 : GoodIn wsX0_init (va_wsS RX0 22 yJ7_copyOf_59c91 wsJ7_copyOf_59c91) := goodIn_app (goodIn_of _ (by decide +kernel)) ggX0_init_J7_copyOf_59c91
theorem dX0_init_0 : decode cX0_init 0 = .ok (.aload_n 0, 1) := by decide +kernel
theorem dX0_init_1 : decode cX0_init 1 = .ok (.invokespecial 1, 3) := by decide +kernel
theorem dX0_init_4 : decode cX0_init 4 = .ok (.aload_n 0, 1) := by decide +kernel
theorem dX0_init_5 : decode cX0_init 5 = .ok (.bipush 16, 2) := by decide +kernel
theorem dX0_init_7 : decode cX0_init 7 = .ok (.newarray .int, 2) := by decide +kernel
theorem dX0_init_9 : decode cX0_init 9 = .ok (.putfield 9, 3) := by decide +kernel
theorem dX0_init_12 : decode cX0_init 12 = .ok (.aload_n 0, 1) := by decide +kernel
theorem dX0_init_13 : decode cX0_init 13 = .ok (.aload_n 1, 1) := by decide +kernel
theorem dX0_init_14 : decode cX0_init 14 = .ok (.iconst 0, 1) := by decide +kernel
theorem dX0_init_15 : decode cX0_init 15 = .ok (.iload_n 2, 1) := by decide +kernel
theorem dX0_init_16 : decode cX0_init 16 = .ok (.aload_n 1, 1) := by decide +kernel
theorem dX0_init_17 : decode cX0_init 17 = .ok (.arraylength, 1) := by decide +kernel
theorem dX0_init_18 : decode cX0_init 18 = .ok (.invokestatic 13, 3) := by decide +kernel
theorem dX0_init_21 : decode cX0_init 21 = .ok (.invokestatic 19, 3) := by decide +kernel
theorem dX0_init_24 : decode cX0_init 24 = .ok (.invokestatic 22, 3) := by decide +kernel
theorem dX0_init_27 : decode cX0_init 27 = .ok (.putfield 28, 3) := by decide +kernel
theorem dX0_init_30 : decode cX0_init 30 = .ok (.return_, 1) := by decide +kernel
set_option maxRecDepth 20000 in
theorem ggX0_value_X7_look : GoodIn wsX0_value wsX7_look := goodIn_r _ [5] rfl (by decide +kernel)
set_option maxRecDepth 20000 in
theorem gX0_value_X7_look_n31 : GoodIn wsX0_value (wsX7_look) := ggX0_value_X7_look
set_option maxRecDepth 20000 in
theorem ggX0_value_X0_result : GoodIn wsX0_value wsX0_result := goodIn_r _ [9, 10, 11, 12, 13, 14, 15, 16, 17, 18] rfl (by decide +kernel)
set_option maxRecDepth 20000 in
theorem gX0_value_X0_result : GoodIn wsX0_value (va_wsS RX0 37 yX0_result wsX0_result) := goodIn_app (goodIn_of _ (by decide +kernel)) ggX0_value_X0_result
set_option maxRecDepth 20000 in
theorem ggX0_value_X7_put : GoodIn wsX0_value wsX7_put := goodIn_r _ [20] rfl (by decide +kernel)
set_option maxRecDepth 20000 in
theorem gX0_value_X7_put_n41 : GoodIn wsX0_value (wsX7_put) := ggX0_value_X7_put
set_option maxRecDepth 20000 in
theorem ggX0_value_X0_operand : GoodIn wsX0_value wsX0_operand := goodIn_r _ [23] rfl (by decide +kernel)
set_option maxRecDepth 20000 in
theorem gX0_value_X0_operand : GoodIn wsX0_value (va_wsS RX0 45 yX0_operand wsX0_operand) := goodIn_app (goodIn_of _ (by decide +kernel)) ggX0_value_X0_operand
theorem dX0_value_0 : decode cX0_value 0 = .ok (.iconst 0, 1) := by decide +kernel
theorem dX0_value_1 : decode cX0_value 1 = .ok (.istore 6, 2) := by decide +kernel
theorem dX0_value_3 : decode cX0_value 3 = .ok (.iconst 0, 1) := by decide +kernel
theorem dX0_value_4 : decode cX0_value 4 = .ok (.istore 7, 2) := by decide +kernel
theorem dX0_value_6 : decode cX0_value 6 = .ok (.iload 7, 2) := by decide +kernel
theorem dX0_value_8 : decode cX0_value 8 = .ok (.aload_n 0, 1) := by decide +kernel
theorem dX0_value_9 : decode cX0_value 9 = .ok (.getfield 28, 3) := by decide +kernel
theorem dX0_value_12 : decode cX0_value 12 = .ok (.arraylength, 1) := by decide +kernel
theorem dX0_value_13 : decode cX0_value 13 = .ok (.if_icmp .ge 93, 3) := by decide +kernel
theorem dX0_value_16 : decode cX0_value 16 = .ok (.aload_n 0, 1) := by decide +kernel
theorem dX0_value_17 : decode cX0_value 17 = .ok (.getfield 28, 3) := by decide +kernel
theorem dX0_value_20 : decode cX0_value 20 = .ok (.iload 7, 2) := by decide +kernel
theorem dX0_value_22 : decode cX0_value 22 = .ok (.iaload, 1) := by decide +kernel
theorem dX0_value_23 : decode cX0_value 23 = .ok (.istore 8, 2) := by decide +kernel
theorem dX0_value_25 : decode cX0_value 25 = .ok (.iload 8, 2) := by decide +kernel
theorem dX0_value_27 : decode cX0_value 27 = .ok (.bipush (-6), 2) := by decide +kernel
theorem dX0_value_29 : decode cX0_value 29 = .ok (.if_icmp .gt 47, 3) := by decide +kernel
theorem dX0_value_32 : decode cX0_value 32 = .ok (.iinc 6 (-1), 3) := by decide +kernel
theorem dX0_value_35 : decode cX0_value 35 = .ok (.aload_n 0, 1) := by decide +kernel
theorem dX0_value_36 : decode cX0_value 36 = .ok (.getfield 9, 3) := by decide +kernel
theorem dX0_value_39 : decode cX0_value 39 = .ok (.iload 6, 2) := by decide +kernel
theorem dX0_value_41 : decode cX0_value 41 = .ok (.iconst 1, 1) := by decide +kernel
theorem dX0_value_42 : decode cX0_value 42 = .ok (.isub, 1) := by decide +kernel
theorem dX0_value_43 : decode cX0_value 43 = .ok (.iload 8, 2) := by decide +kernel
theorem dX0_value_45 : decode cX0_value 45 = .ok (.aload_n 0, 1) := by decide +kernel
theorem dX0_value_46 : decode cX0_value 46 = .ok (.getfield 9, 3) := by decide +kernel
theorem dX0_value_49 : decode cX0_value 49 = .ok (.iload 6, 2) := by decide +kernel
theorem dX0_value_51 : decode cX0_value 51 = .ok (.iconst 1, 1) := by decide +kernel
theorem dX0_value_52 : decode cX0_value 52 = .ok (.isub, 1) := by decide +kernel
theorem dX0_value_53 : decode cX0_value 53 = .ok (.invokestatic 31, 3) := by decide +kernel
theorem dX0_value_56 : decode cX0_value 56 = .ok (.i2l, 1) := by decide +kernel
theorem dX0_value_57 : decode cX0_value 57 = .ok (.aload_n 0, 1) := by decide +kernel
theorem dX0_value_58 : decode cX0_value 58 = .ok (.getfield 9, 3) := by decide +kernel
theorem dX0_value_61 : decode cX0_value 61 = .ok (.iload 6, 2) := by decide +kernel
theorem dX0_value_63 : decode cX0_value 63 = .ok (.invokestatic 31, 3) := by decide +kernel
theorem dX0_value_66 : decode cX0_value 66 = .ok (.i2l, 1) := by decide +kernel
theorem dX0_value_67 : decode cX0_value 67 = .ok (.invokestatic 37, 3) := by decide +kernel
theorem dX0_value_70 : decode cX0_value 70 = .ok (.invokestatic 41, 3) := by decide +kernel
theorem dX0_value_73 : decode cX0_value 73 = .ok (.goto 27, 3) := by decide +kernel
theorem dX0_value_76 : decode cX0_value 76 = .ok (.aload_n 0, 1) := by decide +kernel
theorem dX0_value_77 : decode cX0_value 77 = .ok (.getfield 9, 3) := by decide +kernel
theorem dX0_value_80 : decode cX0_value 80 = .ok (.iload 6, 2) := by decide +kernel
theorem dX0_value_82 : decode cX0_value 82 = .ok (.iload 8, 2) := by decide +kernel
theorem dX0_value_84 : decode cX0_value 84 = .ok (.iload_n 1, 1) := by decide +kernel
theorem dX0_value_85 : decode cX0_value 85 = .ok (.iload_n 2, 1) := by decide +kernel
theorem dX0_value_86 : decode cX0_value 86 = .ok (.iload_n 3, 1) := by decide +kernel
theorem dX0_value_87 : decode cX0_value 87 = .ok (.iload 4, 2) := by decide +kernel
theorem dX0_value_89 : decode cX0_value 89 = .ok (.iload 5, 2) := by decide +kernel
theorem dX0_value_91 : decode cX0_value 91 = .ok (.invokestatic 45, 3) := by decide +kernel
theorem dX0_value_94 : decode cX0_value 94 = .ok (.invokestatic 41, 3) := by decide +kernel
theorem dX0_value_97 : decode cX0_value 97 = .ok (.iinc 6 1, 3) := by decide +kernel
theorem dX0_value_100 : decode cX0_value 100 = .ok (.iinc 7 1, 3) := by decide +kernel
theorem dX0_value_103 : decode cX0_value 103 = .ok (.goto (-97), 3) := by decide +kernel
theorem dX0_value_106 : decode cX0_value 106 = .ok (.aload_n 0, 1) := by decide +kernel
theorem dX0_value_107 : decode cX0_value 107 = .ok (.getfield 9, 3) := by decide +kernel
theorem dX0_value_110 : decode cX0_value 110 = .ok (.iconst 0, 1) := by decide +kernel
theorem dX0_value_111 : decode cX0_value 111 = .ok (.invokestatic 31, 3) := by decide +kernel
theorem dX0_value_114 : decode cX0_value 114 = .ok (.ireturn, 1) := by decide +kernel
theorem dX0_operand_0 : decode cX0_operand 0 = .ok (.iload_n 0, 1) := by decide +kernel
theorem dX0_operand_1 : decode cX0_operand 1 = .ok (.tableswitch 71 (-5) (-1) #[68, 57, 47, 37, 35], 35) := by decide +kernel
theorem dX0_operand_36 : decode cX0_operand 36 = .ok (.iload_n 1, 1) := by decide +kernel
theorem dX0_operand_37 : decode cX0_operand 37 = .ok (.ireturn, 1) := by decide +kernel
theorem dX0_operand_38 : decode cX0_operand 38 = .ok (.iload_n 2, 1) := by decide +kernel
theorem dX0_operand_39 : decode cX0_operand 39 = .ok (.ifCond .eq 7, 3) := by decide +kernel
theorem dX0_operand_42 : decode cX0_operand 42 = .ok (.iconst 1, 1) := by decide +kernel
theorem dX0_operand_43 : decode cX0_operand 43 = .ok (.goto 4, 3) := by decide +kernel
theorem dX0_operand_46 : decode cX0_operand 46 = .ok (.iconst 0, 1) := by decide +kernel
theorem dX0_operand_47 : decode cX0_operand 47 = .ok (.ireturn, 1) := by decide +kernel
theorem dX0_operand_48 : decode cX0_operand 48 = .ok (.iload_n 3, 1) := by decide +kernel
theorem dX0_operand_49 : decode cX0_operand 49 = .ok (.ifCond .eq 7, 3) := by decide +kernel
theorem dX0_operand_52 : decode cX0_operand 52 = .ok (.iconst 1, 1) := by decide +kernel
theorem dX0_operand_53 : decode cX0_operand 53 = .ok (.goto 4, 3) := by decide +kernel
theorem dX0_operand_56 : decode cX0_operand 56 = .ok (.iconst 0, 1) := by decide +kernel
theorem dX0_operand_57 : decode cX0_operand 57 = .ok (.ireturn, 1) := by decide +kernel
theorem dX0_operand_58 : decode cX0_operand 58 = .ok (.iload 4, 2) := by decide +kernel
theorem dX0_operand_60 : decode cX0_operand 60 = .ok (.ifCond .eq 7, 3) := by decide +kernel
theorem dX0_operand_63 : decode cX0_operand 63 = .ok (.iconst 1, 1) := by decide +kernel
theorem dX0_operand_64 : decode cX0_operand 64 = .ok (.goto 4, 3) := by decide +kernel
theorem dX0_operand_67 : decode cX0_operand 67 = .ok (.iconst 0, 1) := by decide +kernel
theorem dX0_operand_68 : decode cX0_operand 68 = .ok (.ireturn, 1) := by decide +kernel
theorem dX0_operand_69 : decode cX0_operand 69 = .ok (.iload 5, 2) := by decide +kernel
theorem dX0_operand_71 : decode cX0_operand 71 = .ok (.ireturn, 1) := by decide +kernel
theorem dX0_operand_72 : decode cX0_operand 72 = .ok (.iload_n 0, 1) := by decide +kernel
theorem dX0_operand_73 : decode cX0_operand 73 = .ok (.ireturn, 1) := by decide +kernel
theorem dX0_result_0 : decode cX0_result 0 = .ok (.iload_n 0, 1) := by decide +kernel
theorem dX0_result_1 : decode cX0_result 1 = .ok (.tableswitch 51 (-8) (-6) #[43, 35, 27], 27) := by decide +kernel
theorem dX0_result_28 : decode cX0_result 28 = .ok (.lload_n 1, 1) := by decide +kernel
theorem dX0_result_29 : decode cX0_result 29 = .ok (.lload_n 3, 1) := by decide +kernel
theorem dX0_result_30 : decode cX0_result 30 = .ok (.ladd, 1) := by decide +kernel
theorem dX0_result_31 : decode cX0_result 31 = .ok (.lstore 5, 2) := by decide +kernel
theorem dX0_result_33 : decode cX0_result 33 = .ok (.goto 34, 3) := by decide +kernel
theorem dX0_result_36 : decode cX0_result 36 = .ok (.lload_n 1, 1) := by decide +kernel
theorem dX0_result_37 : decode cX0_result 37 = .ok (.lload_n 3, 1) := by decide +kernel
theorem dX0_result_38 : decode cX0_result 38 = .ok (.lsub, 1) := by decide +kernel
theorem dX0_result_39 : decode cX0_result 39 = .ok (.lstore 5, 2) := by decide +kernel
theorem dX0_result_41 : decode cX0_result 41 = .ok (.goto 26, 3) := by decide +kernel
theorem dX0_result_44 : decode cX0_result 44 = .ok (.lload_n 1, 1) := by decide +kernel
theorem dX0_result_45 : decode cX0_result 45 = .ok (.lload_n 3, 1) := by decide +kernel
theorem dX0_result_46 : decode cX0_result 46 = .ok (.lmul, 1) := by decide +kernel
theorem dX0_result_47 : decode cX0_result 47 = .ok (.lstore 5, 2) := by decide +kernel
theorem dX0_result_49 : decode cX0_result 49 = .ok (.goto 18, 3) := by decide +kernel
theorem dX0_result_52 : decode cX0_result 52 = .ok (.lload_n 3, 1) := by decide +kernel
theorem dX0_result_53 : decode cX0_result 53 = .ok (.lconst 0, 1) := by decide +kernel
theorem dX0_result_54 : decode cX0_result 54 = .ok (.lcmp, 1) := by decide +kernel
theorem dX0_result_55 : decode cX0_result 55 = .ok (.ifCond .ne 7, 3) := by decide +kernel
theorem dX0_result_58 : decode cX0_result 58 = .ok (.lconst 0, 1) := by decide +kernel
theorem dX0_result_59 : decode cX0_result 59 = .ok (.goto 6, 3) := by decide +kernel
theorem dX0_result_62 : decode cX0_result 62 = .ok (.lload_n 1, 1) := by decide +kernel
theorem dX0_result_63 : decode cX0_result 63 = .ok (.lload_n 3, 1) := by decide +kernel
theorem dX0_result_64 : decode cX0_result 64 = .ok (.ldiv, 1) := by decide +kernel
theorem dX0_result_65 : decode cX0_result 65 = .ok (.lstore 5, 2) := by decide +kernel
theorem dX0_result_67 : decode cX0_result 67 = .ok (.ldc2_w 49, 3) := by decide +kernel
theorem dX0_result_70 : decode cX0_result 70 = .ok (.ldc2_w 51, 3) := by decide +kernel
theorem dX0_result_73 : decode cX0_result 73 = .ok (.lload 5, 2) := by decide +kernel
theorem dX0_result_75 : decode cX0_result 75 = .ok (.invokestatic 53, 3) := by decide +kernel
theorem dX0_result_78 : decode cX0_result 78 = .ok (.invokestatic 56, 3) := by decide +kernel
theorem dX0_result_81 : decode cX0_result 81 = .ok (.l2i, 1) := by decide +kernel
theorem dX0_result_82 : decode cX0_result 82 = .ok (.ireturn, 1) := by decide +kernel
set_option maxRecDepth 20000 in
theorem ggX1_init_X4_init : GoodIn wsX1_init wsX4_init := goodIn_r _ [22, 23, 2, 3, 10, 24, 52, 53, 54] rfl (by decide +kernel)
set_option maxRecDepth 20000 in
theorem gX1_init_X4_init_n39 : GoodIn wsX1_init (wsX4_init) := ggX1_init_X4_init
set_option maxRecDepth 20000 in
theorem ggX1_init_X6_init : GoodIn wsX1_init wsX6_init := goodIn_r _ [26, 27, 2, 3, 10, 28, 29, 30, 31, 55, 56, 57, 58, 59] rfl (by decide +kernel)
set_option maxRecDepth 20000 in
theorem gX1_init_X6_init_n46 : GoodIn wsX1_init (wsX6_init) := ggX1_init_X6_init
set_option maxRecDepth 20000 in
theorem ggX1_init_J7_fill_53178 : GoodIn wsX1_init wsJ7_fill_53178 := goodIn_r _ [35] rfl (by decide +kernel)
set_option maxRecDepth 20000 in
theorem gX1_init_J7_fill_53178 : GoodIn wsX1_init (va_wsS RX1 51 yJ7_fill_53178 wsJ7_fill_53178) := goodIn_app (goodIn_of _ (by decide +kernel)) ggX1_init_J7_fill_53178
theorem dX1_init_0 : decode cX1_init 0 = .ok (.aload_n 0, 1) := by decide +kernel
theorem dX1_init_1 : decode cX1_init 1 = .ok (.invokespecial 3, 3) := by decide +kernel
theorem dX1_init_4 : decode cX1_init 4 = .ok (.aload_n 0, 1) := by decide +kernel
theorem dX1_init_5 : decode cX1_init 5 = .ok (.iconst 3, 1) := by decide +kernel
theorem dX1_init_6 : decode cX1_init 6 = .ok (.putfield 9, 3) := by decide +kernel
theorem dX1_init_9 : decode cX1_init 9 = .ok (.aload_n 0, 1) := by decide +kernel
theorem dX1_init_10 : decode cX1_init 10 = .ok (.iconst 2, 1) := by decide +kernel
theorem dX1_init_11 : decode cX1_init 11 = .ok (.putfield 15, 3) := by decide +kernel
theorem dX1_init_14 : decode cX1_init 14 = .ok (.aload_n 0, 1) := by decide +kernel
theorem dX1_init_15 : decode cX1_init 15 = .ok (.iconst 1, 1) := by decide +kernel
theorem dX1_init_16 : decode cX1_init 16 = .ok (.putfield 18, 3) := by decide +kernel
theorem dX1_init_19 : decode cX1_init 19 = .ok (.aload_n 0, 1) := by decide +kernel
theorem dX1_init_20 : decode cX1_init 20 = .ok (.iconst 3, 1) := by decide +kernel
theorem dX1_init_21 : decode cX1_init 21 = .ok (.putfield 21, 3) := by decide +kernel
theorem dX1_init_24 : decode cX1_init 24 = .ok (.aload_n 0, 1) := by decide +kernel
theorem dX1_init_25 : decode cX1_init 25 = .ok (.iconst 1, 1) := by decide +kernel
theorem dX1_init_26 : decode cX1_init 26 = .ok (.putfield 24, 3) := by decide +kernel
theorem dX1_init_29 : decode cX1_init 29 = .ok (.aload_n 0, 1) := by decide +kernel
theorem dX1_init_30 : decode cX1_init 30 = .ok (.iconst (-1), 1) := by decide +kernel
theorem dX1_init_31 : decode cX1_init 31 = .ok (.putfield 27, 3) := by decide +kernel
theorem dX1_init_34 : decode cX1_init 34 = .ok (.aload_n 0, 1) := by decide +kernel
theorem dX1_init_35 : decode cX1_init 35 = .ok (.bipush 100, 2) := by decide +kernel
theorem dX1_init_37 : decode cX1_init 37 = .ok (.newarray .int, 2) := by decide +kernel
theorem dX1_init_39 : decode cX1_init 39 = .ok (.putfield 30, 3) := by decide +kernel
theorem dX1_init_42 : decode cX1_init 42 = .ok (.aload_n 0, 1) := by decide +kernel
theorem dX1_init_43 : decode cX1_init 43 = .ok (.iconst 4, 1) := by decide +kernel
theorem dX1_init_44 : decode cX1_init 44 = .ok (.newarray .int, 2) := by decide +kernel
theorem dX1_init_46 : decode cX1_init 46 = .ok (.putfield 34, 3) := by decide +kernel
theorem dX1_init_49 : decode cX1_init 49 = .ok (.aload_n 0, 1) := by decide +kernel
theorem dX1_init_50 : decode cX1_init 50 = .ok (.new 37, 3) := by decide +kernel
theorem dX1_init_53 : decode cX1_init 53 = .ok (.dup, 1) := by decide +kernel
theorem dX1_init_54 : decode cX1_init 54 = .ok (.invokespecial 39, 3) := by decide +kernel
theorem dX1_init_57 : decode cX1_init 57 = .ok (.putfield 40, 3) := by decide +kernel
theorem dX1_init_60 : decode cX1_init 60 = .ok (.aload_n 0, 1) := by decide +kernel
theorem dX1_init_61 : decode cX1_init 61 = .ok (.new 44, 3) := by decide +kernel
theorem dX1_init_64 : decode cX1_init 64 = .ok (.dup, 1) := by decide +kernel
theorem dX1_init_65 : decode cX1_init 65 = .ok (.invokespecial 46, 3) := by decide +kernel
theorem dX1_init_68 : decode cX1_init 68 = .ok (.putfield 47, 3) := by decide +kernel
theorem dX1_init_71 : decode cX1_init 71 = .ok (.aload_n 0, 1) := by decide +kernel
theorem dX1_init_72 : decode cX1_init 72 = .ok (.getfield 30, 3) := by decide +kernel
theorem dX1_init_75 : decode cX1_init 75 = .ok (.iconst (-1), 1) := by decide +kernel
theorem dX1_init_76 : decode cX1_init 76 = .ok (.invokestatic 51, 3) := by decide +kernel
theorem dX1_init_79 : decode cX1_init 79 = .ok (.return_, 1) := by decide +kernel
set_option maxRecDepth 20000 in
theorem ggX1_takeOver_X7_copy : GoodIn wsX1_takeOver wsX7_copy := goodIn_r _ [19, 20, 21, 22, 23, 24, 25, 26, 27] rfl (by decide +kernel)
set_option maxRecDepth 20000 in
theorem gX1_takeOver_X7_copy_n77 : GoodIn wsX1_takeOver (wsX7_copy) := ggX1_takeOver_X7_copy
set_option maxRecDepth 20000 in
theorem ggX1_takeOver_X4_takeOver : GoodIn wsX1_takeOver wsX4_takeOver := goodIn_r _ [32, 33, 34, 35, 17, 18, 19, 20, 21, 22, 23, 24, 25, 26, 27, 62, 63, 64] rfl (by decide +kernel)
set_option maxRecDepth 20000 in
theorem gX1_takeOver_X4_takeOver : GoodIn wsX1_takeOver (wsV RX1 81 RX4 yX4_takeOver wsX4_takeOver) := goodIn_app (goodIn_of _ (by decide +kernel)) ggX1_takeOver_X4_takeOver
set_option maxRecDepth 20000 in
theorem ggX1_takeOver_X6_takeOver : GoodIn wsX1_takeOver wsX6_takeOver := goodIn_r _ [40, 41, 42, 43, 44, 45, 17, 18, 19, 20, 21, 22, 23, 24, 25, 26, 27, 65, 66, 67, 68, 69] rfl (by decide +kernel)
set_option maxRecDepth 20000 in
theorem gX1_takeOver_X6_takeOver : GoodIn wsX1_takeOver (wsV RX1 85 RX6 yX6_takeOver wsX6_takeOver) := goodIn_app (goodIn_of _ (by decide +kernel)) ggX1_takeOver_X6_takeOver
theorem dX1_takeOver_0 : decode cX1_takeOver 0 = .ok (.aload_n 0, 1) := by decide +kernel
theorem dX1_takeOver_1 : decode cX1_takeOver 1 = .ok (.aload_n 1, 1) := by decide +kernel
theorem dX1_takeOver_2 : decode cX1_takeOver 2 = .ok (.getfield 9, 3) := by decide +kernel
theorem dX1_takeOver_5 : decode cX1_takeOver 5 = .ok (.putfield 9, 3) := by decide +kernel
theorem dX1_takeOver_8 : decode cX1_takeOver 8 = .ok (.aload_n 0, 1) := by decide +kernel
theorem dX1_takeOver_9 : decode cX1_takeOver 9 = .ok (.aload_n 1, 1) := by decide +kernel
theorem dX1_takeOver_10 : decode cX1_takeOver 10 = .ok (.getfield 15, 3) := by decide +kernel
theorem dX1_takeOver_13 : decode cX1_takeOver 13 = .ok (.putfield 15, 3) := by decide +kernel
theorem dX1_takeOver_16 : decode cX1_takeOver 16 = .ok (.aload_n 0, 1) := by decide +kernel
theorem dX1_takeOver_17 : decode cX1_takeOver 17 = .ok (.aload_n 1, 1) := by decide +kernel
theorem dX1_takeOver_18 : decode cX1_takeOver 18 = .ok (.getfield 18, 3) := by decide +kernel
theorem dX1_takeOver_21 : decode cX1_takeOver 21 = .ok (.putfield 18, 3) := by decide +kernel
theorem dX1_takeOver_24 : decode cX1_takeOver 24 = .ok (.aload_n 0, 1) := by decide +kernel
theorem dX1_takeOver_25 : decode cX1_takeOver 25 = .ok (.aload_n 1, 1) := by decide +kernel
theorem dX1_takeOver_26 : decode cX1_takeOver 26 = .ok (.getfield 21, 3) := by decide +kernel
theorem dX1_takeOver_29 : decode cX1_takeOver 29 = .ok (.putfield 21, 3) := by decide +kernel
theorem dX1_takeOver_32 : decode cX1_takeOver 32 = .ok (.aload_n 0, 1) := by decide +kernel
theorem dX1_takeOver_33 : decode cX1_takeOver 33 = .ok (.aload_n 1, 1) := by decide +kernel
theorem dX1_takeOver_34 : decode cX1_takeOver 34 = .ok (.getfield 24, 3) := by decide +kernel
theorem dX1_takeOver_37 : decode cX1_takeOver 37 = .ok (.putfield 24, 3) := by decide +kernel
theorem dX1_takeOver_40 : decode cX1_takeOver 40 = .ok (.aload_n 0, 1) := by decide +kernel
theorem dX1_takeOver_41 : decode cX1_takeOver 41 = .ok (.aload_n 1, 1) := by decide +kernel
theorem dX1_takeOver_42 : decode cX1_takeOver 42 = .ok (.getfield 57, 3) := by decide +kernel
theorem dX1_takeOver_45 : decode cX1_takeOver 45 = .ok (.putfield 57, 3) := by decide +kernel
theorem dX1_takeOver_48 : decode cX1_takeOver 48 = .ok (.aload_n 0, 1) := by decide +kernel
theorem dX1_takeOver_49 : decode cX1_takeOver 49 = .ok (.aload_n 1, 1) := by decide +kernel
theorem dX1_takeOver_50 : decode cX1_takeOver 50 = .ok (.getfield 60, 3) := by decide +kernel
theorem dX1_takeOver_53 : decode cX1_takeOver 53 = .ok (.putfield 60, 3) := by decide +kernel
theorem dX1_takeOver_56 : decode cX1_takeOver 56 = .ok (.aload_n 0, 1) := by decide +kernel
theorem dX1_takeOver_57 : decode cX1_takeOver 57 = .ok (.aload_n 1, 1) := by decide +kernel
theorem dX1_takeOver_58 : decode cX1_takeOver 58 = .ok (.getfield 27, 3) := by decide +kernel
theorem dX1_takeOver_61 : decode cX1_takeOver 61 = .ok (.putfield 27, 3) := by decide +kernel
theorem dX1_takeOver_64 : decode cX1_takeOver 64 = .ok (.aload_n 0, 1) := by decide +kernel
theorem dX1_takeOver_65 : decode cX1_takeOver 65 = .ok (.aload_n 1, 1) := by decide +kernel
theorem dX1_takeOver_66 : decode cX1_takeOver 66 = .ok (.getfield 64, 3) := by decide +kernel
theorem dX1_takeOver_69 : decode cX1_takeOver 69 = .ok (.putfield 64, 3) := by decide +kernel
theorem dX1_takeOver_72 : decode cX1_takeOver 72 = .ok (.aload_n 0, 1) := by decide +kernel
theorem dX1_takeOver_73 : decode cX1_takeOver 73 = .ok (.aload_n 1, 1) := by decide +kernel
theorem dX1_takeOver_74 : decode cX1_takeOver 74 = .ok (.getfield 67, 3) := by decide +kernel
theorem dX1_takeOver_77 : decode cX1_takeOver 77 = .ok (.putfield 67, 3) := by decide +kernel
theorem dX1_takeOver_80 : decode cX1_takeOver 80 = .ok (.aload_n 0, 1) := by decide +kernel
theorem dX1_takeOver_81 : decode cX1_takeOver 81 = .ok (.aload_n 1, 1) := by decide +kernel
theorem dX1_takeOver_82 : decode cX1_takeOver 82 = .ok (.getfield 70, 3) := by decide +kernel
theorem dX1_takeOver_85 : decode cX1_takeOver 85 = .ok (.putfield 70, 3) := by decide +kernel
theorem dX1_takeOver_88 : decode cX1_takeOver 88 = .ok (.aload_n 0, 1) := by decide +kernel
theorem dX1_takeOver_89 : decode cX1_takeOver 89 = .ok (.aload_n 1, 1) := by decide +kernel
theorem dX1_takeOver_90 : decode cX1_takeOver 90 = .ok (.getfield 73, 3) := by decide +kernel
theorem dX1_takeOver_93 : decode cX1_takeOver 93 = .ok (.putfield 73, 3) := by decide +kernel
theorem dX1_takeOver_96 : decode cX1_takeOver 96 = .ok (.aload_n 1, 1) := by decide +kernel
theorem dX1_takeOver_97 : decode cX1_takeOver 97 = .ok (.getfield 30, 3) := by decide +kernel
theorem dX1_takeOver_100 : decode cX1_takeOver 100 = .ok (.aload_n 0, 1) := by decide +kernel
theorem dX1_takeOver_101 : decode cX1_takeOver 101 = .ok (.getfield 30, 3) := by decide +kernel
theorem dX1_takeOver_104 : decode cX1_takeOver 104 = .ok (.invokestatic 77, 3) := by decide +kernel
theorem dX1_takeOver_107 : decode cX1_takeOver 107 = .ok (.aload_n 1, 1) := by decide +kernel
theorem dX1_takeOver_108 : decode cX1_takeOver 108 = .ok (.getfield 34, 3) := by decide +kernel
theorem dX1_takeOver_111 : decode cX1_takeOver 111 = .ok (.aload_n 0, 1) := by decide +kernel
theorem dX1_takeOver_112 : decode cX1_takeOver 112 = .ok (.getfield 34, 3) := by decide +kernel
theorem dX1_takeOver_115 : decode cX1_takeOver 115 = .ok (.invokestatic 77, 3) := by decide +kernel
theorem dX1_takeOver_118 : decode cX1_takeOver 118 = .ok (.aload_n 0, 1) := by decide +kernel
theorem dX1_takeOver_119 : decode cX1_takeOver 119 = .ok (.getfield 40, 3) := by decide +kernel
theorem dX1_takeOver_122 : decode cX1_takeOver 122 = .ok (.aload_n 1, 1) := by decide +kernel
theorem dX1_takeOver_123 : decode cX1_takeOver 123 = .ok (.getfield 40, 3) := by decide +kernel
theorem dX1_takeOver_126 : decode cX1_takeOver 126 = .ok (.invokevirtual 81, 3) := by decide +kernel
theorem dX1_takeOver_129 : decode cX1_takeOver 129 = .ok (.aload_n 0, 1) := by decide +kernel
theorem dX1_takeOver_130 : decode cX1_takeOver 130 = .ok (.getfield 47, 3) := by decide +kernel
theorem dX1_takeOver_133 : decode cX1_takeOver 133 = .ok (.aload_n 1, 1) := by decide +kernel
theorem dX1_takeOver_134 : decode cX1_takeOver 134 = .ok (.getfield 47, 3) := by decide +kernel
theorem dX1_takeOver_137 : decode cX1_takeOver 137 = .ok (.invokevirtual 85, 3) := by decide +kernel
theorem dX1_takeOver_140 : decode cX1_takeOver 140 = .ok (.return_, 1) := by decide +kernel
set_option maxRecDepth 20000 in
theorem ggX1_clearHands_J7_fill_53178 : GoodIn wsX1_clearHands wsJ7_fill_53178 := goodIn_r _ [5] rfl (by decide +kernel)
set_option maxRecDepth 20000 in
theorem gX1_clearHands_J7_fill_53178 : GoodIn wsX1_clearHands (va_wsS RX1 51 yJ7_fill_53178 wsJ7_fill_53178) := goodIn_app (goodIn_of _ (by decide +kernel)) ggX1_clearHands_J7_fill_53178
theorem dX1_clearHands_0 : decode cX1_clearHands 0 = .ok (.aload_n 0, 1) := by decide +kernel
theorem dX1_clearHands_1 : decode cX1_clearHands 1 = .ok (.getfield 30, 3) := by decide +kernel
theorem dX1_clearHands_4 : decode cX1_clearHands 4 = .ok (.iconst (-1), 1) := by decide +kernel
theorem dX1_clearHands_5 : decode cX1_clearHands 5 = .ok (.invokestatic 51, 3) := by decide +kernel
theorem dX1_clearHands_8 : decode cX1_clearHands 8 = .ok (.return_, 1) := by decide +kernel
set_option maxRecDepth 20000 in
theorem ggX1_dealRound_X4_clear : GoodIn wsX1_dealRound wsX4_clear := goodIn_r _ [15, 16, 17, 101, 102, 103] rfl (by decide +kernel)
set_option maxRecDepth 20000 in
theorem gX1_dealRound_X4_clear : GoodIn wsX1_dealRound (wsV RX1 88 RX4 yX4_clear wsX4_clear) := goodIn_app (goodIn_of _ (by decide +kernel)) ggX1_dealRound_X4_clear
set_option maxRecDepth 20000 in
theorem ggX1_dealRound_X1_isInSet : GoodIn wsX1_dealRound wsX1_isInSet := goodIn_r _ [22, 23, 24, 25, 26, 27, 28, 85, 86, 87, 88, 89, 90, 91, 92, 93, 94, 95, 96, 97, 98, 99, 100] rfl (by decide +kernel)
set_option maxRecDepth 20000 in
theorem gX1_dealRound_X1_isInSet : GoodIn wsX1_dealRound (wsV RX1 91 RX1 yX1_isInSet wsX1_isInSet) := goodIn_app (goodIn_of _ (by decide +kernel)) ggX1_dealRound_X1_isInSet
set_option maxRecDepth 20000 in
theorem ggX1_dealRound_X1_isFree : GoodIn wsX1_dealRound wsX1_isFree := goodIn_r _ [32, 5, 33, 34, 35, 21, 36, 37, 38, 25, 39, 40, 24, 26, 41, 27, 28, 85, 86, 87, 88, 89, 90, 91, 92, 93, 94, 95, 96, 97, 98, 99, 100] rfl (by decide +kernel)
set_option maxRecDepth 20000 in
theorem gX1_dealRound_X1_isFree : GoodIn wsX1_dealRound (wsV RX1 95 RX1 yX1_isFree wsX1_isFree) := goodIn_app (goodIn_of _ (by decide +kernel)) ggX1_dealRound_X1_isFree
set_option maxRecDepth 20000 in
theorem ggX1_dealRound_X4_add : GoodIn wsX1_dealRound wsX4_add := goodIn_r _ [45, 17, 46, 47, 25, 48, 101, 102, 103] rfl (by decide +kernel)
set_option maxRecDepth 20000 in
theorem gX1_dealRound_X4_add : GoodIn wsX1_dealRound (wsV RX1 98 RX4 yX4_add wsX4_add) := goodIn_app (goodIn_of _ (by decide +kernel)) ggX1_dealRound_X4_add
set_option maxRecDepth 20000 in
theorem ggX1_dealRound_X4_mix : GoodIn wsX1_dealRound wsX4_mix := goodIn_r _ [52, 17, 53, 46, 54, 25, 55, 47, 48, 101, 102, 103] rfl (by decide +kernel)
set_option maxRecDepth 20000 in
theorem gX1_dealRound_X4_mix : GoodIn wsX1_dealRound (wsV RX1 102 RX4 yX4_mix wsX4_mix) := goodIn_app (goodIn_of _ (by decide +kernel)) ggX1_dealRound_X4_mix
set_option maxRecDepth 20000 in
theorem ggX1_dealRound_X1_fillHand : GoodIn wsX1_dealRound wsX1_fillHand := goodIn_r _ [59, 60, 1, 37, 61, 62, 63, 21, 64, 33, 34, 35, 36, 65, 66, 67, 14, 68, 17, 16, 69, 70, 71, 72, 46, 54, 25, 55, 47, 48, 85, 86, 87, 88, 89, 90, 91, 92, 93, 94, 95, 96, 97, 98, 99, 100, 101, 102, 103] rfl (by decide +kernel)
set_option maxRecDepth 20000 in
theorem gX1_dealRound_X1_fillHand : GoodIn wsX1_dealRound (wsV RX1 106 RX1 yX1_fillHand wsX1_fillHand) := goodIn_app (goodIn_of _ (by decide +kernel)) ggX1_dealRound_X1_fillHand
set_option maxRecDepth 20000 in
theorem ggX1_dealRound_X6_begin : GoodIn wsX1_dealRound wsX6_begin := goodIn_r _ [77, 78, 79, 80, 81, 82, 83, 84, 104, 105, 106, 107, 108] rfl (by decide +kernel)
set_option maxRecDepth 20000 in
theorem gX1_dealRound_X6_begin : GoodIn wsX1_dealRound (wsV RX1 109 RX6 yX6_begin wsX6_begin) := goodIn_app (goodIn_of _ (by decide +kernel)) ggX1_dealRound_X6_begin
theorem dX1_dealRound_0 : decode cX1_dealRound 0 = .ok (.aload_n 0, 1) := by decide +kernel
theorem dX1_dealRound_1 : decode cX1_dealRound 1 = .ok (.getfield 40, 3) := by decide +kernel
theorem dX1_dealRound_4 : decode cX1_dealRound 4 = .ok (.invokevirtual 88, 3) := by decide +kernel
theorem dX1_dealRound_7 : decode cX1_dealRound 7 = .ok (.iconst 0, 1) := by decide +kernel
theorem dX1_dealRound_8 : decode cX1_dealRound 8 = .ok (.istore_n 1, 1) := by decide +kernel
theorem dX1_dealRound_9 : decode cX1_dealRound 9 = .ok (.iload_n 1, 1) := by decide +kernel
theorem dX1_dealRound_10 : decode cX1_dealRound 10 = .ok (.bipush 100, 2) := by decide +kernel
theorem dX1_dealRound_12 : decode cX1_dealRound 12 = .ok (.if_icmp .ge 33, 3) := by decide +kernel
theorem dX1_dealRound_15 : decode cX1_dealRound 15 = .ok (.aload_n 0, 1) := by decide +kernel
theorem dX1_dealRound_16 : decode cX1_dealRound 16 = .ok (.iload_n 1, 1) := by decide +kernel
theorem dX1_dealRound_17 : decode cX1_dealRound 17 = .ok (.invokevirtual 91, 3) := by decide +kernel
theorem dX1_dealRound_20 : decode cX1_dealRound 20 = .ok (.ifCond .eq 19, 3) := by decide +kernel
theorem dX1_dealRound_23 : decode cX1_dealRound 23 = .ok (.aload_n 0, 1) := by decide +kernel
theorem dX1_dealRound_24 : decode cX1_dealRound 24 = .ok (.iload_n 1, 1) := by decide +kernel
theorem dX1_dealRound_25 : decode cX1_dealRound 25 = .ok (.invokevirtual 95, 3) := by decide +kernel
theorem dX1_dealRound_28 : decode cX1_dealRound 28 = .ok (.ifCond .eq 11, 3) := by decide +kernel
theorem dX1_dealRound_31 : decode cX1_dealRound 31 = .ok (.aload_n 0, 1) := by decide +kernel
theorem dX1_dealRound_32 : decode cX1_dealRound 32 = .ok (.getfield 40, 3) := by decide +kernel
theorem dX1_dealRound_35 : decode cX1_dealRound 35 = .ok (.iload_n 1, 1) := by decide +kernel
theorem dX1_dealRound_36 : decode cX1_dealRound 36 = .ok (.invokevirtual 98, 3) := by decide +kernel
theorem dX1_dealRound_39 : decode cX1_dealRound 39 = .ok (.iinc 1 1, 3) := by decide +kernel
theorem dX1_dealRound_42 : decode cX1_dealRound 42 = .ok (.goto (-33), 3) := by decide +kernel
theorem dX1_dealRound_45 : decode cX1_dealRound 45 = .ok (.aload_n 0, 1) := by decide +kernel
theorem dX1_dealRound_46 : decode cX1_dealRound 46 = .ok (.aload_n 0, 1) := by decide +kernel
theorem dX1_dealRound_47 : decode cX1_dealRound 47 = .ok (.getfield 40, 3) := by decide +kernel
theorem dX1_dealRound_50 : decode cX1_dealRound 50 = .ok (.aload_n 0, 1) := by decide +kernel
theorem dX1_dealRound_51 : decode cX1_dealRound 51 = .ok (.getfield 24, 3) := by decide +kernel
theorem dX1_dealRound_54 : decode cX1_dealRound 54 = .ok (.invokevirtual 102, 3) := by decide +kernel
theorem dX1_dealRound_57 : decode cX1_dealRound 57 = .ok (.putfield 24, 3) := by decide +kernel
theorem dX1_dealRound_60 : decode cX1_dealRound 60 = .ok (.iconst 0, 1) := by decide +kernel
theorem dX1_dealRound_61 : decode cX1_dealRound 61 = .ok (.istore_n 1, 1) := by decide +kernel
theorem dX1_dealRound_62 : decode cX1_dealRound 62 = .ok (.iload_n 1, 1) := by decide +kernel
theorem dX1_dealRound_63 : decode cX1_dealRound 63 = .ok (.aload_n 0, 1) := by decide +kernel
theorem dX1_dealRound_64 : decode cX1_dealRound 64 = .ok (.getfield 15, 3) := by decide +kernel
theorem dX1_dealRound_67 : decode cX1_dealRound 67 = .ok (.if_icmp .ge 14, 3) := by decide +kernel
theorem dX1_dealRound_70 : decode cX1_dealRound 70 = .ok (.aload_n 0, 1) := by decide +kernel
theorem dX1_dealRound_71 : decode cX1_dealRound 71 = .ok (.iload_n 1, 1) := by decide +kernel
theorem dX1_dealRound_72 : decode cX1_dealRound 72 = .ok (.invokevirtual 106, 3) := by decide +kernel
theorem dX1_dealRound_75 : decode cX1_dealRound 75 = .ok (.iinc 1 1, 3) := by decide +kernel
theorem dX1_dealRound_78 : decode cX1_dealRound 78 = .ok (.goto (-16), 3) := by decide +kernel
theorem dX1_dealRound_81 : decode cX1_dealRound 81 = .ok (.aload_n 0, 1) := by decide +kernel
theorem dX1_dealRound_82 : decode cX1_dealRound 82 = .ok (.getfield 47, 3) := by decide +kernel
theorem dX1_dealRound_85 : decode cX1_dealRound 85 = .ok (.aload_n 0, 1) := by decide +kernel
theorem dX1_dealRound_86 : decode cX1_dealRound 86 = .ok (.getfield 21, 3) := by decide +kernel
theorem dX1_dealRound_89 : decode cX1_dealRound 89 = .ok (.invokevirtual 109, 3) := by decide +kernel
theorem dX1_dealRound_92 : decode cX1_dealRound 92 = .ok (.aload_n 0, 1) := by decide +kernel
theorem dX1_dealRound_93 : decode cX1_dealRound 93 = .ok (.iconst 0, 1) := by decide +kernel
theorem dX1_dealRound_94 : decode cX1_dealRound 94 = .ok (.putfield 57, 3) := by decide +kernel
theorem dX1_dealRound_97 : decode cX1_dealRound 97 = .ok (.aload_n 0, 1) := by decide +kernel
theorem dX1_dealRound_98 : decode cX1_dealRound 98 = .ok (.iconst 0, 1) := by decide +kernel
theorem dX1_dealRound_99 : decode cX1_dealRound 99 = .ok (.putfield 60, 3) := by decide +kernel
theorem dX1_dealRound_102 : decode cX1_dealRound 102 = .ok (.aload_n 0, 1) := by decide +kernel
theorem dX1_dealRound_103 : decode cX1_dealRound 103 = .ok (.iconst (-1), 1) := by decide +kernel
theorem dX1_dealRound_104 : decode cX1_dealRound 104 = .ok (.putfield 27, 3) := by decide +kernel
theorem dX1_dealRound_107 : decode cX1_dealRound 107 = .ok (.aload_n 0, 1) := by decide +kernel
theorem dX1_dealRound_108 : decode cX1_dealRound 108 = .ok (.iconst 0, 1) := by decide +kernel
theorem dX1_dealRound_109 : decode cX1_dealRound 109 = .ok (.putfield 64, 3) := by decide +kernel
theorem dX1_dealRound_112 : decode cX1_dealRound 112 = .ok (.aload_n 0, 1) := by decide +kernel
theorem dX1_dealRound_113 : decode cX1_dealRound 113 = .ok (.iconst 0, 1) := by decide +kernel
theorem dX1_dealRound_114 : decode cX1_dealRound 114 = .ok (.putfield 70, 3) := by decide +kernel
theorem dX1_dealRound_117 : decode cX1_dealRound 117 = .ok (.return_, 1) := by decide +kernel
set_option maxRecDepth 20000 in
theorem ggX1_fillHand_X1_handCount : GoodIn wsX1_fillHand wsX1_handCount := goodIn_r _ [8, 9, 10, 11, 7, 12, 3, 30, 31, 32, 33, 34, 35, 36, 37, 38, 39, 40, 41, 42, 43, 44, 45] rfl (by decide +kernel)
set_option maxRecDepth 20000 in
theorem gX1_fillHand_X1_handCount : GoodIn wsX1_fillHand (wsV RX1 112 RX1 yX1_handCount wsX1_handCount) := goodIn_app (goodIn_of _ (by decide +kernel)) ggX1_fillHand_X1_handCount
set_option maxRecDepth 20000 in
theorem ggX1_fillHand_X4_size : GoodIn wsX1_fillHand wsX4_size := goodIn_r _ [17, 18, 19, 46, 47, 48] rfl (by decide +kernel)
set_option maxRecDepth 20000 in
theorem gX1_fillHand_X4_size : GoodIn wsX1_fillHand (wsV RX1 115 RX4 yX4_size wsX4_size) := goodIn_app (goodIn_of _ (by decide +kernel)) ggX1_fillHand_X4_size
set_option maxRecDepth 20000 in
theorem ggX1_fillHand_X4_takeFirst : GoodIn wsX1_fillHand wsX4_takeFirst := goodIn_r _ [23, 19, 18, 24, 25, 26, 27, 46, 47, 48] rfl (by decide +kernel)
set_option maxRecDepth 20000 in
theorem gX1_fillHand_X4_takeFirst : GoodIn wsX1_fillHand (wsV RX1 119 RX4 yX4_takeFirst wsX4_takeFirst) := goodIn_app (goodIn_of _ (by decide +kernel)) ggX1_fillHand_X4_takeFirst
set_option maxRecDepth 20000 in
theorem ggX1_fillHand_X7_put : GoodIn wsX1_fillHand wsX7_put := goodIn_r _ [29] rfl (by decide +kernel)
set_option maxRecDepth 20000 in
theorem gX1_fillHand_X7_put_n122 : GoodIn wsX1_fillHand (wsX7_put) := ggX1_fillHand_X7_put
theorem dX1_fillHand_0 : decode cX1_fillHand 0 = .ok (.aload_n 0, 1) := by decide +kernel
theorem dX1_fillHand_1 : decode cX1_fillHand 1 = .ok (.iload_n 1, 1) := by decide +kernel
theorem dX1_fillHand_2 : decode cX1_fillHand 2 = .ok (.invokevirtual 112, 3) := by decide +kernel
theorem dX1_fillHand_5 : decode cX1_fillHand 5 = .ok (.istore_n 2, 1) := by decide +kernel
theorem dX1_fillHand_6 : decode cX1_fillHand 6 = .ok (.iload_n 2, 1) := by decide +kernel
theorem dX1_fillHand_7 : decode cX1_fillHand 7 = .ok (.aload_n 0, 1) := by decide +kernel
theorem dX1_fillHand_8 : decode cX1_fillHand 8 = .ok (.getfield 18, 3) := by decide +kernel
theorem dX1_fillHand_11 : decode cX1_fillHand 11 = .ok (.if_icmp .ge 34, 3) := by decide +kernel
theorem dX1_fillHand_14 : decode cX1_fillHand 14 = .ok (.aload_n 0, 1) := by decide +kernel
theorem dX1_fillHand_15 : decode cX1_fillHand 15 = .ok (.getfield 40, 3) := by decide +kernel
theorem dX1_fillHand_18 : decode cX1_fillHand 18 = .ok (.invokevirtual 115, 3) := by decide +kernel
theorem dX1_fillHand_21 : decode cX1_fillHand 21 = .ok (.ifCond .le 24, 3) := by decide +kernel
theorem dX1_fillHand_24 : decode cX1_fillHand 24 = .ok (.aload_n 0, 1) := by decide +kernel
theorem dX1_fillHand_25 : decode cX1_fillHand 25 = .ok (.getfield 30, 3) := by decide +kernel
theorem dX1_fillHand_28 : decode cX1_fillHand 28 = .ok (.aload_n 0, 1) := by decide +kernel
theorem dX1_fillHand_29 : decode cX1_fillHand 29 = .ok (.getfield 40, 3) := by decide +kernel
theorem dX1_fillHand_32 : decode cX1_fillHand 32 = .ok (.invokevirtual 119, 3) := by decide +kernel
theorem dX1_fillHand_35 : decode cX1_fillHand 35 = .ok (.iload_n 1, 1) := by decide +kernel
theorem dX1_fillHand_36 : decode cX1_fillHand 36 = .ok (.invokestatic 122, 3) := by decide +kernel
theorem dX1_fillHand_39 : decode cX1_fillHand 39 = .ok (.iinc 2 1, 3) := by decide +kernel
theorem dX1_fillHand_42 : decode cX1_fillHand 42 = .ok (.goto (-36), 3) := by decide +kernel
theorem dX1_fillHand_45 : decode cX1_fillHand 45 = .ok (.return_, 1) := by decide +kernel
set_option maxRecDepth 20000 in
theorem ggX1_isInSet_X7_lowNumber : GoodIn wsX1_isInSet wsX7_lowNumber := goodIn_r _ [4] rfl (by decide +kernel)
set_option maxRecDepth 20000 in
theorem gX1_isInSet_X7_lowNumber_n126 : GoodIn wsX1_isInSet (wsX7_lowNumber) := ggX1_isInSet_X7_lowNumber
set_option maxRecDepth 20000 in
theorem ggX1_isInSet_X7_highNumber : GoodIn wsX1_isInSet wsX7_highNumber := goodIn_r _ [6] rfl (by decide +kernel)
set_option maxRecDepth 20000 in
theorem gX1_isInSet_X7_highNumber_n129 : GoodIn wsX1_isInSet (wsX7_highNumber) := ggX1_isInSet_X7_highNumber
theorem dX1_isInSet_0 : decode cX1_isInSet 0 = .ok (.iload_n 1, 1) := by decide +kernel
theorem dX1_isInSet_1 : decode cX1_isInSet 1 = .ok (.ifCond .lt 35, 3) := by decide +kernel
theorem dX1_isInSet_4 : decode cX1_isInSet 4 = .ok (.iload_n 1, 1) := by decide +kernel
theorem dX1_isInSet_5 : decode cX1_isInSet 5 = .ok (.bipush 100, 2) := by decide +kernel
theorem dX1_isInSet_7 : decode cX1_isInSet 7 = .ok (.if_icmp .ge 29, 3) := by decide +kernel
theorem dX1_isInSet_10 : decode cX1_isInSet 10 = .ok (.iload_n 1, 1) := by decide +kernel
theorem dX1_isInSet_11 : decode cX1_isInSet 11 = .ok (.invokestatic 126, 3) := by decide +kernel
theorem dX1_isInSet_14 : decode cX1_isInSet 14 = .ok (.iload_n 1, 1) := by decide +kernel
theorem dX1_isInSet_15 : decode cX1_isInSet 15 = .ok (.invokestatic 129, 3) := by decide +kernel
theorem dX1_isInSet_18 : decode cX1_isInSet 18 = .ok (.if_icmp .gt 18, 3) := by decide +kernel
theorem dX1_isInSet_21 : decode cX1_isInSet 21 = .ok (.iload_n 1, 1) := by decide +kernel
theorem dX1_isInSet_22 : decode cX1_isInSet 22 = .ok (.invokestatic 129, 3) := by decide +kernel
theorem dX1_isInSet_25 : decode cX1_isInSet 25 = .ok (.aload_n 0, 1) := by decide +kernel
theorem dX1_isInSet_26 : decode cX1_isInSet 26 = .ok (.getfield 9, 3) := by decide +kernel
theorem dX1_isInSet_29 : decode cX1_isInSet 29 = .ok (.if_icmp .gt 7, 3) := by decide +kernel
theorem dX1_isInSet_32 : decode cX1_isInSet 32 = .ok (.iconst 1, 1) := by decide +kernel
theorem dX1_isInSet_33 : decode cX1_isInSet 33 = .ok (.goto 4, 3) := by decide +kernel
theorem dX1_isInSet_36 : decode cX1_isInSet 36 = .ok (.iconst 0, 1) := by decide +kernel
theorem dX1_isInSet_37 : decode cX1_isInSet 37 = .ok (.ireturn, 1) := by decide +kernel
set_option maxRecDepth 20000 in
theorem ggX1_isFree_X1_holderOf : GoodIn wsX1_isFree wsX1_holderOf := goodIn_r _ [6, 7, 17, 18, 19, 20, 21, 22, 23, 24, 25, 26, 27, 28, 29, 30, 31, 32] rfl (by decide +kernel)
set_option maxRecDepth 20000 in
theorem gX1_isFree_X1_holderOf : GoodIn wsX1_isFree (wsV RX1 132 RX1 yX1_holderOf wsX1_holderOf) := goodIn_app (goodIn_of _ (by decide +kernel)) ggX1_isFree_X1_holderOf
set_option maxRecDepth 20000 in
theorem ggX1_isFree_X7_isDouble : GoodIn wsX1_isFree wsX7_isDouble := goodIn_r _ [10, 11, 12, 9, 13, 14, 15, 16] rfl (by decide +kernel)
set_option maxRecDepth 20000 in
theorem gX1_isFree_X7_isDouble_n135 : GoodIn wsX1_isFree (wsX7_isDouble) := ggX1_isFree_X7_isDouble
set_option maxRecDepth 20000 in
theorem ggX1_isFree_X7_lowNumber : GoodIn wsX1_isFree wsX7_lowNumber := goodIn_r _ [13] rfl (by decide +kernel)
set_option maxRecDepth 20000 in
theorem gX1_isFree_X7_lowNumber_n126 : GoodIn wsX1_isFree (wsX7_lowNumber) := ggX1_isFree_X7_lowNumber
theorem dX1_isFree_0 : decode cX1_isFree 0 = .ok (.aload_n 0, 1) := by decide +kernel
theorem dX1_isFree_1 : decode cX1_isFree 1 = .ok (.iload_n 1, 1) := by decide +kernel
theorem dX1_isFree_2 : decode cX1_isFree 2 = .ok (.invokevirtual 132, 3) := by decide +kernel
theorem dX1_isFree_5 : decode cX1_isFree 5 = .ok (.iconst (-1), 1) := by decide +kernel
theorem dX1_isFree_6 : decode cX1_isFree 6 = .ok (.if_icmp .ne 25, 3) := by decide +kernel
theorem dX1_isFree_9 : decode cX1_isFree 9 = .ok (.iload_n 1, 1) := by decide +kernel
theorem dX1_isFree_10 : decode cX1_isFree 10 = .ok (.invokestatic 135, 3) := by decide +kernel
theorem dX1_isFree_13 : decode cX1_isFree 13 = .ok (.ifCond .eq 14, 3) := by decide +kernel
theorem dX1_isFree_16 : decode cX1_isFree 16 = .ok (.iload_n 1, 1) := by decide +kernel
theorem dX1_isFree_17 : decode cX1_isFree 17 = .ok (.invokestatic 126, 3) := by decide +kernel
theorem dX1_isFree_20 : decode cX1_isFree 20 = .ok (.aload_n 0, 1) := by decide +kernel
theorem dX1_isFree_21 : decode cX1_isFree 21 = .ok (.getfield 21, 3) := by decide +kernel
theorem dX1_isFree_24 : decode cX1_isFree 24 = .ok (.if_icmp .eq 7, 3) := by decide +kernel
theorem dX1_isFree_27 : decode cX1_isFree 27 = .ok (.iconst 1, 1) := by decide +kernel
theorem dX1_isFree_28 : decode cX1_isFree 28 = .ok (.goto 4, 3) := by decide +kernel
theorem dX1_isFree_31 : decode cX1_isFree 31 = .ok (.iconst 0, 1) := by decide +kernel
theorem dX1_isFree_32 : decode cX1_isFree 32 = .ok (.ireturn, 1) := by decide +kernel
theorem dX1_holderOf_0 : decode cX1_holderOf 0 = .ok (.iload_n 1, 1) := by decide +kernel
theorem dX1_holderOf_1 : decode cX1_holderOf 1 = .ok (.ifCond .lt 21, 3) := by decide +kernel
theorem dX1_holderOf_4 : decode cX1_holderOf 4 = .ok (.iload_n 1, 1) := by decide +kernel
theorem dX1_holderOf_5 : decode cX1_holderOf 5 = .ok (.aload_n 0, 1) := by decide +kernel
theorem dX1_holderOf_6 : decode cX1_holderOf 6 = .ok (.getfield 30, 3) := by decide +kernel
theorem dX1_holderOf_9 : decode cX1_holderOf 9 = .ok (.arraylength, 1) := by decide +kernel
theorem dX1_holderOf_10 : decode cX1_holderOf 10 = .ok (.if_icmp .ge 12, 3) := by decide +kernel
theorem dX1_holderOf_13 : decode cX1_holderOf 13 = .ok (.aload_n 0, 1) := by decide +kernel
theorem dX1_holderOf_14 : decode cX1_holderOf 14 = .ok (.getfield 30, 3) := by decide +kernel
theorem dX1_holderOf_17 : decode cX1_holderOf 17 = .ok (.iload_n 1, 1) := by decide +kernel
theorem dX1_holderOf_18 : decode cX1_holderOf 18 = .ok (.iaload, 1) := by decide +kernel
theorem dX1_holderOf_19 : decode cX1_holderOf 19 = .ok (.goto 4, 3) := by decide +kernel
theorem dX1_holderOf_22 : decode cX1_holderOf 22 = .ok (.iconst (-1), 1) := by decide +kernel
theorem dX1_holderOf_23 : decode cX1_holderOf 23 = .ok (.ireturn, 1) := by decide +kernel
set_option maxRecDepth 20000 in
theorem ggX1_handCount_X1_holderOf : GoodIn wsX1_handCount wsX1_holderOf := goodIn_r _ [5, 6, 7, 8, 9, 10, 11, 12, 13, 14, 15, 16, 17, 18, 19, 20, 21, 22] rfl (by decide +kernel)
set_option maxRecDepth 20000 in
theorem gX1_handCount_X1_holderOf : GoodIn wsX1_handCount (wsV RX1 132 RX1 yX1_holderOf wsX1_holderOf) := goodIn_app (goodIn_of _ (by decide +kernel)) ggX1_handCount_X1_holderOf
theorem dX1_handCount_0 : decode cX1_handCount 0 = .ok (.iconst 0, 1) := by decide +kernel
theorem dX1_handCount_1 : decode cX1_handCount 1 = .ok (.istore_n 2, 1) := by decide +kernel
theorem dX1_handCount_2 : decode cX1_handCount 2 = .ok (.iconst 0, 1) := by decide +kernel
theorem dX1_handCount_3 : decode cX1_handCount 3 = .ok (.istore_n 3, 1) := by decide +kernel
theorem dX1_handCount_4 : decode cX1_handCount 4 = .ok (.iload_n 3, 1) := by decide +kernel
theorem dX1_handCount_5 : decode cX1_handCount 5 = .ok (.bipush 100, 2) := by decide +kernel
theorem dX1_handCount_7 : decode cX1_handCount 7 = .ok (.if_icmp .ge 21, 3) := by decide +kernel
theorem dX1_handCount_10 : decode cX1_handCount 10 = .ok (.aload_n 0, 1) := by decide +kernel
theorem dX1_handCount_11 : decode cX1_handCount 11 = .ok (.iload_n 3, 1) := by decide +kernel
theorem dX1_handCount_12 : decode cX1_handCount 12 = .ok (.invokevirtual 132, 3) := by decide +kernel
theorem dX1_handCount_15 : decode cX1_handCount 15 = .ok (.iload_n 1, 1) := by decide +kernel
theorem dX1_handCount_16 : decode cX1_handCount 16 = .ok (.if_icmp .ne 6, 3) := by decide +kernel
theorem dX1_handCount_19 : decode cX1_handCount 19 = .ok (.iinc 2 1, 3) := by decide +kernel
theorem dX1_handCount_22 : decode cX1_handCount 22 = .ok (.iinc 3 1, 3) := by decide +kernel
theorem dX1_handCount_25 : decode cX1_handCount 25 = .ok (.goto (-21), 3) := by decide +kernel
theorem dX1_handCount_28 : decode cX1_handCount 28 = .ok (.iload_n 2, 1) := by decide +kernel
theorem dX1_handCount_29 : decode cX1_handCount 29 = .ok (.ireturn, 1) := by decide +kernel
set_option maxRecDepth 20000 in
theorem ggX1_handPips_X1_holderOf : GoodIn wsX1_handPips wsX1_holderOf := goodIn_r _ [5, 6, 16, 17, 18, 19, 20, 21, 22, 23, 24, 25, 26, 27, 28, 29, 30, 31] rfl (by decide +kernel)
set_option maxRecDepth 20000 in
theorem gX1_handPips_X1_holderOf : GoodIn wsX1_handPips (wsV RX1 132 RX1 yX1_holderOf wsX1_holderOf) := goodIn_app (goodIn_of _ (by decide +kernel)) ggX1_handPips_X1_holderOf
set_option maxRecDepth 20000 in
theorem ggX1_handPips_X7_pipsOf : GoodIn wsX1_handPips wsX7_pipsOf := goodIn_r _ [9, 10, 11, 8, 12, 13, 14, 15] rfl (by decide +kernel)
set_option maxRecDepth 20000 in
theorem gX1_handPips_X7_pipsOf_n138 : GoodIn wsX1_handPips (wsX7_pipsOf) := ggX1_handPips_X7_pipsOf
theorem dX1_handPips_0 : decode cX1_handPips 0 = .ok (.iconst 0, 1) := by decide +kernel
theorem dX1_handPips_1 : decode cX1_handPips 1 = .ok (.istore_n 2, 1) := by decide +kernel
theorem dX1_handPips_2 : decode cX1_handPips 2 = .ok (.iconst 0, 1) := by decide +kernel
theorem dX1_handPips_3 : decode cX1_handPips 3 = .ok (.istore_n 3, 1) := by decide +kernel
theorem dX1_handPips_4 : decode cX1_handPips 4 = .ok (.iload_n 3, 1) := by decide +kernel
theorem dX1_handPips_5 : decode cX1_handPips 5 = .ok (.bipush 100, 2) := by decide +kernel
theorem dX1_handPips_7 : decode cX1_handPips 7 = .ok (.if_icmp .ge 25, 3) := by decide +kernel
theorem dX1_handPips_10 : decode cX1_handPips 10 = .ok (.aload_n 0, 1) := by decide +kernel
theorem dX1_handPips_11 : decode cX1_handPips 11 = .ok (.iload_n 3, 1) := by decide +kernel
theorem dX1_handPips_12 : decode cX1_handPips 12 = .ok (.invokevirtual 132, 3) := by decide +kernel
theorem dX1_handPips_15 : decode cX1_handPips 15 = .ok (.iload_n 1, 1) := by decide +kernel
theorem dX1_handPips_16 : decode cX1_handPips 16 = .ok (.if_icmp .ne 10, 3) := by decide +kernel
theorem dX1_handPips_19 : decode cX1_handPips 19 = .ok (.iload_n 2, 1) := by decide +kernel
theorem dX1_handPips_20 : decode cX1_handPips 20 = .ok (.iload_n 3, 1) := by decide +kernel
theorem dX1_handPips_21 : decode cX1_handPips 21 = .ok (.invokestatic 138, 3) := by decide +kernel
theorem dX1_handPips_24 : decode cX1_handPips 24 = .ok (.iadd, 1) := by decide +kernel
theorem dX1_handPips_25 : decode cX1_handPips 25 = .ok (.istore_n 2, 1) := by decide +kernel
theorem dX1_handPips_26 : decode cX1_handPips 26 = .ok (.iinc 3 1, 3) := by decide +kernel
theorem dX1_handPips_29 : decode cX1_handPips 29 = .ok (.goto (-25), 3) := by decide +kernel
theorem dX1_handPips_32 : decode cX1_handPips 32 = .ok (.iload_n 2, 1) := by decide +kernel
theorem dX1_handPips_33 : decode cX1_handPips 33 = .ok (.ireturn, 1) := by decide +kernel
set_option maxRecDepth 20000 in
theorem ggX1_tileInHand_X1_holderOf : GoodIn wsX1_tileInHand wsX1_holderOf := goodIn_r _ [5, 6, 7, 8, 9, 10, 11, 12, 13, 14, 15, 16, 17, 18, 19, 20, 21, 22] rfl (by decide +kernel)
set_option maxRecDepth 20000 in
theorem gX1_tileInHand_X1_holderOf : GoodIn wsX1_tileInHand (wsV RX1 132 RX1 yX1_holderOf wsX1_holderOf) := goodIn_app (goodIn_of _ (by decide +kernel)) ggX1_tileInHand_X1_holderOf
theorem dX1_tileInHand_0 : decode cX1_tileInHand 0 = .ok (.iconst 0, 1) := by decide +kernel
theorem dX1_tileInHand_1 : decode cX1_tileInHand 1 = .ok (.istore_n 3, 1) := by decide +kernel
theorem dX1_tileInHand_2 : decode cX1_tileInHand 2 = .ok (.iconst 0, 1) := by decide +kernel
theorem dX1_tileInHand_3 : decode cX1_tileInHand 3 = .ok (.istore 4, 2) := by decide +kernel
theorem dX1_tileInHand_5 : decode cX1_tileInHand 5 = .ok (.iload 4, 2) := by decide +kernel
theorem dX1_tileInHand_7 : decode cX1_tileInHand 7 = .ok (.bipush 100, 2) := by decide +kernel
theorem dX1_tileInHand_9 : decode cX1_tileInHand 9 = .ok (.if_icmp .ge 30, 3) := by decide +kernel
theorem dX1_tileInHand_12 : decode cX1_tileInHand 12 = .ok (.aload_n 0, 1) := by decide +kernel
theorem dX1_tileInHand_13 : decode cX1_tileInHand 13 = .ok (.iload 4, 2) := by decide +kernel
theorem dX1_tileInHand_15 : decode cX1_tileInHand 15 = .ok (.invokevirtual 132, 3) := by decide +kernel
theorem dX1_tileInHand_18 : decode cX1_tileInHand 18 = .ok (.iload_n 1, 1) := by decide +kernel
theorem dX1_tileInHand_19 : decode cX1_tileInHand 19 = .ok (.if_icmp .ne 14, 3) := by decide +kernel
theorem dX1_tileInHand_22 : decode cX1_tileInHand 22 = .ok (.iload_n 3, 1) := by decide +kernel
theorem dX1_tileInHand_23 : decode cX1_tileInHand 23 = .ok (.iload_n 2, 1) := by decide +kernel
theorem dX1_tileInHand_24 : decode cX1_tileInHand 24 = .ok (.if_icmp .ne 6, 3) := by decide +kernel
theorem dX1_tileInHand_27 : decode cX1_tileInHand 27 = .ok (.iload 4, 2) := by decide +kernel
theorem dX1_tileInHand_29 : decode cX1_tileInHand 29 = .ok (.ireturn, 1) := by decide +kernel
theorem dX1_tileInHand_30 : decode cX1_tileInHand 30 = .ok (.iinc 3 1, 3) := by decide +kernel
theorem dX1_tileInHand_33 : decode cX1_tileInHand 33 = .ok (.iinc 4 1, 3) := by decide +kernel
theorem dX1_tileInHand_36 : decode cX1_tileInHand 36 = .ok (.goto (-31), 3) := by decide +kernel
theorem dX1_tileInHand_39 : decode cX1_tileInHand 39 = .ok (.iconst (-1), 1) := by decide +kernel
theorem dX1_tileInHand_40 : decode cX1_tileInHand 40 = .ok (.ireturn, 1) := by decide +kernel
set_option maxRecDepth 20000 in
theorem ggX1_obstacle_X1_holderOf : GoodIn wsX1_obstacle wsX1_holderOf := goodIn_r _ [9, 10, 38, 39, 40, 41, 42, 43, 44, 45, 46, 47, 48, 49, 50, 51, 52, 53] rfl (by decide +kernel)
set_option maxRecDepth 20000 in
theorem gX1_obstacle_X1_holderOf : GoodIn wsX1_obstacle (wsV RX1 132 RX1 yX1_holderOf wsX1_holderOf) := goodIn_app (goodIn_of _ (by decide +kernel)) ggX1_obstacle_X1_holderOf
set_option maxRecDepth 20000 in
theorem ggX1_obstacle_X1_isOpen : GoodIn wsX1_obstacle wsX1_isOpen := goodIn_r _ [14, 15, 4, 16, 17, 18, 19, 20, 21, 22, 23, 24, 38, 39, 40, 41, 42, 43, 44, 45, 46, 47, 48, 49, 50, 51, 52, 53, 54, 55, 56, 57, 58] rfl (by decide +kernel)
set_option maxRecDepth 20000 in
theorem gX1_obstacle_X1_isOpen : GoodIn wsX1_obstacle (wsV RX1 141 RX1 yX1_isOpen wsX1_isOpen) := goodIn_app (goodIn_of _ (by decide +kernel)) ggX1_obstacle_X1_isOpen
set_option maxRecDepth 20000 in
theorem ggX1_obstacle_X6_endOf : GoodIn wsX1_obstacle wsX6_endOf := goodIn_r _ [28, 29, 22, 23, 24, 54, 55, 56, 57, 58] rfl (by decide +kernel)
set_option maxRecDepth 20000 in
theorem gX1_obstacle_X6_endOf : GoodIn wsX1_obstacle (wsV RX1 144 RX6 yX6_endOf wsX6_endOf) := goodIn_app (goodIn_of _ (by decide +kernel)) ggX1_obstacle_X6_endOf
set_option maxRecDepth 20000 in
theorem ggX1_obstacle_X7_hasNumber : GoodIn wsX1_obstacle wsX7_hasNumber := goodIn_r _ [31, 32, 33, 23, 34, 35, 36, 37] rfl (by decide +kernel)
set_option maxRecDepth 20000 in
theorem gX1_obstacle_X7_hasNumber_n147 : GoodIn wsX1_obstacle (wsX7_hasNumber) := ggX1_obstacle_X7_hasNumber
theorem dX1_obstacle_0 : decode cX1_obstacle 0 = .ok (.aload_n 0, 1) := by decide +kernel
theorem dX1_obstacle_1 : decode cX1_obstacle 1 = .ok (.getfield 64, 3) := by decide +kernel
theorem dX1_obstacle_4 : decode cX1_obstacle 4 = .ok (.ifCond .eq 5, 3) := by decide +kernel
theorem dX1_obstacle_7 : decode cX1_obstacle 7 = .ok (.iconst 1, 1) := by decide +kernel
theorem dX1_obstacle_8 : decode cX1_obstacle 8 = .ok (.ireturn, 1) := by decide +kernel
theorem dX1_obstacle_9 : decode cX1_obstacle 9 = .ok (.aload_n 0, 1) := by decide +kernel
theorem dX1_obstacle_10 : decode cX1_obstacle 10 = .ok (.iload_n 1, 1) := by decide +kernel
theorem dX1_obstacle_11 : decode cX1_obstacle 11 = .ok (.invokevirtual 132, 3) := by decide +kernel
theorem dX1_obstacle_14 : decode cX1_obstacle 14 = .ok (.aload_n 0, 1) := by decide +kernel
theorem dX1_obstacle_15 : decode cX1_obstacle 15 = .ok (.getfield 57, 3) := by decide +kernel
theorem dX1_obstacle_18 : decode cX1_obstacle 18 = .ok (.if_icmp .eq 5, 3) := by decide +kernel
theorem dX1_obstacle_21 : decode cX1_obstacle 21 = .ok (.iconst 2, 1) := by decide +kernel
theorem dX1_obstacle_22 : decode cX1_obstacle 22 = .ok (.ireturn, 1) := by decide +kernel
theorem dX1_obstacle_23 : decode cX1_obstacle 23 = .ok (.aload_n 0, 1) := by decide +kernel
theorem dX1_obstacle_24 : decode cX1_obstacle 24 = .ok (.getfield 27, 3) := by decide +kernel
theorem dX1_obstacle_27 : decode cX1_obstacle 27 = .ok (.iconst (-1), 1) := by decide +kernel
theorem dX1_obstacle_28 : decode cX1_obstacle 28 = .ok (.if_icmp .eq 13, 3) := by decide +kernel
theorem dX1_obstacle_31 : decode cX1_obstacle 31 = .ok (.aload_n 0, 1) := by decide +kernel
theorem dX1_obstacle_32 : decode cX1_obstacle 32 = .ok (.getfield 27, 3) := by decide +kernel
theorem dX1_obstacle_35 : decode cX1_obstacle 35 = .ok (.iload_n 2, 1) := by decide +kernel
theorem dX1_obstacle_36 : decode cX1_obstacle 36 = .ok (.if_icmp .eq 5, 3) := by decide +kernel
theorem dX1_obstacle_39 : decode cX1_obstacle 39 = .ok (.iconst 3, 1) := by decide +kernel
theorem dX1_obstacle_40 : decode cX1_obstacle 40 = .ok (.ireturn, 1) := by decide +kernel
theorem dX1_obstacle_41 : decode cX1_obstacle 41 = .ok (.aload_n 0, 1) := by decide +kernel
theorem dX1_obstacle_42 : decode cX1_obstacle 42 = .ok (.getfield 27, 3) := by decide +kernel
theorem dX1_obstacle_45 : decode cX1_obstacle 45 = .ok (.iconst (-1), 1) := by decide +kernel
theorem dX1_obstacle_46 : decode cX1_obstacle 46 = .ok (.if_icmp .ne 21, 3) := by decide +kernel
theorem dX1_obstacle_49 : decode cX1_obstacle 49 = .ok (.iload_n 2, 1) := by decide +kernel
theorem dX1_obstacle_50 : decode cX1_obstacle 50 = .ok (.aload_n 0, 1) := by decide +kernel
theorem dX1_obstacle_51 : decode cX1_obstacle 51 = .ok (.getfield 57, 3) := by decide +kernel
theorem dX1_obstacle_54 : decode cX1_obstacle 54 = .ok (.if_icmp .eq 13, 3) := by decide +kernel
theorem dX1_obstacle_57 : decode cX1_obstacle 57 = .ok (.aload_n 0, 1) := by decide +kernel
theorem dX1_obstacle_58 : decode cX1_obstacle 58 = .ok (.iload_n 2, 1) := by decide +kernel
theorem dX1_obstacle_59 : decode cX1_obstacle 59 = .ok (.invokevirtual 141, 3) := by decide +kernel
theorem dX1_obstacle_62 : decode cX1_obstacle 62 = .ok (.ifCond .ne 5, 3) := by decide +kernel
theorem dX1_obstacle_65 : decode cX1_obstacle 65 = .ok (.iconst 4, 1) := by decide +kernel
theorem dX1_obstacle_66 : decode cX1_obstacle 66 = .ok (.ireturn, 1) := by decide +kernel
theorem dX1_obstacle_67 : decode cX1_obstacle 67 = .ok (.iload_n 1, 1) := by decide +kernel
theorem dX1_obstacle_68 : decode cX1_obstacle 68 = .ok (.aload_n 0, 1) := by decide +kernel
theorem dX1_obstacle_69 : decode cX1_obstacle 69 = .ok (.getfield 47, 3) := by decide +kernel
theorem dX1_obstacle_72 : decode cX1_obstacle 72 = .ok (.iload_n 2, 1) := by decide +kernel
theorem dX1_obstacle_73 : decode cX1_obstacle 73 = .ok (.invokevirtual 144, 3) := by decide +kernel
theorem dX1_obstacle_76 : decode cX1_obstacle 76 = .ok (.invokestatic 147, 3) := by decide +kernel
theorem dX1_obstacle_79 : decode cX1_obstacle 79 = .ok (.ifCond .eq 7, 3) := by decide +kernel
theorem dX1_obstacle_82 : decode cX1_obstacle 82 = .ok (.iconst 0, 1) := by decide +kernel
theorem dX1_obstacle_83 : decode cX1_obstacle 83 = .ok (.goto 4, 3) := by decide +kernel
theorem dX1_obstacle_86 : decode cX1_obstacle 86 = .ok (.iconst 5, 1) := by decide +kernel
theorem dX1_obstacle_87 : decode cX1_obstacle 87 = .ok (.ireturn, 1) := by decide +kernel
set_option maxRecDepth 20000 in
theorem ggX1_canPlay_X1_obstacle : GoodIn wsX1_canPlay wsX1_obstacle := goodIn_r _ [5, 6, 7, 8, 9, 10, 11, 12, 4, 13, 14, 15, 16, 17, 18, 19, 20, 21, 22, 23, 24, 25, 26, 27, 28, 29, 30, 31, 32, 33, 34, 35, 36, 37, 38, 39, 40, 41, 42, 43, 44, 45, 46, 47, 48, 49, 50, 51, 52, 53, 54, 55, 56, 57, 58, 59, 60, 61, 62] rfl (by decide +kernel)
set_option maxRecDepth 20000 in
theorem gX1_canPlay_X1_obstacle : GoodIn wsX1_canPlay (wsV RX1 151 RX1 yX1_obstacle wsX1_obstacle) := goodIn_app (goodIn_of _ (by decide +kernel)) ggX1_canPlay_X1_obstacle
theorem dX1_canPlay_0 : decode cX1_canPlay 0 = .ok (.aload_n 0, 1) := by decide +kernel
theorem dX1_canPlay_1 : decode cX1_canPlay 1 = .ok (.iload_n 1, 1) := by decide +kernel
theorem dX1_canPlay_2 : decode cX1_canPlay 2 = .ok (.iload_n 2, 1) := by decide +kernel
theorem dX1_canPlay_3 : decode cX1_canPlay 3 = .ok (.invokevirtual 151, 3) := by decide +kernel
theorem dX1_canPlay_6 : decode cX1_canPlay 6 = .ok (.ifCond .ne 7, 3) := by decide +kernel
theorem dX1_canPlay_9 : decode cX1_canPlay 9 = .ok (.iconst 1, 1) := by decide +kernel
theorem dX1_canPlay_10 : decode cX1_canPlay 10 = .ok (.goto 4, 3) := by decide +kernel
theorem dX1_canPlay_13 : decode cX1_canPlay 13 = .ok (.iconst 0, 1) := by decide +kernel
theorem dX1_canPlay_14 : decode cX1_canPlay 14 = .ok (.ireturn, 1) := by decide +kernel
set_option maxRecDepth 20000 in
theorem ggX1_isOpen_X6_isOpen : GoodIn wsX1_isOpen wsX6_isOpen := goodIn_r _ [7, 8, 9, 10, 11, 28, 29, 30, 31, 32] rfl (by decide +kernel)
set_option maxRecDepth 20000 in
theorem gX1_isOpen_X6_isOpen : GoodIn wsX1_isOpen (wsV RX1 155 RX6 yX6_isOpen wsX6_isOpen) := goodIn_app (goodIn_of _ (by decide +kernel)) ggX1_isOpen_X6_isOpen
theorem dX1_isOpen_0 : decode cX1_isOpen 0 = .ok (.iload_n 1, 1) := by decide +kernel
theorem dX1_isOpen_1 : decode cX1_isOpen 1 = .ok (.aload_n 0, 1) := by decide +kernel
theorem dX1_isOpen_2 : decode cX1_isOpen 2 = .ok (.getfield 15, 3) := by decide +kernel
theorem dX1_isOpen_5 : decode cX1_isOpen 5 = .ok (.if_icmp .eq 14, 3) := by decide +kernel
theorem dX1_isOpen_8 : decode cX1_isOpen 8 = .ok (.aload_n 0, 1) := by decide +kernel
