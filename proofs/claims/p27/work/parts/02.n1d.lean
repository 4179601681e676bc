set_option maxRecDepth 20000 in
theorem gX3_readHead_X3_fail : GoodIn wsX3_readHead (wsV RX3 94 RX3 yX3_fail wsX3_fail) := goodIn_app (goodIn_of _ (by decide +kernel)) ggX3_readHead_X3_fail
set_option maxRecDepth 20000 in
theorem ggX3_readHead_X5_advance : GoodIn wsX3_readHead wsX5_advance := goodIn_r _ [72, 73, 12, 10, 11, 74, 75, 9, 103, 104, 105, 106, 107, 108, 109] rfl (by decide +kernel)
set_option maxRecDepth 20000 in
theorem gX3_readHead_X5_advance : GoodIn wsX3_readHead (wsV RX3 98 RX5 yX5_advance wsX5_advance) := goodIn_app (goodIn_of _ (by decide +kernel)) ggX3_readHead_X5_advance
set_option maxRecDepth 20000 in
theorem ggX3_readHead_X3_takeNumber : GoodIn wsX3_readHead wsX3_takeNumber := goodIn_r _ [79, 1, 3, 80, 81, 82, 7, 83, 9, 62, 63, 64, 65, 66, 67, 68, 69, 70, 71, 72, 73, 12, 10, 11, 74, 75, 92, 93, 94, 95, 96, 97, 98, 99, 100, 101, 102, 103, 104, 105, 106, 107, 108, 109] rfl (by decide +kernel)
set_option maxRecDepth 20000 in
theorem gX3_readHead_X3_takeNumber : GoodIn wsX3_readHead (wsV RX3 101 RX3 yX3_takeNumber wsX3_takeNumber) := goodIn_app (goodIn_of _ (by decide +kernel)) ggX3_readHead_X3_takeNumber
set_option maxRecDepth 20000 in
theorem ggX3_readHead_X3_takeSign : GoodIn wsX3_readHead wsX3_takeSign := goodIn_r _ [87, 1, 88, 89, 90, 7, 91, 9, 11, 12, 62, 63, 64, 65, 66, 67, 68, 69, 70, 71, 72, 73, 10, 74, 75, 92, 93, 94, 95, 96, 97, 98, 99, 100, 101, 102, 103, 104, 105, 106, 107, 108, 109] rfl (by decide +kernel)
set_option maxRecDepth 20000 in
theorem gX3_readHead_X3_takeSign : GoodIn wsX3_readHead (wsV RX3 73 RX3 yX3_takeSign wsX3_takeSign) := goodIn_app (goodIn_of _ (by decide +kernel)) ggX3_readHead_X3_takeSign
theorem dX3_readHead_0 : decode cX3_readHead 0 = .ok (.aload_n 0, 1) := by decide +kernel
theorem dX3_readHead_1 : decode cX3_readHead 1 = .ok (.getfield 12, 3) := by decide +kernel
theorem dX3_readHead_4 : decode cX3_readHead 4 = .ok (.ldc 85, 2) := by decide +kernel
theorem dX3_readHead_6 : decode cX3_readHead 6 = .ok (.invokevirtual 87, 3) := by decide +kernel
theorem dX3_readHead_9 : decode cX3_readHead 9 = .ok (.ifCond .ne 17, 3) := by decide +kernel
theorem dX3_readHead_12 : decode cX3_readHead 12 = .ok (.aload_n 0, 1) := by decide +kernel
theorem dX3_readHead_13 : decode cX3_readHead 13 = .ok (.bipush (-2), 2) := by decide +kernel
theorem dX3_readHead_15 : decode cX3_readHead 15 = .ok (.aload_n 0, 1) := by decide +kernel
theorem dX3_readHead_16 : decode cX3_readHead 16 = .ok (.getfield 12, 3) := by decide +kernel
theorem dX3_readHead_19 : decode cX3_readHead 19 = .ok (.getfield 91, 3) := by decide +kernel
theorem dX3_readHead_22 : decode cX3_readHead 22 = .ok (.invokevirtual 94, 3) := by decide +kernel
theorem dX3_readHead_25 : decode cX3_readHead 25 = .ok (.ireturn, 1) := by decide +kernel
theorem dX3_readHead_26 : decode cX3_readHead 26 = .ok (.aload_n 0, 1) := by decide +kernel
theorem dX3_readHead_27 : decode cX3_readHead 27 = .ok (.getfield 12, 3) := by decide +kernel
theorem dX3_readHead_30 : decode cX3_readHead 30 = .ok (.invokevirtual 98, 3) := by decide +kernel
theorem dX3_readHead_33 : decode cX3_readHead 33 = .ok (.aload_n 0, 1) := by decide +kernel
theorem dX3_readHead_34 : decode cX3_readHead 34 = .ok (.iconst 3, 1) := by decide +kernel
theorem dX3_readHead_35 : decode cX3_readHead 35 = .ok (.bipush 9, 2) := by decide +kernel
theorem dX3_readHead_37 : decode cX3_readHead 37 = .ok (.invokevirtual 101, 3) := by decide +kernel
theorem dX3_readHead_40 : decode cX3_readHead 40 = .ok (.ifCond .ne 5, 3) := by decide +kernel
theorem dX3_readHead_43 : decode cX3_readHead 43 = .ok (.iconst 0, 1) := by decide +kernel
theorem dX3_readHead_44 : decode cX3_readHead 44 = .ok (.ireturn, 1) := by decide +kernel
theorem dX3_readHead_45 : decode cX3_readHead 45 = .ok (.aload_n 0, 1) := by decide +kernel
theorem dX3_readHead_46 : decode cX3_readHead 46 = .ok (.getfield 21, 3) := by decide +kernel
theorem dX3_readHead_49 : decode cX3_readHead 49 = .ok (.aload_n 0, 1) := by decide +kernel
theorem dX3_readHead_50 : decode cX3_readHead 50 = .ok (.getfield 104, 3) := by decide +kernel
theorem dX3_readHead_53 : decode cX3_readHead 53 = .ok (.putfield 107, 3) := by decide +kernel
theorem dX3_readHead_56 : decode cX3_readHead 56 = .ok (.aload_n 0, 1) := by decide +kernel
theorem dX3_readHead_57 : decode cX3_readHead 57 = .ok (.getfield 21, 3) := by decide +kernel
theorem dX3_readHead_60 : decode cX3_readHead 60 = .ok (.aload_n 0, 1) := by decide +kernel
theorem dX3_readHead_61 : decode cX3_readHead 61 = .ok (.getfield 104, 3) := by decide +kernel
theorem dX3_readHead_64 : decode cX3_readHead 64 = .ok (.putfield 110, 3) := by decide +kernel
theorem dX3_readHead_67 : decode cX3_readHead 67 = .ok (.aload_n 0, 1) := by decide +kernel
theorem dX3_readHead_68 : decode cX3_readHead 68 = .ok (.getfield 21, 3) := by decide +kernel
theorem dX3_readHead_71 : decode cX3_readHead 71 = .ok (.iconst 1, 1) := by decide +kernel
theorem dX3_readHead_72 : decode cX3_readHead 72 = .ok (.putfield 113, 3) := by decide +kernel
theorem dX3_readHead_75 : decode cX3_readHead 75 = .ok (.aload_n 0, 1) := by decide +kernel
theorem dX3_readHead_76 : decode cX3_readHead 76 = .ok (.iconst 2, 1) := by decide +kernel
theorem dX3_readHead_77 : decode cX3_readHead 77 = .ok (.iconst 4, 1) := by decide +kernel
theorem dX3_readHead_78 : decode cX3_readHead 78 = .ok (.invokevirtual 101, 3) := by decide +kernel
theorem dX3_readHead_81 : decode cX3_readHead 81 = .ok (.ifCond .ne 5, 3) := by decide +kernel
theorem dX3_readHead_84 : decode cX3_readHead 84 = .ok (.iconst 0, 1) := by decide +kernel
theorem dX3_readHead_85 : decode cX3_readHead 85 = .ok (.ireturn, 1) := by decide +kernel
theorem dX3_readHead_86 : decode cX3_readHead 86 = .ok (.aload_n 0, 1) := by decide +kernel
theorem dX3_readHead_87 : decode cX3_readHead 87 = .ok (.getfield 21, 3) := by decide +kernel
theorem dX3_readHead_90 : decode cX3_readHead 90 = .ok (.aload_n 0, 1) := by decide +kernel
theorem dX3_readHead_91 : decode cX3_readHead 91 = .ok (.getfield 104, 3) := by decide +kernel
theorem dX3_readHead_94 : decode cX3_readHead 94 = .ok (.putfield 116, 3) := by decide +kernel
theorem dX3_readHead_97 : decode cX3_readHead 97 = .ok (.aload_n 0, 1) := by decide +kernel
theorem dX3_readHead_98 : decode cX3_readHead 98 = .ok (.iconst 1, 1) := by decide +kernel
theorem dX3_readHead_99 : decode cX3_readHead 99 = .ok (.bipush 12, 2) := by decide +kernel
theorem dX3_readHead_101 : decode cX3_readHead 101 = .ok (.invokevirtual 101, 3) := by decide +kernel
theorem dX3_readHead_104 : decode cX3_readHead 104 = .ok (.ifCond .ne 5, 3) := by decide +kernel
theorem dX3_readHead_107 : decode cX3_readHead 107 = .ok (.iconst 0, 1) := by decide +kernel
theorem dX3_readHead_108 : decode cX3_readHead 108 = .ok (.ireturn, 1) := by decide +kernel
theorem dX3_readHead_109 : decode cX3_readHead 109 = .ok (.aload_n 0, 1) := by decide +kernel
theorem dX3_readHead_110 : decode cX3_readHead 110 = .ok (.getfield 21, 3) := by decide +kernel
theorem dX3_readHead_113 : decode cX3_readHead 113 = .ok (.aload_n 0, 1) := by decide +kernel
theorem dX3_readHead_114 : decode cX3_readHead 114 = .ok (.getfield 104, 3) := by decide +kernel
theorem dX3_readHead_117 : decode cX3_readHead 117 = .ok (.putfield 119, 3) := by decide +kernel
theorem dX3_readHead_120 : decode cX3_readHead 120 = .ok (.aload_n 0, 1) := by decide +kernel
theorem dX3_readHead_121 : decode cX3_readHead 121 = .ok (.bipush 59, 2) := by decide +kernel
theorem dX3_readHead_123 : decode cX3_readHead 123 = .ok (.invokevirtual 73, 3) := by decide +kernel
theorem dX3_readHead_126 : decode cX3_readHead 126 = .ok (.ireturn, 1) := by decide +kernel
set_option maxRecDepth 20000 in
theorem ggX3_readStatement_X5_isWord : GoodIn wsX3_readStatement wsX5_isWord := goodIn_r _ [10, 11, 12, 13, 14, 15, 16, 17, 18, 19, 20, 21, 22, 23, 24, 25, 26, 27, 28, 29, 30, 31, 32, 33, 34, 35, 36, 37, 38, 39, 40, 41, 42, 43, 44, 45, 46, 47, 48, 49, 50, 51, 52, 53, 54, 55, 56, 57, 58, 59, 60, 61, 62, 63, 178, 179, 180, 181, 182, 183, 184, 185, 186, 187, 188] rfl (by decide +kernel)
set_option maxRecDepth 20000 in
theorem gX3_readStatement_X5_isWord : GoodIn wsX3_readStatement (wsV RX3 87 RX5 yX5_isWord wsX5_isWord) := goodIn_app (goodIn_of _ (by decide +kernel)) ggX3_readStatement_X5_isWord
set_option maxRecDepth 20000 in
theorem ggX3_readStatement_X3_readHub : GoodIn wsX3_readStatement wsX3_readHub := goodIn_r _ [68, 2, 1, 69, 70, 71, 72, 73, 9, 74, 75, 14, 12, 13, 76, 77, 11, 78, 79, 80, 67, 81, 82, 83, 84, 85, 86, 87, 88, 89, 90, 91, 167, 168, 169, 170, 171, 172, 173, 174, 175, 176, 177, 189, 190, 191, 192, 193, 194, 195, 196, 197, 198, 199, 200, 201, 202, 203, 204, 178, 179, 180, 181, 182, 183, 184] rfl (by decide +kernel)
set_option maxRecDepth 20000 in
theorem gX3_readStatement_X3_readHub : GoodIn wsX3_readStatement (wsV RX3 123 RX3 yX3_readHub wsX3_readHub) := goodIn_app (goodIn_of _ (by decide +kernel)) ggX3_readStatement_X3_readHub
set_option maxRecDepth 20000 in
theorem ggX3_readStatement_X3_readSeed : GoodIn wsX3_readStatement wsX3_readSeed := goodIn_r _ [95, 4, 1, 69, 70, 71, 72, 73, 9, 74, 75, 14, 12, 13, 76, 77, 11, 78, 79, 80, 67, 81, 82, 83, 84, 85, 86, 87, 88, 89, 90, 91, 167, 168, 169, 170, 171, 172, 173, 174, 175, 176, 177, 189, 190, 191, 192, 193, 194, 195, 196, 197, 198, 199, 200, 201, 202, 203, 204, 178, 179, 180, 181, 182, 183, 184] rfl (by decide +kernel)
set_option maxRecDepth 20000 in
theorem gX3_readStatement_X3_readSeed : GoodIn wsX3_readStatement (wsV RX3 127 RX3 yX3_readSeed wsX3_readSeed) := goodIn_app (goodIn_of _ (by decide +kernel)) ggX3_readStatement_X3_readSeed
set_option maxRecDepth 20000 in
theorem ggX3_readStatement_X3_readGive : GoodIn wsX3_readStatement wsX3_readGive := goodIn_r _ [99, 3, 1, 69, 70, 71, 72, 73, 9, 74, 75, 14, 12, 13, 76, 77, 11, 78, 79, 80, 67, 81, 82, 83, 84, 85, 86, 87, 88, 89, 90, 91, 100, 101, 102, 103, 104, 105, 106, 107, 108, 109, 110, 111, 112, 113, 114, 115, 116, 117, 118, 119, 120, 121, 122, 123, 124, 125, 126, 127, 128, 129, 130, 131, 132, 133, 134, 135, 136, 137, 138, 139, 140, 141, 142, 143, 144, 167, 168, 169, 170, 171, 172, 173, 174, 175, 176, 177, 189, 190, 191, 192, 193, 194, 195, 196, 197, 198, 199, 200, 201, 202, 203, 204, 178, 179, 180, 181, 182, 183, 184] rfl (by decide +kernel)
set_option maxRecDepth 20000 in
theorem gX3_readStatement_X3_readGive : GoodIn wsX3_readStatement (wsV RX3 132 RX3 yX3_readGive wsX3_readGive) := goodIn_app (goodIn_of _ (by decide +kernel)) ggX3_readStatement_X3_readGive
set_option maxRecDepth 20000 in
theorem ggX3_readStatement_X5_advance : GoodIn wsX3_readStatement wsX5_advance := goodIn_r _ [74, 75, 14, 12, 13, 76, 77, 11, 178, 179, 180, 181, 182, 183, 184] rfl (by decide +kernel)
set_option maxRecDepth 20000 in
theorem gX3_readStatement_X5_advance : GoodIn wsX3_readStatement (wsV RX3 98 RX5 yX5_advance wsX5_advance) := goodIn_app (goodIn_of _ (by decide +kernel)) ggX3_readStatement_X5_advance
set_option maxRecDepth 20000 in
theorem ggX3_readStatement_X3_readSum : GoodIn wsX3_readStatement wsX3_readSum := goodIn_r _ [148, 1, 149, 150, 151, 67, 115, 116, 117, 9, 118, 11, 13, 14, 71, 72, 73, 74, 75, 12, 76, 77, 152, 153, 154, 155, 156, 157, 143, 131, 144, 158, 70, 86, 87, 88, 89, 90, 91, 145, 146, 147, 111, 112, 113, 114, 82, 83, 84, 85, 78, 79, 80, 81, 159, 160, 161, 162, 6, 7, 8, 10, 15, 16, 17, 18, 19, 20, 21, 22, 23, 24, 25, 26, 27, 28, 29, 30, 31, 32, 33, 34, 35, 36, 37, 38, 39, 40, 41, 42, 43, 44, 45, 46, 47, 48, 49, 50, 51, 52, 53, 54, 55, 56, 57, 58, 59, 60, 61, 62, 63, 163, 164, 165, 166, 167, 168, 169, 170, 171, 172, 173, 174, 175, 176, 177, 178, 179, 180, 181, 182, 183, 184, 185, 186, 187, 188] rfl (by decide +kernel)
set_option maxRecDepth 20000 in
theorem gX3_readStatement_X3_readSum : GoodIn wsX3_readStatement (wsV RX3 137 RX3 yX3_readSum wsX3_readSum) := goodIn_app (goodIn_of _ (by decide +kernel)) ggX3_readStatement_X3_readSum
set_option maxRecDepth 20000 in
theorem ggX3_readStatement_X3_fail : GoodIn wsX3_readStatement wsX3_fail := goodIn_r _ [89, 90, 91, 167, 168, 169, 170, 171, 172, 173, 174, 175, 176, 177] rfl (by decide +kernel)
set_option maxRecDepth 20000 in
theorem gX3_readStatement_X3_fail : GoodIn wsX3_readStatement (wsV RX3 94 RX3 yX3_fail wsX3_fail) := goodIn_app (goodIn_of _ (by decide +kernel)) ggX3_readStatement_X3_fail
theorem dX3_readStatement_0 : decode cX3_readStatement 0 = .ok (.aload_n 0, 1) := by decide +kernel
theorem dX3_readStatement_1 : decode cX3_readStatement 1 = .ok (.getfield 12, 3) := by decide +kernel
theorem dX3_readStatement_4 : decode cX3_readStatement 4 = .ok (.ldc 122, 2) := by decide +kernel
theorem dX3_readStatement_6 : decode cX3_readStatement 6 = .ok (.invokevirtual 87, 3) := by decide +kernel
theorem dX3_readStatement_9 : decode cX3_readStatement 9 = .ok (.ifCond .eq 22, 3) := by decide +kernel
theorem dX3_readStatement_12 : decode cX3_readStatement 12 = .ok (.aload_n 0, 1) := by decide +kernel
theorem dX3_readStatement_13 : decode cX3_readStatement 13 = .ok (.getfield 40, 3) := by decide +kernel
theorem dX3_readStatement_16 : decode cX3_readStatement 16 = .ok (.ifCond .ne 15, 3) := by decide +kernel
theorem dX3_readStatement_19 : decode cX3_readStatement 19 = .ok (.aload_n 0, 1) := by decide +kernel
theorem dX3_readStatement_20 : decode cX3_readStatement 20 = .ok (.getfield 53, 3) := by decide +kernel
theorem dX3_readStatement_23 : decode cX3_readStatement 23 = .ok (.ifCond .ne 8, 3) := by decide +kernel
theorem dX3_readStatement_26 : decode cX3_readStatement 26 = .ok (.aload_n 0, 1) := by decide +kernel
theorem dX3_readStatement_27 : decode cX3_readStatement 27 = .ok (.invokevirtual 123, 3) := by decide +kernel
theorem dX3_readStatement_30 : decode cX3_readStatement 30 = .ok (.ireturn, 1) := by decide +kernel
theorem dX3_readStatement_31 : decode cX3_readStatement 31 = .ok (.aload_n 0, 1) := by decide +kernel
theorem dX3_readStatement_32 : decode cX3_readStatement 32 = .ok (.getfield 12, 3) := by decide +kernel
theorem dX3_readStatement_35 : decode cX3_readStatement 35 = .ok (.ldc 126, 2) := by decide +kernel
theorem dX3_readStatement_37 : decode cX3_readStatement 37 = .ok (.invokevirtual 87, 3) := by decide +kernel
theorem dX3_readStatement_40 : decode cX3_readStatement 40 = .ok (.ifCond .eq 15, 3) := by decide +kernel
theorem dX3_readStatement_43 : decode cX3_readStatement 43 = .ok (.aload_n 0, 1) := by decide +kernel
theorem dX3_readStatement_44 : decode cX3_readStatement 44 = .ok (.getfield 44, 3) := by decide +kernel
theorem dX3_readStatement_47 : decode cX3_readStatement 47 = .ok (.ifCond .ne 8, 3) := by decide +kernel
theorem dX3_readStatement_50 : decode cX3_readStatement 50 = .ok (.aload_n 0, 1) := by decide +kernel
theorem dX3_readStatement_51 : decode cX3_readStatement 51 = .ok (.invokevirtual 127, 3) := by decide +kernel
theorem dX3_readStatement_54 : decode cX3_readStatement 54 = .ok (.ireturn, 1) := by decide +kernel
theorem dX3_readStatement_55 : decode cX3_readStatement 55 = .ok (.aload_n 0, 1) := by decide +kernel
theorem dX3_readStatement_56 : decode cX3_readStatement 56 = .ok (.getfield 12, 3) := by decide +kernel
theorem dX3_readStatement_59 : decode cX3_readStatement 59 = .ok (.ldc 130, 2) := by decide +kernel
theorem dX3_readStatement_61 : decode cX3_readStatement 61 = .ok (.invokevirtual 87, 3) := by decide +kernel
theorem dX3_readStatement_64 : decode cX3_readStatement 64 = .ok (.ifCond .eq 8, 3) := by decide +kernel
theorem dX3_readStatement_67 : decode cX3_readStatement 67 = .ok (.aload_n 0, 1) := by decide +kernel
theorem dX3_readStatement_68 : decode cX3_readStatement 68 = .ok (.invokevirtual 132, 3) := by decide +kernel
theorem dX3_readStatement_71 : decode cX3_readStatement 71 = .ok (.ireturn, 1) := by decide +kernel
theorem dX3_readStatement_72 : decode cX3_readStatement 72 = .ok (.aload_n 0, 1) := by decide +kernel
theorem dX3_readStatement_73 : decode cX3_readStatement 73 = .ok (.getfield 12, 3) := by decide +kernel
theorem dX3_readStatement_76 : decode cX3_readStatement 76 = .ok (.ldc 135, 2) := by decide +kernel
theorem dX3_readStatement_78 : decode cX3_readStatement 78 = .ok (.invokevirtual 87, 3) := by decide +kernel
theorem dX3_readStatement_81 : decode cX3_readStatement 81 = .ok (.ifCond .eq 28, 3) := by decide +kernel
theorem dX3_readStatement_84 : decode cX3_readStatement 84 = .ok (.aload_n 0, 1) := by decide +kernel
theorem dX3_readStatement_85 : decode cX3_readStatement 85 = .ok (.getfield 47, 3) := by decide +kernel
theorem dX3_readStatement_88 : decode cX3_readStatement 88 = .ok (.ifCond .ne 21, 3) := by decide +kernel
theorem dX3_readStatement_91 : decode cX3_readStatement 91 = .ok (.aload_n 0, 1) := by decide +kernel
theorem dX3_readStatement_92 : decode cX3_readStatement 92 = .ok (.iconst 1, 1) := by decide +kernel
theorem dX3_readStatement_93 : decode cX3_readStatement 93 = .ok (.putfield 47, 3) := by decide +kernel
theorem dX3_readStatement_96 : decode cX3_readStatement 96 = .ok (.aload_n 0, 1) := by decide +kernel
theorem dX3_readStatement_97 : decode cX3_readStatement 97 = .ok (.getfield 12, 3) := by decide +kernel
theorem dX3_readStatement_100 : decode cX3_readStatement 100 = .ok (.invokevirtual 98, 3) := by decide +kernel
theorem dX3_readStatement_103 : decode cX3_readStatement 103 = .ok (.aload_n 0, 1) := by decide +kernel
theorem dX3_readStatement_104 : decode cX3_readStatement 104 = .ok (.iconst 0, 1) := by decide +kernel
theorem dX3_readStatement_105 : decode cX3_readStatement 105 = .ok (.invokevirtual 137, 3) := by decide +kernel
theorem dX3_readStatement_108 : decode cX3_readStatement 108 = .ok (.ireturn, 1) := by decide +kernel
theorem dX3_readStatement_109 : decode cX3_readStatement 109 = .ok (.aload_n 0, 1) := by decide +kernel
theorem dX3_readStatement_110 : decode cX3_readStatement 110 = .ok (.bipush (-2), 2) := by decide +kernel
theorem dX3_readStatement_112 : decode cX3_readStatement 112 = .ok (.aload_n 0, 1) := by decide +kernel
theorem dX3_readStatement_113 : decode cX3_readStatement 113 = .ok (.getfield 12, 3) := by decide +kernel
theorem dX3_readStatement_116 : decode cX3_readStatement 116 = .ok (.getfield 91, 3) := by decide +kernel
theorem dX3_readStatement_119 : decode cX3_readStatement 119 = .ok (.invokevirtual 94, 3) := by decide +kernel
theorem dX3_readStatement_122 : decode cX3_readStatement 122 = .ok (.ireturn, 1) := by decide +kernel
set_option maxRecDepth 20000 in
theorem ggX3_readHub_X5_advance : GoodIn wsX3_readHub wsX5_advance := goodIn_r _ [9, 10, 11, 12, 13, 14, 15, 16, 59, 60, 61, 62, 63, 64, 65] rfl (by decide +kernel)
set_option maxRecDepth 20000 in
theorem gX3_readHub_X5_advance : GoodIn wsX3_readHub (wsV RX3 98 RX5 yX5_advance wsX5_advance) := goodIn_app (goodIn_of _ (by decide +kernel)) ggX3_readHub_X5_advance
set_option maxRecDepth 20000 in
theorem ggX3_readHub_X3_takeNumber : GoodIn wsX3_readHub wsX3_takeNumber := goodIn_r _ [21, 2, 4, 22, 23, 24, 8, 25, 16, 26, 27, 28, 20, 29, 30, 31, 5, 6, 7, 9, 10, 11, 12, 13, 14, 15, 32, 33, 34, 35, 36, 37, 38, 39, 40, 41, 42, 59, 60, 61, 62, 63, 64, 65] rfl (by decide +kernel)
set_option maxRecDepth 20000 in
theorem gX3_readHub_X3_takeNumber : GoodIn wsX3_readHub (wsV RX3 101 RX3 yX3_takeNumber wsX3_takeNumber) := goodIn_app (goodIn_of _ (by decide +kernel)) ggX3_readHub_X3_takeNumber
theorem dX3_readHub_0 : decode cX3_readHub 0 = .ok (.aload_n 0, 1) := by decide +kernel
theorem dX3_readHub_1 : decode cX3_readHub 1 = .ok (.iconst 1, 1) := by decide +kernel
theorem dX3_readHub_2 : decode cX3_readHub 2 = .ok (.putfield 40, 3) := by decide +kernel
theorem dX3_readHub_5 : decode cX3_readHub 5 = .ok (.aload_n 0, 1) := by decide +kernel
theorem dX3_readHub_6 : decode cX3_readHub 6 = .ok (.getfield 12, 3) := by decide +kernel
theorem dX3_readHub_9 : decode cX3_readHub 9 = .ok (.invokevirtual 98, 3) := by decide +kernel
theorem dX3_readHub_12 : decode cX3_readHub 12 = .ok (.aload_n 0, 1) := by decide +kernel
theorem dX3_readHub_13 : decode cX3_readHub 13 = .ok (.iconst 0, 1) := by decide +kernel
theorem dX3_readHub_14 : decode cX3_readHub 14 = .ok (.aload_n 0, 1) := by decide +kernel
theorem dX3_readHub_15 : decode cX3_readHub 15 = .ok (.getfield 21, 3) := by decide +kernel
theorem dX3_readHub_18 : decode cX3_readHub 18 = .ok (.getfield 107, 3) := by decide +kernel
theorem dX3_readHub_21 : decode cX3_readHub 21 = .ok (.invokevirtual 101, 3) := by decide +kernel
theorem dX3_readHub_24 : decode cX3_readHub 24 = .ok (.ifCond .ne 5, 3) := by decide +kernel
theorem dX3_readHub_27 : decode cX3_readHub 27 = .ok (.iconst 0, 1) := by decide +kernel
theorem dX3_readHub_28 : decode cX3_readHub 28 = .ok (.ireturn, 1) := by decide +kernel
theorem dX3_readHub_29 : decode cX3_readHub 29 = .ok (.aload_n 0, 1) := by decide +kernel
theorem dX3_readHub_30 : decode cX3_readHub 30 = .ok (.getfield 21, 3) := by decide +kernel
theorem dX3_readHub_33 : decode cX3_readHub 33 = .ok (.aload_n 0, 1) := by decide +kernel
theorem dX3_readHub_34 : decode cX3_readHub 34 = .ok (.getfield 104, 3) := by decide +kernel
theorem dX3_readHub_37 : decode cX3_readHub 37 = .ok (.putfield 110, 3) := by decide +kernel
theorem dX3_readHub_40 : decode cX3_readHub 40 = .ok (.iconst 1, 1) := by decide +kernel
theorem dX3_readHub_41 : decode cX3_readHub 41 = .ok (.ireturn, 1) := by decide +kernel
set_option maxRecDepth 20000 in
theorem ggX3_readSeed_X5_advance : GoodIn wsX3_readSeed wsX5_advance := goodIn_r _ [9, 10, 11, 12, 13, 14, 15, 16, 59, 60, 61, 62, 63, 64, 65] rfl (by decide +kernel)
set_option maxRecDepth 20000 in
theorem gX3_readSeed_X5_advance : GoodIn wsX3_readSeed (wsV RX3 98 RX5 yX5_advance wsX5_advance) := goodIn_app (goodIn_of _ (by decide +kernel)) ggX3_readSeed_X5_advance
set_option maxRecDepth 20000 in
theorem ggX3_readSeed_X3_takeNumber : GoodIn wsX3_readSeed wsX3_takeNumber := goodIn_r _ [21, 2, 4, 22, 23, 24, 8, 25, 16, 26, 27, 28, 20, 29, 30, 31, 5, 6, 7, 9, 10, 11, 12, 13, 14, 15, 32, 33, 34, 35, 36, 37, 38, 39, 40, 41, 42, 59, 60, 61, 62, 63, 64, 65] rfl (by decide +kernel)
set_option maxRecDepth 20000 in
theorem gX3_readSeed_X3_takeNumber : GoodIn wsX3_readSeed (wsV RX3 101 RX3 yX3_takeNumber wsX3_takeNumber) := goodIn_app (goodIn_of _ (by decide +kernel)) ggX3_readSeed_X3_takeNumber
theorem dX3_readSeed_0 : decode cX3_readSeed 0 = .ok (.aload_n 0, 1) := by decide +kernel
theorem dX3_readSeed_1 : decode cX3_readSeed 1 = .ok (.iconst 1, 1) := by decide +kernel
theorem dX3_readSeed_2 : decode cX3_readSeed 2 = .ok (.putfield 44, 3) := by decide +kernel
theorem dX3_readSeed_5 : decode cX3_readSeed 5 = .ok (.aload_n 0, 1) := by decide +kernel
theorem dX3_readSeed_6 : decode cX3_readSeed 6 = .ok (.getfield 12, 3) := by decide +kernel
theorem dX3_readSeed_9 : decode cX3_readSeed 9 = .ok (.invokevirtual 98, 3) := by decide +kernel
theorem dX3_readSeed_12 : decode cX3_readSeed 12 = .ok (.aload_n 0, 1) := by decide +kernel
theorem dX3_readSeed_13 : decode cX3_readSeed 13 = .ok (.iconst 0, 1) := by decide +kernel
theorem dX3_readSeed_14 : decode cX3_readSeed 14 = .ok (.sipush 9999, 3) := by decide +kernel
theorem dX3_readSeed_17 : decode cX3_readSeed 17 = .ok (.invokevirtual 101, 3) := by decide +kernel
theorem dX3_readSeed_20 : decode cX3_readSeed 20 = .ok (.ifCond .ne 5, 3) := by decide +kernel
theorem dX3_readSeed_23 : decode cX3_readSeed 23 = .ok (.iconst 0, 1) := by decide +kernel
theorem dX3_readSeed_24 : decode cX3_readSeed 24 = .ok (.ireturn, 1) := by decide +kernel
theorem dX3_readSeed_25 : decode cX3_readSeed 25 = .ok (.aload_n 0, 1) := by decide +kernel
theorem dX3_readSeed_26 : decode cX3_readSeed 26 = .ok (.getfield 21, 3) := by decide +kernel
theorem dX3_readSeed_29 : decode cX3_readSeed 29 = .ok (.aload_n 0, 1) := by decide +kernel
theorem dX3_readSeed_30 : decode cX3_readSeed 30 = .ok (.getfield 104, 3) := by decide +kernel
theorem dX3_readSeed_33 : decode cX3_readSeed 33 = .ok (.putfield 113, 3) := by decide +kernel
theorem dX3_readSeed_36 : decode cX3_readSeed 36 = .ok (.iconst 1, 1) := by decide +kernel
theorem dX3_readSeed_37 : decode cX3_readSeed 37 = .ok (.ireturn, 1) := by decide +kernel
set_option maxRecDepth 20000 in
theorem ggX3_readGive_X5_advance : GoodIn wsX3_readGive wsX5_advance := goodIn_r _ [9, 10, 11, 12, 13, 14, 15, 16, 104, 105, 106, 107, 108, 109, 110] rfl (by decide +kernel)
set_option maxRecDepth 20000 in
theorem gX3_readGive_X5_advance : GoodIn wsX3_readGive (wsV RX3 98 RX5 yX5_advance wsX5_advance) := goodIn_app (goodIn_of _ (by decide +kernel)) ggX3_readGive_X5_advance
set_option maxRecDepth 20000 in
theorem ggX3_readGive_X3_takeNumber : GoodIn wsX3_readGive wsX3_takeNumber := goodIn_r _ [21, 2, 4, 22, 23, 24, 8, 25, 16, 26, 27, 28, 20, 29, 30, 31, 5, 6, 7, 9, 10, 11, 12, 13, 14, 15, 77, 78, 79, 80, 81, 82, 83, 84, 85, 86, 87, 104, 105, 106, 107, 108, 109, 110] rfl (by decide +kernel)
set_option maxRecDepth 20000 in
theorem gX3_readGive_X3_takeNumber : GoodIn wsX3_readGive (wsV RX3 101 RX3 yX3_takeNumber wsX3_takeNumber) := goodIn_app (goodIn_of _ (by decide +kernel)) ggX3_readGive_X3_takeNumber
set_option maxRecDepth 20000 in
theorem ggX3_readGive_X3_readTile : GoodIn wsX3_readGive wsX3_readTile := goodIn_r _ [35, 2, 3, 4, 36, 37, 38, 39, 40, 41, 42, 17, 18, 19, 20, 21, 22, 23, 24, 8, 25, 16, 26, 27, 28, 29, 30, 31, 5, 6, 7, 9, 10, 11, 12, 13, 14, 15, 43, 44, 45, 46, 47, 48, 49, 50, 51, 52, 53, 54, 55, 56, 57, 58, 59, 60, 61, 62, 63, 64, 65, 66, 67, 68, 69, 70, 71, 72, 73, 74, 75, 76, 77, 78, 79, 80, 81, 82, 83, 84, 85, 86, 87, 104, 105, 106, 107, 108, 109, 110, 88, 89, 90, 91, 92, 93, 94, 95, 96, 97, 98, 99, 100, 101, 102, 103] rfl (by decide +kernel)
set_option maxRecDepth 20000 in
theorem gX3_readGive_X3_readTile : GoodIn wsX3_readGive (wsV RX3 141 RX3 yX3_readTile wsX3_readTile) := goodIn_app (goodIn_of _ (by decide +kernel)) ggX3_readGive_X3_readTile
set_option maxRecDepth 20000 in
theorem ggX3_readGive_X5_isNumber : GoodIn wsX3_readGive wsX5_isNumber := goodIn_r _ [25, 16, 104, 105, 106, 107, 108, 109, 110] rfl (by decide +kernel)
set_option maxRecDepth 20000 in
theorem gX3_readGive_X5_isNumber : GoodIn wsX3_readGive (wsV RX3 144 RX5 yX5_isNumber wsX5_isNumber) := goodIn_app (goodIn_of _ (by decide +kernel)) ggX3_readGive_X5_isNumber
theorem dX3_readGive_0 : decode cX3_readGive 0 = .ok (.aload_n 0, 1) := by decide +kernel
theorem dX3_readGive_1 : decode cX3_readGive 1 = .ok (.iconst 1, 1) := by decide +kernel
theorem dX3_readGive_2 : decode cX3_readGive 2 = .ok (.putfield 53, 3) := by decide +kernel
theorem dX3_readGive_5 : decode cX3_readGive 5 = .ok (.aload_n 0, 1) := by decide +kernel
theorem dX3_readGive_6 : decode cX3_readGive 6 = .ok (.getfield 12, 3) := by decide +kernel
theorem dX3_readGive_9 : decode cX3_readGive 9 = .ok (.invokevirtual 98, 3) := by decide +kernel
theorem dX3_readGive_12 : decode cX3_readGive 12 = .ok (.aload_n 0, 1) := by decide +kernel
theorem dX3_readGive_13 : decode cX3_readGive 13 = .ok (.iconst 0, 1) := by decide +kernel
theorem dX3_readGive_14 : decode cX3_readGive 14 = .ok (.aload_n 0, 1) := by decide +kernel
theorem dX3_readGive_15 : decode cX3_readGive 15 = .ok (.getfield 21, 3) := by decide +kernel
theorem dX3_readGive_18 : decode cX3_readGive 18 = .ok (.getfield 116, 3) := by decide +kernel
theorem dX3_readGive_21 : decode cX3_readGive 21 = .ok (.iconst 1, 1) := by decide +kernel
theorem dX3_readGive_22 : decode cX3_readGive 22 = .ok (.isub, 1) := by decide +kernel
theorem dX3_readGive_23 : decode cX3_readGive 23 = .ok (.invokevirtual 101, 3) := by decide +kernel
theorem dX3_readGive_26 : decode cX3_readGive 26 = .ok (.ifCond .ne 5, 3) := by decide +kernel
theorem dX3_readGive_29 : decode cX3_readGive 29 = .ok (.iconst 0, 1) := by decide +kernel
theorem dX3_readGive_30 : decode cX3_readGive 30 = .ok (.ireturn, 1) := by decide +kernel
theorem dX3_readGive_31 : decode cX3_readGive 31 = .ok (.aload_n 0, 1) := by decide +kernel
theorem dX3_readGive_32 : decode cX3_readGive 32 = .ok (.getfield 104, 3) := by decide +kernel
theorem dX3_readGive_35 : decode cX3_readGive 35 = .ok (.istore_n 1, 1) := by decide +kernel
theorem dX3_readGive_36 : decode cX3_readGive 36 = .ok (.aload_n 0, 1) := by decide +kernel
theorem dX3_readGive_37 : decode cX3_readGive 37 = .ok (.iload_n 1, 1) := by decide +kernel
theorem dX3_readGive_38 : decode cX3_readGive 38 = .ok (.invokevirtual 141, 3) := by decide +kernel
theorem dX3_readGive_41 : decode cX3_readGive 41 = .ok (.istore_n 2, 1) := by decide +kernel
theorem dX3_readGive_42 : decode cX3_readGive 42 = .ok (.iconst 0, 1) := by decide +kernel
theorem dX3_readGive_43 : decode cX3_readGive 43 = .ok (.istore_n 3, 1) := by decide +kernel
theorem dX3_readGive_44 : decode cX3_readGive 44 = .ok (.iload_n 2, 1) := by decide +kernel
theorem dX3_readGive_45 : decode cX3_readGive 45 = .ok (.ifCond .eq 32, 3) := by decide +kernel
theorem dX3_readGive_48 : decode cX3_readGive 48 = .ok (.aload_n 0, 1) := by decide +kernel
theorem dX3_readGive_49 : decode cX3_readGive 49 = .ok (.getfield 12, 3) := by decide +kernel
theorem dX3_readGive_52 : decode cX3_readGive 52 = .ok (.invokevirtual 144, 3) := by decide +kernel
theorem dX3_readGive_55 : decode cX3_readGive 55 = .ok (.ifCond .eq 22, 3) := by decide +kernel
theorem dX3_readGive_58 : decode cX3_readGive 58 = .ok (.iload_n 3, 1) := by decide +kernel
theorem dX3_readGive_59 : decode cX3_readGive 59 = .ok (.sipush 500, 3) := by decide +kernel
theorem dX3_readGive_62 : decode cX3_readGive 62 = .ok (.if_icmp .ge 15, 3) := by decide +kernel
theorem dX3_readGive_65 : decode cX3_readGive 65 = .ok (.aload_n 0, 1) := by decide +kernel
theorem dX3_readGive_66 : decode cX3_readGive 66 = .ok (.iload_n 1, 1) := by decide +kernel
theorem dX3_readGive_67 : decode cX3_readGive 67 = .ok (.invokevirtual 141, 3) := by decide +kernel
theorem dX3_readGive_70 : decode cX3_readGive 70 = .ok (.istore_n 2, 1) := by decide +kernel
theorem dX3_readGive_71 : decode cX3_readGive 71 = .ok (.iinc 3 1, 3) := by decide +kernel
theorem dX3_readGive_74 : decode cX3_readGive 74 = .ok (.goto (-30), 3) := by decide +kernel
theorem dX3_readGive_77 : decode cX3_readGive 77 = .ok (.iload_n 2, 1) := by decide +kernel
theorem dX3_readGive_78 : decode cX3_readGive 78 = .ok (.ireturn, 1) := by decide +kernel
set_option maxRecDepth 20000 in
theorem ggX3_readTile_X3_takeNumber : GoodIn wsX3_readTile wsX3_takeNumber := goodIn_r _ [15, 1, 3, 16, 17, 18, 19, 20, 21, 22, 23, 24, 14, 25, 26, 27, 28, 29, 30, 31, 32, 33, 34, 35, 36, 37, 72, 73, 74, 75, 76, 77, 78, 79, 80, 81, 82, 83, 84, 85, 86, 87, 88, 89] rfl (by decide +kernel)
set_option maxRecDepth 20000 in
theorem gX3_readTile_X3_takeNumber : GoodIn wsX3_readTile (wsV RX3 101 RX3 yX3_takeNumber wsX3_takeNumber) := goodIn_app (goodIn_of _ (by decide +kernel)) ggX3_readTile_X3_takeNumber
set_option maxRecDepth 20000 in
theorem ggX3_readTile_X3_takeSign : GoodIn wsX3_readTile wsX3_takeSign := goodIn_r _ [41, 1, 42, 43, 44, 19, 45, 21, 35, 33, 22, 23, 24, 14, 25, 26, 27, 28, 29, 30, 31, 32, 34, 36, 37, 72, 73, 74, 75, 76, 77, 78, 79, 80, 81, 82, 83, 84, 85, 86, 87, 88, 89] rfl (by decide +kernel)
set_option maxRecDepth 20000 in
theorem gX3_readTile_X3_takeSign : GoodIn wsX3_readTile (wsV RX3 73 RX3 yX3_takeSign wsX3_takeSign) := goodIn_app (goodIn_of _ (by decide +kernel)) ggX3_readTile_X3_takeSign
set_option maxRecDepth 20000 in
theorem ggX3_readTile_X1_isFree : GoodIn wsX3_readTile wsX1_isFree := goodIn_r _ [50, 51, 52, 53, 54, 49, 55, 56, 57, 58, 59, 60, 61, 62, 63, 64, 65, 90, 91, 92, 93, 94, 95, 96, 97, 98, 99, 100, 101, 102, 103, 104, 105] rfl (by decide +kernel)
set_option maxRecDepth 20000 in
theorem gX3_readTile_X1_isFree : GoodIn wsX3_readTile (wsV RX3 156 RX1 yX1_isFree wsX1_isFree) := goodIn_app (goodIn_of _ (by decide +kernel)) ggX3_readTile_X1_isFree
set_option maxRecDepth 20000 in
theorem ggX3_readTile_X3_fail : GoodIn wsX3_readTile wsX3_fail := goodIn_r _ [25, 26, 27, 72, 73, 74, 75, 76, 77, 78, 79, 80, 81, 82] rfl (by decide +kernel)
set_option maxRecDepth 20000 in
theorem gX3_readTile_X3_fail : GoodIn wsX3_readTile (wsV RX3 94 RX3 yX3_fail wsX3_fail) := goodIn_app (goodIn_of _ (by decide +kernel)) ggX3_readTile_X3_fail
set_option maxRecDepth 20000 in
theorem ggX3_readTile_X1_handCount : GoodIn wsX3_readTile wsX1_handCount := goodIn_r _ [69, 52, 53, 54, 49, 55, 56, 90, 91, 92, 93, 94, 95, 96, 97, 98, 99, 100, 101, 102, 103, 104, 105] rfl (by decide +kernel)
set_option maxRecDepth 20000 in
theorem gX3_readTile_X1_handCount : GoodIn wsX3_readTile (wsV RX3 159 RX1 yX1_handCount wsX1_handCount) := goodIn_app (goodIn_of _ (by decide +kernel)) ggX3_readTile_X1_handCount
set_option maxRecDepth 20000 in
theorem ggX3_readTile_X7_put : GoodIn wsX3_readTile wsX7_put := goodIn_r _ [71] rfl (by decide +kernel)
set_option maxRecDepth 20000 in
theorem gX3_readTile_X7_put_n166 : GoodIn wsX3_readTile (wsX7_put) := ggX3_readTile_X7_put
theorem dX3_readTile_0 : decode cX3_readTile 0 = .ok (.aload_n 0, 1) := by decide +kernel
theorem dX3_readTile_1 : decode cX3_readTile 1 = .ok (.getfield 12, 3) := by decide +kernel
theorem dX3_readTile_4 : decode cX3_readTile 4 = .ok (.getfield 91, 3) := by decide +kernel
theorem dX3_readTile_7 : decode cX3_readTile 7 = .ok (.istore_n 2, 1) := by decide +kernel
theorem dX3_readTile_8 : decode cX3_readTile 8 = .ok (.aload_n 0, 1) := by decide +kernel
theorem dX3_readTile_9 : decode cX3_readTile 9 = .ok (.iconst 0, 1) := by decide +kernel
theorem dX3_readTile_10 : decode cX3_readTile 10 = .ok (.aload_n 0, 1) := by decide +kernel
theorem dX3_readTile_11 : decode cX3_readTile 11 = .ok (.getfield 21, 3) := by decide +kernel
theorem dX3_readTile_14 : decode cX3_readTile 14 = .ok (.getfield 107, 3) := by decide +kernel
theorem dX3_readTile_17 : decode cX3_readTile 17 = .ok (.invokevirtual 101, 3) := by decide +kernel
theorem dX3_readTile_20 : decode cX3_readTile 20 = .ok (.ifCond .ne 5, 3) := by decide +kernel
theorem dX3_readTile_23 : decode cX3_readTile 23 = .ok (.iconst 0, 1) := by decide +kernel
theorem dX3_readTile_24 : decode cX3_readTile 24 = .ok (.ireturn, 1) := by decide +kernel
theorem dX3_readTile_25 : decode cX3_readTile 25 = .ok (.aload_n 0, 1) := by decide +kernel
theorem dX3_readTile_26 : decode cX3_readTile 26 = .ok (.getfield 104, 3) := by decide +kernel
theorem dX3_readTile_29 : decode cX3_readTile 29 = .ok (.istore_n 3, 1) := by decide +kernel
theorem dX3_readTile_30 : decode cX3_readTile 30 = .ok (.aload_n 0, 1) := by decide +kernel
theorem dX3_readTile_31 : decode cX3_readTile 31 = .ok (.bipush 45, 2) := by decide +kernel
theorem dX3_readTile_33 : decode cX3_readTile 33 = .ok (.invokevirtual 73, 3) := by decide +kernel
theorem dX3_readTile_36 : decode cX3_readTile 36 = .ok (.ifCond .eq 18, 3) := by decide +kernel
theorem dX3_readTile_39 : decode cX3_readTile 39 = .ok (.aload_n 0, 1) := by decide +kernel
theorem dX3_readTile_40 : decode cX3_readTile 40 = .ok (.iconst 0, 1) := by decide +kernel
theorem dX3_readTile_41 : decode cX3_readTile 41 = .ok (.aload_n 0, 1) := by decide +kernel
theorem dX3_readTile_42 : decode cX3_readTile 42 = .ok (.getfield 21, 3) := by decide +kernel
theorem dX3_readTile_45 : decode cX3_readTile 45 = .ok (.getfield 107, 3) := by decide +kernel
theorem dX3_readTile_48 : decode cX3_readTile 48 = .ok (.invokevirtual 101, 3) := by decide +kernel
theorem dX3_readTile_51 : decode cX3_readTile 51 = .ok (.ifCond .ne 5, 3) := by decide +kernel
theorem dX3_readTile_54 : decode cX3_readTile 54 = .ok (.iconst 0, 1) := by decide +kernel
theorem dX3_readTile_55 : decode cX3_readTile 55 = .ok (.ireturn, 1) := by decide +kernel
theorem dX3_readTile_56 : decode cX3_readTile 56 = .ok (.bipush 10, 2) := by decide +kernel
theorem dX3_readTile_58 : decode cX3_readTile 58 = .ok (.iload_n 3, 1) := by decide +kernel
theorem dX3_readTile_59 : decode cX3_readTile 59 = .ok (.aload_n 0, 1) := by decide +kernel
theorem dX3_readTile_60 : decode cX3_readTile 60 = .ok (.getfield 104, 3) := by decide +kernel
theorem dX3_readTile_63 : decode cX3_readTile 63 = .ok (.invokestatic 147, 3) := by decide +kernel
theorem dX3_readTile_66 : decode cX3_readTile 66 = .ok (.imul, 1) := by decide +kernel
theorem dX3_readTile_67 : decode cX3_readTile 67 = .ok (.iload_n 3, 1) := by decide +kernel
theorem dX3_readTile_68 : decode cX3_readTile 68 = .ok (.aload_n 0, 1) := by decide +kernel
theorem dX3_readTile_69 : decode cX3_readTile 69 = .ok (.getfield 104, 3) := by decide +kernel
theorem dX3_readTile_72 : decode cX3_readTile 72 = .ok (.invokestatic 153, 3) := by decide +kernel
theorem dX3_readTile_75 : decode cX3_readTile 75 = .ok (.iadd, 1) := by decide +kernel
theorem dX3_readTile_76 : decode cX3_readTile 76 = .ok (.istore 4, 2) := by decide +kernel
theorem dX3_readTile_78 : decode cX3_readTile 78 = .ok (.aload_n 0, 1) := by decide +kernel
theorem dX3_readTile_79 : decode cX3_readTile 79 = .ok (.getfield 21, 3) := by decide +kernel
theorem dX3_readTile_82 : decode cX3_readTile 82 = .ok (.iload 4, 2) := by decide +kernel
theorem dX3_readTile_84 : decode cX3_readTile 84 = .ok (.invokevirtual 156, 3) := by decide +kernel
theorem dX3_readTile_87 : decode cX3_readTile 87 = .ok (.ifCond .ne 11, 3) := by decide +kernel
theorem dX3_readTile_90 : decode cX3_readTile 90 = .ok (.aload_n 0, 1) := by decide +kernel
theorem dX3_readTile_91 : decode cX3_readTile 91 = .ok (.bipush (-4), 2) := by decide +kernel
theorem dX3_readTile_93 : decode cX3_readTile 93 = .ok (.iload_n 2, 1) := by decide +kernel
theorem dX3_readTile_94 : decode cX3_readTile 94 = .ok (.invokevirtual 94, 3) := by decide +kernel
theorem dX3_readTile_97 : decode cX3_readTile 97 = .ok (.ireturn, 1) := by decide +kernel
theorem dX3_readTile_98 : decode cX3_readTile 98 = .ok (.aload_n 0, 1) := by decide +kernel
theorem dX3_readTile_99 : decode cX3_readTile 99 = .ok (.getfield 21, 3) := by decide +kernel
theorem dX3_readTile_102 : decode cX3_readTile 102 = .ok (.iload_n 1, 1) := by decide +kernel
theorem dX3_readTile_103 : decode cX3_readTile 103 = .ok (.invokevirtual 159, 3) := by decide +kernel
theorem dX3_readTile_106 : decode cX3_readTile 106 = .ok (.aload_n 0, 1) := by decide +kernel
theorem dX3_readTile_107 : decode cX3_readTile 107 = .ok (.getfield 21, 3) := by decide +kernel
theorem dX3_readTile_110 : decode cX3_readTile 110 = .ok (.getfield 119, 3) := by decide +kernel
theorem dX3_readTile_113 : decode cX3_readTile 113 = .ok (.if_icmp .lt 11, 3) := by decide +kernel
theorem dX3_readTile_116 : decode cX3_readTile 116 = .ok (.aload_n 0, 1) := by decide +kernel
theorem dX3_readTile_117 : decode cX3_readTile 117 = .ok (.bipush (-5), 2) := by decide +kernel
theorem dX3_readTile_119 : decode cX3_readTile 119 = .ok (.iload_n 2, 1) := by decide +kernel
theorem dX3_readTile_120 : decode cX3_readTile 120 = .ok (.invokevirtual 94, 3) := by decide +kernel
theorem dX3_readTile_123 : decode cX3_readTile 123 = .ok (.ireturn, 1) := by decide +kernel
theorem dX3_readTile_124 : decode cX3_readTile 124 = .ok (.aload_n 0, 1) := by decide +kernel
theorem dX3_readTile_125 : decode cX3_readTile 125 = .ok (.getfield 21, 3) := by decide +kernel
theorem dX3_readTile_128 : decode cX3_readTile 128 = .ok (.getfield 163, 3) := by decide +kernel
theorem dX3_readTile_131 : decode cX3_readTile 131 = .ok (.iload 4, 2) := by decide +kernel
theorem dX3_readTile_133 : decode cX3_readTile 133 = .ok (.iload_n 1, 1) := by decide +kernel
theorem dX3_readTile_134 : decode cX3_readTile 134 = .ok (.invokestatic 166, 3) := by decide +kernel
theorem dX3_readTile_137 : decode cX3_readTile 137 = .ok (.iconst 1, 1) := by decide +kernel
theorem dX3_readTile_138 : decode cX3_readTile 138 = .ok (.ireturn, 1) := by decide +kernel
set_option maxRecDepth 20000 in
theorem ggX3_readSum_X3_readTerm : GoodIn wsX3_readSum wsX3_readTerm := goodIn_r _ [111, 1, 112, 113, 114, 5, 6, 7, 8, 9, 10, 11, 12, 13, 14, 15, 16, 17, 18, 19, 20, 21, 22, 23, 24, 25, 26, 27, 28, 29, 30, 31, 32, 33, 34, 35, 36, 37, 38, 39, 40, 41, 42, 43, 44, 45, 46, 47, 48, 49, 50, 51, 52, 53, 54, 55, 56, 57, 58, 59, 60, 61, 62, 63, 64, 65, 66, 67, 68, 69, 70, 71, 72, 73, 74, 75, 76, 77, 78, 79, 80, 81, 82, 83, 84, 85, 86, 87, 88, 89, 90, 91, 92, 93, 94, 95, 96, 97, 98, 99, 100, 101, 102, 103, 104, 105, 106, 107, 108, 109, 110, 0, 2, 3, 4, 115, 116, 117, 118, 119, 120, 121, 122, 123, 124, 125, 126, 127, 128, 129, 130, 131, 132, 133, 134, 135, 136] rfl (by decide +kernel)
set_option maxRecDepth 20000 in
theorem gX3_readSum_X3_readTerm : GoodIn wsX3_readSum (wsV RX3 170 RX3 yX3_readTerm wsX3_readTerm) := goodIn_app (goodIn_of _ (by decide +kernel)) ggX3_readSum_X3_readTerm
set_option maxRecDepth 20000 in
theorem ggX3_readSum_X5_isSign : GoodIn wsX3_readSum wsX5_isSign := goodIn_r _ [10, 11, 12, 13, 126, 127, 128, 129, 130, 131, 132] rfl (by decide +kernel)
set_option maxRecDepth 20000 in
theorem gX3_readSum_X5_isSign : GoodIn wsX3_readSum (wsV RX3 173 RX5 yX5_isSign wsX5_isSign) := goodIn_app (goodIn_of _ (by decide +kernel)) ggX3_readSum_X5_isSign
set_option maxRecDepth 20000 in
theorem ggX3_readSum_X5_advance : GoodIn wsX3_readSum wsX5_advance := goodIn_r _ [17, 18, 13, 19, 12, 20, 21, 11, 126, 127, 128, 129, 130, 131, 132] rfl (by decide +kernel)
set_option maxRecDepth 20000 in
theorem gX3_readSum_X5_advance : GoodIn wsX3_readSum (wsV RX3 98 RX5 yX5_advance wsX5_advance) := goodIn_app (goodIn_of _ (by decide +kernel)) ggX3_readSum_X5_advance
set_option maxRecDepth 20000 in
theorem ggX3_readSum_X3_addStep : GoodIn wsX3_readSum wsX3_addStep := goodIn_r _ [25, 26, 27, 28, 29, 30, 115, 116, 117, 118, 119, 120, 121, 122, 123, 124, 125] rfl (by decide +kernel)
set_option maxRecDepth 20000 in
theorem gX3_readSum_X3_addStep : GoodIn wsX3_readSum (wsV RX3 176 RX3 yX3_addStep wsX3_addStep) := goodIn_app (goodIn_of _ (by decide +kernel)) ggX3_readSum_X3_addStep
theorem dX3_readSum_0 : decode cX3_readSum 0 = .ok (.aload_n 0, 1) := by decide +kernel
theorem dX3_readSum_1 : decode cX3_readSum 1 = .ok (.iload_n 1, 1) := by decide +kernel
theorem dX3_readSum_2 : decode cX3_readSum 2 = .ok (.invokevirtual 170, 3) := by decide +kernel
theorem dX3_readSum_5 : decode cX3_readSum 5 = .ok (.istore_n 2, 1) := by decide +kernel
theorem dX3_readSum_6 : decode cX3_readSum 6 = .ok (.iconst 0, 1) := by decide +kernel
theorem dX3_readSum_7 : decode cX3_readSum 7 = .ok (.istore_n 3, 1) := by decide +kernel
theorem dX3_readSum_8 : decode cX3_readSum 8 = .ok (.iload_n 2, 1) := by decide +kernel
theorem dX3_readSum_9 : decode cX3_readSum 9 = .ok (.ifCond .eq 80, 3) := by decide +kernel
theorem dX3_readSum_12 : decode cX3_readSum 12 = .ok (.aload_n 0, 1) := by decide +kernel
theorem dX3_readSum_13 : decode cX3_readSum 13 = .ok (.getfield 12, 3) := by decide +kernel
theorem dX3_readSum_16 : decode cX3_readSum 16 = .ok (.bipush 43, 2) := by decide +kernel
theorem dX3_readSum_18 : decode cX3_readSum 18 = .ok (.invokevirtual 173, 3) := by decide +kernel
theorem dX3_readSum_21 : decode cX3_readSum 21 = .ok (.ifCond .ne 15, 3) := by decide +kernel
theorem dX3_readSum_24 : decode cX3_readSum 24 = .ok (.aload_n 0, 1) := by decide +kernel
theorem dX3_readSum_25 : decode cX3_readSum 25 = .ok (.getfield 12, 3) := by decide +kernel
theorem dX3_readSum_28 : decode cX3_readSum 28 = .ok (.bipush 45, 2) := by decide +kernel
theorem dX3_readSum_30 : decode cX3_readSum 30 = .ok (.invokevirtual 173, 3) := by decide +kernel
theorem dX3_readSum_33 : decode cX3_readSum 33 = .ok (.ifCond .eq 56, 3) := by decide +kernel
theorem dX3_readSum_36 : decode cX3_readSum 36 = .ok (.iload_n 3, 1) := by decide +kernel
theorem dX3_readSum_37 : decode cX3_readSum 37 = .ok (.sipush 500, 3) := by decide +kernel
theorem dX3_readSum_40 : decode cX3_readSum 40 = .ok (.if_icmp .ge 49, 3) := by decide +kernel
theorem dX3_readSum_43 : decode cX3_readSum 43 = .ok (.aload_n 0, 1) := by decide +kernel
theorem dX3_readSum_44 : decode cX3_readSum 44 = .ok (.getfield 12, 3) := by decide +kernel
theorem dX3_readSum_47 : decode cX3_readSum 47 = .ok (.bipush 43, 2) := by decide +kernel
theorem dX3_readSum_49 : decode cX3_readSum 49 = .ok (.invokevirtual 173, 3) := by decide +kernel
theorem dX3_readSum_52 : decode cX3_readSum 52 = .ok (.ifCond .eq 8, 3) := by decide +kernel
theorem dX3_readSum_55 : decode cX3_readSum 55 = .ok (.bipush (-6), 2) := by decide +kernel
theorem dX3_readSum_57 : decode cX3_readSum 57 = .ok (.goto 5, 3) := by decide +kernel
theorem dX3_readSum_60 : decode cX3_readSum 60 = .ok (.bipush (-7), 2) := by decide +kernel
theorem dX3_readSum_62 : decode cX3_readSum 62 = .ok (.istore 4, 2) := by decide +kernel
theorem dX3_readSum_64 : decode cX3_readSum 64 = .ok (.aload_n 0, 1) := by decide +kernel
theorem dX3_readSum_65 : decode cX3_readSum 65 = .ok (.getfield 12, 3) := by decide +kernel
theorem dX3_readSum_68 : decode cX3_readSum 68 = .ok (.invokevirtual 98, 3) := by decide +kernel
theorem dX3_readSum_71 : decode cX3_readSum 71 = .ok (.aload_n 0, 1) := by decide +kernel
theorem dX3_readSum_72 : decode cX3_readSum 72 = .ok (.iload_n 1, 1) := by decide +kernel
theorem dX3_readSum_73 : decode cX3_readSum 73 = .ok (.invokevirtual 170, 3) := by decide +kernel
theorem dX3_readSum_76 : decode cX3_readSum 76 = .ok (.istore_n 2, 1) := by decide +kernel
theorem dX3_readSum_77 : decode cX3_readSum 77 = .ok (.aload_n 0, 1) := by decide +kernel
theorem dX3_readSum_78 : decode cX3_readSum 78 = .ok (.iload 4, 2) := by decide +kernel
theorem dX3_readSum_80 : decode cX3_readSum 80 = .ok (.invokevirtual 176, 3) := by decide +kernel
theorem dX3_readSum_83 : decode cX3_readSum 83 = .ok (.iinc 3 1, 3) := by decide +kernel
theorem dX3_readSum_86 : decode cX3_readSum 86 = .ok (.goto (-78), 3) := by decide +kernel
theorem dX3_readSum_89 : decode cX3_readSum 89 = .ok (.iload_n 2, 1) := by decide +kernel
theorem dX3_readSum_90 : decode cX3_readSum 90 = .ok (.ireturn, 1) := by decide +kernel
set_option maxRecDepth 20000 in
theorem ggX3_readTerm_X3_readFactor : GoodIn wsX3_readTerm wsX3_readFactor := goodIn_r _ [31, 1, 32, 6, 7, 8, 9, 10, 11, 12, 13, 33, 34, 35, 5, 36, 37, 38, 14, 15, 16, 17, 18, 19, 20, 21, 39, 40, 41, 42, 43, 44, 45, 46, 47, 48, 49, 50, 51, 52, 53, 22, 23, 24, 25, 26, 27, 28, 29, 30, 54, 55, 56, 57, 58, 59, 60, 61, 62, 63, 64, 65, 66, 67, 68, 69, 70, 71, 72, 73, 74, 75, 76, 77, 78, 79, 80, 81, 82, 83, 84, 85, 86, 87, 88, 89, 90, 91, 92, 93, 94, 95, 96, 97, 98, 99, 100, 101, 102, 103, 104, 105, 106, 107, 108, 109, 110, 111, 112, 113, 114, 0, 2, 3, 4, 115, 116, 117, 118, 119, 120, 121, 122, 123, 124, 125, 126, 127, 128, 129, 130, 131, 132, 133, 134, 135, 136] rfl (by decide +kernel)
set_option maxRecDepth 20000 in
theorem gX3_readTerm_X3_readFactor : GoodIn wsX3_readTerm (wsV RX3 179 RX3 yX3_readFactor wsX3_readFactor) := goodIn_app (goodIn_of _ (by decide +kernel)) ggX3_readTerm_X3_readFactor
set_option maxRecDepth 20000 in
theorem ggX3_readTerm_X5_isSign : GoodIn wsX3_readTerm wsX5_isSign := goodIn_r _ [10, 11, 12, 13, 126, 127, 128, 129, 130, 131, 132] rfl (by decide +kernel)
set_option maxRecDepth 20000 in
theorem gX3_readTerm_X5_isSign : GoodIn wsX3_readTerm (wsV RX3 173 RX5 yX5_isSign wsX5_isSign) := goodIn_app (goodIn_of _ (by decide +kernel)) ggX3_readTerm_X5_isSign
set_option maxRecDepth 20000 in
theorem ggX3_readTerm_X5_advance : GoodIn wsX3_readTerm wsX5_advance := goodIn_r _ [17, 18, 13, 19, 12, 20, 21, 11, 126, 127, 128, 129, 130, 131, 132] rfl (by decide +kernel)
set_option maxRecDepth 20000 in
theorem gX3_readTerm_X5_advance : GoodIn wsX3_readTerm (wsV RX3 98 RX5 yX5_advance wsX5_advance) := goodIn_app (goodIn_of _ (by decide +kernel)) ggX3_readTerm_X5_advance
set_option maxRecDepth 20000 in
theorem ggX3_readTerm_X3_addStep : GoodIn wsX3_readTerm wsX3_addStep := goodIn_r _ [25, 26, 27, 28, 29, 30, 115, 116, 117, 118, 119, 120, 121, 122, 123, 124, 125] rfl (by decide +kernel)
set_option maxRecDepth 20000 in
theorem gX3_readTerm_X3_addStep : GoodIn wsX3_readTerm (wsV RX3 176 RX3 yX3_addStep wsX3_addStep) := goodIn_app (goodIn_of _ (by decide +kernel)) ggX3_readTerm_X3_addStep
theorem dX3_readTerm_0 : decode cX3_readTerm 0 = .ok (.aload_n 0, 1) := by decide +kernel
theorem dX3_readTerm_1 : decode cX3_readTerm 1 = .ok (.iload_n 1, 1) := by decide +kernel
theorem dX3_readTerm_2 : decode cX3_readTerm 2 = .ok (.invokevirtual 179, 3) := by decide +kernel
theorem dX3_readTerm_5 : decode cX3_readTerm 5 = .ok (.istore_n 2, 1) := by decide +kernel
theorem dX3_readTerm_6 : decode cX3_readTerm 6 = .ok (.iconst 0, 1) := by decide +kernel
theorem dX3_readTerm_7 : decode cX3_readTerm 7 = .ok (.istore_n 3, 1) := by decide +kernel
theorem dX3_readTerm_8 : decode cX3_readTerm 8 = .ok (.iload_n 2, 1) := by decide +kernel
theorem dX3_readTerm_9 : decode cX3_readTerm 9 = .ok (.ifCond .eq 80, 3) := by decide +kernel
theorem dX3_readTerm_12 : decode cX3_readTerm 12 = .ok (.aload_n 0, 1) := by decide +kernel
theorem dX3_readTerm_13 : decode cX3_readTerm 13 = .ok (.getfield 12, 3) := by decide +kernel
theorem dX3_readTerm_16 : decode cX3_readTerm 16 = .ok (.bipush 42, 2) := by decide +kernel
theorem dX3_readTerm_18 : decode cX3_readTerm 18 = .ok (.invokevirtual 173, 3) := by decide +kernel
theorem dX3_readTerm_21 : decode cX3_readTerm 21 = .ok (.ifCond .ne 15, 3) := by decide +kernel
theorem dX3_readTerm_24 : decode cX3_readTerm 24 = .ok (.aload_n 0, 1) := by decide +kernel
theorem dX3_readTerm_25 : decode cX3_readTerm 25 = .ok (.getfield 12, 3) := by decide +kernel
theorem dX3_readTerm_28 : decode cX3_readTerm 28 = .ok (.bipush 47, 2) := by decide +kernel
theorem dX3_readTerm_30 : decode cX3_readTerm 30 = .ok (.invokevirtual 173, 3) := by decide +kernel
theorem dX3_readTerm_33 : decode cX3_readTerm 33 = .ok (.ifCond .eq 56, 3) := by decide +kernel
theorem dX3_readTerm_36 : decode cX3_readTerm 36 = .ok (.iload_n 3, 1) := by decide +kernel
theorem dX3_readTerm_37 : decode cX3_readTerm 37 = .ok (.sipush 500, 3) := by decide +kernel
theorem dX3_readTerm_40 : decode cX3_readTerm 40 = .ok (.if_icmp .ge 49, 3) := by decide +kernel
theorem dX3_readTerm_43 : decode cX3_readTerm 43 = .ok (.aload_n 0, 1) := by decide +kernel
theorem dX3_readTerm_44 : decode cX3_readTerm 44 = .ok (.getfield 12, 3) := by decide +kernel
theorem dX3_readTerm_47 : decode cX3_readTerm 47 = .ok (.bipush 42, 2) := by decide +kernel
theorem dX3_readTerm_49 : decode cX3_readTerm 49 = .ok (.invokevirtual 173, 3) := by decide +kernel
theorem dX3_readTerm_52 : decode cX3_readTerm 52 = .ok (.ifCond .eq 8, 3) := by decide +kernel
theorem dX3_readTerm_55 : decode cX3_readTerm 55 = .ok (.bipush (-8), 2) := by decide +kernel
theorem dX3_readTerm_57 : decode cX3_readTerm 57 = .ok (.goto 5, 3) := by decide +kernel
theorem dX3_readTerm_60 : decode cX3_readTerm 60 = .ok (.bipush (-9), 2) := by decide +kernel
theorem dX3_readTerm_62 : decode cX3_readTerm 62 = .ok (.istore 4, 2) := by decide +kernel
theorem dX3_readTerm_64 : decode cX3_readTerm 64 = .ok (.aload_n 0, 1) := by decide +kernel
theorem dX3_readTerm_65 : decode cX3_readTerm 65 = .ok (.getfield 12, 3) := by decide +kernel
theorem dX3_readTerm_68 : decode cX3_readTerm 68 = .ok (.invokevirtual 98, 3) := by decide +kernel
theorem dX3_readTerm_71 : decode cX3_readTerm 71 = .ok (.aload_n 0, 1) := by decide +kernel
theorem dX3_readTerm_72 : decode cX3_readTerm 72 = .ok (.iload_n 1, 1) := by decide +kernel
theorem dX3_readTerm_73 : decode cX3_readTerm 73 = .ok (.invokevirtual 179, 3) := by decide +kernel
theorem dX3_readTerm_76 : decode cX3_readTerm 76 = .ok (.istore_n 2, 1) := by decide +kernel
theorem dX3_readTerm_77 : decode cX3_readTerm 77 = .ok (.aload_n 0, 1) := by decide +kernel
theorem dX3_readTerm_78 : decode cX3_readTerm 78 = .ok (.iload 4, 2) := by decide +kernel
theorem dX3_readTerm_80 : decode cX3_readTerm 80 = .ok (.invokevirtual 176, 3) := by decide +kernel
theorem dX3_readTerm_83 : decode cX3_readTerm 83 = .ok (.iinc 3 1, 3) := by decide +kernel
theorem dX3_readTerm_86 : decode cX3_readTerm 86 = .ok (.goto (-78), 3) := by decide +kernel
theorem dX3_readTerm_89 : decode cX3_readTerm 89 = .ok (.iload_n 2, 1) := by decide +kernel
theorem dX3_readTerm_90 : decode cX3_readTerm 90 = .ok (.ireturn, 1) := by decide +kernel
set_option maxRecDepth 20000 in
theorem ggX3_readFactor_X5_isSign : GoodIn wsX3_readFactor wsX5_isSign := goodIn_r _ [7, 8, 9, 10, 126, 127, 128, 129, 130, 131, 132] rfl (by decide +kernel)
set_option maxRecDepth 20000 in
theorem gX3_readFactor_X5_isSign : GoodIn wsX3_readFactor (wsV RX3 173 RX5 yX5_isSign wsX5_isSign) := goodIn_app (goodIn_of _ (by decide +kernel)) ggX3_readFactor_X5_isSign
set_option maxRecDepth 20000 in
theorem ggX3_readFactor_X3_fail : GoodIn wsX3_readFactor wsX3_fail := goodIn_r _ [15, 16, 17, 115, 116, 117, 118, 119, 120, 121, 122, 123, 124, 125] rfl (by decide +kernel)
set_option maxRecDepth 20000 in
theorem gX3_readFactor_X3_fail : GoodIn wsX3_readFactor (wsV RX3 94 RX3 yX3_fail wsX3_fail) := goodIn_app (goodIn_of _ (by decide +kernel)) ggX3_readFactor_X3_fail
set_option maxRecDepth 20000 in
theorem ggX3_readFactor_X5_advance : GoodIn wsX3_readFactor wsX5_advance := goodIn_r _ [21, 22, 10, 23, 9, 24, 25, 8, 126, 127, 128, 129, 130, 131, 132] rfl (by decide +kernel)
set_option maxRecDepth 20000 in
theorem gX3_readFactor_X5_advance : GoodIn wsX3_readFactor (wsV RX3 98 RX5 yX5_advance wsX5_advance) := goodIn_app (goodIn_of _ (by decide +kernel)) ggX3_readFactor_X5_advance
set_option maxRecDepth 20000 in
theorem ggX3_readFactor_X3_readSum : GoodIn wsX3_readFactor wsX3_readSum := goodIn_r _ [107, 1, 108, 109, 110, 14, 3, 4, 5, 6, 7, 8, 9, 10, 18, 19, 20, 21, 22, 23, 24, 25, 41, 42, 43, 44, 45, 46, 47, 48, 49, 0, 2, 11, 12, 13, 15, 16, 17, 26, 27, 28, 29, 30, 31, 32, 33, 34, 35, 36, 37, 38, 39, 40, 50, 51, 52, 53, 54, 55, 56, 57, 58, 59, 60, 61, 62, 63, 64, 65, 66, 67, 68, 69, 70, 71, 72, 73, 74, 75, 76, 77, 78, 79, 80, 81, 82, 83, 84, 85, 86, 87, 88, 89, 90, 91, 92, 93, 94, 95, 96, 97, 98, 99, 100, 101, 102, 103, 104, 105, 106, 111, 112, 113, 114, 115, 116, 117, 118, 119, 120, 121, 122, 123, 124, 125, 126, 127, 128, 129, 130, 131, 132, 133, 134, 135, 136] rfl (by decide +kernel)
set_option maxRecDepth 20000 in
theorem gX3_readFactor_X3_readSum : GoodIn wsX3_readFactor (wsV RX3 137 RX3 yX3_readSum wsX3_readSum) := goodIn_app (goodIn_of _ (by decide +kernel)) ggX3_readFactor_X3_readSum
set_option maxRecDepth 20000 in
theorem ggX3_readFactor_X3_takeSign : GoodIn wsX3_readFactor wsX3_takeSign := goodIn_r _ [32, 1, 3, 4, 5, 6, 7, 8, 9, 10, 11, 12, 13, 14, 15, 16, 17, 18, 19, 20, 21, 22, 23, 24, 25, 115, 116, 117, 118, 119, 120, 121, 122, 123, 124, 125, 126, 127, 128, 129, 130, 131, 132] rfl (by decide +kernel)
set_option maxRecDepth 20000 in
theorem gX3_readFactor_X3_takeSign : GoodIn wsX3_readFactor (wsV RX3 73 RX3 yX3_takeSign wsX3_takeSign) := goodIn_app (goodIn_of _ (by decide +kernel)) ggX3_readFactor_X3_takeSign
set_option maxRecDepth 20000 in
theorem ggX3_readFactor_X5_isNumber : GoodIn wsX3_readFactor wsX5_isNumber := goodIn_r _ [36, 8, 126, 127, 128, 129, 130, 131, 132] rfl (by decide +kernel)
set_option maxRecDepth 20000 in
theorem gX3_readFactor_X5_isNumber : GoodIn wsX3_readFactor (wsV RX3 144 RX5 yX5_isNumber wsX5_isNumber) := goodIn_app (goodIn_of _ (by decide +kernel)) ggX3_readFactor_X5_isNumber
set_option maxRecDepth 20000 in
theorem ggX3_readFactor_X3_takeNumber : GoodIn wsX3_readFactor wsX3_takeNumber := goodIn_r _ [40, 1, 2, 33, 34, 35, 6, 36, 8, 11, 12, 13, 14, 15, 16, 17, 18, 19, 20, 21, 22, 10, 23, 9, 24, 25, 115, 116, 117, 118, 119, 120, 121, 122, 123, 124, 125, 126, 127, 128, 129, 130, 131, 132] rfl (by decide +kernel)
set_option maxRecDepth 20000 in
theorem gX3_readFactor_X3_takeNumber : GoodIn wsX3_readFactor (wsV RX3 101 RX3 yX3_takeNumber wsX3_takeNumber) := goodIn_app (goodIn_of _ (by decide +kernel)) ggX3_readFactor_X3_takeNumber
set_option maxRecDepth 20000 in
theorem ggX3_readFactor_X3_addStep : GoodIn wsX3_readFactor wsX3_addStep := goodIn_r _ [44, 45, 46, 47, 48, 49, 115, 116, 117, 118, 119, 120, 121, 122, 123, 124, 125] rfl (by decide +kernel)
set_option maxRecDepth 20000 in
theorem gX3_readFactor_X3_addStep : GoodIn wsX3_readFactor (wsV RX3 176 RX3 yX3_addStep wsX3_addStep) := goodIn_app (goodIn_of _ (by decide +kernel)) ggX3_readFactor_X3_addStep
set_option maxRecDepth 20000 in
theorem ggX3_readFactor_X3_variableHere : GoodIn wsX3_readFactor wsX3_variableHere := goodIn_r _ [53, 1, 54, 55, 56, 6, 57, 8, 23, 9, 10, 58, 59, 60, 61, 62, 63, 64, 65, 66, 67, 68, 69, 70, 71, 72, 73, 74, 75, 76, 77, 78, 79, 80, 81, 82, 83, 84, 85, 86, 87, 88, 89, 90, 91, 92, 93, 94, 95, 96, 97, 98, 99, 100, 101, 102, 103, 104, 105, 106, 115, 116, 117, 118, 119, 120, 121, 122, 123, 124, 125, 126, 127, 128, 129, 130, 131, 132, 133, 134, 135, 136] rfl (by decide +kernel)
set_option maxRecDepth 20000 in
theorem gX3_readFactor_X3_variableHere : GoodIn wsX3_readFactor (wsV RX3 182 RX3 yX3_variableHere wsX3_variableHere) := goodIn_app (goodIn_of _ (by decide +kernel)) ggX3_readFactor_X3_variableHere
theorem dX3_readFactor_0 : decode cX3_readFactor 0 = .ok (.aload_n 0, 1) := by decide +kernel
theorem dX3_readFactor_1 : decode cX3_readFactor 1 = .ok (.getfield 12, 3) := by decide +kernel
theorem dX3_readFactor_4 : decode cX3_readFactor 4 = .ok (.bipush 40, 2) := by decide +kernel
theorem dX3_readFactor_6 : decode cX3_readFactor 6 = .ok (.invokevirtual 173, 3) := by decide +kernel
theorem dX3_readFactor_9 : decode cX3_readFactor 9 = .ok (.ifCond .eq 54, 3) := by decide +kernel
theorem dX3_readFactor_12 : decode cX3_readFactor 12 = .ok (.iload_n 1, 1) := by decide +kernel
theorem dX3_readFactor_13 : decode cX3_readFactor 13 = .ok (.iconst 4, 1) := by decide +kernel
theorem dX3_readFactor_14 : decode cX3_readFactor 14 = .ok (.if_icmp .lt 17, 3) := by decide +kernel
theorem dX3_readFactor_17 : decode cX3_readFactor 17 = .ok (.aload_n 0, 1) := by decide +kernel
theorem dX3_readFactor_18 : decode cX3_readFactor 18 = .ok (.bipush (-6), 2) := by decide +kernel
theorem dX3_readFactor_20 : decode cX3_readFactor 20 = .ok (.aload_n 0, 1) := by decide +kernel
theorem dX3_readFactor_21 : decode cX3_readFactor 21 = .ok (.getfield 12, 3) := by decide +kernel
theorem dX3_readFactor_24 : decode cX3_readFactor 24 = .ok (.getfield 91, 3) := by decide +kernel
theorem dX3_readFactor_27 : decode cX3_readFactor 27 = .ok (.invokevirtual 94, 3) := by decide +kernel
theorem dX3_readFactor_30 : decode cX3_readFactor 30 = .ok (.ireturn, 1) := by decide +kernel
theorem dX3_readFactor_31 : decode cX3_readFactor 31 = .ok (.aload_n 0, 1) := by decide +kernel
theorem dX3_readFactor_32 : decode cX3_readFactor 32 = .ok (.getfield 12, 3) := by decide +kernel
theorem dX3_readFactor_35 : decode cX3_readFactor 35 = .ok (.invokevirtual 98, 3) := by decide +kernel
theorem dX3_readFactor_38 : decode cX3_readFactor 38 = .ok (.aload_n 0, 1) := by decide +kernel
theorem dX3_readFactor_39 : decode cX3_readFactor 39 = .ok (.iload_n 1, 1) := by decide +kernel
theorem dX3_readFactor_40 : decode cX3_readFactor 40 = .ok (.iconst 1, 1) := by decide +kernel
theorem dX3_readFactor_41 : decode cX3_readFactor 41 = .ok (.iadd, 1) := by decide +kernel
theorem dX3_readFactor_42 : decode cX3_readFactor 42 = .ok (.invokevirtual 137, 3) := by decide +kernel
theorem dX3_readFactor_45 : decode cX3_readFactor 45 = .ok (.ifCond .eq 16, 3) := by decide +kernel
theorem dX3_readFactor_48 : decode cX3_readFactor 48 = .ok (.aload_n 0, 1) := by decide +kernel
theorem dX3_readFactor_49 : decode cX3_readFactor 49 = .ok (.bipush 41, 2) := by decide +kernel
theorem dX3_readFactor_51 : decode cX3_readFactor 51 = .ok (.invokevirtual 73, 3) := by decide +kernel
theorem dX3_readFactor_54 : decode cX3_readFactor 54 = .ok (.ifCond .eq 7, 3) := by decide +kernel
theorem dX3_readFactor_57 : decode cX3_readFactor 57 = .ok (.iconst 1, 1) := by decide +kernel
theorem dX3_readFactor_58 : decode cX3_readFactor 58 = .ok (.goto 4, 3) := by decide +kernel
theorem dX3_readFactor_61 : decode cX3_readFactor 61 = .ok (.iconst 0, 1) := by decide +kernel
theorem dX3_readFactor_62 : decode cX3_readFactor 62 = .ok (.ireturn, 1) := by decide +kernel
theorem dX3_readFactor_63 : decode cX3_readFactor 63 = .ok (.aload_n 0, 1) := by decide +kernel
theorem dX3_readFactor_64 : decode cX3_readFactor 64 = .ok (.getfield 12, 3) := by decide +kernel
theorem dX3_readFactor_67 : decode cX3_readFactor 67 = .ok (.invokevirtual 144, 3) := by decide +kernel
theorem dX3_readFactor_70 : decode cX3_readFactor 70 = .ok (.ifCond .eq 26, 3) := by decide +kernel
theorem dX3_readFactor_73 : decode cX3_readFactor 73 = .ok (.aload_n 0, 1) := by decide +kernel
theorem dX3_readFactor_74 : decode cX3_readFactor 74 = .ok (.iconst 0, 1) := by decide +kernel
theorem dX3_readFactor_75 : decode cX3_readFactor 75 = .ok (.sipush 9999, 3) := by decide +kernel
theorem dX3_readFactor_78 : decode cX3_readFactor 78 = .ok (.invokevirtual 101, 3) := by decide +kernel
theorem dX3_readFactor_81 : decode cX3_readFactor 81 = .ok (.ifCond .ne 5, 3) := by decide +kernel
theorem dX3_readFactor_84 : decode cX3_readFactor 84 = .ok (.iconst 0, 1) := by decide +kernel
theorem dX3_readFactor_85 : decode cX3_readFactor 85 = .ok (.ireturn, 1) := by decide +kernel
theorem dX3_readFactor_86 : decode cX3_readFactor 86 = .ok (.aload_n 0, 1) := by decide +kernel
theorem dX3_readFactor_87 : decode cX3_readFactor 87 = .ok (.aload_n 0, 1) := by decide +kernel
theorem dX3_readFactor_88 : decode cX3_readFactor 88 = .ok (.getfield 104, 3) := by decide +kernel
theorem dX3_readFactor_91 : decode cX3_readFactor 91 = .ok (.invokevirtual 176, 3) := by decide +kernel
theorem dX3_readFactor_94 : decode cX3_readFactor 94 = .ok (.iconst 1, 1) := by decide +kernel
theorem dX3_readFactor_95 : decode cX3_readFactor 95 = .ok (.ireturn, 1) := by decide +kernel
theorem dX3_readFactor_96 : decode cX3_readFactor 96 = .ok (.aload_n 0, 1) := by decide +kernel
theorem dX3_readFactor_97 : decode cX3_readFactor 97 = .ok (.invokevirtual 182, 3) := by decide +kernel
theorem dX3_readFactor_100 : decode cX3_readFactor 100 = .ok (.istore_n 2, 1) := by decide +kernel
theorem dX3_readFactor_101 : decode cX3_readFactor 101 = .ok (.iload_n 2, 1) := by decide +kernel
theorem dX3_readFactor_102 : decode cX3_readFactor 102 = .ok (.ifCond .ne 17, 3) := by decide +kernel
theorem dX3_readFactor_105 : decode cX3_readFactor 105 = .ok (.aload_n 0, 1) := by decide +kernel
theorem dX3_readFactor_106 : decode cX3_readFactor 106 = .ok (.bipush (-2), 2) := by decide +kernel
theorem dX3_readFactor_108 : decode cX3_readFactor 108 = .ok (.aload_n 0, 1) := by decide +kernel
theorem dX3_readFactor_109 : decode cX3_readFactor 109 = .ok (.getfield 12, 3) := by decide +kernel
theorem dX3_readFactor_112 : decode cX3_readFactor 112 = .ok (.getfield 91, 3) := by decide +kernel
theorem dX3_readFactor_115 : decode cX3_readFactor 115 = .ok (.invokevirtual 94, 3) := by decide +kernel
theorem dX3_readFactor_118 : decode cX3_readFactor 118 = .ok (.ireturn, 1) := by decide +kernel
theorem dX3_readFactor_119 : decode cX3_readFactor 119 = .ok (.aload_n 0, 1) := by decide +kernel
theorem dX3_readFactor_120 : decode cX3_readFactor 120 = .ok (.getfield 12, 3) := by decide +kernel
theorem dX3_readFactor_123 : decode cX3_readFactor 123 = .ok (.invokevirtual 98, 3) := by decide +kernel
theorem dX3_readFactor_126 : decode cX3_readFactor 126 = .ok (.aload_n 0, 1) := by decide +kernel
theorem dX3_readFactor_127 : decode cX3_readFactor 127 = .ok (.iload_n 2, 1) := by decide +kernel
theorem dX3_readFactor_128 : decode cX3_readFactor 128 = .ok (.invokevirtual 176, 3) := by decide +kernel
theorem dX3_readFactor_131 : decode cX3_readFactor 131 = .ok (.iconst 1, 1) := by decide +kernel
theorem dX3_readFactor_132 : decode cX3_readFactor 132 = .ok (.ireturn, 1) := by decide +kernel
set_option maxRecDepth 20000 in
theorem ggX3_variableHere_X5_isWord : GoodIn wsX3_variableHere wsX5_isWord := goodIn_r _ [6, 7, 8, 9, 10, 11, 12, 13, 14, 15, 16, 17, 18, 19, 20, 21, 22, 23, 24, 25, 26, 27, 28, 29, 30, 31, 32, 33, 34, 35, 36, 37, 38, 39, 40, 41, 42, 43, 44, 45, 46, 47, 48, 49, 50, 51, 52, 53, 54, 55, 56, 57, 58, 59, 71, 72, 73, 74, 75, 76, 77, 78, 79, 80, 81] rfl (by decide +kernel)
set_option maxRecDepth 20000 in
theorem gX3_variableHere_X5_isWord : GoodIn wsX3_variableHere (wsV RX3 87 RX5 yX5_isWord wsX5_isWord) := goodIn_app (goodIn_of _ (by decide +kernel)) ggX3_variableHere_X5_isWord
theorem dX3_variableHere_0 : decode cX3_variableHere 0 = .ok (.aload_n 0, 1) := by decide +kernel
theorem dX3_variableHere_1 : decode cX3_variableHere 1 = .ok (.getfield 12, 3) := by decide +kernel
theorem dX3_variableHere_4 : decode cX3_variableHere 4 = .ok (.ldc 186, 2) := by decide +kernel
theorem dX3_variableHere_6 : decode cX3_variableHere 6 = .ok (.invokevirtual 87, 3) := by decide +kernel
theorem dX3_variableHere_9 : decode cX3_variableHere 9 = .ok (.ifCond .eq 5, 3) := by decide +kernel
theorem dX3_variableHere_12 : decode cX3_variableHere 12 = .ok (.iconst (-1), 1) := by decide +kernel
theorem dX3_variableHere_13 : decode cX3_variableHere 13 = .ok (.ireturn, 1) := by decide +kernel
theorem dX3_variableHere_14 : decode cX3_variableHere 14 = .ok (.aload_n 0, 1) := by decide +kernel
theorem dX3_variableHere_15 : decode cX3_variableHere 15 = .ok (.getfield 12, 3) := by decide +kernel
theorem dX3_variableHere_18 : decode cX3_variableHere 18 = .ok (.ldc 188, 2) := by decide +kernel
theorem dX3_variableHere_20 : decode cX3_variableHere 20 = .ok (.invokevirtual 87, 3) := by decide +kernel
theorem dX3_variableHere_23 : decode cX3_variableHere 23 = .ok (.ifCond .eq 6, 3) := by decide +kernel
theorem dX3_variableHere_26 : decode cX3_variableHere 26 = .ok (.bipush (-2), 2) := by decide +kernel
theorem dX3_variableHere_28 : decode cX3_variableHere 28 = .ok (.ireturn, 1) := by decide +kernel
theorem dX3_variableHere_29 : decode cX3_variableHere 29 = .ok (.aload_n 0, 1) := by decide +kernel
theorem dX3_variableHere_30 : decode cX3_variableHere 30 = .ok (.getfield 12, 3) := by decide +kernel
theorem dX3_variableHere_33 : decode cX3_variableHere 33 = .ok (.ldc 190, 2) := by decide +kernel
theorem dX3_variableHere_35 : decode cX3_variableHere 35 = .ok (.invokevirtual 87, 3) := by decide +kernel
theorem dX3_variableHere_38 : decode cX3_variableHere 38 = .ok (.ifCond .eq 6, 3) := by decide +kernel
theorem dX3_variableHere_41 : decode cX3_variableHere 41 = .ok (.bipush (-3), 2) := by decide +kernel
theorem dX3_variableHere_43 : decode cX3_variableHere 43 = .ok (.ireturn, 1) := by decide +kernel
theorem dX3_variableHere_44 : decode cX3_variableHere 44 = .ok (.aload_n 0, 1) := by decide +kernel
theorem dX3_variableHere_45 : decode cX3_variableHere 45 = .ok (.getfield 12, 3) := by decide +kernel
theorem dX3_variableHere_48 : decode cX3_variableHere 48 = .ok (.ldc 192, 2) := by decide +kernel
theorem dX3_variableHere_50 : decode cX3_variableHere 50 = .ok (.invokevirtual 87, 3) := by decide +kernel
theorem dX3_variableHere_53 : decode cX3_variableHere 53 = .ok (.ifCond .eq 6, 3) := by decide +kernel
theorem dX3_variableHere_56 : decode cX3_variableHere 56 = .ok (.bipush (-4), 2) := by decide +kernel
theorem dX3_variableHere_58 : decode cX3_variableHere 58 = .ok (.ireturn, 1) := by decide +kernel
theorem dX3_variableHere_59 : decode cX3_variableHere 59 = .ok (.aload_n 0, 1) := by decide +kernel
theorem dX3_variableHere_60 : decode cX3_variableHere 60 = .ok (.getfield 12, 3) := by decide +kernel
theorem dX3_variableHere_63 : decode cX3_variableHere 63 = .ok (.ldc 194, 2) := by decide +kernel
theorem dX3_variableHere_65 : decode cX3_variableHere 65 = .ok (.invokevirtual 87, 3) := by decide +kernel
theorem dX3_variableHere_68 : decode cX3_variableHere 68 = .ok (.ifCond .eq 8, 3) := by decide +kernel
theorem dX3_variableHere_71 : decode cX3_variableHere 71 = .ok (.bipush (-5), 2) := by decide +kernel
theorem dX3_variableHere_73 : decode cX3_variableHere 73 = .ok (.goto 4, 3) := by decide +kernel
theorem dX3_variableHere_76 : decode cX3_variableHere 76 = .ok (.iconst 0, 1) := by decide +kernel
theorem dX3_variableHere_77 : decode cX3_variableHere 77 = .ok (.ireturn, 1) := by decide +kernel
set_option maxRecDepth 20000 in
theorem ggX3_addStep_X7_put : GoodIn wsX3_addStep wsX7_put := goodIn_r _ [5] rfl (by decide +kernel)
set_option maxRecDepth 20000 in
theorem gX3_addStep_X7_put_n166 : GoodIn wsX3_addStep (wsX7_put) := ggX3_addStep_X7_put
theorem dX3_addStep_0 : decode cX3_addStep 0 = .ok (.aload_n 0, 1) := by decide +kernel
theorem dX3_addStep_1 : decode cX3_addStep 1 = .ok (.getfield 50, 3) := by decide +kernel
theorem dX3_addStep_4 : decode cX3_addStep 4 = .ok (.aload_n 0, 1) := by decide +kernel
theorem dX3_addStep_5 : decode cX3_addStep 5 = .ok (.getfield 25, 3) := by decide +kernel
theorem dX3_addStep_8 : decode cX3_addStep 8 = .ok (.arraylength, 1) := by decide +kernel
theorem dX3_addStep_9 : decode cX3_addStep 9 = .ok (.if_icmp .ge 25, 3) := by decide +kernel
theorem dX3_addStep_12 : decode cX3_addStep 12 = .ok (.aload_n 0, 1) := by decide +kernel
theorem dX3_addStep_13 : decode cX3_addStep 13 = .ok (.getfield 25, 3) := by decide +kernel
theorem dX3_addStep_16 : decode cX3_addStep 16 = .ok (.aload_n 0, 1) := by decide +kernel
theorem dX3_addStep_17 : decode cX3_addStep 17 = .ok (.getfield 50, 3) := by decide +kernel
theorem dX3_addStep_20 : decode cX3_addStep 20 = .ok (.iload_n 1, 1) := by decide +kernel
theorem dX3_addStep_21 : decode cX3_addStep 21 = .ok (.invokestatic 166, 3) := by decide +kernel
theorem dX3_addStep_24 : decode cX3_addStep 24 = .ok (.aload_n 0, 1) := by decide +kernel
theorem dX3_addStep_25 : decode cX3_addStep 25 = .ok (.dup, 1) := by decide +kernel
theorem dX3_addStep_26 : decode cX3_addStep 26 = .ok (.getfield 50, 3) := by decide +kernel
theorem dX3_addStep_29 : decode cX3_addStep 29 = .ok (.iconst 1, 1) := by decide +kernel
theorem dX3_addStep_30 : decode cX3_addStep 30 = .ok (.iadd, 1) := by decide +kernel
theorem dX3_addStep_31 : decode cX3_addStep 31 = .ok (.putfield 50, 3) := by decide +kernel
theorem dX3_addStep_34 : decode cX3_addStep 34 = .ok (.return_, 1) := by decide +kernel
set_option maxRecDepth 20000 in
theorem ggX3_takeNumber_X5_isNumber : GoodIn wsX3_takeNumber wsX5_isNumber := goodIn_r _ [7, 8, 37, 38, 39, 40, 41, 42, 43] rfl (by decide +kernel)
set_option maxRecDepth 20000 in
theorem gX3_takeNumber_X5_isNumber : GoodIn wsX3_takeNumber (wsV RX3 144 RX5 yX5_isNumber wsX5_isNumber) := goodIn_app (goodIn_of _ (by decide +kernel)) ggX3_takeNumber_X5_isNumber
set_option maxRecDepth 20000 in
theorem ggX3_takeNumber_X3_fail : GoodIn wsX3_takeNumber wsX3_fail := goodIn_r _ [13, 14, 15, 26, 27, 28, 29, 30, 31, 32, 33, 34, 35, 36] rfl (by decide +kernel)
set_option maxRecDepth 20000 in
theorem gX3_takeNumber_X3_fail : GoodIn wsX3_takeNumber (wsV RX3 94 RX3 yX3_fail wsX3_fail) := goodIn_app (goodIn_of _ (by decide +kernel)) ggX3_takeNumber_X3_fail
set_option maxRecDepth 20000 in
theorem ggX3_takeNumber_X5_advance : GoodIn wsX3_takeNumber wsX5_advance := goodIn_r _ [19, 20, 21, 22, 23, 24, 25, 8, 37, 38, 39, 40, 41, 42, 43] rfl (by decide +kernel)
set_option maxRecDepth 20000 in
theorem gX3_takeNumber_X5_advance : GoodIn wsX3_takeNumber (wsV RX3 98 RX5 yX5_advance wsX5_advance) := goodIn_app (goodIn_of _ (by decide +kernel)) ggX3_takeNumber_X5_advance
theorem dX3_takeNumber_0 : decode cX3_takeNumber 0 = .ok (.aload_n 0, 1) := by decide +kernel
theorem dX3_takeNumber_1 : decode cX3_takeNumber 1 = .ok (.getfield 12, 3) := by decide +kernel
theorem dX3_takeNumber_4 : decode cX3_takeNumber 4 = .ok (.invokevirtual 144, 3) := by decide +kernel
theorem dX3_takeNumber_7 : decode cX3_takeNumber 7 = .ok (.ifCond .ne 17, 3) := by decide +kernel
theorem dX3_takeNumber_10 : decode cX3_takeNumber 10 = .ok (.aload_n 0, 1) := by decide +kernel
theorem dX3_takeNumber_11 : decode cX3_takeNumber 11 = .ok (.bipush (-2), 2) := by decide +kernel
theorem dX3_takeNumber_13 : decode cX3_takeNumber 13 = .ok (.aload_n 0, 1) := by decide +kernel
theorem dX3_takeNumber_14 : decode cX3_takeNumber 14 = .ok (.getfield 12, 3) := by decide +kernel
theorem dX3_takeNumber_17 : decode cX3_takeNumber 17 = .ok (.getfield 91, 3) := by decide +kernel
theorem dX3_takeNumber_20 : decode cX3_takeNumber 20 = .ok (.invokevirtual 94, 3) := by decide +kernel
theorem dX3_takeNumber_23 : decode cX3_takeNumber 23 = .ok (.ireturn, 1) := by decide +kernel
theorem dX3_takeNumber_24 : decode cX3_takeNumber 24 = .ok (.aload_n 0, 1) := by decide +kernel
theorem dX3_takeNumber_25 : decode cX3_takeNumber 25 = .ok (.aload_n 0, 1) := by decide +kernel
theorem dX3_takeNumber_26 : decode cX3_takeNumber 26 = .ok (.getfield 12, 3) := by decide +kernel
theorem dX3_takeNumber_29 : decode cX3_takeNumber 29 = .ok (.getfield 196, 3) := by decide +kernel
