theorem dX8_load_8 : decode cX8_load 8 = .ok (.aload_n 0, 1) := by decide +kernel
theorem dX8_load_9 : decode cX8_load 9 = .ok (.getfield 77, 3) := by decide +kernel
theorem dX8_load_12 : decode cX8_load 12 = .ok (.invokestatic 56, 3) := by decide +kernel
theorem dX8_load_15 : decode cX8_load 15 = .ok (.ifCond .ne 7, 3) := by decide +kernel
theorem dX8_load_18 : decode cX8_load 18 = .ok (.iconst 1, 1) := by decide +kernel
theorem dX8_load_19 : decode cX8_load 19 = .ok (.goto 4, 3) := by decide +kernel
theorem dX8_load_22 : decode cX8_load 22 = .ok (.iconst 0, 1) := by decide +kernel
theorem dX8_load_23 : decode cX8_load 23 = .ok (.iconst 1, 1) := by decide +kernel
theorem dX8_load_24 : decode cX8_load 24 = .ok (.invokevirtual 187, 3) := by decide +kernel
theorem dX8_load_27 : decode cX8_load 27 = .ok (.ifCond .eq 5, 3) := by decide +kernel
theorem dX8_load_30 : decode cX8_load 30 = .ok (.iconst 0, 1) := by decide +kernel
theorem dX8_load_31 : decode cX8_load 31 = .ok (.ireturn, 1) := by decide +kernel
theorem dX8_load_32 : decode cX8_load 32 = .ok (.aload_n 0, 1) := by decide +kernel
theorem dX8_load_33 : decode cX8_load 33 = .ok (.iconst 0, 1) := by decide +kernel
theorem dX8_load_34 : decode cX8_load 34 = .ok (.putfield 77, 3) := by decide +kernel
theorem dX8_load_37 : decode cX8_load 37 = .ok (.aload_n 0, 1) := by decide +kernel
theorem dX8_load_38 : decode cX8_load 38 = .ok (.iload_n 1, 1) := by decide +kernel
theorem dX8_load_39 : decode cX8_load 39 = .ok (.putfield 80, 3) := by decide +kernel
theorem dX8_load_42 : decode cX8_load 42 = .ok (.aload_n 0, 1) := by decide +kernel
theorem dX8_load_43 : decode cX8_load 43 = .ok (.iconst 0, 1) := by decide +kernel
theorem dX8_load_44 : decode cX8_load 44 = .ok (.putfield 83, 3) := by decide +kernel
theorem dX8_load_47 : decode cX8_load 47 = .ok (.aload_n 0, 1) := by decide +kernel
theorem dX8_load_48 : decode cX8_load 48 = .ok (.iconst 0, 1) := by decide +kernel
theorem dX8_load_49 : decode cX8_load 49 = .ok (.putfield 89, 3) := by decide +kernel
theorem dX8_load_52 : decode cX8_load 52 = .ok (.aload_n 0, 1) := by decide +kernel
theorem dX8_load_53 : decode cX8_load 53 = .ok (.iconst (-1), 1) := by decide +kernel
theorem dX8_load_54 : decode cX8_load 54 = .ok (.putfield 92, 3) := by decide +kernel
theorem dX8_load_57 : decode cX8_load 57 = .ok (.aload_n 0, 1) := by decide +kernel
theorem dX8_load_58 : decode cX8_load 58 = .ok (.iconst 0, 1) := by decide +kernel
theorem dX8_load_59 : decode cX8_load 59 = .ok (.putfield 124, 3) := by decide +kernel
theorem dX8_load_62 : decode cX8_load 62 = .ok (.aload_n 0, 1) := by decide +kernel
theorem dX8_load_63 : decode cX8_load 63 = .ok (.iconst 0, 1) := by decide +kernel
theorem dX8_load_64 : decode cX8_load 64 = .ok (.putfield 160, 3) := by decide +kernel
theorem dX8_load_67 : decode cX8_load 67 = .ok (.aload_n 0, 1) := by decide +kernel
theorem dX8_load_68 : decode cX8_load 68 = .ok (.iconst 0, 1) := by decide +kernel
theorem dX8_load_69 : decode cX8_load 69 = .ok (.putfield 166, 3) := by decide +kernel
theorem dX8_load_72 : decode cX8_load 72 = .ok (.aload_n 0, 1) := by decide +kernel
theorem dX8_load_73 : decode cX8_load 73 = .ok (.ldc 191, 2) := by decide +kernel
theorem dX8_load_75 : decode cX8_load 75 = .ok (.invokevirtual 136, 3) := by decide +kernel
theorem dX8_load_78 : decode cX8_load 78 = .ok (.ifCond .ne 13, 3) := by decide +kernel
theorem dX8_load_81 : decode cX8_load 81 = .ok (.aload_n 0, 1) := by decide +kernel
theorem dX8_load_82 : decode cX8_load 82 = .ok (.bipush (-2), 2) := by decide +kernel
theorem dX8_load_84 : decode cX8_load 84 = .ok (.aload_n 0, 1) := by decide +kernel
theorem dX8_load_85 : decode cX8_load 85 = .ok (.getfield 83, 3) := by decide +kernel
theorem dX8_load_88 : decode cX8_load 88 = .ok (.invokevirtual 112, 3) := by decide +kernel
theorem dX8_load_91 : decode cX8_load 91 = .ok (.aload_n 0, 1) := by decide +kernel
theorem dX8_load_92 : decode cX8_load 92 = .ok (.iconst 3, 1) := by decide +kernel
theorem dX8_load_93 : decode cX8_load 93 = .ok (.bipush 9, 2) := by decide +kernel
theorem dX8_load_95 : decode cX8_load 95 = .ok (.invokevirtual 148, 3) := by decide +kernel
theorem dX8_load_98 : decode cX8_load 98 = .ok (.istore_n 2, 1) := by decide +kernel
theorem dX8_load_99 : decode cX8_load 99 = .ok (.aload_n 0, 1) := by decide +kernel
theorem dX8_load_100 : decode cX8_load 100 = .ok (.iconst 2, 1) := by decide +kernel
theorem dX8_load_101 : decode cX8_load 101 = .ok (.iconst 4, 1) := by decide +kernel
theorem dX8_load_102 : decode cX8_load 102 = .ok (.invokevirtual 148, 3) := by decide +kernel
theorem dX8_load_105 : decode cX8_load 105 = .ok (.istore_n 3, 1) := by decide +kernel
theorem dX8_load_106 : decode cX8_load 106 = .ok (.aload_n 0, 1) := by decide +kernel
theorem dX8_load_107 : decode cX8_load 107 = .ok (.iconst 1, 1) := by decide +kernel
theorem dX8_load_108 : decode cX8_load 108 = .ok (.bipush 12, 2) := by decide +kernel
theorem dX8_load_110 : decode cX8_load 110 = .ok (.invokevirtual 148, 3) := by decide +kernel
theorem dX8_load_113 : decode cX8_load 113 = .ok (.istore 4, 2) := by decide +kernel
theorem dX8_load_115 : decode cX8_load 115 = .ok (.aload_n 0, 1) := by decide +kernel
theorem dX8_load_116 : decode cX8_load 116 = .ok (.getfield 20, 3) := by decide +kernel
theorem dX8_load_119 : decode cX8_load 119 = .ok (.iload_n 2, 1) := by decide +kernel
theorem dX8_load_120 : decode cX8_load 120 = .ok (.iload_n 3, 1) := by decide +kernel
theorem dX8_load_121 : decode cX8_load 121 = .ok (.iload 4, 2) := by decide +kernel
theorem dX8_load_123 : decode cX8_load 123 = .ok (.invokestatic 45, 3) := by decide +kernel
theorem dX8_load_126 : decode cX8_load 126 = .ok (.aload_n 0, 1) := by decide +kernel
theorem dX8_load_127 : decode cX8_load 127 = .ok (.bipush 59, 2) := by decide +kernel
theorem dX8_load_129 : decode cX8_load 129 = .ok (.invokevirtual 130, 3) := by decide +kernel
theorem dX8_load_132 : decode cX8_load 132 = .ok (.aload_n 0, 1) := by decide +kernel
theorem dX8_load_133 : decode cX8_load 133 = .ok (.invokevirtual 95, 3) := by decide +kernel
theorem dX8_load_136 : decode cX8_load 136 = .ok (.ifCond .eq 18, 3) := by decide +kernel
theorem dX8_load_139 : decode cX8_load 139 = .ok (.aload_n 0, 1) := by decide +kernel
theorem dX8_load_140 : decode cX8_load 140 = .ok (.invokevirtual 99, 3) := by decide +kernel
theorem dX8_load_143 : decode cX8_load 143 = .ok (.iconst (-1), 1) := by decide +kernel
theorem dX8_load_144 : decode cX8_load 144 = .ok (.if_icmp .eq 10, 3) := by decide +kernel
theorem dX8_load_147 : decode cX8_load 147 = .ok (.aload_n 0, 1) := by decide +kernel
theorem dX8_load_148 : decode cX8_load 148 = .ok (.invokevirtual 193, 3) := by decide +kernel
theorem dX8_load_151 : decode cX8_load 151 = .ok (.goto (-19), 3) := by decide +kernel
theorem dX8_load_154 : decode cX8_load 154 = .ok (.aload_n 0, 1) := by decide +kernel
theorem dX8_load_155 : decode cX8_load 155 = .ok (.aload_n 0, 1) := by decide +kernel
theorem dX8_load_156 : decode cX8_load 156 = .ok (.getfield 92, 3) := by decide +kernel
theorem dX8_load_159 : decode cX8_load 159 = .ok (.putfield 13, 3) := by decide +kernel
theorem dX8_load_162 : decode cX8_load 162 = .ok (.aload_n 0, 1) := by decide +kernel
theorem dX8_load_163 : decode cX8_load 163 = .ok (.invokevirtual 95, 3) := by decide +kernel
theorem dX8_load_166 : decode cX8_load 166 = .ok (.ifCond .ne 8, 3) := by decide +kernel
theorem dX8_load_169 : decode cX8_load 169 = .ok (.aload_n 0, 1) := by decide +kernel
theorem dX8_load_170 : decode cX8_load 170 = .ok (.getfield 89, 3) := by decide +kernel
theorem dX8_load_173 : decode cX8_load 173 = .ok (.ireturn, 1) := by decide +kernel
theorem dX8_load_174 : decode cX8_load 174 = .ok (.aload_n 0, 1) := by decide +kernel
theorem dX8_load_175 : decode cX8_load 175 = .ok (.getfield 20, 3) := by decide +kernel
theorem dX8_load_178 : decode cX8_load 178 = .ok (.invokestatic 49, 3) := by decide +kernel
theorem dX8_load_181 : decode cX8_load 181 = .ok (.aload_n 0, 1) := by decide +kernel
theorem dX8_load_182 : decode cX8_load 182 = .ok (.invokevirtual 196, 3) := by decide +kernel
theorem dX8_load_185 : decode cX8_load 185 = .ok (.aload_n 0, 1) := by decide +kernel
theorem dX8_load_186 : decode cX8_load 186 = .ok (.getfield 20, 3) := by decide +kernel
theorem dX8_load_189 : decode cX8_load 189 = .ok (.aload_n 0, 1) := by decide +kernel
theorem dX8_load_190 : decode cX8_load 190 = .ok (.getfield 17, 3) := by decide +kernel
theorem dX8_load_193 : decode cX8_load 193 = .ok (.sipush 1464, 3) := by decide +kernel
theorem dX8_load_196 : decode cX8_load 196 = .ok (.invokestatic 199, 3) := by decide +kernel
theorem dX8_load_199 : decode cX8_load 199 = .ok (.aload_n 0, 1) := by decide +kernel
theorem dX8_load_200 : decode cX8_load 200 = .ok (.getfield 17, 3) := by decide +kernel
theorem dX8_load_203 : decode cX8_load 203 = .ok (.bipush 7, 2) := by decide +kernel
theorem dX8_load_205 : decode cX8_load 205 = .ok (.iaload, 1) := by decide +kernel
theorem dX8_load_206 : decode cX8_load 206 = .ok (.ireturn, 1) := by decide +kernel
theorem dX8_errorOffset_0 : decode cX8_errorOffset 0 = .ok (.aload_n 0, 1) := by decide +kernel
theorem dX8_errorOffset_1 : decode cX8_errorOffset 1 = .ok (.iconst 0, 1) := by decide +kernel
theorem dX8_errorOffset_2 : decode cX8_errorOffset 2 = .ok (.putfield 53, 3) := by decide +kernel
theorem dX8_errorOffset_5 : decode cX8_errorOffset 5 = .ok (.aload_n 0, 1) := by decide +kernel
theorem dX8_errorOffset_6 : decode cX8_errorOffset 6 = .ok (.getfield 13, 3) := by decide +kernel
theorem dX8_errorOffset_9 : decode cX8_errorOffset 9 = .ok (.ireturn, 1) := by decide +kernel
theorem dX8_trainAt_0 : decode cX8_trainAt 0 = .ok (.sipush 174, 3) := by decide +kernel
theorem dX8_trainAt_3 : decode cX8_trainAt 3 = .ok (.bipush 58, 2) := by decide +kernel
theorem dX8_trainAt_5 : decode cX8_trainAt 5 = .ok (.iload_n 0, 1) := by decide +kernel
theorem dX8_trainAt_6 : decode cX8_trainAt 6 = .ok (.imul, 1) := by decide +kernel
theorem dX8_trainAt_7 : decode cX8_trainAt 7 = .ok (.iadd, 1) := by decide +kernel
theorem dX8_trainAt_8 : decode cX8_trainAt 8 = .ok (.ireturn, 1) := by decide +kernel
set_option maxRecDepth 20000 in
theorem ggX8_ofTrain_X8_trainAt : GoodIn wsX8_ofTrain wsX8_trainAt := goodIn_r _ [5] rfl (by decide +kernel)
set_option maxRecDepth 20000 in
theorem gX8_ofTrain_X8_trainAt : GoodIn wsX8_ofTrain (va_wsS RX8 73 yX8_trainAt wsX8_trainAt) := goodIn_app (goodIn_of _ (by decide +kernel)) ggX8_ofTrain_X8_trainAt
theorem dX8_ofTrain_0 : decode cX8_ofTrain 0 = .ok (.aload_n 0, 1) := by decide +kernel
theorem dX8_ofTrain_1 : decode cX8_ofTrain 1 = .ok (.getfield 17, 3) := by decide +kernel
theorem dX8_ofTrain_4 : decode cX8_ofTrain 4 = .ok (.iload_n 1, 1) := by decide +kernel
theorem dX8_ofTrain_5 : decode cX8_ofTrain 5 = .ok (.invokestatic 73, 3) := by decide +kernel
theorem dX8_ofTrain_8 : decode cX8_ofTrain 8 = .ok (.iload_n 2, 1) := by decide +kernel
theorem dX8_ofTrain_9 : decode cX8_ofTrain 9 = .ok (.iadd, 1) := by decide +kernel
theorem dX8_ofTrain_10 : decode cX8_ofTrain 10 = .ok (.iaload, 1) := by decide +kernel
theorem dX8_ofTrain_11 : decode cX8_ofTrain 11 = .ok (.ireturn, 1) := by decide +kernel
set_option maxRecDepth 20000 in
theorem ggX8_hand_X8_handOf : GoodIn wsX8_hand wsX8_handOf := goodIn_r _ [5] rfl (by decide +kernel)
set_option maxRecDepth 20000 in
theorem gX8_hand_X8_handOf : GoodIn wsX8_hand (va_wsS RX8 69 yX8_handOf wsX8_handOf) := goodIn_app (goodIn_of _ (by decide +kernel)) ggX8_hand_X8_handOf
theorem dX8_hand_0 : decode cX8_hand 0 = .ok (.aload_n 0, 1) := by decide +kernel
theorem dX8_hand_1 : decode cX8_hand 1 = .ok (.getfield 17, 3) := by decide +kernel
theorem dX8_hand_4 : decode cX8_hand 4 = .ok (.iload_n 1, 1) := by decide +kernel
theorem dX8_hand_5 : decode cX8_hand 5 = .ok (.invokestatic 69, 3) := by decide +kernel
theorem dX8_hand_8 : decode cX8_hand 8 = .ok (.ireturn, 1) := by decide +kernel
theorem dX8_isInHand_0 : decode cX8_isInHand 0 = .ok (.aload_n 0, 1) := by decide +kernel
theorem dX8_isInHand_1 : decode cX8_isInHand 1 = .ok (.getfield 17, 3) := by decide +kernel
theorem dX8_isInHand_4 : decode cX8_isInHand 4 = .ok (.bipush 19, 2) := by decide +kernel
theorem dX8_isInHand_6 : decode cX8_isInHand 6 = .ok (.iload_n 2, 1) := by decide +kernel
theorem dX8_isInHand_7 : decode cX8_isInHand 7 = .ok (.iadd, 1) := by decide +kernel
theorem dX8_isInHand_8 : decode cX8_isInHand 8 = .ok (.iaload, 1) := by decide +kernel
theorem dX8_isInHand_9 : decode cX8_isInHand 9 = .ok (.iload_n 1, 1) := by decide +kernel
theorem dX8_isInHand_10 : decode cX8_isInHand 10 = .ok (.if_icmp .ne 7, 3) := by decide +kernel
theorem dX8_isInHand_13 : decode cX8_isInHand 13 = .ok (.iconst 1, 1) := by decide +kernel
theorem dX8_isInHand_14 : decode cX8_isInHand 14 = .ok (.goto 4, 3) := by decide +kernel
theorem dX8_isInHand_17 : decode cX8_isInHand 17 = .ok (.iconst 0, 1) := by decide +kernel
theorem dX8_isInHand_18 : decode cX8_isInHand 18 = .ok (.ireturn, 1) := by decide +kernel
theorem dX8_fits_0 : decode cX8_fits 0 = .ok (.iload_n 0, 1) := by decide +kernel
theorem dX8_fits_1 : decode cX8_fits 1 = .ok (.bipush 10, 2) := by decide +kernel
theorem dX8_fits_3 : decode cX8_fits 3 = .ok (.idiv, 1) := by decide +kernel
theorem dX8_fits_4 : decode cX8_fits 4 = .ok (.iload_n 1, 1) := by decide +kernel
theorem dX8_fits_5 : decode cX8_fits 5 = .ok (.if_icmp .eq 11, 3) := by decide +kernel
theorem dX8_fits_8 : decode cX8_fits 8 = .ok (.iload_n 0, 1) := by decide +kernel
theorem dX8_fits_9 : decode cX8_fits 9 = .ok (.bipush 10, 2) := by decide +kernel
theorem dX8_fits_11 : decode cX8_fits 11 = .ok (.irem, 1) := by decide +kernel
theorem dX8_fits_12 : decode cX8_fits 12 = .ok (.iload_n 1, 1) := by decide +kernel
theorem dX8_fits_13 : decode cX8_fits 13 = .ok (.if_icmp .ne 7, 3) := by decide +kernel
theorem dX8_fits_16 : decode cX8_fits 16 = .ok (.iconst 1, 1) := by decide +kernel
theorem dX8_fits_17 : decode cX8_fits 17 = .ok (.goto 4, 3) := by decide +kernel
theorem dX8_fits_20 : decode cX8_fits 20 = .ok (.iconst 0, 1) := by decide +kernel
theorem dX8_fits_21 : decode cX8_fits 21 = .ok (.ireturn, 1) := by decide +kernel
set_option maxRecDepth 20000 in
theorem ggX8_refusal_X8_isInHand : GoodIn wsX8_refusal wsX8_isInHand := goodIn_r _ [6, 1, 17, 18, 19, 20, 21, 22, 23, 24, 25, 26, 27, 28, 29, 30, 31, 32, 33, 34, 35, 36, 37, 38] rfl (by decide +kernel)
set_option maxRecDepth 20000 in
theorem gX8_refusal_X8_isInHand : GoodIn wsX8_refusal (wsV RX8 203 RX8 yX8_isInHand wsX8_isInHand) := goodIn_app (goodIn_of _ (by decide +kernel)) ggX8_refusal_X8_isInHand
set_option maxRecDepth 20000 in
theorem ggX8_refusal_X8_ofTrain : GoodIn wsX8_refusal wsX8_ofTrain := goodIn_r _ [10, 1, 11, 12, 5, 13, 17, 18, 19, 20, 21, 22, 23, 24, 25, 26, 27, 28, 29, 30, 31, 32, 33, 34, 35, 36, 37, 38] rfl (by decide +kernel)
set_option maxRecDepth 20000 in
theorem gX8_refusal_X8_ofTrain : GoodIn wsX8_refusal (wsV RX8 207 RX8 yX8_ofTrain wsX8_ofTrain) := goodIn_app (goodIn_of _ (by decide +kernel)) ggX8_refusal_X8_ofTrain
set_option maxRecDepth 20000 in
theorem ggX8_refusal_X8_fits : GoodIn wsX8_refusal wsX8_fits := goodIn_r _ [16] rfl (by decide +kernel)
set_option maxRecDepth 20000 in
theorem gX8_refusal_X8_fits : GoodIn wsX8_refusal (va_wsS RX8 210 yX8_fits wsX8_fits) := goodIn_app (goodIn_of _ (by decide +kernel)) ggX8_refusal_X8_fits
theorem dX8_refusal_0 : decode cX8_refusal 0 = .ok (.aload_n 0, 1) := by decide +kernel
theorem dX8_refusal_1 : decode cX8_refusal 1 = .ok (.getfield 17, 3) := by decide +kernel
theorem dX8_refusal_4 : decode cX8_refusal 4 = .ok (.bipush 8, 2) := by decide +kernel
theorem dX8_refusal_6 : decode cX8_refusal 6 = .ok (.iaload, 1) := by decide +kernel
theorem dX8_refusal_7 : decode cX8_refusal 7 = .ok (.iconst 1, 1) := by decide +kernel
theorem dX8_refusal_8 : decode cX8_refusal 8 = .ok (.if_icmp .ne 5, 3) := by decide +kernel
theorem dX8_refusal_11 : decode cX8_refusal 11 = .ok (.iconst 1, 1) := by decide +kernel
theorem dX8_refusal_12 : decode cX8_refusal 12 = .ok (.ireturn, 1) := by decide +kernel
theorem dX8_refusal_13 : decode cX8_refusal 13 = .ok (.aload_n 0, 1) := by decide +kernel
theorem dX8_refusal_14 : decode cX8_refusal 14 = .ok (.aload_n 0, 1) := by decide +kernel
theorem dX8_refusal_15 : decode cX8_refusal 15 = .ok (.getfield 17, 3) := by decide +kernel
theorem dX8_refusal_18 : decode cX8_refusal 18 = .ok (.iconst 4, 1) := by decide +kernel
theorem dX8_refusal_19 : decode cX8_refusal 19 = .ok (.iaload, 1) := by decide +kernel
theorem dX8_refusal_20 : decode cX8_refusal 20 = .ok (.iload_n 1, 1) := by decide +kernel
theorem dX8_refusal_21 : decode cX8_refusal 21 = .ok (.invokevirtual 203, 3) := by decide +kernel
theorem dX8_refusal_24 : decode cX8_refusal 24 = .ok (.ifCond .ne 5, 3) := by decide +kernel
theorem dX8_refusal_27 : decode cX8_refusal 27 = .ok (.iconst 2, 1) := by decide +kernel
theorem dX8_refusal_28 : decode cX8_refusal 28 = .ok (.ireturn, 1) := by decide +kernel
theorem dX8_refusal_29 : decode cX8_refusal 29 = .ok (.aload_n 0, 1) := by decide +kernel
theorem dX8_refusal_30 : decode cX8_refusal 30 = .ok (.getfield 17, 3) := by decide +kernel
theorem dX8_refusal_33 : decode cX8_refusal 33 = .ok (.bipush 6, 2) := by decide +kernel
theorem dX8_refusal_35 : decode cX8_refusal 35 = .ok (.iaload, 1) := by decide +kernel
theorem dX8_refusal_36 : decode cX8_refusal 36 = .ok (.iconst (-1), 1) := by decide +kernel
theorem dX8_refusal_37 : decode cX8_refusal 37 = .ok (.if_icmp .eq 16, 3) := by decide +kernel
theorem dX8_refusal_40 : decode cX8_refusal 40 = .ok (.aload_n 0, 1) := by decide +kernel
theorem dX8_refusal_41 : decode cX8_refusal 41 = .ok (.getfield 17, 3) := by decide +kernel
theorem dX8_refusal_44 : decode cX8_refusal 44 = .ok (.bipush 6, 2) := by decide +kernel
theorem dX8_refusal_46 : decode cX8_refusal 46 = .ok (.iaload, 1) := by decide +kernel
theorem dX8_refusal_47 : decode cX8_refusal 47 = .ok (.iload_n 2, 1) := by decide +kernel
theorem dX8_refusal_48 : decode cX8_refusal 48 = .ok (.if_icmp .eq 5, 3) := by decide +kernel
theorem dX8_refusal_51 : decode cX8_refusal 51 = .ok (.iconst 3, 1) := by decide +kernel
theorem dX8_refusal_52 : decode cX8_refusal 52 = .ok (.ireturn, 1) := by decide +kernel
theorem dX8_refusal_53 : decode cX8_refusal 53 = .ok (.aload_n 0, 1) := by decide +kernel
theorem dX8_refusal_54 : decode cX8_refusal 54 = .ok (.getfield 17, 3) := by decide +kernel
theorem dX8_refusal_57 : decode cX8_refusal 57 = .ok (.bipush 6, 2) := by decide +kernel
theorem dX8_refusal_59 : decode cX8_refusal 59 = .ok (.iaload, 1) := by decide +kernel
theorem dX8_refusal_60 : decode cX8_refusal 60 = .ok (.iconst (-1), 1) := by decide +kernel
theorem dX8_refusal_61 : decode cX8_refusal 61 = .ok (.if_icmp .ne 24, 3) := by decide +kernel
theorem dX8_refusal_64 : decode cX8_refusal 64 = .ok (.iload_n 2, 1) := by decide +kernel
theorem dX8_refusal_65 : decode cX8_refusal 65 = .ok (.aload_n 0, 1) := by decide +kernel
theorem dX8_refusal_66 : decode cX8_refusal 66 = .ok (.getfield 17, 3) := by decide +kernel
theorem dX8_refusal_69 : decode cX8_refusal 69 = .ok (.iconst 4, 1) := by decide +kernel
theorem dX8_refusal_70 : decode cX8_refusal 70 = .ok (.iaload, 1) := by decide +kernel
theorem dX8_refusal_71 : decode cX8_refusal 71 = .ok (.if_icmp .eq 14, 3) := by decide +kernel
theorem dX8_refusal_74 : decode cX8_refusal 74 = .ok (.aload_n 0, 1) := by decide +kernel
theorem dX8_refusal_75 : decode cX8_refusal 75 = .ok (.iload_n 2, 1) := by decide +kernel
theorem dX8_refusal_76 : decode cX8_refusal 76 = .ok (.iconst 2, 1) := by decide +kernel
theorem dX8_refusal_77 : decode cX8_refusal 77 = .ok (.invokevirtual 207, 3) := by decide +kernel
theorem dX8_refusal_80 : decode cX8_refusal 80 = .ok (.ifCond .ne 5, 3) := by decide +kernel
theorem dX8_refusal_83 : decode cX8_refusal 83 = .ok (.iconst 4, 1) := by decide +kernel
theorem dX8_refusal_84 : decode cX8_refusal 84 = .ok (.ireturn, 1) := by decide +kernel
theorem dX8_refusal_85 : decode cX8_refusal 85 = .ok (.iload_n 1, 1) := by decide +kernel
theorem dX8_refusal_86 : decode cX8_refusal 86 = .ok (.aload_n 0, 1) := by decide +kernel
theorem dX8_refusal_87 : decode cX8_refusal 87 = .ok (.iload_n 2, 1) := by decide +kernel
theorem dX8_refusal_88 : decode cX8_refusal 88 = .ok (.iconst 1, 1) := by decide +kernel
theorem dX8_refusal_89 : decode cX8_refusal 89 = .ok (.invokevirtual 207, 3) := by decide +kernel
theorem dX8_refusal_92 : decode cX8_refusal 92 = .ok (.invokestatic 210, 3) := by decide +kernel
theorem dX8_refusal_95 : decode cX8_refusal 95 = .ok (.ifCond .eq 7, 3) := by decide +kernel
theorem dX8_refusal_98 : decode cX8_refusal 98 = .ok (.iconst 0, 1) := by decide +kernel
theorem dX8_refusal_99 : decode cX8_refusal 99 = .ok (.goto 4, 3) := by decide +kernel
theorem dX8_refusal_102 : decode cX8_refusal 102 = .ok (.iconst 5, 1) := by decide +kernel
theorem dX8_refusal_103 : decode cX8_refusal 103 = .ok (.ireturn, 1) := by decide +kernel
set_option maxRecDepth 20000 in
theorem ggX8_plays_X8_refusal : GoodIn wsX8_plays wsX8_refusal := goodIn_r _ [6, 1, 7, 8, 9, 5, 10, 11, 12, 13, 14, 15, 16, 17, 18, 19, 20, 21, 22, 23, 24, 25, 26, 27, 28, 29, 30, 31, 32, 33, 34, 35, 36, 37, 38, 39, 40, 41, 42] rfl (by decide +kernel)
set_option maxRecDepth 20000 in
theorem gX8_plays_X8_refusal : GoodIn wsX8_plays (wsV RX8 213 RX8 yX8_refusal wsX8_refusal) := goodIn_app (goodIn_of _ (by decide +kernel)) ggX8_plays_X8_refusal
theorem dX8_plays_0 : decode cX8_plays 0 = .ok (.iconst 0, 1) := by decide +kernel
theorem dX8_plays_1 : decode cX8_plays 1 = .ok (.istore_n 1, 1) := by decide +kernel
theorem dX8_plays_2 : decode cX8_plays 2 = .ok (.iconst 0, 1) := by decide +kernel
theorem dX8_plays_3 : decode cX8_plays 3 = .ok (.istore_n 2, 1) := by decide +kernel
theorem dX8_plays_4 : decode cX8_plays 4 = .ok (.iload_n 2, 1) := by decide +kernel
theorem dX8_plays_5 : decode cX8_plays 5 = .ok (.bipush 100, 2) := by decide +kernel
theorem dX8_plays_7 : decode cX8_plays 7 = .ok (.if_icmp .ge 44, 3) := by decide +kernel
theorem dX8_plays_10 : decode cX8_plays 10 = .ok (.iconst 0, 1) := by decide +kernel
theorem dX8_plays_11 : decode cX8_plays 11 = .ok (.istore_n 3, 1) := by decide +kernel
theorem dX8_plays_12 : decode cX8_plays 12 = .ok (.iload_n 3, 1) := by decide +kernel
theorem dX8_plays_13 : decode cX8_plays 13 = .ok (.aload_n 0, 1) := by decide +kernel
theorem dX8_plays_14 : decode cX8_plays 14 = .ok (.getfield 17, 3) := by decide +kernel
theorem dX8_plays_17 : decode cX8_plays 17 = .ok (.iconst 1, 1) := by decide +kernel
theorem dX8_plays_18 : decode cX8_plays 18 = .ok (.iaload, 1) := by decide +kernel
theorem dX8_plays_19 : decode cX8_plays 19 = .ok (.if_icmp .gt 26, 3) := by decide +kernel
theorem dX8_plays_22 : decode cX8_plays 22 = .ok (.iload_n 1, 1) := by decide +kernel
theorem dX8_plays_23 : decode cX8_plays 23 = .ok (.aload_n 0, 1) := by decide +kernel
theorem dX8_plays_24 : decode cX8_plays 24 = .ok (.iload_n 2, 1) := by decide +kernel
theorem dX8_plays_25 : decode cX8_plays 25 = .ok (.iload_n 3, 1) := by decide +kernel
theorem dX8_plays_26 : decode cX8_plays 26 = .ok (.invokevirtual 213, 3) := by decide +kernel
theorem dX8_plays_29 : decode cX8_plays 29 = .ok (.ifCond .ne 7, 3) := by decide +kernel
theorem dX8_plays_32 : decode cX8_plays 32 = .ok (.iconst 1, 1) := by decide +kernel
theorem dX8_plays_33 : decode cX8_plays 33 = .ok (.goto 4, 3) := by decide +kernel
theorem dX8_plays_36 : decode cX8_plays 36 = .ok (.iconst 0, 1) := by decide +kernel
theorem dX8_plays_37 : decode cX8_plays 37 = .ok (.iadd, 1) := by decide +kernel
theorem dX8_plays_38 : decode cX8_plays 38 = .ok (.istore_n 1, 1) := by decide +kernel
theorem dX8_plays_39 : decode cX8_plays 39 = .ok (.iinc 3 1, 3) := by decide +kernel
theorem dX8_plays_42 : decode cX8_plays 42 = .ok (.goto (-30), 3) := by decide +kernel
theorem dX8_plays_45 : decode cX8_plays 45 = .ok (.iinc 2 1, 3) := by decide +kernel
theorem dX8_plays_48 : decode cX8_plays 48 = .ok (.goto (-44), 3) := by decide +kernel
theorem dX8_plays_51 : decode cX8_plays 51 = .ok (.iload_n 1, 1) := by decide +kernel
theorem dX8_plays_52 : decode cX8_plays 52 = .ok (.ireturn, 1) := by decide +kernel
set_option maxRecDepth 20000 in
theorem ggX8_mayDraw_X8_plays : GoodIn wsX8_mayDraw wsX8_plays := goodIn_r _ [6, 1, 7, 8, 9, 5, 10, 11, 12, 13, 14, 15, 16, 17, 18, 19, 20, 21, 22, 23, 24, 25, 26, 27, 28, 29, 30, 31, 32, 33, 34, 35, 36, 37, 38, 39, 40, 41, 42, 43, 44, 45, 46] rfl (by decide +kernel)
set_option maxRecDepth 20000 in
theorem gX8_mayDraw_X8_plays : GoodIn wsX8_mayDraw (wsV RX8 216 RX8 yX8_plays wsX8_plays) := goodIn_app (goodIn_of _ (by decide +kernel)) ggX8_mayDraw_X8_plays
theorem dX8_mayDraw_0 : decode cX8_mayDraw 0 = .ok (.aload_n 0, 1) := by decide +kernel
theorem dX8_mayDraw_1 : decode cX8_mayDraw 1 = .ok (.getfield 17, 3) := by decide +kernel
theorem dX8_mayDraw_4 : decode cX8_mayDraw 4 = .ok (.bipush 8, 2) := by decide +kernel
theorem dX8_mayDraw_6 : decode cX8_mayDraw 6 = .ok (.iaload, 1) := by decide +kernel
theorem dX8_mayDraw_7 : decode cX8_mayDraw 7 = .ok (.ifCond .ne 33, 3) := by decide +kernel
theorem dX8_mayDraw_10 : decode cX8_mayDraw 10 = .ok (.aload_n 0, 1) := by decide +kernel
theorem dX8_mayDraw_11 : decode cX8_mayDraw 11 = .ok (.getfield 17, 3) := by decide +kernel
theorem dX8_mayDraw_14 : decode cX8_mayDraw 14 = .ok (.iconst 5, 1) := by decide +kernel
theorem dX8_mayDraw_15 : decode cX8_mayDraw 15 = .ok (.iaload, 1) := by decide +kernel
theorem dX8_mayDraw_16 : decode cX8_mayDraw 16 = .ok (.ifCond .ne 24, 3) := by decide +kernel
theorem dX8_mayDraw_19 : decode cX8_mayDraw 19 = .ok (.aload_n 0, 1) := by decide +kernel
theorem dX8_mayDraw_20 : decode cX8_mayDraw 20 = .ok (.getfield 17, 3) := by decide +kernel
theorem dX8_mayDraw_23 : decode cX8_mayDraw 23 = .ok (.bipush 7, 2) := by decide +kernel
theorem dX8_mayDraw_25 : decode cX8_mayDraw 25 = .ok (.iaload, 1) := by decide +kernel
theorem dX8_mayDraw_26 : decode cX8_mayDraw 26 = .ok (.ifCond .le 14, 3) := by decide +kernel
theorem dX8_mayDraw_29 : decode cX8_mayDraw 29 = .ok (.aload_n 0, 1) := by decide +kernel
theorem dX8_mayDraw_30 : decode cX8_mayDraw 30 = .ok (.invokevirtual 216, 3) := by decide +kernel
theorem dX8_mayDraw_33 : decode cX8_mayDraw 33 = .ok (.ifCond .ne 7, 3) := by decide +kernel
theorem dX8_mayDraw_36 : decode cX8_mayDraw 36 = .ok (.iconst 1, 1) := by decide +kernel
theorem dX8_mayDraw_37 : decode cX8_mayDraw 37 = .ok (.goto 4, 3) := by decide +kernel
theorem dX8_mayDraw_40 : decode cX8_mayDraw 40 = .ok (.iconst 0, 1) := by decide +kernel
theorem dX8_mayDraw_41 : decode cX8_mayDraw 41 = .ok (.ireturn, 1) := by decide +kernel
set_option maxRecDepth 20000 in
theorem ggX8_mayPass_X8_plays : GoodIn wsX8_mayPass wsX8_plays := goodIn_r _ [6, 1, 7, 8, 9, 5, 10, 11, 12, 13, 14, 15, 16, 17, 18, 19, 20, 21, 22, 23, 24, 25, 26, 27, 28, 29, 30, 31, 32, 33, 34, 35, 36, 37, 38, 39, 40, 41, 42, 43, 44, 45, 46] rfl (by decide +kernel)
set_option maxRecDepth 20000 in
theorem gX8_mayPass_X8_plays : GoodIn wsX8_mayPass (wsV RX8 216 RX8 yX8_plays wsX8_plays) := goodIn_app (goodIn_of _ (by decide +kernel)) ggX8_mayPass_X8_plays
theorem dX8_mayPass_0 : decode cX8_mayPass 0 = .ok (.aload_n 0, 1) := by decide +kernel
theorem dX8_mayPass_1 : decode cX8_mayPass 1 = .ok (.getfield 17, 3) := by decide +kernel
theorem dX8_mayPass_4 : decode cX8_mayPass 4 = .ok (.bipush 8, 2) := by decide +kernel
theorem dX8_mayPass_6 : decode cX8_mayPass 6 = .ok (.iaload, 1) := by decide +kernel
theorem dX8_mayPass_7 : decode cX8_mayPass 7 = .ok (.ifCond .ne 34, 3) := by decide +kernel
theorem dX8_mayPass_10 : decode cX8_mayPass 10 = .ok (.aload_n 0, 1) := by decide +kernel
theorem dX8_mayPass_11 : decode cX8_mayPass 11 = .ok (.getfield 17, 3) := by decide +kernel
theorem dX8_mayPass_14 : decode cX8_mayPass 14 = .ok (.iconst 5, 1) := by decide +kernel
theorem dX8_mayPass_15 : decode cX8_mayPass 15 = .ok (.iaload, 1) := by decide +kernel
theorem dX8_mayPass_16 : decode cX8_mayPass 16 = .ok (.iconst 1, 1) := by decide +kernel
theorem dX8_mayPass_17 : decode cX8_mayPass 17 = .ok (.if_icmp .eq 13, 3) := by decide +kernel
theorem dX8_mayPass_20 : decode cX8_mayPass 20 = .ok (.aload_n 0, 1) := by decide +kernel
theorem dX8_mayPass_21 : decode cX8_mayPass 21 = .ok (.getfield 17, 3) := by decide +kernel
theorem dX8_mayPass_24 : decode cX8_mayPass 24 = .ok (.bipush 7, 2) := by decide +kernel
theorem dX8_mayPass_26 : decode cX8_mayPass 26 = .ok (.iaload, 1) := by decide +kernel
theorem dX8_mayPass_27 : decode cX8_mayPass 27 = .ok (.ifCond .ne 14, 3) := by decide +kernel
theorem dX8_mayPass_30 : decode cX8_mayPass 30 = .ok (.aload_n 0, 1) := by decide +kernel
theorem dX8_mayPass_31 : decode cX8_mayPass 31 = .ok (.invokevirtual 216, 3) := by decide +kernel
theorem dX8_mayPass_34 : decode cX8_mayPass 34 = .ok (.ifCond .ne 7, 3) := by decide +kernel
theorem dX8_mayPass_37 : decode cX8_mayPass 37 = .ok (.iconst 1, 1) := by decide +kernel
theorem dX8_mayPass_38 : decode cX8_mayPass 38 = .ok (.goto 4, 3) := by decide +kernel
theorem dX8_mayPass_41 : decode cX8_mayPass 41 = .ok (.iconst 0, 1) := by decide +kernel
theorem dX8_mayPass_42 : decode cX8_mayPass 42 = .ok (.ireturn, 1) := by decide +kernel
theorem dX8_limited_0 : decode cX8_limited 0 = .ok (.lload_n 0, 1) := by decide +kernel
theorem dX8_limited_1 : decode cX8_limited 1 = .ok (.ldc2_w 219, 3) := by decide +kernel
theorem dX8_limited_4 : decode cX8_limited 4 = .ok (.lcmp, 1) := by decide +kernel
theorem dX8_limited_5 : decode cX8_limited 5 = .ok (.ifCond .le 9, 3) := by decide +kernel
theorem dX8_limited_8 : decode cX8_limited 8 = .ok (.ldc2_w 219, 3) := by decide +kernel
theorem dX8_limited_11 : decode cX8_limited 11 = .ok (.goto 18, 3) := by decide +kernel
theorem dX8_limited_14 : decode cX8_limited 14 = .ok (.lload_n 0, 1) := by decide +kernel
theorem dX8_limited_15 : decode cX8_limited 15 = .ok (.ldc2_w 221, 3) := by decide +kernel
theorem dX8_limited_18 : decode cX8_limited 18 = .ok (.lcmp, 1) := by decide +kernel
theorem dX8_limited_19 : decode cX8_limited 19 = .ok (.ifCond .ge 9, 3) := by decide +kernel
theorem dX8_limited_22 : decode cX8_limited 22 = .ok (.ldc2_w 221, 3) := by decide +kernel
theorem dX8_limited_25 : decode cX8_limited 25 = .ok (.goto 4, 3) := by decide +kernel
theorem dX8_limited_28 : decode cX8_limited 28 = .ok (.lload_n 0, 1) := by decide +kernel
theorem dX8_limited_29 : decode cX8_limited 29 = .ok (.lreturn, 1) := by decide +kernel
set_option maxRecDepth 20000 in
theorem ggX8_operate_X8_limited : GoodIn wsX8_operate wsX8_limited := goodIn_r _ [4, 5, 6] rfl (by decide +kernel)
set_option maxRecDepth 20000 in
theorem gX8_operate_X8_limited : GoodIn wsX8_operate (va_wsS RX8 223 yX8_limited wsX8_limited) := goodIn_app (goodIn_of _ (by decide +kernel)) ggX8_operate_X8_limited
theorem dX8_operate_0 : decode cX8_operate 0 = .ok (.iload_n 0, 1) := by decide +kernel
theorem dX8_operate_1 : decode cX8_operate 1 = .ok (.iconst 5, 1) := by decide +kernel
theorem dX8_operate_2 : decode cX8_operate 2 = .ok (.if_icmp .ne 20, 3) := by decide +kernel
theorem dX8_operate_5 : decode cX8_operate 5 = .ok (.lload_n 3, 1) := by decide +kernel
theorem dX8_operate_6 : decode cX8_operate 6 = .ok (.lconst 0, 1) := by decide +kernel
theorem dX8_operate_7 : decode cX8_operate 7 = .ok (.lcmp, 1) := by decide +kernel
theorem dX8_operate_8 : decode cX8_operate 8 = .ok (.ifCond .ne 7, 3) := by decide +kernel
theorem dX8_operate_11 : decode cX8_operate 11 = .ok (.lconst 0, 1) := by decide +kernel
theorem dX8_operate_12 : decode cX8_operate 12 = .ok (.goto 9, 3) := by decide +kernel
theorem dX8_operate_15 : decode cX8_operate 15 = .ok (.lload_n 1, 1) := by decide +kernel
theorem dX8_operate_16 : decode cX8_operate 16 = .ok (.lload_n 3, 1) := by decide +kernel
theorem dX8_operate_17 : decode cX8_operate 17 = .ok (.ldiv, 1) := by decide +kernel
theorem dX8_operate_18 : decode cX8_operate 18 = .ok (.invokestatic 223, 3) := by decide +kernel
theorem dX8_operate_21 : decode cX8_operate 21 = .ok (.lreturn, 1) := by decide +kernel
theorem dX8_operate_22 : decode cX8_operate 22 = .ok (.iload_n 0, 1) := by decide +kernel
theorem dX8_operate_23 : decode cX8_operate 23 = .ok (.iconst 2, 1) := by decide +kernel
theorem dX8_operate_24 : decode cX8_operate 24 = .ok (.if_icmp .ne 9, 3) := by decide +kernel
theorem dX8_operate_27 : decode cX8_operate 27 = .ok (.lload_n 1, 1) := by decide +kernel
theorem dX8_operate_28 : decode cX8_operate 28 = .ok (.lload_n 3, 1) := by decide +kernel
theorem dX8_operate_29 : decode cX8_operate 29 = .ok (.ladd, 1) := by decide +kernel
theorem dX8_operate_30 : decode cX8_operate 30 = .ok (.goto 17, 3) := by decide +kernel
theorem dX8_operate_33 : decode cX8_operate 33 = .ok (.iload_n 0, 1) := by decide +kernel
theorem dX8_operate_34 : decode cX8_operate 34 = .ok (.iconst 3, 1) := by decide +kernel
theorem dX8_operate_35 : decode cX8_operate 35 = .ok (.if_icmp .ne 9, 3) := by decide +kernel
theorem dX8_operate_38 : decode cX8_operate 38 = .ok (.lload_n 1, 1) := by decide +kernel
theorem dX8_operate_39 : decode cX8_operate 39 = .ok (.lload_n 3, 1) := by decide +kernel
theorem dX8_operate_40 : decode cX8_operate 40 = .ok (.lsub, 1) := by decide +kernel
theorem dX8_operate_41 : decode cX8_operate 41 = .ok (.goto 6, 3) := by decide +kernel
theorem dX8_operate_44 : decode cX8_operate 44 = .ok (.lload_n 1, 1) := by decide +kernel
theorem dX8_operate_45 : decode cX8_operate 45 = .ok (.lload_n 3, 1) := by decide +kernel
theorem dX8_operate_46 : decode cX8_operate 46 = .ok (.lmul, 1) := by decide +kernel
theorem dX8_operate_47 : decode cX8_operate 47 = .ok (.invokestatic 223, 3) := by decide +kernel
theorem dX8_operate_50 : decode cX8_operate 50 = .ok (.lreturn, 1) := by decide +kernel
set_option maxRecDepth 20000 in
theorem ggX8_fact_X8_pipsOf : GoodIn wsX8_fact wsX8_pipsOf := goodIn_r _ [5] rfl (by decide +kernel)
set_option maxRecDepth 20000 in
theorem gX8_fact_X8_pipsOf : GoodIn wsX8_fact (va_wsS RX8 227 yX8_pipsOf wsX8_pipsOf) := goodIn_app (goodIn_of _ (by decide +kernel)) ggX8_fact_X8_pipsOf
set_option maxRecDepth 20000 in
theorem ggX8_fact_X8_isDouble : GoodIn wsX8_fact wsX8_isDouble := goodIn_r _ [8] rfl (by decide +kernel)
set_option maxRecDepth 20000 in
theorem gX8_fact_X8_isDouble : GoodIn wsX8_fact (va_wsS RX8 230 yX8_isDouble wsX8_isDouble) := goodIn_app (goodIn_of _ (by decide +kernel)) ggX8_fact_X8_isDouble
set_option maxRecDepth 20000 in
theorem ggX8_fact_X8_hand : GoodIn wsX8_fact wsX8_hand := goodIn_r _ [12, 1, 13, 14, 4, 15, 16, 17, 18, 19, 20, 21, 22, 23, 24, 25, 26, 27, 28, 29, 30, 31, 32, 33, 34, 35, 36, 37] rfl (by decide +kernel)
set_option maxRecDepth 20000 in
theorem gX8_fact_X8_hand : GoodIn wsX8_fact (wsV RX8 233 RX8 yX8_hand wsX8_hand) := goodIn_app (goodIn_of _ (by decide +kernel)) ggX8_fact_X8_hand
theorem dX8_fact_0 : decode cX8_fact 0 = .ok (.iload_n 1, 1) := by decide +kernel
theorem dX8_fact_1 : decode cX8_fact 1 = .ok (.tableswitch 81 0 3 #[31, 36, 49, 65], 31) := by decide +kernel
theorem dX8_fact_32 : decode cX8_fact 32 = .ok (.iload_n 2, 1) := by decide +kernel
theorem dX8_fact_33 : decode cX8_fact 33 = .ok (.invokestatic 227, 3) := by decide +kernel
theorem dX8_fact_36 : decode cX8_fact 36 = .ok (.ireturn, 1) := by decide +kernel
theorem dX8_fact_37 : decode cX8_fact 37 = .ok (.iload_n 2, 1) := by decide +kernel
theorem dX8_fact_38 : decode cX8_fact 38 = .ok (.invokestatic 230, 3) := by decide +kernel
theorem dX8_fact_41 : decode cX8_fact 41 = .ok (.ifCond .eq 7, 3) := by decide +kernel
theorem dX8_fact_44 : decode cX8_fact 44 = .ok (.iconst 1, 1) := by decide +kernel
theorem dX8_fact_45 : decode cX8_fact 45 = .ok (.goto 4, 3) := by decide +kernel
theorem dX8_fact_48 : decode cX8_fact 48 = .ok (.iconst 0, 1) := by decide +kernel
theorem dX8_fact_49 : decode cX8_fact 49 = .ok (.ireturn, 1) := by decide +kernel
theorem dX8_fact_50 : decode cX8_fact 50 = .ok (.iload_n 3, 1) := by decide +kernel
theorem dX8_fact_51 : decode cX8_fact 51 = .ok (.aload_n 0, 1) := by decide +kernel
theorem dX8_fact_52 : decode cX8_fact 52 = .ok (.getfield 17, 3) := by decide +kernel
theorem dX8_fact_55 : decode cX8_fact 55 = .ok (.iconst 4, 1) := by decide +kernel
theorem dX8_fact_56 : decode cX8_fact 56 = .ok (.iaload, 1) := by decide +kernel
theorem dX8_fact_57 : decode cX8_fact 57 = .ok (.if_icmp .ne 7, 3) := by decide +kernel
theorem dX8_fact_60 : decode cX8_fact 60 = .ok (.iconst 1, 1) := by decide +kernel
theorem dX8_fact_61 : decode cX8_fact 61 = .ok (.goto 4, 3) := by decide +kernel
theorem dX8_fact_64 : decode cX8_fact 64 = .ok (.iconst 0, 1) := by decide +kernel
theorem dX8_fact_65 : decode cX8_fact 65 = .ok (.ireturn, 1) := by decide +kernel
theorem dX8_fact_66 : decode cX8_fact 66 = .ok (.iload_n 3, 1) := by decide +kernel
theorem dX8_fact_67 : decode cX8_fact 67 = .ok (.aload_n 0, 1) := by decide +kernel
theorem dX8_fact_68 : decode cX8_fact 68 = .ok (.getfield 17, 3) := by decide +kernel
theorem dX8_fact_71 : decode cX8_fact 71 = .ok (.iconst 1, 1) := by decide +kernel
theorem dX8_fact_72 : decode cX8_fact 72 = .ok (.iaload, 1) := by decide +kernel
theorem dX8_fact_73 : decode cX8_fact 73 = .ok (.if_icmp .ne 7, 3) := by decide +kernel
theorem dX8_fact_76 : decode cX8_fact 76 = .ok (.iconst 1, 1) := by decide +kernel
theorem dX8_fact_77 : decode cX8_fact 77 = .ok (.goto 4, 3) := by decide +kernel
theorem dX8_fact_80 : decode cX8_fact 80 = .ok (.iconst 0, 1) := by decide +kernel
theorem dX8_fact_81 : decode cX8_fact 81 = .ok (.ireturn, 1) := by decide +kernel
theorem dX8_fact_82 : decode cX8_fact 82 = .ok (.aload_n 0, 1) := by decide +kernel
theorem dX8_fact_83 : decode cX8_fact 83 = .ok (.aload_n 0, 1) := by decide +kernel
theorem dX8_fact_84 : decode cX8_fact 84 = .ok (.getfield 17, 3) := by decide +kernel
theorem dX8_fact_87 : decode cX8_fact 87 = .ok (.iconst 4, 1) := by decide +kernel
theorem dX8_fact_88 : decode cX8_fact 88 = .ok (.iaload, 1) := by decide +kernel
theorem dX8_fact_89 : decode cX8_fact 89 = .ok (.invokevirtual 233, 3) := by decide +kernel
theorem dX8_fact_92 : decode cX8_fact 92 = .ok (.iconst 1, 1) := by decide +kernel
theorem dX8_fact_93 : decode cX8_fact 93 = .ok (.isub, 1) := by decide +kernel
theorem dX8_fact_94 : decode cX8_fact 94 = .ok (.ireturn, 1) := by decide +kernel
set_option maxRecDepth 20000 in
theorem ggX8_rankOf_X8_pipsOf : GoodIn wsX8_rankOf wsX8_pipsOf := goodIn_r _ [6] rfl (by decide +kernel)
set_option maxRecDepth 20000 in
theorem gX8_rankOf_X8_pipsOf : GoodIn wsX8_rankOf (va_wsS RX8 227 yX8_pipsOf wsX8_pipsOf) := goodIn_app (goodIn_of _ (by decide +kernel)) ggX8_rankOf_X8_pipsOf
set_option maxRecDepth 20000 in
theorem ggX8_rankOf_X8_fact : GoodIn wsX8_rankOf wsX8_fact := goodIn_r _ [10, 1, 3, 4, 5, 6, 11, 12, 13, 14, 15, 16, 17, 18, 19, 20, 29, 30, 31, 32, 33, 34, 35, 36, 37, 38, 39, 40, 41, 42, 43, 44, 45, 46, 47, 48, 49, 50] rfl (by decide +kernel)
set_option maxRecDepth 20000 in
theorem gX8_rankOf_X8_fact : GoodIn wsX8_rankOf (wsV RX8 236 RX8 yX8_fact wsX8_fact) := goodIn_app (goodIn_of _ (by decide +kernel)) ggX8_rankOf_X8_fact
set_option maxRecDepth 20000 in
theorem ggX8_rankOf_X8_operate : GoodIn wsX8_rankOf wsX8_operate := goodIn_r _ [23, 24, 25, 5, 26, 27, 28] rfl (by decide +kernel)
set_option maxRecDepth 20000 in
theorem gX8_rankOf_X8_operate : GoodIn wsX8_rankOf (va_wsS RX8 240 yX8_operate wsX8_operate) := goodIn_app (goodIn_of _ (by decide +kernel)) ggX8_rankOf_X8_operate
theorem dX8_rankOf_0 : decode cX8_rankOf 0 = .ok (.aload_n 0, 1) := by decide +kernel
theorem dX8_rankOf_1 : decode cX8_rankOf 1 = .ok (.getfield 17, 3) := by decide +kernel
theorem dX8_rankOf_4 : decode cX8_rankOf 4 = .ok (.bipush 13, 2) := by decide +kernel
theorem dX8_rankOf_6 : decode cX8_rankOf 6 = .ok (.iaload, 1) := by decide +kernel
theorem dX8_rankOf_7 : decode cX8_rankOf 7 = .ok (.ifCond .ne 8, 3) := by decide +kernel
theorem dX8_rankOf_10 : decode cX8_rankOf 10 = .ok (.iload_n 1, 1) := by decide +kernel
theorem dX8_rankOf_11 : decode cX8_rankOf 11 = .ok (.invokestatic 227, 3) := by decide +kernel
theorem dX8_rankOf_14 : decode cX8_rankOf 14 = .ok (.ireturn, 1) := by decide +kernel
theorem dX8_rankOf_15 : decode cX8_rankOf 15 = .ok (.iconst 0, 1) := by decide +kernel
theorem dX8_rankOf_16 : decode cX8_rankOf 16 = .ok (.istore_n 3, 1) := by decide +kernel
theorem dX8_rankOf_17 : decode cX8_rankOf 17 = .ok (.aload_n 0, 1) := by decide +kernel
theorem dX8_rankOf_18 : decode cX8_rankOf 18 = .ok (.getfield 31, 3) := by decide +kernel
theorem dX8_rankOf_21 : decode cX8_rankOf 21 = .ok (.iconst 0, 1) := by decide +kernel
theorem dX8_rankOf_22 : decode cX8_rankOf 22 = .ok (.lconst 0, 1) := by decide +kernel
theorem dX8_rankOf_23 : decode cX8_rankOf 23 = .ok (.lastore, 1) := by decide +kernel
theorem dX8_rankOf_24 : decode cX8_rankOf 24 = .ok (.iconst 0, 1) := by decide +kernel
theorem dX8_rankOf_25 : decode cX8_rankOf 25 = .ok (.istore 4, 2) := by decide +kernel
theorem dX8_rankOf_27 : decode cX8_rankOf 27 = .ok (.iload 4, 2) := by decide +kernel
theorem dX8_rankOf_29 : decode cX8_rankOf 29 = .ok (.aload_n 0, 1) := by decide +kernel
theorem dX8_rankOf_30 : decode cX8_rankOf 30 = .ok (.getfield 17, 3) := by decide +kernel
theorem dX8_rankOf_33 : decode cX8_rankOf 33 = .ok (.bipush 14, 2) := by decide +kernel
theorem dX8_rankOf_35 : decode cX8_rankOf 35 = .ok (.iaload, 1) := by decide +kernel
theorem dX8_rankOf_36 : decode cX8_rankOf 36 = .ok (.if_icmp .ge 111, 3) := by decide +kernel
theorem dX8_rankOf_39 : decode cX8_rankOf 39 = .ok (.aload_n 0, 1) := by decide +kernel
theorem dX8_rankOf_40 : decode cX8_rankOf 40 = .ok (.getfield 17, 3) := by decide +kernel
theorem dX8_rankOf_43 : decode cX8_rankOf 43 = .ok (.sipush 464, 3) := by decide +kernel
theorem dX8_rankOf_46 : decode cX8_rankOf 46 = .ok (.iload 4, 2) := by decide +kernel
theorem dX8_rankOf_48 : decode cX8_rankOf 48 = .ok (.iadd, 1) := by decide +kernel
theorem dX8_rankOf_49 : decode cX8_rankOf 49 = .ok (.iaload, 1) := by decide +kernel
theorem dX8_rankOf_50 : decode cX8_rankOf 50 = .ok (.istore 5, 2) := by decide +kernel
theorem dX8_rankOf_52 : decode cX8_rankOf 52 = .ok (.iload 5, 2) := by decide +kernel
theorem dX8_rankOf_54 : decode cX8_rankOf 54 = .ok (.iconst 1, 1) := by decide +kernel
theorem dX8_rankOf_55 : decode cX8_rankOf 55 = .ok (.if_icmp .gt 56, 3) := by decide +kernel
theorem dX8_rankOf_58 : decode cX8_rankOf 58 = .ok (.iinc 4 1, 3) := by decide +kernel
theorem dX8_rankOf_61 : decode cX8_rankOf 61 = .ok (.aload_n 0, 1) := by decide +kernel
theorem dX8_rankOf_62 : decode cX8_rankOf 62 = .ok (.getfield 31, 3) := by decide +kernel
theorem dX8_rankOf_65 : decode cX8_rankOf 65 = .ok (.iload_n 3, 1) := by decide +kernel
theorem dX8_rankOf_66 : decode cX8_rankOf 66 = .ok (.iload 5, 2) := by decide +kernel
theorem dX8_rankOf_68 : decode cX8_rankOf 68 = .ok (.ifCond .ne 18, 3) := by decide +kernel
theorem dX8_rankOf_71 : decode cX8_rankOf 71 = .ok (.aload_n 0, 1) := by decide +kernel
theorem dX8_rankOf_72 : decode cX8_rankOf 72 = .ok (.getfield 17, 3) := by decide +kernel
theorem dX8_rankOf_75 : decode cX8_rankOf 75 = .ok (.sipush 464, 3) := by decide +kernel
theorem dX8_rankOf_78 : decode cX8_rankOf 78 = .ok (.iload 4, 2) := by decide +kernel
theorem dX8_rankOf_80 : decode cX8_rankOf 80 = .ok (.iadd, 1) := by decide +kernel
theorem dX8_rankOf_81 : decode cX8_rankOf 81 = .ok (.iaload, 1) := by decide +kernel
theorem dX8_rankOf_82 : decode cX8_rankOf 82 = .ok (.i2l, 1) := by decide +kernel
theorem dX8_rankOf_83 : decode cX8_rankOf 83 = .ok (.goto 21, 3) := by decide +kernel
theorem dX8_rankOf_86 : decode cX8_rankOf 86 = .ok (.aload_n 0, 1) := by decide +kernel
theorem dX8_rankOf_87 : decode cX8_rankOf 87 = .ok (.aload_n 0, 1) := by decide +kernel
theorem dX8_rankOf_88 : decode cX8_rankOf 88 = .ok (.getfield 17, 3) := by decide +kernel
theorem dX8_rankOf_91 : decode cX8_rankOf 91 = .ok (.sipush 464, 3) := by decide +kernel
theorem dX8_rankOf_94 : decode cX8_rankOf 94 = .ok (.iload 4, 2) := by decide +kernel
theorem dX8_rankOf_96 : decode cX8_rankOf 96 = .ok (.iadd, 1) := by decide +kernel
theorem dX8_rankOf_97 : decode cX8_rankOf 97 = .ok (.iaload, 1) := by decide +kernel
theorem dX8_rankOf_98 : decode cX8_rankOf 98 = .ok (.iload_n 1, 1) := by decide +kernel
theorem dX8_rankOf_99 : decode cX8_rankOf 99 = .ok (.iload_n 2, 1) := by decide +kernel
theorem dX8_rankOf_100 : decode cX8_rankOf 100 = .ok (.invokevirtual 236, 3) := by decide +kernel
theorem dX8_rankOf_103 : decode cX8_rankOf 103 = .ok (.i2l, 1) := by decide +kernel
theorem dX8_rankOf_104 : decode cX8_rankOf 104 = .ok (.lastore, 1) := by decide +kernel
theorem dX8_rankOf_105 : decode cX8_rankOf 105 = .ok (.iinc 3 1, 3) := by decide +kernel
theorem dX8_rankOf_108 : decode cX8_rankOf 108 = .ok (.goto 33, 3) := by decide +kernel
theorem dX8_rankOf_111 : decode cX8_rankOf 111 = .ok (.iinc 3 (-1), 3) := by decide +kernel
theorem dX8_rankOf_114 : decode cX8_rankOf 114 = .ok (.aload_n 0, 1) := by decide +kernel
theorem dX8_rankOf_115 : decode cX8_rankOf 115 = .ok (.getfield 31, 3) := by decide +kernel
theorem dX8_rankOf_118 : decode cX8_rankOf 118 = .ok (.iload_n 3, 1) := by decide +kernel
theorem dX8_rankOf_119 : decode cX8_rankOf 119 = .ok (.iconst 1, 1) := by decide +kernel
theorem dX8_rankOf_120 : decode cX8_rankOf 120 = .ok (.isub, 1) := by decide +kernel
theorem dX8_rankOf_121 : decode cX8_rankOf 121 = .ok (.iload 5, 2) := by decide +kernel
theorem dX8_rankOf_123 : decode cX8_rankOf 123 = .ok (.aload_n 0, 1) := by decide +kernel
theorem dX8_rankOf_124 : decode cX8_rankOf 124 = .ok (.getfield 31, 3) := by decide +kernel
theorem dX8_rankOf_127 : decode cX8_rankOf 127 = .ok (.iload_n 3, 1) := by decide +kernel
theorem dX8_rankOf_128 : decode cX8_rankOf 128 = .ok (.iconst 1, 1) := by decide +kernel
theorem dX8_rankOf_129 : decode cX8_rankOf 129 = .ok (.isub, 1) := by decide +kernel
theorem dX8_rankOf_130 : decode cX8_rankOf 130 = .ok (.laload, 1) := by decide +kernel
theorem dX8_rankOf_131 : decode cX8_rankOf 131 = .ok (.aload_n 0, 1) := by decide +kernel
theorem dX8_rankOf_132 : decode cX8_rankOf 132 = .ok (.getfield 31, 3) := by decide +kernel
theorem dX8_rankOf_135 : decode cX8_rankOf 135 = .ok (.iload_n 3, 1) := by decide +kernel
theorem dX8_rankOf_136 : decode cX8_rankOf 136 = .ok (.laload, 1) := by decide +kernel
theorem dX8_rankOf_137 : decode cX8_rankOf 137 = .ok (.invokestatic 240, 3) := by decide +kernel
theorem dX8_rankOf_140 : decode cX8_rankOf 140 = .ok (.lastore, 1) := by decide +kernel
theorem dX8_rankOf_141 : decode cX8_rankOf 141 = .ok (.iinc 4 1, 3) := by decide +kernel
theorem dX8_rankOf_144 : decode cX8_rankOf 144 = .ok (.goto (-117), 3) := by decide +kernel
theorem dX8_rankOf_147 : decode cX8_rankOf 147 = .ok (.aload_n 0, 1) := by decide +kernel
theorem dX8_rankOf_148 : decode cX8_rankOf 148 = .ok (.getfield 31, 3) := by decide +kernel
theorem dX8_rankOf_151 : decode cX8_rankOf 151 = .ok (.iconst 0, 1) := by decide +kernel
theorem dX8_rankOf_152 : decode cX8_rankOf 152 = .ok (.laload, 1) := by decide +kernel
theorem dX8_rankOf_153 : decode cX8_rankOf 153 = .ok (.l2i, 1) := by decide +kernel
theorem dX8_rankOf_154 : decode cX8_rankOf 154 = .ok (.ireturn, 1) := by decide +kernel
set_option maxRecDepth 20000 in
theorem ggX8_bestPlay_X8_refusal : GoodIn wsX8_bestPlay wsX8_refusal := goodIn_r _ [6, 1, 7, 8, 9, 5, 10, 11, 12, 13, 14, 15, 16, 17, 18, 19, 20, 51, 52, 53, 54, 55, 56, 57, 58, 59, 60, 61, 62, 63, 64, 65, 66, 67, 68, 69, 70, 71, 72] rfl (by decide +kernel)
set_option maxRecDepth 20000 in
theorem gX8_bestPlay_X8_refusal : GoodIn wsX8_bestPlay (wsV RX8 213 RX8 yX8_refusal wsX8_refusal) := goodIn_app (goodIn_of _ (by decide +kernel)) ggX8_bestPlay_X8_refusal
set_option maxRecDepth 20000 in
theorem ggX8_bestPlay_X8_rankOf : GoodIn wsX8_bestPlay wsX8_rankOf := goodIn_r _ [24, 1, 25, 26, 27, 5, 28, 29, 30, 31, 32, 33, 34, 35, 36, 37, 38, 39, 40, 41, 42, 43, 44, 45, 46, 47, 48, 49, 50, 51, 52, 53, 54, 55, 56, 57, 58, 59, 60, 61, 62, 63, 64, 65, 66, 67, 68, 69, 70, 71, 72] rfl (by decide +kernel)
set_option maxRecDepth 20000 in
theorem gX8_bestPlay_X8_rankOf : GoodIn wsX8_bestPlay (wsV RX8 244 RX8 yX8_rankOf wsX8_rankOf) := goodIn_app (goodIn_of _ (by decide +kernel)) ggX8_bestPlay_X8_rankOf
theorem dX8_bestPlay_0 : decode cX8_bestPlay 0 = .ok (.iconst (-1), 1) := by decide +kernel
theorem dX8_bestPlay_1 : decode cX8_bestPlay 1 = .ok (.istore_n 1, 1) := by decide +kernel
theorem dX8_bestPlay_2 : decode cX8_bestPlay 2 = .ok (.iconst 0, 1) := by decide +kernel
theorem dX8_bestPlay_3 : decode cX8_bestPlay 3 = .ok (.istore_n 2, 1) := by decide +kernel
theorem dX8_bestPlay_4 : decode cX8_bestPlay 4 = .ok (.iconst 0, 1) := by decide +kernel
theorem dX8_bestPlay_5 : decode cX8_bestPlay 5 = .ok (.istore_n 3, 1) := by decide +kernel
theorem dX8_bestPlay_6 : decode cX8_bestPlay 6 = .ok (.iload_n 3, 1) := by decide +kernel
theorem dX8_bestPlay_7 : decode cX8_bestPlay 7 = .ok (.bipush 100, 2) := by decide +kernel
theorem dX8_bestPlay_9 : decode cX8_bestPlay 9 = .ok (.if_icmp .ge 76, 3) := by decide +kernel
theorem dX8_bestPlay_12 : decode cX8_bestPlay 12 = .ok (.iconst 0, 1) := by decide +kernel
theorem dX8_bestPlay_13 : decode cX8_bestPlay 13 = .ok (.istore 4, 2) := by decide +kernel
theorem dX8_bestPlay_15 : decode cX8_bestPlay 15 = .ok (.iload 4, 2) := by decide +kernel
theorem dX8_bestPlay_17 : decode cX8_bestPlay 17 = .ok (.aload_n 0, 1) := by decide +kernel
theorem dX8_bestPlay_18 : decode cX8_bestPlay 18 = .ok (.getfield 17, 3) := by decide +kernel
theorem dX8_bestPlay_21 : decode cX8_bestPlay 21 = .ok (.iconst 1, 1) := by decide +kernel
theorem dX8_bestPlay_22 : decode cX8_bestPlay 22 = .ok (.iaload, 1) := by decide +kernel
theorem dX8_bestPlay_23 : decode cX8_bestPlay 23 = .ok (.if_icmp .gt 56, 3) := by decide +kernel
theorem dX8_bestPlay_26 : decode cX8_bestPlay 26 = .ok (.aload_n 0, 1) := by decide +kernel
theorem dX8_bestPlay_27 : decode cX8_bestPlay 27 = .ok (.iload_n 3, 1) := by decide +kernel
theorem dX8_bestPlay_28 : decode cX8_bestPlay 28 = .ok (.iload 4, 2) := by decide +kernel
theorem dX8_bestPlay_30 : decode cX8_bestPlay 30 = .ok (.invokevirtual 213, 3) := by decide +kernel
theorem dX8_bestPlay_33 : decode cX8_bestPlay 33 = .ok (.ifCond .eq 6, 3) := by decide +kernel
theorem dX8_bestPlay_36 : decode cX8_bestPlay 36 = .ok (.goto 37, 3) := by decide +kernel
theorem dX8_bestPlay_39 : decode cX8_bestPlay 39 = .ok (.aload_n 0, 1) := by decide +kernel
theorem dX8_bestPlay_40 : decode cX8_bestPlay 40 = .ok (.iload_n 3, 1) := by decide +kernel
theorem dX8_bestPlay_41 : decode cX8_bestPlay 41 = .ok (.iload 4, 2) := by decide +kernel
theorem dX8_bestPlay_43 : decode cX8_bestPlay 43 = .ok (.invokevirtual 244, 3) := by decide +kernel
theorem dX8_bestPlay_46 : decode cX8_bestPlay 46 = .ok (.istore 5, 2) := by decide +kernel
theorem dX8_bestPlay_48 : decode cX8_bestPlay 48 = .ok (.iload_n 1, 1) := by decide +kernel
theorem dX8_bestPlay_49 : decode cX8_bestPlay 49 = .ok (.iconst (-1), 1) := by decide +kernel
theorem dX8_bestPlay_50 : decode cX8_bestPlay 50 = .ok (.if_icmp .eq 12, 3) := by decide +kernel
theorem dX8_bestPlay_53 : decode cX8_bestPlay 53 = .ok (.iload 5, 2) := by decide +kernel
theorem dX8_bestPlay_55 : decode cX8_bestPlay 55 = .ok (.iload_n 2, 1) := by decide +kernel
theorem dX8_bestPlay_56 : decode cX8_bestPlay 56 = .ok (.if_icmp .gt 6, 3) := by decide +kernel
theorem dX8_bestPlay_59 : decode cX8_bestPlay 59 = .ok (.goto 14, 3) := by decide +kernel
theorem dX8_bestPlay_62 : decode cX8_bestPlay 62 = .ok (.bipush 10, 2) := by decide +kernel
theorem dX8_bestPlay_64 : decode cX8_bestPlay 64 = .ok (.iload_n 3, 1) := by decide +kernel
theorem dX8_bestPlay_65 : decode cX8_bestPlay 65 = .ok (.imul, 1) := by decide +kernel
theorem dX8_bestPlay_66 : decode cX8_bestPlay 66 = .ok (.iload 4, 2) := by decide +kernel
theorem dX8_bestPlay_68 : decode cX8_bestPlay 68 = .ok (.iadd, 1) := by decide +kernel
theorem dX8_bestPlay_69 : decode cX8_bestPlay 69 = .ok (.istore_n 1, 1) := by decide +kernel
theorem dX8_bestPlay_70 : decode cX8_bestPlay 70 = .ok (.iload 5, 2) := by decide +kernel
theorem dX8_bestPlay_72 : decode cX8_bestPlay 72 = .ok (.istore_n 2, 1) := by decide +kernel
theorem dX8_bestPlay_73 : decode cX8_bestPlay 73 = .ok (.iinc 4 1, 3) := by decide +kernel
theorem dX8_bestPlay_76 : decode cX8_bestPlay 76 = .ok (.goto (-61), 3) := by decide +kernel
theorem dX8_bestPlay_79 : decode cX8_bestPlay 79 = .ok (.iinc 3 1, 3) := by decide +kernel
theorem dX8_bestPlay_82 : decode cX8_bestPlay 82 = .ok (.goto (-76), 3) := by decide +kernel
theorem dX8_bestPlay_85 : decode cX8_bestPlay 85 = .ok (.iload_n 1, 1) := by decide +kernel
theorem dX8_bestPlay_86 : decode cX8_bestPlay 86 = .ok (.ireturn, 1) := by decide +kernel
set_option maxRecDepth 20000 in
theorem ggX8_pips_X8_isInHand : GoodIn wsX8_pips wsX8_isInHand := goodIn_r _ [5, 6, 10, 11, 12, 13, 14, 15, 16, 17, 18, 19, 20, 21, 22, 23, 24, 25, 26, 27, 28, 29, 30, 31] rfl (by decide +kernel)
set_option maxRecDepth 20000 in
theorem gX8_pips_X8_isInHand : GoodIn wsX8_pips (wsV RX8 203 RX8 yX8_isInHand wsX8_isInHand) := goodIn_app (goodIn_of _ (by decide +kernel)) ggX8_pips_X8_isInHand
set_option maxRecDepth 20000 in
theorem ggX8_pips_X8_pipsOf : GoodIn wsX8_pips wsX8_pipsOf := goodIn_r _ [9] rfl (by decide +kernel)
set_option maxRecDepth 20000 in
theorem gX8_pips_X8_pipsOf : GoodIn wsX8_pips (va_wsS RX8 227 yX8_pipsOf wsX8_pipsOf) := goodIn_app (goodIn_of _ (by decide +kernel)) ggX8_pips_X8_pipsOf
theorem dX8_pips_0 : decode cX8_pips 0 = .ok (.iconst 0, 1) := by decide +kernel
theorem dX8_pips_1 : decode cX8_pips 1 = .ok (.istore_n 2, 1) := by decide +kernel
theorem dX8_pips_2 : decode cX8_pips 2 = .ok (.iconst 0, 1) := by decide +kernel
theorem dX8_pips_3 : decode cX8_pips 3 = .ok (.istore_n 3, 1) := by decide +kernel
