theorem dX8_pipsOf_3 : decode cX8_pipsOf 3 = .ok (.idiv, 1) := by decide +kernel
theorem dX8_pipsOf_4 : decode cX8_pipsOf 4 = .ok (.iload_n 0, 1) := by decide +kernel
theorem dX8_pipsOf_5 : decode cX8_pipsOf 5 = .ok (.bipush 10, 2) := by decide +kernel
theorem dX8_pipsOf_7 : decode cX8_pipsOf 7 = .ok (.irem, 1) := by decide +kernel
theorem dX8_pipsOf_8 : decode cX8_pipsOf 8 = .ok (.iadd, 1) := by decide +kernel
theorem dX8_pipsOf_9 : decode cX8_pipsOf 9 = .ok (.ireturn, 1) := by decide +kernel
theorem dX8_isDouble_0 : decode cX8_isDouble 0 = .ok (.iload_n 0, 1) := by decide +kernel
theorem dX8_isDouble_1 : decode cX8_isDouble 1 = .ok (.bipush 10, 2) := by decide +kernel
theorem dX8_isDouble_3 : decode cX8_isDouble 3 = .ok (.idiv, 1) := by decide +kernel
theorem dX8_isDouble_4 : decode cX8_isDouble 4 = .ok (.iload_n 0, 1) := by decide +kernel
theorem dX8_isDouble_5 : decode cX8_isDouble 5 = .ok (.bipush 10, 2) := by decide +kernel
theorem dX8_isDouble_7 : decode cX8_isDouble 7 = .ok (.irem, 1) := by decide +kernel
theorem dX8_isDouble_8 : decode cX8_isDouble 8 = .ok (.if_icmp .ne 7, 3) := by decide +kernel
theorem dX8_isDouble_11 : decode cX8_isDouble 11 = .ok (.iconst 1, 1) := by decide +kernel
theorem dX8_isDouble_12 : decode cX8_isDouble 12 = .ok (.goto 4, 3) := by decide +kernel
theorem dX8_isDouble_15 : decode cX8_isDouble 15 = .ok (.iconst 0, 1) := by decide +kernel
theorem dX8_isDouble_16 : decode cX8_isDouble 16 = .ok (.ireturn, 1) := by decide +kernel
set_option maxRecDepth 20000 in
theorem ggX8_codeOf_X8_min : GoodIn wsX8_codeOf wsX8_min := goodIn_r _ [4] rfl (by decide +kernel)
set_option maxRecDepth 20000 in
theorem gX8_codeOf_X8_min : GoodIn wsX8_codeOf (va_wsS RX8 60 yX8_min wsX8_min) := goodIn_app (goodIn_of _ (by decide +kernel)) ggX8_codeOf_X8_min
theorem dX8_codeOf_0 : decode cX8_codeOf 0 = .ok (.bipush 10, 2) := by decide +kernel
theorem dX8_codeOf_2 : decode cX8_codeOf 2 = .ok (.iload_n 0, 1) := by decide +kernel
theorem dX8_codeOf_3 : decode cX8_codeOf 3 = .ok (.iload_n 1, 1) := by decide +kernel
theorem dX8_codeOf_4 : decode cX8_codeOf 4 = .ok (.invokestatic 60, 3) := by decide +kernel
theorem dX8_codeOf_7 : decode cX8_codeOf 7 = .ok (.imul, 1) := by decide +kernel
theorem dX8_codeOf_8 : decode cX8_codeOf 8 = .ok (.iload_n 0, 1) := by decide +kernel
theorem dX8_codeOf_9 : decode cX8_codeOf 9 = .ok (.iadd, 1) := by decide +kernel
theorem dX8_codeOf_10 : decode cX8_codeOf 10 = .ok (.iload_n 1, 1) := by decide +kernel
theorem dX8_codeOf_11 : decode cX8_codeOf 11 = .ok (.iadd, 1) := by decide +kernel
theorem dX8_codeOf_12 : decode cX8_codeOf 12 = .ok (.iload_n 0, 1) := by decide +kernel
theorem dX8_codeOf_13 : decode cX8_codeOf 13 = .ok (.iload_n 1, 1) := by decide +kernel
theorem dX8_codeOf_14 : decode cX8_codeOf 14 = .ok (.invokestatic 60, 3) := by decide +kernel
theorem dX8_codeOf_17 : decode cX8_codeOf 17 = .ok (.isub, 1) := by decide +kernel
theorem dX8_codeOf_18 : decode cX8_codeOf 18 = .ok (.ireturn, 1) := by decide +kernel
theorem dX8_handOf_0 : decode cX8_handOf 0 = .ok (.iconst 0, 1) := by decide +kernel
theorem dX8_handOf_1 : decode cX8_handOf 1 = .ok (.istore_n 2, 1) := by decide +kernel
theorem dX8_handOf_2 : decode cX8_handOf 2 = .ok (.iconst 0, 1) := by decide +kernel
theorem dX8_handOf_3 : decode cX8_handOf 3 = .ok (.istore_n 3, 1) := by decide +kernel
theorem dX8_handOf_4 : decode cX8_handOf 4 = .ok (.iload_n 3, 1) := by decide +kernel
theorem dX8_handOf_5 : decode cX8_handOf 5 = .ok (.bipush 100, 2) := by decide +kernel
theorem dX8_handOf_7 : decode cX8_handOf 7 = .ok (.if_icmp .ge 27, 3) := by decide +kernel
theorem dX8_handOf_10 : decode cX8_handOf 10 = .ok (.iload_n 2, 1) := by decide +kernel
theorem dX8_handOf_11 : decode cX8_handOf 11 = .ok (.aload_n 0, 1) := by decide +kernel
theorem dX8_handOf_12 : decode cX8_handOf 12 = .ok (.bipush 19, 2) := by decide +kernel
theorem dX8_handOf_14 : decode cX8_handOf 14 = .ok (.iload_n 3, 1) := by decide +kernel
theorem dX8_handOf_15 : decode cX8_handOf 15 = .ok (.iadd, 1) := by decide +kernel
theorem dX8_handOf_16 : decode cX8_handOf 16 = .ok (.iaload, 1) := by decide +kernel
theorem dX8_handOf_17 : decode cX8_handOf 17 = .ok (.iload_n 1, 1) := by decide +kernel
theorem dX8_handOf_18 : decode cX8_handOf 18 = .ok (.if_icmp .ne 7, 3) := by decide +kernel
theorem dX8_handOf_21 : decode cX8_handOf 21 = .ok (.iconst 1, 1) := by decide +kernel
theorem dX8_handOf_22 : decode cX8_handOf 22 = .ok (.goto 4, 3) := by decide +kernel
theorem dX8_handOf_25 : decode cX8_handOf 25 = .ok (.iconst 0, 1) := by decide +kernel
theorem dX8_handOf_26 : decode cX8_handOf 26 = .ok (.iadd, 1) := by decide +kernel
theorem dX8_handOf_27 : decode cX8_handOf 27 = .ok (.istore_n 2, 1) := by decide +kernel
theorem dX8_handOf_28 : decode cX8_handOf 28 = .ok (.iinc 3 1, 3) := by decide +kernel
theorem dX8_handOf_31 : decode cX8_handOf 31 = .ok (.goto (-27), 3) := by decide +kernel
theorem dX8_handOf_34 : decode cX8_handOf 34 = .ok (.iload_n 2, 1) := by decide +kernel
theorem dX8_handOf_35 : decode cX8_handOf 35 = .ok (.ireturn, 1) := by decide +kernel
set_option maxRecDepth 20000 in
theorem ggX8_deal_X8_isTile : GoodIn wsX8_deal wsX8_isTile := goodIn_r _ [5, 6, 7, 4, 8] rfl (by decide +kernel)
set_option maxRecDepth 20000 in
theorem gX8_deal_X8_isTile : GoodIn wsX8_deal (va_wsS RX8 64 yX8_isTile wsX8_isTile) := goodIn_app (goodIn_of _ (by decide +kernel)) ggX8_deal_X8_isTile
set_option maxRecDepth 20000 in
theorem ggX8_deal_X8_handOf : GoodIn wsX8_deal wsX8_handOf := goodIn_r _ [11] rfl (by decide +kernel)
set_option maxRecDepth 20000 in
theorem gX8_deal_X8_handOf : GoodIn wsX8_deal (va_wsS RX8 69 yX8_handOf wsX8_handOf) := goodIn_app (goodIn_of _ (by decide +kernel)) ggX8_deal_X8_handOf
set_option maxRecDepth 20000 in
theorem ggX8_deal_X8_trainAt : GoodIn wsX8_deal wsX8_trainAt := goodIn_r _ [14] rfl (by decide +kernel)
set_option maxRecDepth 20000 in
theorem gX8_deal_X8_trainAt : GoodIn wsX8_deal (va_wsS RX8 73 yX8_trainAt wsX8_trainAt) := goodIn_app (goodIn_of _ (by decide +kernel)) ggX8_deal_X8_trainAt
theorem dX8_deal_0 : decode cX8_deal 0 = .ok (.iconst 0, 1) := by decide +kernel
theorem dX8_deal_1 : decode cX8_deal 1 = .ok (.istore_n 1, 1) := by decide +kernel
theorem dX8_deal_2 : decode cX8_deal 2 = .ok (.iconst 0, 1) := by decide +kernel
theorem dX8_deal_3 : decode cX8_deal 3 = .ok (.istore_n 2, 1) := by decide +kernel
theorem dX8_deal_4 : decode cX8_deal 4 = .ok (.iconst 0, 1) := by decide +kernel
theorem dX8_deal_5 : decode cX8_deal 5 = .ok (.istore_n 3, 1) := by decide +kernel
theorem dX8_deal_6 : decode cX8_deal 6 = .ok (.iload_n 3, 1) := by decide +kernel
theorem dX8_deal_7 : decode cX8_deal 7 = .ok (.bipush 100, 2) := by decide +kernel
theorem dX8_deal_9 : decode cX8_deal 9 = .ok (.if_icmp .ge 50, 3) := by decide +kernel
theorem dX8_deal_12 : decode cX8_deal 12 = .ok (.aload_n 0, 1) := by decide +kernel
theorem dX8_deal_13 : decode cX8_deal 13 = .ok (.iload_n 3, 1) := by decide +kernel
theorem dX8_deal_14 : decode cX8_deal 14 = .ok (.invokestatic 64, 3) := by decide +kernel
theorem dX8_deal_17 : decode cX8_deal 17 = .ok (.ifCond .eq 36, 3) := by decide +kernel
theorem dX8_deal_20 : decode cX8_deal 20 = .ok (.aload_n 0, 1) := by decide +kernel
theorem dX8_deal_21 : decode cX8_deal 21 = .ok (.bipush 19, 2) := by decide +kernel
theorem dX8_deal_23 : decode cX8_deal 23 = .ok (.iload_n 3, 1) := by decide +kernel
theorem dX8_deal_24 : decode cX8_deal 24 = .ok (.iadd, 1) := by decide +kernel
theorem dX8_deal_25 : decode cX8_deal 25 = .ok (.iaload, 1) := by decide +kernel
theorem dX8_deal_26 : decode cX8_deal 26 = .ok (.iconst (-1), 1) := by decide +kernel
theorem dX8_deal_27 : decode cX8_deal 27 = .ok (.if_icmp .ne 26, 3) := by decide +kernel
theorem dX8_deal_30 : decode cX8_deal 30 = .ok (.iload_n 3, 1) := by decide +kernel
theorem dX8_deal_31 : decode cX8_deal 31 = .ok (.bipush 11, 2) := by decide +kernel
theorem dX8_deal_33 : decode cX8_deal 33 = .ok (.aload_n 0, 1) := by decide +kernel
theorem dX8_deal_34 : decode cX8_deal 34 = .ok (.iconst 3, 1) := by decide +kernel
theorem dX8_deal_35 : decode cX8_deal 35 = .ok (.iaload, 1) := by decide +kernel
theorem dX8_deal_36 : decode cX8_deal 36 = .ok (.imul, 1) := by decide +kernel
theorem dX8_deal_37 : decode cX8_deal 37 = .ok (.if_icmp .ne 6, 3) := by decide +kernel
theorem dX8_deal_40 : decode cX8_deal 40 = .ok (.goto 13, 3) := by decide +kernel
theorem dX8_deal_43 : decode cX8_deal 43 = .ok (.aload_n 0, 1) := by decide +kernel
theorem dX8_deal_44 : decode cX8_deal 44 = .ok (.bipush 119, 2) := by decide +kernel
theorem dX8_deal_46 : decode cX8_deal 46 = .ok (.iload_n 1, 1) := by decide +kernel
theorem dX8_deal_47 : decode cX8_deal 47 = .ok (.iadd, 1) := by decide +kernel
theorem dX8_deal_48 : decode cX8_deal 48 = .ok (.iload_n 3, 1) := by decide +kernel
theorem dX8_deal_49 : decode cX8_deal 49 = .ok (.iastore, 1) := by decide +kernel
theorem dX8_deal_50 : decode cX8_deal 50 = .ok (.iinc 1 1, 3) := by decide +kernel
theorem dX8_deal_53 : decode cX8_deal 53 = .ok (.iinc 3 1, 3) := by decide +kernel
theorem dX8_deal_56 : decode cX8_deal 56 = .ok (.goto (-50), 3) := by decide +kernel
theorem dX8_deal_59 : decode cX8_deal 59 = .ok (.iload_n 1, 1) := by decide +kernel
theorem dX8_deal_60 : decode cX8_deal 60 = .ok (.iconst 1, 1) := by decide +kernel
theorem dX8_deal_61 : decode cX8_deal 61 = .ok (.isub, 1) := by decide +kernel
theorem dX8_deal_62 : decode cX8_deal 62 = .ok (.istore_n 3, 1) := by decide +kernel
theorem dX8_deal_63 : decode cX8_deal 63 = .ok (.iload_n 3, 1) := by decide +kernel
theorem dX8_deal_64 : decode cX8_deal 64 = .ok (.ifCond .le 71, 3) := by decide +kernel
theorem dX8_deal_67 : decode cX8_deal 67 = .ok (.aload_n 0, 1) := by decide +kernel
theorem dX8_deal_68 : decode cX8_deal 68 = .ok (.bipush 11, 2) := by decide +kernel
theorem dX8_deal_70 : decode cX8_deal 70 = .ok (.aload_n 0, 1) := by decide +kernel
theorem dX8_deal_71 : decode cX8_deal 71 = .ok (.bipush 11, 2) := by decide +kernel
theorem dX8_deal_73 : decode cX8_deal 73 = .ok (.iaload, 1) := by decide +kernel
theorem dX8_deal_74 : decode cX8_deal 74 = .ok (.ldc 68, 2) := by decide +kernel
theorem dX8_deal_76 : decode cX8_deal 76 = .ok (.imul, 1) := by decide +kernel
theorem dX8_deal_77 : decode cX8_deal 77 = .ok (.sipush 12345, 3) := by decide +kernel
theorem dX8_deal_80 : decode cX8_deal 80 = .ok (.iadd, 1) := by decide +kernel
theorem dX8_deal_81 : decode cX8_deal 81 = .ok (.iastore, 1) := by decide +kernel
theorem dX8_deal_82 : decode cX8_deal 82 = .ok (.aload_n 0, 1) := by decide +kernel
theorem dX8_deal_83 : decode cX8_deal 83 = .ok (.bipush 11, 2) := by decide +kernel
theorem dX8_deal_85 : decode cX8_deal 85 = .ok (.iaload, 1) := by decide +kernel
theorem dX8_deal_86 : decode cX8_deal 86 = .ok (.bipush 16, 2) := by decide +kernel
theorem dX8_deal_88 : decode cX8_deal 88 = .ok (.iushr, 1) := by decide +kernel
theorem dX8_deal_89 : decode cX8_deal 89 = .ok (.sipush 32767, 3) := by decide +kernel
theorem dX8_deal_92 : decode cX8_deal 92 = .ok (.iand, 1) := by decide +kernel
theorem dX8_deal_93 : decode cX8_deal 93 = .ok (.iload_n 3, 1) := by decide +kernel
theorem dX8_deal_94 : decode cX8_deal 94 = .ok (.iconst 1, 1) := by decide +kernel
theorem dX8_deal_95 : decode cX8_deal 95 = .ok (.iadd, 1) := by decide +kernel
theorem dX8_deal_96 : decode cX8_deal 96 = .ok (.irem, 1) := by decide +kernel
theorem dX8_deal_97 : decode cX8_deal 97 = .ok (.istore 4, 2) := by decide +kernel
theorem dX8_deal_99 : decode cX8_deal 99 = .ok (.aload_n 0, 1) := by decide +kernel
theorem dX8_deal_100 : decode cX8_deal 100 = .ok (.bipush 119, 2) := by decide +kernel
theorem dX8_deal_102 : decode cX8_deal 102 = .ok (.iload_n 3, 1) := by decide +kernel
theorem dX8_deal_103 : decode cX8_deal 103 = .ok (.iadd, 1) := by decide +kernel
theorem dX8_deal_104 : decode cX8_deal 104 = .ok (.iaload, 1) := by decide +kernel
theorem dX8_deal_105 : decode cX8_deal 105 = .ok (.istore 5, 2) := by decide +kernel
theorem dX8_deal_107 : decode cX8_deal 107 = .ok (.aload_n 0, 1) := by decide +kernel
theorem dX8_deal_108 : decode cX8_deal 108 = .ok (.bipush 119, 2) := by decide +kernel
theorem dX8_deal_110 : decode cX8_deal 110 = .ok (.iload_n 3, 1) := by decide +kernel
theorem dX8_deal_111 : decode cX8_deal 111 = .ok (.iadd, 1) := by decide +kernel
theorem dX8_deal_112 : decode cX8_deal 112 = .ok (.aload_n 0, 1) := by decide +kernel
theorem dX8_deal_113 : decode cX8_deal 113 = .ok (.bipush 119, 2) := by decide +kernel
theorem dX8_deal_115 : decode cX8_deal 115 = .ok (.iload 4, 2) := by decide +kernel
theorem dX8_deal_117 : decode cX8_deal 117 = .ok (.iadd, 1) := by decide +kernel
theorem dX8_deal_118 : decode cX8_deal 118 = .ok (.iaload, 1) := by decide +kernel
theorem dX8_deal_119 : decode cX8_deal 119 = .ok (.iastore, 1) := by decide +kernel
theorem dX8_deal_120 : decode cX8_deal 120 = .ok (.aload_n 0, 1) := by decide +kernel
theorem dX8_deal_121 : decode cX8_deal 121 = .ok (.bipush 119, 2) := by decide +kernel
theorem dX8_deal_123 : decode cX8_deal 123 = .ok (.iload 4, 2) := by decide +kernel
theorem dX8_deal_125 : decode cX8_deal 125 = .ok (.iadd, 1) := by decide +kernel
theorem dX8_deal_126 : decode cX8_deal 126 = .ok (.iload 5, 2) := by decide +kernel
theorem dX8_deal_128 : decode cX8_deal 128 = .ok (.iastore, 1) := by decide +kernel
theorem dX8_deal_129 : decode cX8_deal 129 = .ok (.iinc 3 (-1), 3) := by decide +kernel
theorem dX8_deal_132 : decode cX8_deal 132 = .ok (.goto (-69), 3) := by decide +kernel
theorem dX8_deal_135 : decode cX8_deal 135 = .ok (.iconst 0, 1) := by decide +kernel
theorem dX8_deal_136 : decode cX8_deal 136 = .ok (.istore_n 3, 1) := by decide +kernel
theorem dX8_deal_137 : decode cX8_deal 137 = .ok (.iload_n 3, 1) := by decide +kernel
theorem dX8_deal_138 : decode cX8_deal 138 = .ok (.aload_n 0, 1) := by decide +kernel
theorem dX8_deal_139 : decode cX8_deal 139 = .ok (.iconst 1, 1) := by decide +kernel
theorem dX8_deal_140 : decode cX8_deal 140 = .ok (.iaload, 1) := by decide +kernel
theorem dX8_deal_141 : decode cX8_deal 141 = .ok (.if_icmp .ge 50, 3) := by decide +kernel
theorem dX8_deal_144 : decode cX8_deal 144 = .ok (.aload_n 0, 1) := by decide +kernel
theorem dX8_deal_145 : decode cX8_deal 145 = .ok (.iload_n 3, 1) := by decide +kernel
theorem dX8_deal_146 : decode cX8_deal 146 = .ok (.invokestatic 69, 3) := by decide +kernel
theorem dX8_deal_149 : decode cX8_deal 149 = .ok (.istore 4, 2) := by decide +kernel
theorem dX8_deal_151 : decode cX8_deal 151 = .ok (.iload 4, 2) := by decide +kernel
theorem dX8_deal_153 : decode cX8_deal 153 = .ok (.aload_n 0, 1) := by decide +kernel
theorem dX8_deal_154 : decode cX8_deal 154 = .ok (.iconst 2, 1) := by decide +kernel
theorem dX8_deal_155 : decode cX8_deal 155 = .ok (.iaload, 1) := by decide +kernel
theorem dX8_deal_156 : decode cX8_deal 156 = .ok (.if_icmp .ge 29, 3) := by decide +kernel
theorem dX8_deal_159 : decode cX8_deal 159 = .ok (.iload_n 2, 1) := by decide +kernel
theorem dX8_deal_160 : decode cX8_deal 160 = .ok (.iload_n 1, 1) := by decide +kernel
theorem dX8_deal_161 : decode cX8_deal 161 = .ok (.if_icmp .ge 24, 3) := by decide +kernel
theorem dX8_deal_164 : decode cX8_deal 164 = .ok (.aload_n 0, 1) := by decide +kernel
theorem dX8_deal_165 : decode cX8_deal 165 = .ok (.bipush 19, 2) := by decide +kernel
theorem dX8_deal_167 : decode cX8_deal 167 = .ok (.aload_n 0, 1) := by decide +kernel
theorem dX8_deal_168 : decode cX8_deal 168 = .ok (.bipush 119, 2) := by decide +kernel
theorem dX8_deal_170 : decode cX8_deal 170 = .ok (.iload_n 2, 1) := by decide +kernel
theorem dX8_deal_171 : decode cX8_deal 171 = .ok (.iadd, 1) := by decide +kernel
theorem dX8_deal_172 : decode cX8_deal 172 = .ok (.iaload, 1) := by decide +kernel
theorem dX8_deal_173 : decode cX8_deal 173 = .ok (.iadd, 1) := by decide +kernel
theorem dX8_deal_174 : decode cX8_deal 174 = .ok (.iload_n 3, 1) := by decide +kernel
theorem dX8_deal_175 : decode cX8_deal 175 = .ok (.iastore, 1) := by decide +kernel
theorem dX8_deal_176 : decode cX8_deal 176 = .ok (.iinc 2 1, 3) := by decide +kernel
theorem dX8_deal_179 : decode cX8_deal 179 = .ok (.iinc 4 1, 3) := by decide +kernel
theorem dX8_deal_182 : decode cX8_deal 182 = .ok (.goto (-31), 3) := by decide +kernel
theorem dX8_deal_185 : decode cX8_deal 185 = .ok (.iinc 3 1, 3) := by decide +kernel
theorem dX8_deal_188 : decode cX8_deal 188 = .ok (.goto (-51), 3) := by decide +kernel
theorem dX8_deal_191 : decode cX8_deal 191 = .ok (.aload_n 0, 1) := by decide +kernel
theorem dX8_deal_192 : decode cX8_deal 192 = .ok (.bipush 12, 2) := by decide +kernel
theorem dX8_deal_194 : decode cX8_deal 194 = .ok (.iload_n 2, 1) := by decide +kernel
theorem dX8_deal_195 : decode cX8_deal 195 = .ok (.iastore, 1) := by decide +kernel
theorem dX8_deal_196 : decode cX8_deal 196 = .ok (.aload_n 0, 1) := by decide +kernel
theorem dX8_deal_197 : decode cX8_deal 197 = .ok (.bipush 7, 2) := by decide +kernel
theorem dX8_deal_199 : decode cX8_deal 199 = .ok (.iload_n 1, 1) := by decide +kernel
theorem dX8_deal_200 : decode cX8_deal 200 = .ok (.iload_n 2, 1) := by decide +kernel
theorem dX8_deal_201 : decode cX8_deal 201 = .ok (.isub, 1) := by decide +kernel
theorem dX8_deal_202 : decode cX8_deal 202 = .ok (.iastore, 1) := by decide +kernel
theorem dX8_deal_203 : decode cX8_deal 203 = .ok (.iconst 0, 1) := by decide +kernel
theorem dX8_deal_204 : decode cX8_deal 204 = .ok (.istore_n 3, 1) := by decide +kernel
theorem dX8_deal_205 : decode cX8_deal 205 = .ok (.iload_n 3, 1) := by decide +kernel
theorem dX8_deal_206 : decode cX8_deal 206 = .ok (.aload_n 0, 1) := by decide +kernel
theorem dX8_deal_207 : decode cX8_deal 207 = .ok (.iconst 1, 1) := by decide +kernel
theorem dX8_deal_208 : decode cX8_deal 208 = .ok (.iaload, 1) := by decide +kernel
theorem dX8_deal_209 : decode cX8_deal 209 = .ok (.if_icmp .gt 49, 3) := by decide +kernel
theorem dX8_deal_212 : decode cX8_deal 212 = .ok (.aload_n 0, 1) := by decide +kernel
theorem dX8_deal_213 : decode cX8_deal 213 = .ok (.iload_n 3, 1) := by decide +kernel
theorem dX8_deal_214 : decode cX8_deal 214 = .ok (.invokestatic 73, 3) := by decide +kernel
theorem dX8_deal_217 : decode cX8_deal 217 = .ok (.iconst 0, 1) := by decide +kernel
theorem dX8_deal_218 : decode cX8_deal 218 = .ok (.iadd, 1) := by decide +kernel
theorem dX8_deal_219 : decode cX8_deal 219 = .ok (.iconst 0, 1) := by decide +kernel
theorem dX8_deal_220 : decode cX8_deal 220 = .ok (.iastore, 1) := by decide +kernel
theorem dX8_deal_221 : decode cX8_deal 221 = .ok (.aload_n 0, 1) := by decide +kernel
theorem dX8_deal_222 : decode cX8_deal 222 = .ok (.iload_n 3, 1) := by decide +kernel
theorem dX8_deal_223 : decode cX8_deal 223 = .ok (.invokestatic 73, 3) := by decide +kernel
theorem dX8_deal_226 : decode cX8_deal 226 = .ok (.iconst 1, 1) := by decide +kernel
theorem dX8_deal_227 : decode cX8_deal 227 = .ok (.iadd, 1) := by decide +kernel
theorem dX8_deal_228 : decode cX8_deal 228 = .ok (.aload_n 0, 1) := by decide +kernel
theorem dX8_deal_229 : decode cX8_deal 229 = .ok (.iconst 3, 1) := by decide +kernel
theorem dX8_deal_230 : decode cX8_deal 230 = .ok (.iaload, 1) := by decide +kernel
theorem dX8_deal_231 : decode cX8_deal 231 = .ok (.iastore, 1) := by decide +kernel
theorem dX8_deal_232 : decode cX8_deal 232 = .ok (.aload_n 0, 1) := by decide +kernel
theorem dX8_deal_233 : decode cX8_deal 233 = .ok (.iload_n 3, 1) := by decide +kernel
theorem dX8_deal_234 : decode cX8_deal 234 = .ok (.invokestatic 73, 3) := by decide +kernel
theorem dX8_deal_237 : decode cX8_deal 237 = .ok (.iconst 2, 1) := by decide +kernel
theorem dX8_deal_238 : decode cX8_deal 238 = .ok (.iadd, 1) := by decide +kernel
theorem dX8_deal_239 : decode cX8_deal 239 = .ok (.iload_n 3, 1) := by decide +kernel
theorem dX8_deal_240 : decode cX8_deal 240 = .ok (.aload_n 0, 1) := by decide +kernel
theorem dX8_deal_241 : decode cX8_deal 241 = .ok (.iconst 1, 1) := by decide +kernel
theorem dX8_deal_242 : decode cX8_deal 242 = .ok (.iaload, 1) := by decide +kernel
theorem dX8_deal_243 : decode cX8_deal 243 = .ok (.if_icmp .ne 7, 3) := by decide +kernel
theorem dX8_deal_246 : decode cX8_deal 246 = .ok (.iconst 1, 1) := by decide +kernel
theorem dX8_deal_247 : decode cX8_deal 247 = .ok (.goto 4, 3) := by decide +kernel
theorem dX8_deal_250 : decode cX8_deal 250 = .ok (.iconst 0, 1) := by decide +kernel
theorem dX8_deal_251 : decode cX8_deal 251 = .ok (.iastore, 1) := by decide +kernel
theorem dX8_deal_252 : decode cX8_deal 252 = .ok (.iinc 3 1, 3) := by decide +kernel
theorem dX8_deal_255 : decode cX8_deal 255 = .ok (.goto (-50), 3) := by decide +kernel
theorem dX8_deal_258 : decode cX8_deal 258 = .ok (.aload_n 0, 1) := by decide +kernel
theorem dX8_deal_259 : decode cX8_deal 259 = .ok (.iconst 4, 1) := by decide +kernel
theorem dX8_deal_260 : decode cX8_deal 260 = .ok (.iconst 0, 1) := by decide +kernel
theorem dX8_deal_261 : decode cX8_deal 261 = .ok (.iastore, 1) := by decide +kernel
theorem dX8_deal_262 : decode cX8_deal 262 = .ok (.aload_n 0, 1) := by decide +kernel
theorem dX8_deal_263 : decode cX8_deal 263 = .ok (.iconst 5, 1) := by decide +kernel
theorem dX8_deal_264 : decode cX8_deal 264 = .ok (.iconst 0, 1) := by decide +kernel
theorem dX8_deal_265 : decode cX8_deal 265 = .ok (.iastore, 1) := by decide +kernel
theorem dX8_deal_266 : decode cX8_deal 266 = .ok (.aload_n 0, 1) := by decide +kernel
theorem dX8_deal_267 : decode cX8_deal 267 = .ok (.bipush 6, 2) := by decide +kernel
theorem dX8_deal_269 : decode cX8_deal 269 = .ok (.iconst (-1), 1) := by decide +kernel
theorem dX8_deal_270 : decode cX8_deal 270 = .ok (.iastore, 1) := by decide +kernel
theorem dX8_deal_271 : decode cX8_deal 271 = .ok (.aload_n 0, 1) := by decide +kernel
theorem dX8_deal_272 : decode cX8_deal 272 = .ok (.bipush 8, 2) := by decide +kernel
theorem dX8_deal_274 : decode cX8_deal 274 = .ok (.iconst 0, 1) := by decide +kernel
theorem dX8_deal_275 : decode cX8_deal 275 = .ok (.iastore, 1) := by decide +kernel
theorem dX8_deal_276 : decode cX8_deal 276 = .ok (.aload_n 0, 1) := by decide +kernel
theorem dX8_deal_277 : decode cX8_deal 277 = .ok (.bipush 10, 2) := by decide +kernel
theorem dX8_deal_279 : decode cX8_deal 279 = .ok (.iconst 0, 1) := by decide +kernel
theorem dX8_deal_280 : decode cX8_deal 280 = .ok (.iastore, 1) := by decide +kernel
theorem dX8_deal_281 : decode cX8_deal 281 = .ok (.return_, 1) := by decide +kernel
theorem dX8_append_0 : decode cX8_append 0 = .ok (.aload_n 0, 1) := by decide +kernel
theorem dX8_append_1 : decode cX8_append 1 = .ok (.iconst 0, 1) := by decide +kernel
theorem dX8_append_2 : decode cX8_append 2 = .ok (.putfield 53, 3) := by decide +kernel
theorem dX8_append_5 : decode cX8_append 5 = .ok (.aload_n 0, 1) := by decide +kernel
theorem dX8_append_6 : decode cX8_append 6 = .ok (.getfield 77, 3) := by decide +kernel
theorem dX8_append_9 : decode cX8_append 9 = .ok (.bipush 20, 2) := by decide +kernel
theorem dX8_append_11 : decode cX8_append 11 = .ok (.iadd, 1) := by decide +kernel
theorem dX8_append_12 : decode cX8_append 12 = .ok (.sipush 500, 3) := by decide +kernel
theorem dX8_append_15 : decode cX8_append 15 = .ok (.if_icmp .le 5, 3) := by decide +kernel
theorem dX8_append_18 : decode cX8_append 18 = .ok (.iconst (-1), 1) := by decide +kernel
theorem dX8_append_19 : decode cX8_append 19 = .ok (.ireturn, 1) := by decide +kernel
theorem dX8_append_20 : decode cX8_append 20 = .ok (.iconst 0, 1) := by decide +kernel
theorem dX8_append_21 : decode cX8_append 21 = .ok (.istore 6, 2) := by decide +kernel
theorem dX8_append_23 : decode cX8_append 23 = .ok (.iload 6, 2) := by decide +kernel
theorem dX8_append_25 : decode cX8_append 25 = .ok (.bipush 20, 2) := by decide +kernel
theorem dX8_append_27 : decode cX8_append 27 = .ok (.if_icmp .ge 93, 3) := by decide +kernel
theorem dX8_append_30 : decode cX8_append 30 = .ok (.iload 6, 2) := by decide +kernel
theorem dX8_append_32 : decode cX8_append 32 = .ok (.iconst 4, 1) := by decide +kernel
theorem dX8_append_33 : decode cX8_append 33 = .ok (.if_icmp .ge 7, 3) := by decide +kernel
theorem dX8_append_36 : decode cX8_append 36 = .ok (.iload_n 1, 1) := by decide +kernel
theorem dX8_append_37 : decode cX8_append 37 = .ok (.goto 39, 3) := by decide +kernel
theorem dX8_append_40 : decode cX8_append 40 = .ok (.iload 6, 2) := by decide +kernel
theorem dX8_append_42 : decode cX8_append 42 = .ok (.bipush 8, 2) := by decide +kernel
theorem dX8_append_44 : decode cX8_append 44 = .ok (.if_icmp .ge 7, 3) := by decide +kernel
theorem dX8_append_47 : decode cX8_append 47 = .ok (.iload_n 2, 1) := by decide +kernel
theorem dX8_append_48 : decode cX8_append 48 = .ok (.goto 28, 3) := by decide +kernel
theorem dX8_append_51 : decode cX8_append 51 = .ok (.iload 6, 2) := by decide +kernel
theorem dX8_append_53 : decode cX8_append 53 = .ok (.bipush 12, 2) := by decide +kernel
theorem dX8_append_55 : decode cX8_append 55 = .ok (.if_icmp .ge 7, 3) := by decide +kernel
theorem dX8_append_58 : decode cX8_append 58 = .ok (.iload_n 3, 1) := by decide +kernel
theorem dX8_append_59 : decode cX8_append 59 = .ok (.goto 17, 3) := by decide +kernel
theorem dX8_append_62 : decode cX8_append 62 = .ok (.iload 6, 2) := by decide +kernel
theorem dX8_append_64 : decode cX8_append 64 = .ok (.bipush 16, 2) := by decide +kernel
theorem dX8_append_66 : decode cX8_append 66 = .ok (.if_icmp .ge 8, 3) := by decide +kernel
theorem dX8_append_69 : decode cX8_append 69 = .ok (.iload 4, 2) := by decide +kernel
theorem dX8_append_71 : decode cX8_append 71 = .ok (.goto 5, 3) := by decide +kernel
theorem dX8_append_74 : decode cX8_append 74 = .ok (.iload 5, 2) := by decide +kernel
theorem dX8_append_76 : decode cX8_append 76 = .ok (.istore 7, 2) := by decide +kernel
theorem dX8_append_78 : decode cX8_append 78 = .ok (.aload_n 0, 1) := by decide +kernel
theorem dX8_append_79 : decode cX8_append 79 = .ok (.getfield 9, 3) := by decide +kernel
theorem dX8_append_82 : decode cX8_append 82 = .ok (.aload_n 0, 1) := by decide +kernel
theorem dX8_append_83 : decode cX8_append 83 = .ok (.getfield 77, 3) := by decide +kernel
theorem dX8_append_86 : decode cX8_append 86 = .ok (.iload 7, 2) := by decide +kernel
theorem dX8_append_88 : decode cX8_append 88 = .ok (.bipush 24, 2) := by decide +kernel
theorem dX8_append_90 : decode cX8_append 90 = .ok (.bipush 8, 2) := by decide +kernel
theorem dX8_append_92 : decode cX8_append 92 = .ok (.iload 6, 2) := by decide +kernel
theorem dX8_append_94 : decode cX8_append 94 = .ok (.iconst 4, 1) := by decide +kernel
theorem dX8_append_95 : decode cX8_append 95 = .ok (.irem, 1) := by decide +kernel
theorem dX8_append_96 : decode cX8_append 96 = .ok (.imul, 1) := by decide +kernel
theorem dX8_append_97 : decode cX8_append 97 = .ok (.isub, 1) := by decide +kernel
theorem dX8_append_98 : decode cX8_append 98 = .ok (.ishr, 1) := by decide +kernel
theorem dX8_append_99 : decode cX8_append 99 = .ok (.sipush 255, 3) := by decide +kernel
theorem dX8_append_102 : decode cX8_append 102 = .ok (.iand, 1) := by decide +kernel
theorem dX8_append_103 : decode cX8_append 103 = .ok (.iastore, 1) := by decide +kernel
theorem dX8_append_104 : decode cX8_append 104 = .ok (.aload_n 0, 1) := by decide +kernel
theorem dX8_append_105 : decode cX8_append 105 = .ok (.dup, 1) := by decide +kernel
theorem dX8_append_106 : decode cX8_append 106 = .ok (.getfield 77, 3) := by decide +kernel
theorem dX8_append_109 : decode cX8_append 109 = .ok (.iconst 1, 1) := by decide +kernel
theorem dX8_append_110 : decode cX8_append 110 = .ok (.iadd, 1) := by decide +kernel
theorem dX8_append_111 : decode cX8_append 111 = .ok (.putfield 77, 3) := by decide +kernel
theorem dX8_append_114 : decode cX8_append 114 = .ok (.iinc 6 1, 3) := by decide +kernel
theorem dX8_append_117 : decode cX8_append 117 = .ok (.goto (-94), 3) := by decide +kernel
theorem dX8_append_120 : decode cX8_append 120 = .ok (.aload_n 0, 1) := by decide +kernel
theorem dX8_append_121 : decode cX8_append 121 = .ok (.getfield 77, 3) := by decide +kernel
theorem dX8_append_124 : decode cX8_append 124 = .ok (.ireturn, 1) := by decide +kernel
theorem dX8_byteAt_0 : decode cX8_byteAt 0 = .ok (.iload_n 1, 1) := by decide +kernel
theorem dX8_byteAt_1 : decode cX8_byteAt 1 = .ok (.aload_n 0, 1) := by decide +kernel
theorem dX8_byteAt_2 : decode cX8_byteAt 2 = .ok (.getfield 80, 3) := by decide +kernel
theorem dX8_byteAt_5 : decode cX8_byteAt 5 = .ok (.if_icmp .ge 12, 3) := by decide +kernel
theorem dX8_byteAt_8 : decode cX8_byteAt 8 = .ok (.aload_n 0, 1) := by decide +kernel
theorem dX8_byteAt_9 : decode cX8_byteAt 9 = .ok (.getfield 9, 3) := by decide +kernel
theorem dX8_byteAt_12 : decode cX8_byteAt 12 = .ok (.iload_n 1, 1) := by decide +kernel
theorem dX8_byteAt_13 : decode cX8_byteAt 13 = .ok (.iaload, 1) := by decide +kernel
theorem dX8_byteAt_14 : decode cX8_byteAt 14 = .ok (.goto 4, 3) := by decide +kernel
theorem dX8_byteAt_17 : decode cX8_byteAt 17 = .ok (.iconst (-1), 1) := by decide +kernel
theorem dX8_byteAt_18 : decode cX8_byteAt 18 = .ok (.ireturn, 1) := by decide +kernel
set_option maxRecDepth 20000 in
theorem ggX8_ahead_X8_byteAt : GoodIn wsX8_ahead wsX8_byteAt := goodIn_r _ [6, 7, 8, 9, 10, 11, 12, 13, 14, 15, 16, 17, 18, 19, 20, 21, 22, 23, 24, 25, 26, 27, 28, 29, 30] rfl (by decide +kernel)
set_option maxRecDepth 20000 in
theorem gX8_ahead_X8_byteAt : GoodIn wsX8_ahead (wsV RX8 86 RX8 yX8_byteAt wsX8_byteAt) := goodIn_app (goodIn_of _ (by decide +kernel)) ggX8_ahead_X8_byteAt
theorem dX8_ahead_0 : decode cX8_ahead 0 = .ok (.aload_n 0, 1) := by decide +kernel
theorem dX8_ahead_1 : decode cX8_ahead 1 = .ok (.aload_n 0, 1) := by decide +kernel
theorem dX8_ahead_2 : decode cX8_ahead 2 = .ok (.getfield 83, 3) := by decide +kernel
theorem dX8_ahead_5 : decode cX8_ahead 5 = .ok (.invokevirtual 86, 3) := by decide +kernel
theorem dX8_ahead_8 : decode cX8_ahead 8 = .ok (.bipush 32, 2) := by decide +kernel
theorem dX8_ahead_10 : decode cX8_ahead 10 = .ok (.if_icmp .ne 16, 3) := by decide +kernel
theorem dX8_ahead_13 : decode cX8_ahead 13 = .ok (.aload_n 0, 1) := by decide +kernel
theorem dX8_ahead_14 : decode cX8_ahead 14 = .ok (.dup, 1) := by decide +kernel
theorem dX8_ahead_15 : decode cX8_ahead 15 = .ok (.getfield 83, 3) := by decide +kernel
theorem dX8_ahead_18 : decode cX8_ahead 18 = .ok (.iconst 1, 1) := by decide +kernel
theorem dX8_ahead_19 : decode cX8_ahead 19 = .ok (.iadd, 1) := by decide +kernel
theorem dX8_ahead_20 : decode cX8_ahead 20 = .ok (.putfield 83, 3) := by decide +kernel
theorem dX8_ahead_23 : decode cX8_ahead 23 = .ok (.goto (-23), 3) := by decide +kernel
theorem dX8_ahead_26 : decode cX8_ahead 26 = .ok (.aload_n 0, 1) := by decide +kernel
theorem dX8_ahead_27 : decode cX8_ahead 27 = .ok (.aload_n 0, 1) := by decide +kernel
theorem dX8_ahead_28 : decode cX8_ahead 28 = .ok (.getfield 83, 3) := by decide +kernel
theorem dX8_ahead_31 : decode cX8_ahead 31 = .ok (.invokevirtual 86, 3) := by decide +kernel
theorem dX8_ahead_34 : decode cX8_ahead 34 = .ok (.ireturn, 1) := by decide +kernel
theorem dX8_isGood_0 : decode cX8_isGood 0 = .ok (.aload_n 0, 1) := by decide +kernel
theorem dX8_isGood_1 : decode cX8_isGood 1 = .ok (.getfield 89, 3) := by decide +kernel
theorem dX8_isGood_4 : decode cX8_isGood 4 = .ok (.ifCond .ne 7, 3) := by decide +kernel
theorem dX8_isGood_7 : decode cX8_isGood 7 = .ok (.iconst 1, 1) := by decide +kernel
theorem dX8_isGood_8 : decode cX8_isGood 8 = .ok (.goto 4, 3) := by decide +kernel
theorem dX8_isGood_11 : decode cX8_isGood 11 = .ok (.iconst 0, 1) := by decide +kernel
theorem dX8_isGood_12 : decode cX8_isGood 12 = .ok (.ireturn, 1) := by decide +kernel
theorem dX8_report_0 : decode cX8_report 0 = .ok (.aload_n 0, 1) := by decide +kernel
theorem dX8_report_1 : decode cX8_report 1 = .ok (.getfield 89, 3) := by decide +kernel
theorem dX8_report_4 : decode cX8_report 4 = .ok (.ifCond .eq 4, 3) := by decide +kernel
theorem dX8_report_7 : decode cX8_report 7 = .ok (.return_, 1) := by decide +kernel
theorem dX8_report_8 : decode cX8_report 8 = .ok (.aload_n 0, 1) := by decide +kernel
theorem dX8_report_9 : decode cX8_report 9 = .ok (.iload_n 1, 1) := by decide +kernel
theorem dX8_report_10 : decode cX8_report 10 = .ok (.putfield 89, 3) := by decide +kernel
theorem dX8_report_13 : decode cX8_report 13 = .ok (.aload_n 0, 1) := by decide +kernel
theorem dX8_report_14 : decode cX8_report 14 = .ok (.iload_n 2, 1) := by decide +kernel
theorem dX8_report_15 : decode cX8_report 15 = .ok (.putfield 92, 3) := by decide +kernel
theorem dX8_report_18 : decode cX8_report 18 = .ok (.return_, 1) := by decide +kernel
set_option maxRecDepth 20000 in
theorem ggX8_isDigit_X8_in : GoodIn wsX8_isDigit wsX8_in := goodIn_r _ [4] rfl (by decide +kernel)
set_option maxRecDepth 20000 in
theorem gX8_isDigit_X8_in : GoodIn wsX8_isDigit (va_wsS RX8 56 yX8_in wsX8_in) := goodIn_app (goodIn_of _ (by decide +kernel)) ggX8_isDigit_X8_in
theorem dX8_isDigit_0 : decode cX8_isDigit 0 = .ok (.iload_n 0, 1) := by decide +kernel
theorem dX8_isDigit_1 : decode cX8_isDigit 1 = .ok (.bipush 48, 2) := by decide +kernel
theorem dX8_isDigit_3 : decode cX8_isDigit 3 = .ok (.bipush 57, 2) := by decide +kernel
theorem dX8_isDigit_5 : decode cX8_isDigit 5 = .ok (.invokestatic 56, 3) := by decide +kernel
theorem dX8_isDigit_8 : decode cX8_isDigit 8 = .ok (.ireturn, 1) := by decide +kernel
set_option maxRecDepth 20000 in
theorem ggX8_takeWord_X8_isGood : GoodIn wsX8_takeWord wsX8_isGood := goodIn_r _ [6, 7, 70, 71, 72, 73, 74, 75, 76, 77, 78, 79, 80, 81, 82, 83, 84, 85, 86, 87, 88, 89, 90, 91] rfl (by decide +kernel)
set_option maxRecDepth 20000 in
theorem gX8_takeWord_X8_isGood : GoodIn wsX8_takeWord (wsV RX8 95 RX8 yX8_isGood wsX8_isGood) := goodIn_app (goodIn_of _ (by decide +kernel)) ggX8_takeWord_X8_isGood
set_option maxRecDepth 20000 in
theorem ggX8_takeWord_X8_ahead : GoodIn wsX8_takeWord wsX8_ahead := goodIn_r _ [11, 1, 12, 13, 14, 5, 15, 16, 17, 70, 71, 72, 73, 74, 75, 76, 77, 78, 79, 80, 81, 82, 83, 84, 85, 86, 87, 88, 89, 90, 91] rfl (by decide +kernel)
set_option maxRecDepth 20000 in
theorem gX8_takeWord_X8_ahead : GoodIn wsX8_takeWord (wsV RX8 99 RX8 yX8_ahead wsX8_ahead) := goodIn_app (goodIn_of _ (by decide +kernel)) ggX8_takeWord_X8_ahead
set_option maxRecDepth 20000 in
theorem ggX8_takeWord_J0_length_8abf5 : GoodIn wsX8_takeWord wsJ0_length_8abf5 := goodIn_r _ [22, 23, 24, 25, 26, 21, 27, 28, 29] rfl (by decide +kernel)
set_option maxRecDepth 20000 in
theorem gX8_takeWord_J0_length_8abf5 : GoodIn wsX8_takeWord (wsV RX8 103 RJ0 yJ0_length_8abf5 wsJ0_length_8abf5) := goodIn_app (goodIn_of _ (by decide +kernel)) ggX8_takeWord_J0_length_8abf5
set_option maxRecDepth 20000 in
theorem ggX8_takeWord_X8_byteAt : GoodIn wsX8_takeWord wsX8_byteAt := goodIn_r _ [15, 16, 17, 70, 71, 72, 73, 74, 75, 76, 77, 78, 79, 80, 81, 82, 83, 84, 85, 86, 87, 88, 89, 90, 91] rfl (by decide +kernel)
set_option maxRecDepth 20000 in
theorem gX8_takeWord_X8_byteAt : GoodIn wsX8_takeWord (wsV RX8 86 RX8 yX8_byteAt wsX8_byteAt) := goodIn_app (goodIn_of _ (by decide +kernel)) ggX8_takeWord_X8_byteAt
set_option maxRecDepth 20000 in
theorem ggX8_takeWord_J0_charAt_5068e : GoodIn wsX8_takeWord wsJ0_charAt_5068e := goodIn_r _ [33, 23, 34, 35, 36, 21, 37, 28, 29, 38, 39, 40, 41, 42, 43, 44, 45, 46, 47, 48, 49, 50, 51, 52, 53, 54, 55, 56, 57, 58, 59, 60, 61, 62, 63, 64, 65, 66] rfl (by decide +kernel)
set_option maxRecDepth 20000 in
theorem gX8_takeWord_J0_charAt_5068e : GoodIn wsX8_takeWord (wsV RX8 108 RJ0 yJ0_charAt_5068e wsJ0_charAt_5068e) := goodIn_app (goodIn_of _ (by decide +kernel)) ggX8_takeWord_J0_charAt_5068e
set_option maxRecDepth 20000 in
theorem ggX8_takeWord_X8_in : GoodIn wsX8_takeWord wsX8_in := goodIn_r _ [69] rfl (by decide +kernel)
set_option maxRecDepth 20000 in
theorem gX8_takeWord_X8_in : GoodIn wsX8_takeWord (va_wsS RX8 56 yX8_in wsX8_in) := goodIn_app (goodIn_of _ (by decide +kernel)) ggX8_takeWord_X8_in
theorem dX8_takeWord_0 : decode cX8_takeWord 0 = .ok (.aload_n 0, 1) := by decide +kernel
theorem dX8_takeWord_1 : decode cX8_takeWord 1 = .ok (.invokevirtual 95, 3) := by decide +kernel
theorem dX8_takeWord_4 : decode cX8_takeWord 4 = .ok (.ifCond .ne 5, 3) := by decide +kernel
theorem dX8_takeWord_7 : decode cX8_takeWord 7 = .ok (.iconst 0, 1) := by decide +kernel
theorem dX8_takeWord_8 : decode cX8_takeWord 8 = .ok (.ireturn, 1) := by decide +kernel
theorem dX8_takeWord_9 : decode cX8_takeWord 9 = .ok (.aload_n 0, 1) := by decide +kernel
theorem dX8_takeWord_10 : decode cX8_takeWord 10 = .ok (.invokevirtual 99, 3) := by decide +kernel
theorem dX8_takeWord_13 : decode cX8_takeWord 13 = .ok (.pop, 1) := by decide +kernel
theorem dX8_takeWord_14 : decode cX8_takeWord 14 = .ok (.iconst 0, 1) := by decide +kernel
theorem dX8_takeWord_15 : decode cX8_takeWord 15 = .ok (.istore_n 2, 1) := by decide +kernel
theorem dX8_takeWord_16 : decode cX8_takeWord 16 = .ok (.iload_n 2, 1) := by decide +kernel
theorem dX8_takeWord_17 : decode cX8_takeWord 17 = .ok (.aload_n 1, 1) := by decide +kernel
theorem dX8_takeWord_18 : decode cX8_takeWord 18 = .ok (.invokevirtual 103, 3) := by decide +kernel
theorem dX8_takeWord_21 : decode cX8_takeWord 21 = .ok (.if_icmp .ge 27, 3) := by decide +kernel
theorem dX8_takeWord_24 : decode cX8_takeWord 24 = .ok (.aload_n 0, 1) := by decide +kernel
theorem dX8_takeWord_25 : decode cX8_takeWord 25 = .ok (.aload_n 0, 1) := by decide +kernel
theorem dX8_takeWord_26 : decode cX8_takeWord 26 = .ok (.getfield 83, 3) := by decide +kernel
theorem dX8_takeWord_29 : decode cX8_takeWord 29 = .ok (.iload_n 2, 1) := by decide +kernel
theorem dX8_takeWord_30 : decode cX8_takeWord 30 = .ok (.iadd, 1) := by decide +kernel
theorem dX8_takeWord_31 : decode cX8_takeWord 31 = .ok (.invokevirtual 86, 3) := by decide +kernel
theorem dX8_takeWord_34 : decode cX8_takeWord 34 = .ok (.aload_n 1, 1) := by decide +kernel
theorem dX8_takeWord_35 : decode cX8_takeWord 35 = .ok (.iload_n 2, 1) := by decide +kernel
theorem dX8_takeWord_36 : decode cX8_takeWord 36 = .ok (.invokevirtual 108, 3) := by decide +kernel
theorem dX8_takeWord_39 : decode cX8_takeWord 39 = .ok (.if_icmp .ne 9, 3) := by decide +kernel
theorem dX8_takeWord_42 : decode cX8_takeWord 42 = .ok (.iinc 2 1, 3) := by decide +kernel
theorem dX8_takeWord_45 : decode cX8_takeWord 45 = .ok (.goto (-29), 3) := by decide +kernel
theorem dX8_takeWord_48 : decode cX8_takeWord 48 = .ok (.iload_n 2, 1) := by decide +kernel
theorem dX8_takeWord_49 : decode cX8_takeWord 49 = .ok (.aload_n 1, 1) := by decide +kernel
theorem dX8_takeWord_50 : decode cX8_takeWord 50 = .ok (.invokevirtual 103, 3) := by decide +kernel
theorem dX8_takeWord_53 : decode cX8_takeWord 53 = .ok (.if_icmp .lt 23, 3) := by decide +kernel
theorem dX8_takeWord_56 : decode cX8_takeWord 56 = .ok (.aload_n 0, 1) := by decide +kernel
theorem dX8_takeWord_57 : decode cX8_takeWord 57 = .ok (.aload_n 0, 1) := by decide +kernel
theorem dX8_takeWord_58 : decode cX8_takeWord 58 = .ok (.getfield 83, 3) := by decide +kernel
theorem dX8_takeWord_61 : decode cX8_takeWord 61 = .ok (.iload_n 2, 1) := by decide +kernel
theorem dX8_takeWord_62 : decode cX8_takeWord 62 = .ok (.iadd, 1) := by decide +kernel
theorem dX8_takeWord_63 : decode cX8_takeWord 63 = .ok (.invokevirtual 86, 3) := by decide +kernel
theorem dX8_takeWord_66 : decode cX8_takeWord 66 = .ok (.bipush 97, 2) := by decide +kernel
theorem dX8_takeWord_68 : decode cX8_takeWord 68 = .ok (.bipush 122, 2) := by decide +kernel
theorem dX8_takeWord_70 : decode cX8_takeWord 70 = .ok (.invokestatic 56, 3) := by decide +kernel
theorem dX8_takeWord_73 : decode cX8_takeWord 73 = .ok (.ifCond .eq 5, 3) := by decide +kernel
theorem dX8_takeWord_76 : decode cX8_takeWord 76 = .ok (.iconst 0, 1) := by decide +kernel
theorem dX8_takeWord_77 : decode cX8_takeWord 77 = .ok (.ireturn, 1) := by decide +kernel
theorem dX8_takeWord_78 : decode cX8_takeWord 78 = .ok (.aload_n 0, 1) := by decide +kernel
theorem dX8_takeWord_79 : decode cX8_takeWord 79 = .ok (.dup, 1) := by decide +kernel
theorem dX8_takeWord_80 : decode cX8_takeWord 80 = .ok (.getfield 83, 3) := by decide +kernel
theorem dX8_takeWord_83 : decode cX8_takeWord 83 = .ok (.iload_n 2, 1) := by decide +kernel
theorem dX8_takeWord_84 : decode cX8_takeWord 84 = .ok (.iadd, 1) := by decide +kernel
theorem dX8_takeWord_85 : decode cX8_takeWord 85 = .ok (.putfield 83, 3) := by decide +kernel
theorem dX8_takeWord_88 : decode cX8_takeWord 88 = .ok (.iconst 1, 1) := by decide +kernel
theorem dX8_takeWord_89 : decode cX8_takeWord 89 = .ok (.ireturn, 1) := by decide +kernel
set_option maxRecDepth 20000 in
theorem ggX8_expect_X8_isGood : GoodIn wsX8_expect wsX8_isGood := goodIn_r _ [6, 7, 23, 24, 25, 26, 27, 28, 29, 30, 31, 32, 33, 34, 35, 36, 37, 38, 39, 40, 41, 42, 43, 44] rfl (by decide +kernel)
set_option maxRecDepth 20000 in
theorem gX8_expect_X8_isGood : GoodIn wsX8_expect (wsV RX8 95 RX8 yX8_isGood wsX8_isGood) := goodIn_app (goodIn_of _ (by decide +kernel)) ggX8_expect_X8_isGood
set_option maxRecDepth 20000 in
theorem ggX8_expect_X8_ahead : GoodIn wsX8_expect wsX8_ahead := goodIn_r _ [11, 1, 12, 13, 14, 5, 15, 16, 17, 23, 24, 25, 26, 27, 28, 29, 30, 31, 32, 33, 34, 35, 36, 37, 38, 39, 40, 41, 42, 43, 44] rfl (by decide +kernel)
set_option maxRecDepth 20000 in
theorem gX8_expect_X8_ahead : GoodIn wsX8_expect (wsV RX8 99 RX8 yX8_ahead wsX8_ahead) := goodIn_app (goodIn_of _ (by decide +kernel)) ggX8_expect_X8_ahead
set_option maxRecDepth 20000 in
theorem ggX8_expect_X8_report : GoodIn wsX8_expect wsX8_report := goodIn_r _ [21, 7, 22, 23, 24, 25, 26, 27, 28, 29, 30, 31, 32, 33, 34, 35, 36, 37, 38, 39, 40, 41, 42, 43, 44] rfl (by decide +kernel)
set_option maxRecDepth 20000 in
theorem gX8_expect_X8_report : GoodIn wsX8_expect (wsV RX8 112 RX8 yX8_report wsX8_report) := goodIn_app (goodIn_of _ (by decide +kernel)) ggX8_expect_X8_report
theorem dX8_expect_0 : decode cX8_expect 0 = .ok (.aload_n 0, 1) := by decide +kernel
theorem dX8_expect_1 : decode cX8_expect 1 = .ok (.invokevirtual 95, 3) := by decide +kernel
theorem dX8_expect_4 : decode cX8_expect 4 = .ok (.ifCond .ne 4, 3) := by decide +kernel
theorem dX8_expect_7 : decode cX8_expect 7 = .ok (.return_, 1) := by decide +kernel
theorem dX8_expect_8 : decode cX8_expect 8 = .ok (.aload_n 0, 1) := by decide +kernel
theorem dX8_expect_9 : decode cX8_expect 9 = .ok (.invokevirtual 99, 3) := by decide +kernel
theorem dX8_expect_12 : decode cX8_expect 12 = .ok (.iload_n 1, 1) := by decide +kernel
theorem dX8_expect_13 : decode cX8_expect 13 = .ok (.if_icmp .ne 16, 3) := by decide +kernel
theorem dX8_expect_16 : decode cX8_expect 16 = .ok (.aload_n 0, 1) := by decide +kernel
theorem dX8_expect_17 : decode cX8_expect 17 = .ok (.dup, 1) := by decide +kernel
theorem dX8_expect_18 : decode cX8_expect 18 = .ok (.getfield 83, 3) := by decide +kernel
theorem dX8_expect_21 : decode cX8_expect 21 = .ok (.iconst 1, 1) := by decide +kernel
theorem dX8_expect_22 : decode cX8_expect 22 = .ok (.iadd, 1) := by decide +kernel
theorem dX8_expect_23 : decode cX8_expect 23 = .ok (.putfield 83, 3) := by decide +kernel
theorem dX8_expect_26 : decode cX8_expect 26 = .ok (.goto 13, 3) := by decide +kernel
theorem dX8_expect_29 : decode cX8_expect 29 = .ok (.aload_n 0, 1) := by decide +kernel
theorem dX8_expect_30 : decode cX8_expect 30 = .ok (.bipush (-2), 2) := by decide +kernel
theorem dX8_expect_32 : decode cX8_expect 32 = .ok (.aload_n 0, 1) := by decide +kernel
theorem dX8_expect_33 : decode cX8_expect 33 = .ok (.getfield 83, 3) := by decide +kernel
theorem dX8_expect_36 : decode cX8_expect 36 = .ok (.invokevirtual 112, 3) := by decide +kernel
theorem dX8_expect_39 : decode cX8_expect 39 = .ok (.return_, 1) := by decide +kernel
set_option maxRecDepth 20000 in
theorem ggX8_number_X8_isGood : GoodIn wsX8_number wsX8_isGood := goodIn_r _ [8, 9, 34, 35, 36, 37, 38, 39, 40, 41, 42, 43, 44, 45, 46, 47, 48, 49, 50, 51, 52, 53, 54, 55] rfl (by decide +kernel)
set_option maxRecDepth 20000 in
theorem gX8_number_X8_isGood : GoodIn wsX8_number (wsV RX8 95 RX8 yX8_isGood wsX8_isGood) := goodIn_app (goodIn_of _ (by decide +kernel)) ggX8_number_X8_isGood
set_option maxRecDepth 20000 in
theorem ggX8_number_X8_ahead : GoodIn wsX8_number wsX8_ahead := goodIn_r _ [13, 1, 14, 15, 16, 7, 17, 18, 19, 34, 35, 36, 37, 38, 39, 40, 41, 42, 43, 44, 45, 46, 47, 48, 49, 50, 51, 52, 53, 54, 55] rfl (by decide +kernel)
set_option maxRecDepth 20000 in
theorem gX8_number_X8_ahead : GoodIn wsX8_number (wsV RX8 99 RX8 yX8_ahead wsX8_ahead) := goodIn_app (goodIn_of _ (by decide +kernel)) ggX8_number_X8_ahead
set_option maxRecDepth 20000 in
theorem ggX8_number_X8_isDigit : GoodIn wsX8_number wsX8_isDigit := goodIn_r _ [22, 23, 24, 7, 25] rfl (by decide +kernel)
set_option maxRecDepth 20000 in
theorem gX8_number_X8_isDigit : GoodIn wsX8_number (va_wsS RX8 116 yX8_isDigit wsX8_isDigit) := goodIn_app (goodIn_of _ (by decide +kernel)) ggX8_number_X8_isDigit
set_option maxRecDepth 20000 in
theorem ggX8_number_X8_report : GoodIn wsX8_number wsX8_report := goodIn_r _ [29, 9, 30, 34, 35, 36, 37, 38, 39, 40, 41, 42, 43, 44, 45, 46, 47, 48, 49, 50, 51, 52, 53, 54, 55] rfl (by decide +kernel)
set_option maxRecDepth 20000 in
theorem gX8_number_X8_report : GoodIn wsX8_number (wsV RX8 112 RX8 yX8_report wsX8_report) := goodIn_app (goodIn_of _ (by decide +kernel)) ggX8_number_X8_report
set_option maxRecDepth 20000 in
theorem ggX8_number_X8_byteAt : GoodIn wsX8_number wsX8_byteAt := goodIn_r _ [17, 18, 19, 34, 35, 36, 37, 38, 39, 40, 41, 42, 43, 44, 45, 46, 47, 48, 49, 50, 51, 52, 53, 54, 55] rfl (by decide +kernel)
set_option maxRecDepth 20000 in
theorem gX8_number_X8_byteAt : GoodIn wsX8_number (wsV RX8 86 RX8 yX8_byteAt wsX8_byteAt) := goodIn_app (goodIn_of _ (by decide +kernel)) ggX8_number_X8_byteAt
set_option maxRecDepth 20000 in
theorem ggX8_number_X8_min : GoodIn wsX8_number wsX8_min := goodIn_r _ [33] rfl (by decide +kernel)
set_option maxRecDepth 20000 in
theorem gX8_number_X8_min : GoodIn wsX8_number (va_wsS RX8 60 yX8_min wsX8_min) := goodIn_app (goodIn_of _ (by decide +kernel)) ggX8_number_X8_min
set_option maxRecDepth 20000 in
theorem ggX8_number_X8_in : GoodIn wsX8_number wsX8_in := goodIn_r _ [25] rfl (by decide +kernel)
set_option maxRecDepth 20000 in
theorem gX8_number_X8_in : GoodIn wsX8_number (va_wsS RX8 56 yX8_in wsX8_in) := goodIn_app (goodIn_of _ (by decide +kernel)) ggX8_number_X8_in
theorem dX8_number_0 : decode cX8_number 0 = .ok (.aload_n 0, 1) := by decide +kernel
theorem dX8_number_1 : decode cX8_number 1 = .ok (.invokevirtual 95, 3) := by decide +kernel
theorem dX8_number_4 : decode cX8_number 4 = .ok (.ifCond .ne 5, 3) := by decide +kernel
theorem dX8_number_7 : decode cX8_number 7 = .ok (.iconst 0, 1) := by decide +kernel
theorem dX8_number_8 : decode cX8_number 8 = .ok (.ireturn, 1) := by decide +kernel
theorem dX8_number_9 : decode cX8_number 9 = .ok (.aload_n 0, 1) := by decide +kernel
theorem dX8_number_10 : decode cX8_number 10 = .ok (.invokevirtual 99, 3) := by decide +kernel
theorem dX8_number_13 : decode cX8_number 13 = .ok (.invokestatic 116, 3) := by decide +kernel
theorem dX8_number_16 : decode cX8_number 16 = .ok (.ifCond .ne 15, 3) := by decide +kernel
theorem dX8_number_19 : decode cX8_number 19 = .ok (.aload_n 0, 1) := by decide +kernel
theorem dX8_number_20 : decode cX8_number 20 = .ok (.bipush (-2), 2) := by decide +kernel
theorem dX8_number_22 : decode cX8_number 22 = .ok (.aload_n 0, 1) := by decide +kernel
theorem dX8_number_23 : decode cX8_number 23 = .ok (.getfield 83, 3) := by decide +kernel
theorem dX8_number_26 : decode cX8_number 26 = .ok (.invokevirtual 112, 3) := by decide +kernel
theorem dX8_number_29 : decode cX8_number 29 = .ok (.iconst 0, 1) := by decide +kernel
theorem dX8_number_30 : decode cX8_number 30 = .ok (.ireturn, 1) := by decide +kernel
theorem dX8_number_31 : decode cX8_number 31 = .ok (.aload_n 0, 1) := by decide +kernel
theorem dX8_number_32 : decode cX8_number 32 = .ok (.aload_n 0, 1) := by decide +kernel
theorem dX8_number_33 : decode cX8_number 33 = .ok (.getfield 83, 3) := by decide +kernel
theorem dX8_number_36 : decode cX8_number 36 = .ok (.putfield 120, 3) := by decide +kernel
theorem dX8_number_39 : decode cX8_number 39 = .ok (.iconst 0, 1) := by decide +kernel
theorem dX8_number_40 : decode cX8_number 40 = .ok (.istore_n 3, 1) := by decide +kernel
theorem dX8_number_41 : decode cX8_number 41 = .ok (.aload_n 0, 1) := by decide +kernel
theorem dX8_number_42 : decode cX8_number 42 = .ok (.aload_n 0, 1) := by decide +kernel
theorem dX8_number_43 : decode cX8_number 43 = .ok (.getfield 83, 3) := by decide +kernel
theorem dX8_number_46 : decode cX8_number 46 = .ok (.invokevirtual 86, 3) := by decide +kernel
theorem dX8_number_49 : decode cX8_number 49 = .ok (.invokestatic 116, 3) := by decide +kernel
theorem dX8_number_52 : decode cX8_number 52 = .ok (.ifCond .eq 38, 3) := by decide +kernel
theorem dX8_number_55 : decode cX8_number 55 = .ok (.ldc 123, 2) := by decide +kernel
theorem dX8_number_57 : decode cX8_number 57 = .ok (.bipush 10, 2) := by decide +kernel
theorem dX8_number_59 : decode cX8_number 59 = .ok (.iload_n 3, 1) := by decide +kernel
theorem dX8_number_60 : decode cX8_number 60 = .ok (.imul, 1) := by decide +kernel
theorem dX8_number_61 : decode cX8_number 61 = .ok (.aload_n 0, 1) := by decide +kernel
theorem dX8_number_62 : decode cX8_number 62 = .ok (.aload_n 0, 1) := by decide +kernel
theorem dX8_number_63 : decode cX8_number 63 = .ok (.getfield 83, 3) := by decide +kernel
theorem dX8_number_66 : decode cX8_number 66 = .ok (.invokevirtual 86, 3) := by decide +kernel
theorem dX8_number_69 : decode cX8_number 69 = .ok (.iadd, 1) := by decide +kernel
theorem dX8_number_70 : decode cX8_number 70 = .ok (.bipush 48, 2) := by decide +kernel
theorem dX8_number_72 : decode cX8_number 72 = .ok (.isub, 1) := by decide +kernel
theorem dX8_number_73 : decode cX8_number 73 = .ok (.invokestatic 60, 3) := by decide +kernel
theorem dX8_number_76 : decode cX8_number 76 = .ok (.istore_n 3, 1) := by decide +kernel
theorem dX8_number_77 : decode cX8_number 77 = .ok (.aload_n 0, 1) := by decide +kernel
theorem dX8_number_78 : decode cX8_number 78 = .ok (.dup, 1) := by decide +kernel
theorem dX8_number_79 : decode cX8_number 79 = .ok (.getfield 83, 3) := by decide +kernel
theorem dX8_number_82 : decode cX8_number 82 = .ok (.iconst 1, 1) := by decide +kernel
theorem dX8_number_83 : decode cX8_number 83 = .ok (.iadd, 1) := by decide +kernel
theorem dX8_number_84 : decode cX8_number 84 = .ok (.putfield 83, 3) := by decide +kernel
theorem dX8_number_87 : decode cX8_number 87 = .ok (.goto (-46), 3) := by decide +kernel
theorem dX8_number_90 : decode cX8_number 90 = .ok (.iload_n 3, 1) := by decide +kernel
theorem dX8_number_91 : decode cX8_number 91 = .ok (.iload_n 1, 1) := by decide +kernel
theorem dX8_number_92 : decode cX8_number 92 = .ok (.iload_n 2, 1) := by decide +kernel
theorem dX8_number_93 : decode cX8_number 93 = .ok (.invokestatic 56, 3) := by decide +kernel
theorem dX8_number_96 : decode cX8_number 96 = .ok (.ifCond .ne 13, 3) := by decide +kernel
theorem dX8_number_99 : decode cX8_number 99 = .ok (.aload_n 0, 1) := by decide +kernel
theorem dX8_number_100 : decode cX8_number 100 = .ok (.bipush (-3), 2) := by decide +kernel
theorem dX8_number_102 : decode cX8_number 102 = .ok (.aload_n 0, 1) := by decide +kernel
theorem dX8_number_103 : decode cX8_number 103 = .ok (.getfield 120, 3) := by decide +kernel
theorem dX8_number_106 : decode cX8_number 106 = .ok (.invokevirtual 112, 3) := by decide +kernel
theorem dX8_number_109 : decode cX8_number 109 = .ok (.aload_n 0, 1) := by decide +kernel
theorem dX8_number_110 : decode cX8_number 110 = .ok (.invokevirtual 95, 3) := by decide +kernel
theorem dX8_number_113 : decode cX8_number 113 = .ok (.ifCond .eq 7, 3) := by decide +kernel
theorem dX8_number_116 : decode cX8_number 116 = .ok (.iload_n 3, 1) := by decide +kernel
theorem dX8_number_117 : decode cX8_number 117 = .ok (.goto 4, 3) := by decide +kernel
theorem dX8_number_120 : decode cX8_number 120 = .ok (.iconst 0, 1) := by decide +kernel
theorem dX8_number_121 : decode cX8_number 121 = .ok (.ireturn, 1) := by decide +kernel
set_option maxRecDepth 20000 in
theorem ggX8_emit_X8_isGood : GoodIn wsX8_emit wsX8_isGood := goodIn_r _ [6, 7, 8, 9, 10, 11, 12, 13, 14, 15, 16, 17, 18, 19, 20, 21, 22, 23, 24, 25, 26, 27, 28, 29] rfl (by decide +kernel)
set_option maxRecDepth 20000 in
theorem gX8_emit_X8_isGood : GoodIn wsX8_emit (wsV RX8 95 RX8 yX8_isGood wsX8_isGood) := goodIn_app (goodIn_of _ (by decide +kernel)) ggX8_emit_X8_isGood
theorem dX8_emit_0 : decode cX8_emit 0 = .ok (.aload_n 0, 1) := by decide +kernel
theorem dX8_emit_1 : decode cX8_emit 1 = .ok (.invokevirtual 95, 3) := by decide +kernel
theorem dX8_emit_4 : decode cX8_emit 4 = .ok (.ifCond .ne 4, 3) := by decide +kernel
theorem dX8_emit_7 : decode cX8_emit 7 = .ok (.return_, 1) := by decide +kernel
theorem dX8_emit_8 : decode cX8_emit 8 = .ok (.aload_n 0, 1) := by decide +kernel
theorem dX8_emit_9 : decode cX8_emit 9 = .ok (.getfield 20, 3) := by decide +kernel
theorem dX8_emit_12 : decode cX8_emit 12 = .ok (.sipush 464, 3) := by decide +kernel
