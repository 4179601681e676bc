theorem dX8_emit_15 : decode cX8_emit 15 = .ok (.aload_n 0, 1) := by decide +kernel
theorem dX8_emit_16 : decode cX8_emit 16 = .ok (.getfield 20, 3) := by decide +kernel
theorem dX8_emit_19 : decode cX8_emit 19 = .ok (.bipush 14, 2) := by decide +kernel
theorem dX8_emit_21 : decode cX8_emit 21 = .ok (.iaload, 1) := by decide +kernel
theorem dX8_emit_22 : decode cX8_emit 22 = .ok (.iadd, 1) := by decide +kernel
theorem dX8_emit_23 : decode cX8_emit 23 = .ok (.iload_n 1, 1) := by decide +kernel
theorem dX8_emit_24 : decode cX8_emit 24 = .ok (.iastore, 1) := by decide +kernel
theorem dX8_emit_25 : decode cX8_emit 25 = .ok (.aload_n 0, 1) := by decide +kernel
theorem dX8_emit_26 : decode cX8_emit 26 = .ok (.getfield 20, 3) := by decide +kernel
theorem dX8_emit_29 : decode cX8_emit 29 = .ok (.bipush 14, 2) := by decide +kernel
theorem dX8_emit_31 : decode cX8_emit 31 = .ok (.dup2, 1) := by decide +kernel
theorem dX8_emit_32 : decode cX8_emit 32 = .ok (.iaload, 1) := by decide +kernel
theorem dX8_emit_33 : decode cX8_emit 33 = .ok (.iconst 1, 1) := by decide +kernel
theorem dX8_emit_34 : decode cX8_emit 34 = .ok (.iadd, 1) := by decide +kernel
theorem dX8_emit_35 : decode cX8_emit 35 = .ok (.iastore, 1) := by decide +kernel
theorem dX8_emit_36 : decode cX8_emit 36 = .ok (.return_, 1) := by decide +kernel
set_option maxRecDepth 20000 in
theorem ggX8_factor_X8_isGood : GoodIn wsX8_factor wsX8_isGood := goodIn_r _ [7, 8, 112, 113, 114, 115, 116, 117, 118, 119, 120, 121, 122, 123, 124, 125, 126, 127, 128, 129, 130, 131, 132, 133] rfl (by decide +kernel)
set_option maxRecDepth 20000 in
theorem gX8_factor_X8_isGood : GoodIn wsX8_factor (wsV RX8 95 RX8 yX8_isGood wsX8_isGood) := goodIn_app (goodIn_of _ (by decide +kernel)) ggX8_factor_X8_isGood
set_option maxRecDepth 20000 in
theorem ggX8_factor_X8_ahead : GoodIn wsX8_factor wsX8_ahead := goodIn_r _ [12, 2, 13, 14, 15, 6, 16, 17, 18, 112, 113, 114, 115, 116, 117, 118, 119, 120, 121, 122, 123, 124, 125, 126, 127, 128, 129, 130, 131, 132, 133] rfl (by decide +kernel)
set_option maxRecDepth 20000 in
theorem gX8_factor_X8_ahead : GoodIn wsX8_factor (wsV RX8 99 RX8 yX8_ahead wsX8_ahead) := goodIn_app (goodIn_of _ (by decide +kernel)) ggX8_factor_X8_ahead
set_option maxRecDepth 20000 in
theorem ggX8_factor_X8_report : GoodIn wsX8_factor wsX8_report := goodIn_r _ [22, 8, 23, 112, 113, 114, 115, 116, 117, 118, 119, 120, 121, 122, 123, 124, 125, 126, 127, 128, 129, 130, 131, 132, 133] rfl (by decide +kernel)
set_option maxRecDepth 20000 in
theorem gX8_factor_X8_report : GoodIn wsX8_factor (wsV RX8 112 RX8 yX8_report wsX8_report) := goodIn_app (goodIn_of _ (by decide +kernel)) ggX8_factor_X8_report
set_option maxRecDepth 20000 in
theorem ggX8_factor_X8_readSum : GoodIn wsX8_factor wsX8_readSum := goodIn_r _ [104, 2, 105, 106, 107, 6, 3, 4, 5, 7, 8, 9, 10, 11, 12, 13, 14, 15, 16, 17, 18, 99, 100, 101, 102, 103, 0, 1, 19, 20, 21, 22, 23, 24, 25, 26, 27, 28, 29, 30, 31, 32, 33, 34, 35, 36, 37, 38, 39, 40, 41, 42, 43, 44, 45, 46, 47, 48, 49, 50, 51, 52, 53, 54, 55, 56, 57, 58, 59, 60, 61, 62, 63, 64, 65, 66, 67, 68, 69, 70, 71, 72, 73, 74, 75, 76, 77, 78, 79, 80, 81, 82, 83, 84, 85, 86, 87, 88, 89, 90, 91, 92, 93, 94, 95, 96, 97, 98, 108, 109, 110, 111, 112, 113, 114, 115, 116, 117, 118, 119, 120, 121, 122, 123, 124, 125, 126, 127, 128, 129, 130, 131, 132, 133] rfl (by decide +kernel)
set_option maxRecDepth 20000 in
theorem gX8_factor_X8_readSum : GoodIn wsX8_factor (wsV RX8 127 RX8 yX8_readSum wsX8_readSum) := goodIn_app (goodIn_of _ (by decide +kernel)) ggX8_factor_X8_readSum
set_option maxRecDepth 20000 in
theorem ggX8_factor_X8_expect : GoodIn wsX8_factor wsX8_expect := goodIn_r _ [30, 2, 3, 4, 5, 6, 7, 8, 9, 10, 11, 12, 13, 14, 15, 16, 17, 18, 19, 20, 21, 22, 23, 112, 113, 114, 115, 116, 117, 118, 119, 120, 121, 122, 123, 124, 125, 126, 127, 128, 129, 130, 131, 132, 133] rfl (by decide +kernel)
set_option maxRecDepth 20000 in
theorem gX8_factor_X8_expect : GoodIn wsX8_factor (wsV RX8 130 RX8 yX8_expect wsX8_expect) := goodIn_app (goodIn_of _ (by decide +kernel)) ggX8_factor_X8_expect
set_option maxRecDepth 20000 in
theorem ggX8_factor_X8_isDigit : GoodIn wsX8_factor wsX8_isDigit := goodIn_r _ [33, 34, 35, 6, 36] rfl (by decide +kernel)
set_option maxRecDepth 20000 in
theorem gX8_factor_X8_isDigit : GoodIn wsX8_factor (va_wsS RX8 116 yX8_isDigit wsX8_isDigit) := goodIn_app (goodIn_of _ (by decide +kernel)) ggX8_factor_X8_isDigit
set_option maxRecDepth 20000 in
theorem ggX8_factor_X8_takeWord : GoodIn wsX8_factor wsX8_takeWord := goodIn_r _ [40, 2, 3, 4, 5, 6, 7, 8, 9, 10, 11, 12, 13, 14, 15, 16, 17, 18, 41, 42, 43, 44, 45, 46, 47, 48, 49, 50, 51, 52, 53, 54, 55, 56, 57, 58, 59, 60, 61, 62, 63, 64, 65, 66, 67, 68, 69, 70, 71, 72, 73, 74, 75, 76, 77, 78, 79, 80, 81, 82, 83, 84, 85, 86, 87, 88, 89, 34, 35, 36, 112, 113, 114, 115, 116, 117, 118, 119, 120, 121, 122, 123, 124, 125, 126, 127, 128, 129, 130, 131, 132, 133] rfl (by decide +kernel)
set_option maxRecDepth 20000 in
theorem gX8_factor_X8_takeWord : GoodIn wsX8_factor (wsV RX8 136 RX8 yX8_takeWord wsX8_takeWord) := goodIn_app (goodIn_of _ (by decide +kernel)) ggX8_factor_X8_takeWord
set_option maxRecDepth 20000 in
theorem ggX8_factor_X8_number : GoodIn wsX8_factor wsX8_number := goodIn_r _ [93, 2, 94, 95, 3, 4, 5, 6, 7, 8, 9, 10, 11, 12, 13, 14, 15, 16, 17, 18, 31, 32, 33, 34, 35, 36, 19, 20, 21, 22, 23, 96, 97, 98, 112, 113, 114, 115, 116, 117, 118, 119, 120, 121, 122, 123, 124, 125, 126, 127, 128, 129, 130, 131, 132, 133] rfl (by decide +kernel)
set_option maxRecDepth 20000 in
theorem gX8_factor_X8_number : GoodIn wsX8_factor (wsV RX8 148 RX8 yX8_number wsX8_number) := goodIn_app (goodIn_of _ (by decide +kernel)) ggX8_factor_X8_number
set_option maxRecDepth 20000 in
theorem ggX8_factor_X8_emit : GoodIn wsX8_factor wsX8_emit := goodIn_r _ [102, 103, 3, 4, 5, 6, 7, 8, 112, 113, 114, 115, 116, 117, 118, 119, 120, 121, 122, 123, 124, 125, 126, 127, 128, 129, 130, 131, 132, 133] rfl (by decide +kernel)
set_option maxRecDepth 20000 in
theorem gX8_factor_X8_emit : GoodIn wsX8_factor (wsV RX8 151 RX8 yX8_emit wsX8_emit) := goodIn_app (goodIn_of _ (by decide +kernel)) ggX8_factor_X8_emit
theorem dX8_factor_0 : decode cX8_factor 0 = .ok (.aload_n 0, 1) := by decide +kernel
theorem dX8_factor_1 : decode cX8_factor 1 = .ok (.invokevirtual 95, 3) := by decide +kernel
theorem dX8_factor_4 : decode cX8_factor 4 = .ok (.ifCond .ne 4, 3) := by decide +kernel
theorem dX8_factor_7 : decode cX8_factor 7 = .ok (.return_, 1) := by decide +kernel
theorem dX8_factor_8 : decode cX8_factor 8 = .ok (.aload_n 0, 1) := by decide +kernel
theorem dX8_factor_9 : decode cX8_factor 9 = .ok (.invokevirtual 99, 3) := by decide +kernel
theorem dX8_factor_12 : decode cX8_factor 12 = .ok (.istore_n 1, 1) := by decide +kernel
theorem dX8_factor_13 : decode cX8_factor 13 = .ok (.iload_n 1, 1) := by decide +kernel
theorem dX8_factor_14 : decode cX8_factor 14 = .ok (.bipush 40, 2) := by decide +kernel
theorem dX8_factor_16 : decode cX8_factor 16 = .ok (.if_icmp .ne 62, 3) := by decide +kernel
theorem dX8_factor_19 : decode cX8_factor 19 = .ok (.aload_n 0, 1) := by decide +kernel
theorem dX8_factor_20 : decode cX8_factor 20 = .ok (.getfield 124, 3) := by decide +kernel
theorem dX8_factor_23 : decode cX8_factor 23 = .ok (.iconst 4, 1) := by decide +kernel
theorem dX8_factor_24 : decode cX8_factor 24 = .ok (.if_icmp .ne 13, 3) := by decide +kernel
theorem dX8_factor_27 : decode cX8_factor 27 = .ok (.aload_n 0, 1) := by decide +kernel
theorem dX8_factor_28 : decode cX8_factor 28 = .ok (.bipush (-6), 2) := by decide +kernel
theorem dX8_factor_30 : decode cX8_factor 30 = .ok (.aload_n 0, 1) := by decide +kernel
theorem dX8_factor_31 : decode cX8_factor 31 = .ok (.getfield 83, 3) := by decide +kernel
theorem dX8_factor_34 : decode cX8_factor 34 = .ok (.invokevirtual 112, 3) := by decide +kernel
theorem dX8_factor_37 : decode cX8_factor 37 = .ok (.aload_n 0, 1) := by decide +kernel
theorem dX8_factor_38 : decode cX8_factor 38 = .ok (.dup, 1) := by decide +kernel
theorem dX8_factor_39 : decode cX8_factor 39 = .ok (.getfield 83, 3) := by decide +kernel
theorem dX8_factor_42 : decode cX8_factor 42 = .ok (.iconst 1, 1) := by decide +kernel
theorem dX8_factor_43 : decode cX8_factor 43 = .ok (.iadd, 1) := by decide +kernel
theorem dX8_factor_44 : decode cX8_factor 44 = .ok (.putfield 83, 3) := by decide +kernel
theorem dX8_factor_47 : decode cX8_factor 47 = .ok (.aload_n 0, 1) := by decide +kernel
theorem dX8_factor_48 : decode cX8_factor 48 = .ok (.dup, 1) := by decide +kernel
theorem dX8_factor_49 : decode cX8_factor 49 = .ok (.getfield 124, 3) := by decide +kernel
theorem dX8_factor_52 : decode cX8_factor 52 = .ok (.iconst 1, 1) := by decide +kernel
theorem dX8_factor_53 : decode cX8_factor 53 = .ok (.iadd, 1) := by decide +kernel
theorem dX8_factor_54 : decode cX8_factor 54 = .ok (.putfield 124, 3) := by decide +kernel
theorem dX8_factor_57 : decode cX8_factor 57 = .ok (.aload_n 0, 1) := by decide +kernel
theorem dX8_factor_58 : decode cX8_factor 58 = .ok (.invokevirtual 127, 3) := by decide +kernel
theorem dX8_factor_61 : decode cX8_factor 61 = .ok (.aload_n 0, 1) := by decide +kernel
theorem dX8_factor_62 : decode cX8_factor 62 = .ok (.bipush 41, 2) := by decide +kernel
theorem dX8_factor_64 : decode cX8_factor 64 = .ok (.invokevirtual 130, 3) := by decide +kernel
theorem dX8_factor_67 : decode cX8_factor 67 = .ok (.aload_n 0, 1) := by decide +kernel
theorem dX8_factor_68 : decode cX8_factor 68 = .ok (.dup, 1) := by decide +kernel
theorem dX8_factor_69 : decode cX8_factor 69 = .ok (.getfield 124, 3) := by decide +kernel
theorem dX8_factor_72 : decode cX8_factor 72 = .ok (.iconst 1, 1) := by decide +kernel
theorem dX8_factor_73 : decode cX8_factor 73 = .ok (.isub, 1) := by decide +kernel
theorem dX8_factor_74 : decode cX8_factor 74 = .ok (.putfield 124, 3) := by decide +kernel
theorem dX8_factor_77 : decode cX8_factor 77 = .ok (.return_, 1) := by decide +kernel
theorem dX8_factor_78 : decode cX8_factor 78 = .ok (.iload_n 1, 1) := by decide +kernel
theorem dX8_factor_79 : decode cX8_factor 79 = .ok (.invokestatic 116, 3) := by decide +kernel
theorem dX8_factor_82 : decode cX8_factor 82 = .ok (.ifCond .eq 7, 3) := by decide +kernel
theorem dX8_factor_85 : decode cX8_factor 85 = .ok (.iconst (-1), 1) := by decide +kernel
theorem dX8_factor_86 : decode cX8_factor 86 = .ok (.goto 69, 3) := by decide +kernel
theorem dX8_factor_89 : decode cX8_factor 89 = .ok (.aload_n 0, 1) := by decide +kernel
theorem dX8_factor_90 : decode cX8_factor 90 = .ok (.ldc 134, 2) := by decide +kernel
theorem dX8_factor_92 : decode cX8_factor 92 = .ok (.invokevirtual 136, 3) := by decide +kernel
theorem dX8_factor_95 : decode cX8_factor 95 = .ok (.ifCond .eq 7, 3) := by decide +kernel
theorem dX8_factor_98 : decode cX8_factor 98 = .ok (.iconst 0, 1) := by decide +kernel
theorem dX8_factor_99 : decode cX8_factor 99 = .ok (.goto 56, 3) := by decide +kernel
theorem dX8_factor_102 : decode cX8_factor 102 = .ok (.aload_n 0, 1) := by decide +kernel
theorem dX8_factor_103 : decode cX8_factor 103 = .ok (.ldc 140, 2) := by decide +kernel
theorem dX8_factor_105 : decode cX8_factor 105 = .ok (.invokevirtual 136, 3) := by decide +kernel
theorem dX8_factor_108 : decode cX8_factor 108 = .ok (.ifCond .eq 7, 3) := by decide +kernel
theorem dX8_factor_111 : decode cX8_factor 111 = .ok (.iconst 1, 1) := by decide +kernel
theorem dX8_factor_112 : decode cX8_factor 112 = .ok (.goto 43, 3) := by decide +kernel
theorem dX8_factor_115 : decode cX8_factor 115 = .ok (.aload_n 0, 1) := by decide +kernel
theorem dX8_factor_116 : decode cX8_factor 116 = .ok (.ldc 142, 2) := by decide +kernel
theorem dX8_factor_118 : decode cX8_factor 118 = .ok (.invokevirtual 136, 3) := by decide +kernel
theorem dX8_factor_121 : decode cX8_factor 121 = .ok (.ifCond .eq 7, 3) := by decide +kernel
theorem dX8_factor_124 : decode cX8_factor 124 = .ok (.iconst 2, 1) := by decide +kernel
theorem dX8_factor_125 : decode cX8_factor 125 = .ok (.goto 30, 3) := by decide +kernel
theorem dX8_factor_128 : decode cX8_factor 128 = .ok (.aload_n 0, 1) := by decide +kernel
theorem dX8_factor_129 : decode cX8_factor 129 = .ok (.ldc 144, 2) := by decide +kernel
theorem dX8_factor_131 : decode cX8_factor 131 = .ok (.invokevirtual 136, 3) := by decide +kernel
theorem dX8_factor_134 : decode cX8_factor 134 = .ok (.ifCond .eq 7, 3) := by decide +kernel
theorem dX8_factor_137 : decode cX8_factor 137 = .ok (.iconst 3, 1) := by decide +kernel
theorem dX8_factor_138 : decode cX8_factor 138 = .ok (.goto 17, 3) := by decide +kernel
theorem dX8_factor_141 : decode cX8_factor 141 = .ok (.aload_n 0, 1) := by decide +kernel
theorem dX8_factor_142 : decode cX8_factor 142 = .ok (.ldc 146, 2) := by decide +kernel
theorem dX8_factor_144 : decode cX8_factor 144 = .ok (.invokevirtual 136, 3) := by decide +kernel
theorem dX8_factor_147 : decode cX8_factor 147 = .ok (.ifCond .eq 7, 3) := by decide +kernel
theorem dX8_factor_150 : decode cX8_factor 150 = .ok (.iconst 4, 1) := by decide +kernel
theorem dX8_factor_151 : decode cX8_factor 151 = .ok (.goto 4, 3) := by decide +kernel
theorem dX8_factor_154 : decode cX8_factor 154 = .ok (.iconst (-1), 1) := by decide +kernel
theorem dX8_factor_155 : decode cX8_factor 155 = .ok (.istore_n 2, 1) := by decide +kernel
theorem dX8_factor_156 : decode cX8_factor 156 = .ok (.iload_n 2, 1) := by decide +kernel
theorem dX8_factor_157 : decode cX8_factor 157 = .ok (.ifCond .ge 14, 3) := by decide +kernel
theorem dX8_factor_160 : decode cX8_factor 160 = .ok (.aload_n 0, 1) := by decide +kernel
theorem dX8_factor_161 : decode cX8_factor 161 = .ok (.iconst 0, 1) := by decide +kernel
theorem dX8_factor_162 : decode cX8_factor 162 = .ok (.sipush 9999, 3) := by decide +kernel
theorem dX8_factor_165 : decode cX8_factor 165 = .ok (.invokevirtual 148, 3) := by decide +kernel
theorem dX8_factor_168 : decode cX8_factor 168 = .ok (.goto 4, 3) := by decide +kernel
theorem dX8_factor_171 : decode cX8_factor 171 = .ok (.iload_n 2, 1) := by decide +kernel
theorem dX8_factor_172 : decode cX8_factor 172 = .ok (.istore_n 3, 1) := by decide +kernel
theorem dX8_factor_173 : decode cX8_factor 173 = .ok (.aload_n 0, 1) := by decide +kernel
theorem dX8_factor_174 : decode cX8_factor 174 = .ok (.iload_n 2, 1) := by decide +kernel
theorem dX8_factor_175 : decode cX8_factor 175 = .ok (.ifCond .ge 7, 3) := by decide +kernel
theorem dX8_factor_178 : decode cX8_factor 178 = .ok (.iconst 0, 1) := by decide +kernel
theorem dX8_factor_179 : decode cX8_factor 179 = .ok (.goto 4, 3) := by decide +kernel
theorem dX8_factor_182 : decode cX8_factor 182 = .ok (.iconst 1, 1) := by decide +kernel
theorem dX8_factor_183 : decode cX8_factor 183 = .ok (.invokevirtual 151, 3) := by decide +kernel
theorem dX8_factor_186 : decode cX8_factor 186 = .ok (.aload_n 0, 1) := by decide +kernel
theorem dX8_factor_187 : decode cX8_factor 187 = .ok (.iload_n 3, 1) := by decide +kernel
theorem dX8_factor_188 : decode cX8_factor 188 = .ok (.invokevirtual 151, 3) := by decide +kernel
theorem dX8_factor_191 : decode cX8_factor 191 = .ok (.return_, 1) := by decide +kernel
set_option maxRecDepth 20000 in
theorem ggX8_term_X8_factor : GoodIn wsX8_term wsX8_factor := goodIn_r _ [26, 27, 1, 6, 7, 8, 5, 9, 10, 11, 12, 13, 14, 15, 16, 17, 18, 19, 20, 28, 29, 30, 31, 32, 33, 34, 35, 36, 37, 38, 39, 40, 41, 42, 43, 44, 45, 46, 47, 48, 49, 50, 51, 52, 53, 54, 55, 56, 57, 58, 59, 60, 61, 62, 63, 64, 65, 66, 67, 68, 69, 70, 71, 72, 73, 74, 75, 76, 77, 78, 79, 80, 81, 82, 83, 84, 85, 86, 87, 88, 89, 90, 91, 92, 93, 94, 95, 96, 97, 98, 99, 100, 101, 102, 103, 104, 105, 106, 107, 21, 22, 23, 24, 25, 108, 109, 110, 111, 0, 2, 3, 4, 112, 113, 114, 115, 116, 117, 118, 119, 120, 121, 122, 123, 124, 125, 126, 127, 128, 129, 130, 131, 132, 133] rfl (by decide +kernel)
set_option maxRecDepth 20000 in
theorem gX8_term_X8_factor : GoodIn wsX8_term (wsV RX8 154 RX8 yX8_factor wsX8_factor) := goodIn_app (goodIn_of _ (by decide +kernel)) ggX8_term_X8_factor
set_option maxRecDepth 20000 in
theorem ggX8_term_X8_isGood : GoodIn wsX8_term wsX8_isGood := goodIn_r _ [9, 10, 112, 113, 114, 115, 116, 117, 118, 119, 120, 121, 122, 123, 124, 125, 126, 127, 128, 129, 130, 131, 132, 133] rfl (by decide +kernel)
set_option maxRecDepth 20000 in
theorem gX8_term_X8_isGood : GoodIn wsX8_term (wsV RX8 95 RX8 yX8_isGood wsX8_isGood) := goodIn_app (goodIn_of _ (by decide +kernel)) ggX8_term_X8_isGood
set_option maxRecDepth 20000 in
theorem ggX8_term_X8_ahead : GoodIn wsX8_term wsX8_ahead := goodIn_r _ [14, 1, 15, 16, 17, 5, 18, 19, 20, 112, 113, 114, 115, 116, 117, 118, 119, 120, 121, 122, 123, 124, 125, 126, 127, 128, 129, 130, 131, 132, 133] rfl (by decide +kernel)
set_option maxRecDepth 20000 in
theorem gX8_term_X8_ahead : GoodIn wsX8_term (wsV RX8 99 RX8 yX8_ahead wsX8_ahead) := goodIn_app (goodIn_of _ (by decide +kernel)) ggX8_term_X8_ahead
set_option maxRecDepth 20000 in
theorem ggX8_term_X8_emit : GoodIn wsX8_term wsX8_emit := goodIn_r _ [24, 25, 6, 7, 8, 5, 9, 10, 112, 113, 114, 115, 116, 117, 118, 119, 120, 121, 122, 123, 124, 125, 126, 127, 128, 129, 130, 131, 132, 133] rfl (by decide +kernel)
set_option maxRecDepth 20000 in
theorem gX8_term_X8_emit : GoodIn wsX8_term (wsV RX8 151 RX8 yX8_emit wsX8_emit) := goodIn_app (goodIn_of _ (by decide +kernel)) ggX8_term_X8_emit
theorem dX8_term_0 : decode cX8_term 0 = .ok (.aload_n 0, 1) := by decide +kernel
theorem dX8_term_1 : decode cX8_term 1 = .ok (.invokevirtual 154, 3) := by decide +kernel
theorem dX8_term_4 : decode cX8_term 4 = .ok (.aload_n 0, 1) := by decide +kernel
theorem dX8_term_5 : decode cX8_term 5 = .ok (.invokevirtual 95, 3) := by decide +kernel
theorem dX8_term_8 : decode cX8_term 8 = .ok (.ifCond .eq 66, 3) := by decide +kernel
theorem dX8_term_11 : decode cX8_term 11 = .ok (.aload_n 0, 1) := by decide +kernel
theorem dX8_term_12 : decode cX8_term 12 = .ok (.invokevirtual 99, 3) := by decide +kernel
theorem dX8_term_15 : decode cX8_term 15 = .ok (.bipush 42, 2) := by decide +kernel
theorem dX8_term_17 : decode cX8_term 17 = .ok (.if_icmp .eq 12, 3) := by decide +kernel
theorem dX8_term_20 : decode cX8_term 20 = .ok (.aload_n 0, 1) := by decide +kernel
theorem dX8_term_21 : decode cX8_term 21 = .ok (.invokevirtual 99, 3) := by decide +kernel
theorem dX8_term_24 : decode cX8_term 24 = .ok (.bipush 47, 2) := by decide +kernel
theorem dX8_term_26 : decode cX8_term 26 = .ok (.if_icmp .ne 48, 3) := by decide +kernel
theorem dX8_term_29 : decode cX8_term 29 = .ok (.aload_n 0, 1) := by decide +kernel
theorem dX8_term_30 : decode cX8_term 30 = .ok (.invokevirtual 99, 3) := by decide +kernel
theorem dX8_term_33 : decode cX8_term 33 = .ok (.bipush 42, 2) := by decide +kernel
theorem dX8_term_35 : decode cX8_term 35 = .ok (.if_icmp .ne 7, 3) := by decide +kernel
theorem dX8_term_38 : decode cX8_term 38 = .ok (.iconst 1, 1) := by decide +kernel
theorem dX8_term_39 : decode cX8_term 39 = .ok (.goto 4, 3) := by decide +kernel
theorem dX8_term_42 : decode cX8_term 42 = .ok (.iconst 0, 1) := by decide +kernel
theorem dX8_term_43 : decode cX8_term 43 = .ok (.istore_n 1, 1) := by decide +kernel
theorem dX8_term_44 : decode cX8_term 44 = .ok (.aload_n 0, 1) := by decide +kernel
theorem dX8_term_45 : decode cX8_term 45 = .ok (.dup, 1) := by decide +kernel
theorem dX8_term_46 : decode cX8_term 46 = .ok (.getfield 83, 3) := by decide +kernel
theorem dX8_term_49 : decode cX8_term 49 = .ok (.iconst 1, 1) := by decide +kernel
theorem dX8_term_50 : decode cX8_term 50 = .ok (.iadd, 1) := by decide +kernel
theorem dX8_term_51 : decode cX8_term 51 = .ok (.putfield 83, 3) := by decide +kernel
theorem dX8_term_54 : decode cX8_term 54 = .ok (.aload_n 0, 1) := by decide +kernel
theorem dX8_term_55 : decode cX8_term 55 = .ok (.invokevirtual 154, 3) := by decide +kernel
theorem dX8_term_58 : decode cX8_term 58 = .ok (.aload_n 0, 1) := by decide +kernel
theorem dX8_term_59 : decode cX8_term 59 = .ok (.iload_n 1, 1) := by decide +kernel
theorem dX8_term_60 : decode cX8_term 60 = .ok (.ifCond .eq 7, 3) := by decide +kernel
theorem dX8_term_63 : decode cX8_term 63 = .ok (.iconst 4, 1) := by decide +kernel
theorem dX8_term_64 : decode cX8_term 64 = .ok (.goto 4, 3) := by decide +kernel
theorem dX8_term_67 : decode cX8_term 67 = .ok (.iconst 5, 1) := by decide +kernel
theorem dX8_term_68 : decode cX8_term 68 = .ok (.invokevirtual 151, 3) := by decide +kernel
theorem dX8_term_71 : decode cX8_term 71 = .ok (.goto (-67), 3) := by decide +kernel
theorem dX8_term_74 : decode cX8_term 74 = .ok (.return_, 1) := by decide +kernel
set_option maxRecDepth 20000 in
theorem ggX8_readSum_X8_term : GoodIn wsX8_readSum wsX8_term := goodIn_r _ [108, 1, 109, 110, 111, 5, 6, 7, 8, 9, 10, 11, 12, 13, 14, 15, 16, 17, 18, 19, 20, 21, 22, 23, 24, 25, 26, 27, 28, 29, 30, 31, 32, 33, 34, 35, 36, 37, 38, 39, 40, 41, 42, 43, 44, 45, 46, 47, 48, 49, 50, 51, 52, 53, 54, 55, 56, 57, 58, 59, 60, 61, 62, 63, 64, 65, 66, 67, 68, 69, 70, 71, 72, 73, 74, 75, 76, 77, 78, 79, 80, 81, 82, 83, 84, 85, 86, 87, 88, 89, 90, 91, 92, 93, 94, 95, 96, 97, 98, 99, 100, 101, 102, 103, 104, 105, 106, 107, 0, 2, 3, 4, 112, 113, 114, 115, 116, 117, 118, 119, 120, 121, 122, 123, 124, 125, 126, 127, 128, 129, 130, 131, 132, 133] rfl (by decide +kernel)
set_option maxRecDepth 20000 in
theorem gX8_readSum_X8_term : GoodIn wsX8_readSum (wsV RX8 157 RX8 yX8_term wsX8_term) := goodIn_app (goodIn_of _ (by decide +kernel)) ggX8_readSum_X8_term
set_option maxRecDepth 20000 in
theorem ggX8_readSum_X8_isGood : GoodIn wsX8_readSum wsX8_isGood := goodIn_r _ [9, 10, 112, 113, 114, 115, 116, 117, 118, 119, 120, 121, 122, 123, 124, 125, 126, 127, 128, 129, 130, 131, 132, 133] rfl (by decide +kernel)
set_option maxRecDepth 20000 in
theorem gX8_readSum_X8_isGood : GoodIn wsX8_readSum (wsV RX8 95 RX8 yX8_isGood wsX8_isGood) := goodIn_app (goodIn_of _ (by decide +kernel)) ggX8_readSum_X8_isGood
set_option maxRecDepth 20000 in
theorem ggX8_readSum_X8_ahead : GoodIn wsX8_readSum wsX8_ahead := goodIn_r _ [14, 1, 15, 16, 17, 5, 18, 19, 20, 112, 113, 114, 115, 116, 117, 118, 119, 120, 121, 122, 123, 124, 125, 126, 127, 128, 129, 130, 131, 132, 133] rfl (by decide +kernel)
set_option maxRecDepth 20000 in
theorem gX8_readSum_X8_ahead : GoodIn wsX8_readSum (wsV RX8 99 RX8 yX8_ahead wsX8_ahead) := goodIn_app (goodIn_of _ (by decide +kernel)) ggX8_readSum_X8_ahead
set_option maxRecDepth 20000 in
theorem ggX8_readSum_X8_emit : GoodIn wsX8_readSum wsX8_emit := goodIn_r _ [24, 25, 6, 7, 8, 5, 9, 10, 112, 113, 114, 115, 116, 117, 118, 119, 120, 121, 122, 123, 124, 125, 126, 127, 128, 129, 130, 131, 132, 133] rfl (by decide +kernel)
set_option maxRecDepth 20000 in
theorem gX8_readSum_X8_emit : GoodIn wsX8_readSum (wsV RX8 151 RX8 yX8_emit wsX8_emit) := goodIn_app (goodIn_of _ (by decide +kernel)) ggX8_readSum_X8_emit
theorem dX8_readSum_0 : decode cX8_readSum 0 = .ok (.aload_n 0, 1) := by decide +kernel
theorem dX8_readSum_1 : decode cX8_readSum 1 = .ok (.invokevirtual 157, 3) := by decide +kernel
theorem dX8_readSum_4 : decode cX8_readSum 4 = .ok (.aload_n 0, 1) := by decide +kernel
theorem dX8_readSum_5 : decode cX8_readSum 5 = .ok (.invokevirtual 95, 3) := by decide +kernel
theorem dX8_readSum_8 : decode cX8_readSum 8 = .ok (.ifCond .eq 66, 3) := by decide +kernel
theorem dX8_readSum_11 : decode cX8_readSum 11 = .ok (.aload_n 0, 1) := by decide +kernel
theorem dX8_readSum_12 : decode cX8_readSum 12 = .ok (.invokevirtual 99, 3) := by decide +kernel
theorem dX8_readSum_15 : decode cX8_readSum 15 = .ok (.bipush 43, 2) := by decide +kernel
theorem dX8_readSum_17 : decode cX8_readSum 17 = .ok (.if_icmp .eq 12, 3) := by decide +kernel
theorem dX8_readSum_20 : decode cX8_readSum 20 = .ok (.aload_n 0, 1) := by decide +kernel
theorem dX8_readSum_21 : decode cX8_readSum 21 = .ok (.invokevirtual 99, 3) := by decide +kernel
theorem dX8_readSum_24 : decode cX8_readSum 24 = .ok (.bipush 45, 2) := by decide +kernel
theorem dX8_readSum_26 : decode cX8_readSum 26 = .ok (.if_icmp .ne 48, 3) := by decide +kernel
theorem dX8_readSum_29 : decode cX8_readSum 29 = .ok (.aload_n 0, 1) := by decide +kernel
theorem dX8_readSum_30 : decode cX8_readSum 30 = .ok (.invokevirtual 99, 3) := by decide +kernel
theorem dX8_readSum_33 : decode cX8_readSum 33 = .ok (.bipush 43, 2) := by decide +kernel
theorem dX8_readSum_35 : decode cX8_readSum 35 = .ok (.if_icmp .ne 7, 3) := by decide +kernel
theorem dX8_readSum_38 : decode cX8_readSum 38 = .ok (.iconst 1, 1) := by decide +kernel
theorem dX8_readSum_39 : decode cX8_readSum 39 = .ok (.goto 4, 3) := by decide +kernel
theorem dX8_readSum_42 : decode cX8_readSum 42 = .ok (.iconst 0, 1) := by decide +kernel
theorem dX8_readSum_43 : decode cX8_readSum 43 = .ok (.istore_n 1, 1) := by decide +kernel
theorem dX8_readSum_44 : decode cX8_readSum 44 = .ok (.aload_n 0, 1) := by decide +kernel
theorem dX8_readSum_45 : decode cX8_readSum 45 = .ok (.dup, 1) := by decide +kernel
theorem dX8_readSum_46 : decode cX8_readSum 46 = .ok (.getfield 83, 3) := by decide +kernel
theorem dX8_readSum_49 : decode cX8_readSum 49 = .ok (.iconst 1, 1) := by decide +kernel
theorem dX8_readSum_50 : decode cX8_readSum 50 = .ok (.iadd, 1) := by decide +kernel
theorem dX8_readSum_51 : decode cX8_readSum 51 = .ok (.putfield 83, 3) := by decide +kernel
theorem dX8_readSum_54 : decode cX8_readSum 54 = .ok (.aload_n 0, 1) := by decide +kernel
theorem dX8_readSum_55 : decode cX8_readSum 55 = .ok (.invokevirtual 157, 3) := by decide +kernel
theorem dX8_readSum_58 : decode cX8_readSum 58 = .ok (.aload_n 0, 1) := by decide +kernel
theorem dX8_readSum_59 : decode cX8_readSum 59 = .ok (.iload_n 1, 1) := by decide +kernel
theorem dX8_readSum_60 : decode cX8_readSum 60 = .ok (.ifCond .eq 7, 3) := by decide +kernel
theorem dX8_readSum_63 : decode cX8_readSum 63 = .ok (.iconst 2, 1) := by decide +kernel
theorem dX8_readSum_64 : decode cX8_readSum 64 = .ok (.goto 4, 3) := by decide +kernel
theorem dX8_readSum_67 : decode cX8_readSum 67 = .ok (.iconst 3, 1) := by decide +kernel
theorem dX8_readSum_68 : decode cX8_readSum 68 = .ok (.invokevirtual 151, 3) := by decide +kernel
theorem dX8_readSum_71 : decode cX8_readSum 71 = .ok (.goto (-67), 3) := by decide +kernel
theorem dX8_readSum_74 : decode cX8_readSum 74 = .ok (.return_, 1) := by decide +kernel
set_option maxRecDepth 20000 in
theorem ggX8_once_X8_report : GoodIn wsX8_once wsX8_report := goodIn_r _ [6, 7, 8, 9, 10, 11, 12, 13, 14, 15, 16, 17, 18, 19, 20, 21, 22, 23, 24, 25, 26, 27, 28, 29, 30] rfl (by decide +kernel)
set_option maxRecDepth 20000 in
theorem gX8_once_X8_report : GoodIn wsX8_once (wsV RX8 112 RX8 yX8_report wsX8_report) := goodIn_app (goodIn_of _ (by decide +kernel)) ggX8_once_X8_report
theorem dX8_once_0 : decode cX8_once 0 = .ok (.aload_n 0, 1) := by decide +kernel
theorem dX8_once_1 : decode cX8_once 1 = .ok (.getfield 160, 3) := by decide +kernel
theorem dX8_once_4 : decode cX8_once 4 = .ok (.iload_n 1, 1) := by decide +kernel
theorem dX8_once_5 : decode cX8_once 5 = .ok (.ishr, 1) := by decide +kernel
theorem dX8_once_6 : decode cX8_once 6 = .ok (.iconst 1, 1) := by decide +kernel
theorem dX8_once_7 : decode cX8_once 7 = .ok (.iand, 1) := by decide +kernel
theorem dX8_once_8 : decode cX8_once 8 = .ok (.iconst 1, 1) := by decide +kernel
theorem dX8_once_9 : decode cX8_once 9 = .ok (.if_icmp .ne 10, 3) := by decide +kernel
theorem dX8_once_12 : decode cX8_once 12 = .ok (.aload_n 0, 1) := by decide +kernel
theorem dX8_once_13 : decode cX8_once 13 = .ok (.bipush (-2), 2) := by decide +kernel
theorem dX8_once_15 : decode cX8_once 15 = .ok (.iload_n 2, 1) := by decide +kernel
theorem dX8_once_16 : decode cX8_once 16 = .ok (.invokevirtual 112, 3) := by decide +kernel
theorem dX8_once_19 : decode cX8_once 19 = .ok (.aload_n 0, 1) := by decide +kernel
theorem dX8_once_20 : decode cX8_once 20 = .ok (.dup, 1) := by decide +kernel
theorem dX8_once_21 : decode cX8_once 21 = .ok (.getfield 160, 3) := by decide +kernel
theorem dX8_once_24 : decode cX8_once 24 = .ok (.iconst 1, 1) := by decide +kernel
theorem dX8_once_25 : decode cX8_once 25 = .ok (.iload_n 1, 1) := by decide +kernel
theorem dX8_once_26 : decode cX8_once 26 = .ok (.ishl, 1) := by decide +kernel
theorem dX8_once_27 : decode cX8_once 27 = .ok (.ior, 1) := by decide +kernel
theorem dX8_once_28 : decode cX8_once 28 = .ok (.putfield 160, 3) := by decide +kernel
theorem dX8_once_31 : decode cX8_once 31 = .ok (.return_, 1) := by decide +kernel
set_option maxRecDepth 20000 in
theorem ggX8_readTile_X8_number : GoodIn wsX8_readTile wsX8_number := goodIn_r _ [7, 8, 2, 9, 10, 11, 12, 6, 13, 14, 15, 16, 17, 18, 19, 20, 21, 22, 23, 24, 25, 26, 27, 28, 29, 30, 31, 32, 33, 34, 35, 36, 37, 38, 49, 50, 51, 52, 53, 54, 55, 56, 57, 58, 59, 60, 61, 62, 63, 64, 65, 66, 67, 68, 69, 70] rfl (by decide +kernel)
set_option maxRecDepth 20000 in
theorem gX8_readTile_X8_number : GoodIn wsX8_readTile (wsV RX8 148 RX8 yX8_number wsX8_number) := goodIn_app (goodIn_of _ (by decide +kernel)) ggX8_readTile_X8_number
set_option maxRecDepth 20000 in
theorem ggX8_readTile_X8_expect : GoodIn wsX8_readTile wsX8_expect := goodIn_r _ [42, 8, 10, 11, 12, 6, 13, 14, 15, 16, 17, 18, 19, 20, 21, 22, 23, 24, 31, 32, 33, 34, 35, 49, 50, 51, 52, 53, 54, 55, 56, 57, 58, 59, 60, 61, 62, 63, 64, 65, 66, 67, 68, 69, 70] rfl (by decide +kernel)
set_option maxRecDepth 20000 in
theorem gX8_readTile_X8_expect : GoodIn wsX8_readTile (wsV RX8 130 RX8 yX8_expect wsX8_expect) := goodIn_app (goodIn_of _ (by decide +kernel)) ggX8_readTile_X8_expect
set_option maxRecDepth 20000 in
theorem ggX8_readTile_X8_codeOf : GoodIn wsX8_readTile wsX8_codeOf := goodIn_r _ [45, 36, 37, 6, 38] rfl (by decide +kernel)
set_option maxRecDepth 20000 in
theorem gX8_readTile_X8_codeOf : GoodIn wsX8_readTile (va_wsS RX8 163 yX8_codeOf wsX8_codeOf) := goodIn_app (goodIn_of _ (by decide +kernel)) ggX8_readTile_X8_codeOf
set_option maxRecDepth 20000 in
theorem ggX8_readTile_X8_isGood : GoodIn wsX8_readTile wsX8_isGood := goodIn_r _ [13, 14, 49, 50, 51, 52, 53, 54, 55, 56, 57, 58, 59, 60, 61, 62, 63, 64, 65, 66, 67, 68, 69, 70] rfl (by decide +kernel)
set_option maxRecDepth 20000 in
theorem gX8_readTile_X8_isGood : GoodIn wsX8_readTile (wsV RX8 95 RX8 yX8_isGood wsX8_isGood) := goodIn_app (goodIn_of _ (by decide +kernel)) ggX8_readTile_X8_isGood
set_option maxRecDepth 20000 in
theorem ggX8_readTile_X8_report : GoodIn wsX8_readTile wsX8_report := goodIn_r _ [34, 14, 35, 49, 50, 51, 52, 53, 54, 55, 56, 57, 58, 59, 60, 61, 62, 63, 64, 65, 66, 67, 68, 69, 70] rfl (by decide +kernel)
set_option maxRecDepth 20000 in
theorem gX8_readTile_X8_report : GoodIn wsX8_readTile (wsV RX8 112 RX8 yX8_report wsX8_report) := goodIn_app (goodIn_of _ (by decide +kernel)) ggX8_readTile_X8_report
set_option maxRecDepth 20000 in
theorem ggX8_readTile_X8_handOf : GoodIn wsX8_readTile wsX8_handOf := goodIn_r _ [48] rfl (by decide +kernel)
set_option maxRecDepth 20000 in
theorem gX8_readTile_X8_handOf : GoodIn wsX8_readTile (va_wsS RX8 69 yX8_handOf wsX8_handOf) := goodIn_app (goodIn_of _ (by decide +kernel)) ggX8_readTile_X8_handOf
theorem dX8_readTile_0 : decode cX8_readTile 0 = .ok (.aload_n 0, 1) := by decide +kernel
theorem dX8_readTile_1 : decode cX8_readTile 1 = .ok (.iconst 0, 1) := by decide +kernel
theorem dX8_readTile_2 : decode cX8_readTile 2 = .ok (.aload_n 0, 1) := by decide +kernel
theorem dX8_readTile_3 : decode cX8_readTile 3 = .ok (.getfield 20, 3) := by decide +kernel
theorem dX8_readTile_6 : decode cX8_readTile 6 = .ok (.iconst 0, 1) := by decide +kernel
theorem dX8_readTile_7 : decode cX8_readTile 7 = .ok (.iaload, 1) := by decide +kernel
theorem dX8_readTile_8 : decode cX8_readTile 8 = .ok (.invokevirtual 148, 3) := by decide +kernel
theorem dX8_readTile_11 : decode cX8_readTile 11 = .ok (.istore_n 2, 1) := by decide +kernel
theorem dX8_readTile_12 : decode cX8_readTile 12 = .ok (.aload_n 0, 1) := by decide +kernel
theorem dX8_readTile_13 : decode cX8_readTile 13 = .ok (.getfield 120, 3) := by decide +kernel
theorem dX8_readTile_16 : decode cX8_readTile 16 = .ok (.istore_n 3, 1) := by decide +kernel
theorem dX8_readTile_17 : decode cX8_readTile 17 = .ok (.aload_n 0, 1) := by decide +kernel
theorem dX8_readTile_18 : decode cX8_readTile 18 = .ok (.bipush 45, 2) := by decide +kernel
theorem dX8_readTile_20 : decode cX8_readTile 20 = .ok (.invokevirtual 130, 3) := by decide +kernel
theorem dX8_readTile_23 : decode cX8_readTile 23 = .ok (.aload_n 0, 1) := by decide +kernel
theorem dX8_readTile_24 : decode cX8_readTile 24 = .ok (.iconst 0, 1) := by decide +kernel
theorem dX8_readTile_25 : decode cX8_readTile 25 = .ok (.aload_n 0, 1) := by decide +kernel
theorem dX8_readTile_26 : decode cX8_readTile 26 = .ok (.getfield 20, 3) := by decide +kernel
theorem dX8_readTile_29 : decode cX8_readTile 29 = .ok (.iconst 0, 1) := by decide +kernel
theorem dX8_readTile_30 : decode cX8_readTile 30 = .ok (.iaload, 1) := by decide +kernel
theorem dX8_readTile_31 : decode cX8_readTile 31 = .ok (.invokevirtual 148, 3) := by decide +kernel
theorem dX8_readTile_34 : decode cX8_readTile 34 = .ok (.istore 4, 2) := by decide +kernel
theorem dX8_readTile_36 : decode cX8_readTile 36 = .ok (.iload_n 2, 1) := by decide +kernel
theorem dX8_readTile_37 : decode cX8_readTile 37 = .ok (.iload 4, 2) := by decide +kernel
theorem dX8_readTile_39 : decode cX8_readTile 39 = .ok (.invokestatic 163, 3) := by decide +kernel
theorem dX8_readTile_42 : decode cX8_readTile 42 = .ok (.istore 5, 2) := by decide +kernel
theorem dX8_readTile_44 : decode cX8_readTile 44 = .ok (.aload_n 0, 1) := by decide +kernel
theorem dX8_readTile_45 : decode cX8_readTile 45 = .ok (.invokevirtual 95, 3) := by decide +kernel
theorem dX8_readTile_48 : decode cX8_readTile 48 = .ok (.ifCond .eq 38, 3) := by decide +kernel
theorem dX8_readTile_51 : decode cX8_readTile 51 = .ok (.aload_n 0, 1) := by decide +kernel
theorem dX8_readTile_52 : decode cX8_readTile 52 = .ok (.getfield 20, 3) := by decide +kernel
theorem dX8_readTile_55 : decode cX8_readTile 55 = .ok (.bipush 19, 2) := by decide +kernel
theorem dX8_readTile_57 : decode cX8_readTile 57 = .ok (.iload 5, 2) := by decide +kernel
theorem dX8_readTile_59 : decode cX8_readTile 59 = .ok (.iadd, 1) := by decide +kernel
theorem dX8_readTile_60 : decode cX8_readTile 60 = .ok (.iaload, 1) := by decide +kernel
theorem dX8_readTile_61 : decode cX8_readTile 61 = .ok (.iconst (-1), 1) := by decide +kernel
theorem dX8_readTile_62 : decode cX8_readTile 62 = .ok (.if_icmp .ne 17, 3) := by decide +kernel
theorem dX8_readTile_65 : decode cX8_readTile 65 = .ok (.iload 5, 2) := by decide +kernel
theorem dX8_readTile_67 : decode cX8_readTile 67 = .ok (.bipush 11, 2) := by decide +kernel
theorem dX8_readTile_69 : decode cX8_readTile 69 = .ok (.aload_n 0, 1) := by decide +kernel
theorem dX8_readTile_70 : decode cX8_readTile 70 = .ok (.getfield 20, 3) := by decide +kernel
theorem dX8_readTile_73 : decode cX8_readTile 73 = .ok (.iconst 3, 1) := by decide +kernel
theorem dX8_readTile_74 : decode cX8_readTile 74 = .ok (.iaload, 1) := by decide +kernel
theorem dX8_readTile_75 : decode cX8_readTile 75 = .ok (.imul, 1) := by decide +kernel
theorem dX8_readTile_76 : decode cX8_readTile 76 = .ok (.if_icmp .ne 10, 3) := by decide +kernel
theorem dX8_readTile_79 : decode cX8_readTile 79 = .ok (.aload_n 0, 1) := by decide +kernel
theorem dX8_readTile_80 : decode cX8_readTile 80 = .ok (.bipush (-4), 2) := by decide +kernel
theorem dX8_readTile_82 : decode cX8_readTile 82 = .ok (.iload_n 3, 1) := by decide +kernel
theorem dX8_readTile_83 : decode cX8_readTile 83 = .ok (.invokevirtual 112, 3) := by decide +kernel
theorem dX8_readTile_86 : decode cX8_readTile 86 = .ok (.aload_n 0, 1) := by decide +kernel
theorem dX8_readTile_87 : decode cX8_readTile 87 = .ok (.invokevirtual 95, 3) := by decide +kernel
theorem dX8_readTile_90 : decode cX8_readTile 90 = .ok (.ifCond .eq 27, 3) := by decide +kernel
theorem dX8_readTile_93 : decode cX8_readTile 93 = .ok (.aload_n 0, 1) := by decide +kernel
theorem dX8_readTile_94 : decode cX8_readTile 94 = .ok (.getfield 20, 3) := by decide +kernel
theorem dX8_readTile_97 : decode cX8_readTile 97 = .ok (.iload_n 1, 1) := by decide +kernel
theorem dX8_readTile_98 : decode cX8_readTile 98 = .ok (.invokestatic 69, 3) := by decide +kernel
theorem dX8_readTile_101 : decode cX8_readTile 101 = .ok (.aload_n 0, 1) := by decide +kernel
theorem dX8_readTile_102 : decode cX8_readTile 102 = .ok (.getfield 20, 3) := by decide +kernel
theorem dX8_readTile_105 : decode cX8_readTile 105 = .ok (.iconst 2, 1) := by decide +kernel
theorem dX8_readTile_106 : decode cX8_readTile 106 = .ok (.iaload, 1) := by decide +kernel
theorem dX8_readTile_107 : decode cX8_readTile 107 = .ok (.if_icmp .ne 10, 3) := by decide +kernel
theorem dX8_readTile_110 : decode cX8_readTile 110 = .ok (.aload_n 0, 1) := by decide +kernel
theorem dX8_readTile_111 : decode cX8_readTile 111 = .ok (.bipush (-5), 2) := by decide +kernel
theorem dX8_readTile_113 : decode cX8_readTile 113 = .ok (.iload_n 3, 1) := by decide +kernel
theorem dX8_readTile_114 : decode cX8_readTile 114 = .ok (.invokevirtual 112, 3) := by decide +kernel
theorem dX8_readTile_117 : decode cX8_readTile 117 = .ok (.aload_n 0, 1) := by decide +kernel
theorem dX8_readTile_118 : decode cX8_readTile 118 = .ok (.invokevirtual 95, 3) := by decide +kernel
theorem dX8_readTile_121 : decode cX8_readTile 121 = .ok (.ifCond .eq 14, 3) := by decide +kernel
theorem dX8_readTile_124 : decode cX8_readTile 124 = .ok (.aload_n 0, 1) := by decide +kernel
theorem dX8_readTile_125 : decode cX8_readTile 125 = .ok (.getfield 20, 3) := by decide +kernel
theorem dX8_readTile_128 : decode cX8_readTile 128 = .ok (.bipush 19, 2) := by decide +kernel
theorem dX8_readTile_130 : decode cX8_readTile 130 = .ok (.iload 5, 2) := by decide +kernel
theorem dX8_readTile_132 : decode cX8_readTile 132 = .ok (.iadd, 1) := by decide +kernel
theorem dX8_readTile_133 : decode cX8_readTile 133 = .ok (.iload_n 1, 1) := by decide +kernel
theorem dX8_readTile_134 : decode cX8_readTile 134 = .ok (.iastore, 1) := by decide +kernel
theorem dX8_readTile_135 : decode cX8_readTile 135 = .ok (.return_, 1) := by decide +kernel
set_option maxRecDepth 20000 in
theorem ggX8_readGive_X8_number : GoodIn wsX8_readGive wsX8_number := goodIn_r _ [7, 8, 9, 10, 11, 12, 13, 6, 14, 15, 16, 17, 18, 19, 20, 21, 22, 23, 24, 25, 26, 27, 28, 29, 30, 31, 32, 33, 34, 35, 36, 37, 38, 39, 54, 55, 56, 57, 58, 59, 60, 61, 62, 63, 64, 65, 66, 67, 68, 69, 70, 71, 72, 73, 74, 75] rfl (by decide +kernel)
set_option maxRecDepth 20000 in
theorem gX8_readGive_X8_number : GoodIn wsX8_readGive (wsV RX8 148 RX8 yX8_number wsX8_number) := goodIn_app (goodIn_of _ (by decide +kernel)) ggX8_readGive_X8_number
set_option maxRecDepth 20000 in
theorem ggX8_readGive_X8_readTile : GoodIn wsX8_readGive wsX8_readTile := goodIn_r _ [43, 1, 9, 3, 4, 5, 6, 7, 8, 10, 11, 12, 13, 14, 15, 16, 17, 18, 19, 20, 21, 22, 23, 24, 25, 26, 27, 28, 29, 30, 31, 32, 33, 34, 35, 36, 37, 38, 39, 44, 45, 46, 47, 48, 49, 50, 51, 52, 53, 54, 55, 56, 57, 58, 59, 60, 61, 62, 63, 64, 65, 66, 67, 68, 69, 70, 71, 72, 73, 74, 75] rfl (by decide +kernel)
set_option maxRecDepth 20000 in
theorem gX8_readGive_X8_readTile : GoodIn wsX8_readGive (wsV RX8 170 RX8 yX8_readTile wsX8_readTile) := goodIn_app (goodIn_of _ (by decide +kernel)) ggX8_readGive_X8_readTile
set_option maxRecDepth 20000 in
theorem ggX8_readGive_X8_isGood : GoodIn wsX8_readGive wsX8_isGood := goodIn_r _ [14, 15, 54, 55, 56, 57, 58, 59, 60, 61, 62, 63, 64, 65, 66, 67, 68, 69, 70, 71, 72, 73, 74, 75] rfl (by decide +kernel)
set_option maxRecDepth 20000 in
theorem gX8_readGive_X8_isGood : GoodIn wsX8_readGive (wsV RX8 95 RX8 yX8_isGood wsX8_isGood) := goodIn_app (goodIn_of _ (by decide +kernel)) ggX8_readGive_X8_isGood
set_option maxRecDepth 20000 in
theorem ggX8_readGive_X8_ahead : GoodIn wsX8_readGive wsX8_ahead := goodIn_r _ [19, 8, 20, 21, 22, 6, 23, 24, 25, 54, 55, 56, 57, 58, 59, 60, 61, 62, 63, 64, 65, 66, 67, 68, 69, 70, 71, 72, 73, 74, 75] rfl (by decide +kernel)
set_option maxRecDepth 20000 in
theorem gX8_readGive_X8_ahead : GoodIn wsX8_readGive (wsV RX8 99 RX8 yX8_ahead wsX8_ahead) := goodIn_app (goodIn_of _ (by decide +kernel)) ggX8_readGive_X8_ahead
set_option maxRecDepth 20000 in
theorem ggX8_readGive_X8_isDigit : GoodIn wsX8_readGive wsX8_isDigit := goodIn_r _ [28, 29, 30, 6, 31] rfl (by decide +kernel)
set_option maxRecDepth 20000 in
theorem gX8_readGive_X8_isDigit : GoodIn wsX8_readGive (va_wsS RX8 116 yX8_isDigit wsX8_isDigit) := goodIn_app (goodIn_of _ (by decide +kernel)) ggX8_readGive_X8_isDigit
theorem dX8_readGive_0 : decode cX8_readGive 0 = .ok (.aload_n 0, 1) := by decide +kernel
theorem dX8_readGive_1 : decode cX8_readGive 1 = .ok (.iconst 0, 1) := by decide +kernel
theorem dX8_readGive_2 : decode cX8_readGive 2 = .ok (.aload_n 0, 1) := by decide +kernel
theorem dX8_readGive_3 : decode cX8_readGive 3 = .ok (.getfield 20, 3) := by decide +kernel
theorem dX8_readGive_6 : decode cX8_readGive 6 = .ok (.iconst 1, 1) := by decide +kernel
theorem dX8_readGive_7 : decode cX8_readGive 7 = .ok (.iaload, 1) := by decide +kernel
theorem dX8_readGive_8 : decode cX8_readGive 8 = .ok (.iconst 1, 1) := by decide +kernel
theorem dX8_readGive_9 : decode cX8_readGive 9 = .ok (.isub, 1) := by decide +kernel
theorem dX8_readGive_10 : decode cX8_readGive 10 = .ok (.invokevirtual 148, 3) := by decide +kernel
theorem dX8_readGive_13 : decode cX8_readGive 13 = .ok (.istore_n 1, 1) := by decide +kernel
theorem dX8_readGive_14 : decode cX8_readGive 14 = .ok (.aload_n 0, 1) := by decide +kernel
theorem dX8_readGive_15 : decode cX8_readGive 15 = .ok (.iconst 1, 1) := by decide +kernel
theorem dX8_readGive_16 : decode cX8_readGive 16 = .ok (.putfield 166, 3) := by decide +kernel
theorem dX8_readGive_19 : decode cX8_readGive 19 = .ok (.aload_n 0, 1) := by decide +kernel
theorem dX8_readGive_20 : decode cX8_readGive 20 = .ok (.iload_n 1, 1) := by decide +kernel
theorem dX8_readGive_21 : decode cX8_readGive 21 = .ok (.invokevirtual 170, 3) := by decide +kernel
theorem dX8_readGive_24 : decode cX8_readGive 24 = .ok (.aload_n 0, 1) := by decide +kernel
theorem dX8_readGive_25 : decode cX8_readGive 25 = .ok (.invokevirtual 95, 3) := by decide +kernel
theorem dX8_readGive_28 : decode cX8_readGive 28 = .ok (.ifCond .eq 13, 3) := by decide +kernel
theorem dX8_readGive_31 : decode cX8_readGive 31 = .ok (.aload_n 0, 1) := by decide +kernel
theorem dX8_readGive_32 : decode cX8_readGive 32 = .ok (.invokevirtual 99, 3) := by decide +kernel
theorem dX8_readGive_35 : decode cX8_readGive 35 = .ok (.invokestatic 116, 3) := by decide +kernel
theorem dX8_readGive_38 : decode cX8_readGive 38 = .ok (.ifCond .ne (-19), 3) := by decide +kernel
theorem dX8_readGive_41 : decode cX8_readGive 41 = .ok (.return_, 1) := by decide +kernel
set_option maxRecDepth 20000 in
theorem ggX8_statement_X8_ahead : GoodIn wsX8_statement wsX8_ahead := goodIn_r _ [8, 1, 9, 10, 11, 7, 12, 13, 14, 133, 134, 135, 136, 137, 138, 139, 140, 141, 142, 143, 144, 145, 146, 147, 148, 149, 150, 151, 152, 153, 154] rfl (by decide +kernel)
set_option maxRecDepth 20000 in
theorem gX8_statement_X8_ahead : GoodIn wsX8_statement (wsV RX8 99 RX8 yX8_ahead wsX8_ahead) := goodIn_app (goodIn_of _ (by decide +kernel)) ggX8_statement_X8_ahead
set_option maxRecDepth 20000 in
theorem ggX8_statement_X8_takeWord : GoodIn wsX8_statement wsX8_takeWord := goodIn_r _ [18, 1, 19, 20, 21, 7, 22, 23, 4, 5, 6, 8, 9, 10, 11, 12, 13, 14, 24, 25, 26, 27, 28, 29, 30, 31, 32, 33, 34, 35, 36, 37, 38, 39, 40, 41, 42, 43, 44, 45, 46, 47, 48, 49, 50, 51, 52, 53, 54, 55, 56, 57, 58, 59, 60, 61, 62, 63, 64, 65, 66, 67, 68, 69, 70, 71, 72, 73, 74, 75, 133, 134, 135, 136, 137, 138, 139, 140, 141, 142, 143, 144, 145, 146, 147, 148, 149, 150, 151, 152, 153, 154] rfl (by decide +kernel)
set_option maxRecDepth 20000 in
theorem gX8_statement_X8_takeWord : GoodIn wsX8_statement (wsV RX8 136 RX8 yX8_takeWord wsX8_takeWord) := goodIn_app (goodIn_of _ (by decide +kernel)) ggX8_statement_X8_takeWord
set_option maxRecDepth 20000 in
theorem ggX8_statement_X8_once : GoodIn wsX8_statement wsX8_once := goodIn_r _ [79, 80, 81, 82, 83, 7, 84, 23, 85, 133, 134, 135, 136, 137, 138, 139, 140, 141, 142, 143, 144, 145, 146, 147, 148, 149, 150, 151, 152, 153, 154] rfl (by decide +kernel)
set_option maxRecDepth 20000 in
theorem gX8_statement_X8_once : GoodIn wsX8_statement (wsV RX8 175 RX8 yX8_once wsX8_once) := goodIn_app (goodIn_of _ (by decide +kernel)) ggX8_statement_X8_once
set_option maxRecDepth 20000 in
theorem ggX8_statement_X8_report : GoodIn wsX8_statement wsX8_report := goodIn_r _ [84, 23, 85, 133, 134, 135, 136, 137, 138, 139, 140, 141, 142, 143, 144, 145, 146, 147, 148, 149, 150, 151, 152, 153, 154] rfl (by decide +kernel)
set_option maxRecDepth 20000 in
theorem gX8_statement_X8_report : GoodIn wsX8_statement (wsV RX8 112 RX8 yX8_report wsX8_report) := goodIn_app (goodIn_of _ (by decide +kernel)) ggX8_statement_X8_report
set_option maxRecDepth 20000 in
theorem ggX8_statement_X8_number : GoodIn wsX8_statement wsX8_number := goodIn_r _ [89, 1, 90, 91, 19, 20, 21, 7, 22, 23, 4, 5, 6, 8, 9, 10, 11, 12, 13, 14, 92, 93, 94, 73, 74, 75, 81, 82, 83, 84, 85, 95, 96, 97, 133, 134, 135, 136, 137, 138, 139, 140, 141, 142, 143, 144, 145, 146, 147, 148, 149, 150, 151, 152, 153, 154] rfl (by decide +kernel)
set_option maxRecDepth 20000 in
theorem gX8_statement_X8_number : GoodIn wsX8_statement (wsV RX8 148 RX8 yX8_number wsX8_number) := goodIn_app (goodIn_of _ (by decide +kernel)) ggX8_statement_X8_number
set_option maxRecDepth 20000 in
theorem ggX8_statement_X8_readGive : GoodIn wsX8_statement wsX8_readGive := goodIn_r _ [101, 3, 2, 86, 87, 88, 7, 89, 1, 90, 91, 19, 20, 21, 22, 23, 4, 5, 6, 8, 9, 10, 11, 12, 13, 14, 92, 93, 94, 73, 74, 75, 81, 82, 83, 84, 85, 95, 96, 97, 102, 103, 104, 105, 106, 107, 108, 109, 110, 111, 112, 113, 114, 115, 133, 134, 135, 136, 137, 138, 139, 140, 141, 142, 143, 144, 145, 146, 147, 148, 149, 150, 151, 152, 153, 154] rfl (by decide +kernel)
set_option maxRecDepth 20000 in
theorem gX8_statement_X8_readGive : GoodIn wsX8_statement (wsV RX8 182 RX8 yX8_readGive wsX8_readGive) := goodIn_app (goodIn_of _ (by decide +kernel)) ggX8_statement_X8_readGive
set_option maxRecDepth 20000 in
theorem ggX8_statement_X8_readSum : GoodIn wsX8_statement wsX8_readSum := goodIn_r _ [119, 1, 120, 121, 122, 7, 19, 20, 21, 22, 23, 4, 5, 6, 8, 9, 10, 11, 12, 13, 14, 123, 124, 125, 126, 3, 127, 128, 81, 82, 83, 84, 85, 116, 117, 118, 106, 107, 108, 109, 92, 93, 94, 73, 74, 75, 15, 16, 17, 18, 24, 25, 26, 27, 28, 29, 30, 31, 32, 33, 34, 35, 36, 37, 38, 39, 40, 41, 42, 43, 44, 45, 46, 47, 48, 49, 50, 51, 52, 53, 54, 55, 56, 57, 58, 59, 60, 61, 62, 63, 64, 65, 66, 67, 68, 69, 70, 71, 72, 86, 87, 88, 89, 90, 91, 95, 96, 97, 129, 130, 131, 132, 133, 134, 135, 136, 137, 138, 139, 140, 141, 142, 143, 144, 145, 146, 147, 148, 149, 150, 151, 152, 153, 154] rfl (by decide +kernel)
set_option maxRecDepth 20000 in
theorem gX8_statement_X8_readSum : GoodIn wsX8_statement (wsV RX8 127 RX8 yX8_readSum wsX8_readSum) := goodIn_app (goodIn_of _ (by decide +kernel)) ggX8_statement_X8_readSum
set_option maxRecDepth 20000 in
theorem ggX8_statement_X8_expect : GoodIn wsX8_statement wsX8_expect := goodIn_r _ [109, 1, 19, 20, 21, 7, 22, 23, 4, 5, 6, 8, 9, 10, 11, 12, 13, 14, 81, 82, 83, 84, 85, 133, 134, 135, 136, 137, 138, 139, 140, 141, 142, 143, 144, 145, 146, 147, 148, 149, 150, 151, 152, 153, 154] rfl (by decide +kernel)
set_option maxRecDepth 20000 in
theorem gX8_statement_X8_expect : GoodIn wsX8_statement (wsV RX8 130 RX8 yX8_expect wsX8_expect) := goodIn_app (goodIn_of _ (by decide +kernel)) ggX8_statement_X8_expect
theorem dX8_statement_0 : decode cX8_statement 0 = .ok (.aload_n 0, 1) := by decide +kernel
theorem dX8_statement_1 : decode cX8_statement 1 = .ok (.invokevirtual 99, 3) := by decide +kernel
theorem dX8_statement_4 : decode cX8_statement 4 = .ok (.pop, 1) := by decide +kernel
theorem dX8_statement_5 : decode cX8_statement 5 = .ok (.aload_n 0, 1) := by decide +kernel
theorem dX8_statement_6 : decode cX8_statement 6 = .ok (.getfield 83, 3) := by decide +kernel
theorem dX8_statement_9 : decode cX8_statement 9 = .ok (.istore_n 1, 1) := by decide +kernel
theorem dX8_statement_10 : decode cX8_statement 10 = .ok (.aload_n 0, 1) := by decide +kernel
theorem dX8_statement_11 : decode cX8_statement 11 = .ok (.ldc 173, 2) := by decide +kernel
theorem dX8_statement_13 : decode cX8_statement 13 = .ok (.invokevirtual 136, 3) := by decide +kernel
theorem dX8_statement_16 : decode cX8_statement 16 = .ok (.ifCond .eq 43, 3) := by decide +kernel
theorem dX8_statement_19 : decode cX8_statement 19 = .ok (.aload_n 0, 1) := by decide +kernel
theorem dX8_statement_20 : decode cX8_statement 20 = .ok (.iconst 0, 1) := by decide +kernel
theorem dX8_statement_21 : decode cX8_statement 21 = .ok (.iload_n 1, 1) := by decide +kernel
theorem dX8_statement_22 : decode cX8_statement 22 = .ok (.invokevirtual 175, 3) := by decide +kernel
theorem dX8_statement_25 : decode cX8_statement 25 = .ok (.aload_n 0, 1) := by decide +kernel
theorem dX8_statement_26 : decode cX8_statement 26 = .ok (.getfield 166, 3) := by decide +kernel
theorem dX8_statement_29 : decode cX8_statement 29 = .ok (.ifCond .eq 10, 3) := by decide +kernel
theorem dX8_statement_32 : decode cX8_statement 32 = .ok (.aload_n 0, 1) := by decide +kernel
theorem dX8_statement_33 : decode cX8_statement 33 = .ok (.bipush (-2), 2) := by decide +kernel
theorem dX8_statement_35 : decode cX8_statement 35 = .ok (.iload_n 1, 1) := by decide +kernel
theorem dX8_statement_36 : decode cX8_statement 36 = .ok (.invokevirtual 112, 3) := by decide +kernel
theorem dX8_statement_39 : decode cX8_statement 39 = .ok (.aload_n 0, 1) := by decide +kernel
theorem dX8_statement_40 : decode cX8_statement 40 = .ok (.getfield 20, 3) := by decide +kernel
theorem dX8_statement_43 : decode cX8_statement 43 = .ok (.iconst 3, 1) := by decide +kernel
theorem dX8_statement_44 : decode cX8_statement 44 = .ok (.aload_n 0, 1) := by decide +kernel
theorem dX8_statement_45 : decode cX8_statement 45 = .ok (.iconst 0, 1) := by decide +kernel
theorem dX8_statement_46 : decode cX8_statement 46 = .ok (.aload_n 0, 1) := by decide +kernel
theorem dX8_statement_47 : decode cX8_statement 47 = .ok (.getfield 20, 3) := by decide +kernel
theorem dX8_statement_50 : decode cX8_statement 50 = .ok (.iconst 0, 1) := by decide +kernel
theorem dX8_statement_51 : decode cX8_statement 51 = .ok (.iaload, 1) := by decide +kernel
theorem dX8_statement_52 : decode cX8_statement 52 = .ok (.invokevirtual 148, 3) := by decide +kernel
theorem dX8_statement_55 : decode cX8_statement 55 = .ok (.iastore, 1) := by decide +kernel
theorem dX8_statement_56 : decode cX8_statement 56 = .ok (.goto 89, 3) := by decide +kernel
theorem dX8_statement_59 : decode cX8_statement 59 = .ok (.aload_n 0, 1) := by decide +kernel
theorem dX8_statement_60 : decode cX8_statement 60 = .ok (.ldc 178, 2) := by decide +kernel
theorem dX8_statement_62 : decode cX8_statement 62 = .ok (.invokevirtual 136, 3) := by decide +kernel
theorem dX8_statement_65 : decode cX8_statement 65 = .ok (.ifCond .eq 27, 3) := by decide +kernel
theorem dX8_statement_68 : decode cX8_statement 68 = .ok (.aload_n 0, 1) := by decide +kernel
theorem dX8_statement_69 : decode cX8_statement 69 = .ok (.iconst 1, 1) := by decide +kernel
theorem dX8_statement_70 : decode cX8_statement 70 = .ok (.iload_n 1, 1) := by decide +kernel
theorem dX8_statement_71 : decode cX8_statement 71 = .ok (.invokevirtual 175, 3) := by decide +kernel
theorem dX8_statement_74 : decode cX8_statement 74 = .ok (.aload_n 0, 1) := by decide +kernel
theorem dX8_statement_75 : decode cX8_statement 75 = .ok (.getfield 20, 3) := by decide +kernel
theorem dX8_statement_78 : decode cX8_statement 78 = .ok (.bipush 11, 2) := by decide +kernel
theorem dX8_statement_80 : decode cX8_statement 80 = .ok (.aload_n 0, 1) := by decide +kernel
theorem dX8_statement_81 : decode cX8_statement 81 = .ok (.iconst 0, 1) := by decide +kernel
theorem dX8_statement_82 : decode cX8_statement 82 = .ok (.sipush 9999, 3) := by decide +kernel
theorem dX8_statement_85 : decode cX8_statement 85 = .ok (.invokevirtual 148, 3) := by decide +kernel
theorem dX8_statement_88 : decode cX8_statement 88 = .ok (.iastore, 1) := by decide +kernel
theorem dX8_statement_89 : decode cX8_statement 89 = .ok (.goto 56, 3) := by decide +kernel
theorem dX8_statement_92 : decode cX8_statement 92 = .ok (.aload_n 0, 1) := by decide +kernel
theorem dX8_statement_93 : decode cX8_statement 93 = .ok (.ldc 180, 2) := by decide +kernel
theorem dX8_statement_95 : decode cX8_statement 95 = .ok (.invokevirtual 136, 3) := by decide +kernel
theorem dX8_statement_98 : decode cX8_statement 98 = .ok (.ifCond .eq 10, 3) := by decide +kernel
theorem dX8_statement_101 : decode cX8_statement 101 = .ok (.aload_n 0, 1) := by decide +kernel
theorem dX8_statement_102 : decode cX8_statement 102 = .ok (.invokevirtual 182, 3) := by decide +kernel
theorem dX8_statement_105 : decode cX8_statement 105 = .ok (.goto 40, 3) := by decide +kernel
theorem dX8_statement_108 : decode cX8_statement 108 = .ok (.aload_n 0, 1) := by decide +kernel
theorem dX8_statement_109 : decode cX8_statement 109 = .ok (.ldc 185, 2) := by decide +kernel
theorem dX8_statement_111 : decode cX8_statement 111 = .ok (.invokevirtual 136, 3) := by decide +kernel
theorem dX8_statement_114 : decode cX8_statement 114 = .ok (.ifCond .eq 24, 3) := by decide +kernel
theorem dX8_statement_117 : decode cX8_statement 117 = .ok (.aload_n 0, 1) := by decide +kernel
theorem dX8_statement_118 : decode cX8_statement 118 = .ok (.iconst 2, 1) := by decide +kernel
theorem dX8_statement_119 : decode cX8_statement 119 = .ok (.iload_n 1, 1) := by decide +kernel
theorem dX8_statement_120 : decode cX8_statement 120 = .ok (.invokevirtual 175, 3) := by decide +kernel
theorem dX8_statement_123 : decode cX8_statement 123 = .ok (.aload_n 0, 1) := by decide +kernel
theorem dX8_statement_124 : decode cX8_statement 124 = .ok (.getfield 20, 3) := by decide +kernel
theorem dX8_statement_127 : decode cX8_statement 127 = .ok (.bipush 13, 2) := by decide +kernel
theorem dX8_statement_129 : decode cX8_statement 129 = .ok (.iconst 1, 1) := by decide +kernel
theorem dX8_statement_130 : decode cX8_statement 130 = .ok (.iastore, 1) := by decide +kernel
theorem dX8_statement_131 : decode cX8_statement 131 = .ok (.aload_n 0, 1) := by decide +kernel
theorem dX8_statement_132 : decode cX8_statement 132 = .ok (.invokevirtual 127, 3) := by decide +kernel
theorem dX8_statement_135 : decode cX8_statement 135 = .ok (.goto 10, 3) := by decide +kernel
theorem dX8_statement_138 : decode cX8_statement 138 = .ok (.aload_n 0, 1) := by decide +kernel
theorem dX8_statement_139 : decode cX8_statement 139 = .ok (.bipush (-2), 2) := by decide +kernel
theorem dX8_statement_141 : decode cX8_statement 141 = .ok (.iload_n 1, 1) := by decide +kernel
theorem dX8_statement_142 : decode cX8_statement 142 = .ok (.invokevirtual 112, 3) := by decide +kernel
theorem dX8_statement_145 : decode cX8_statement 145 = .ok (.aload_n 0, 1) := by decide +kernel
theorem dX8_statement_146 : decode cX8_statement 146 = .ok (.bipush 59, 2) := by decide +kernel
theorem dX8_statement_148 : decode cX8_statement 148 = .ok (.invokevirtual 130, 3) := by decide +kernel
theorem dX8_statement_151 : decode cX8_statement 151 = .ok (.return_, 1) := by decide +kernel
set_option maxRecDepth 20000 in
theorem ggX8_load_X8_in : GoodIn wsX8_load wsX8_in := goodIn_r _ [16] rfl (by decide +kernel)
set_option maxRecDepth 20000 in
theorem gX8_load_X8_in : GoodIn wsX8_load (va_wsS RX8 56 yX8_in wsX8_in) := goodIn_app (goodIn_of _ (by decide +kernel)) ggX8_load_X8_in
set_option maxRecDepth 20000 in
theorem ggX8_load_X8_fails : GoodIn wsX8_load wsX8_fails := goodIn_r _ [20, 1, 167, 168, 169, 170, 171, 172, 173, 174, 175, 176, 177, 178, 179, 180, 181, 182, 183, 184, 185, 186, 187, 188] rfl (by decide +kernel)
set_option maxRecDepth 20000 in
theorem gX8_load_X8_fails : GoodIn wsX8_load (wsV RX8 187 RX8 yX8_fails wsX8_fails) := goodIn_app (goodIn_of _ (by decide +kernel)) ggX8_load_X8_fails
set_option maxRecDepth 20000 in
theorem ggX8_load_X8_takeWord : GoodIn wsX8_load wsX8_takeWord := goodIn_r _ [24, 4, 25, 26, 27, 15, 28, 5, 29, 30, 31, 32, 33, 34, 35, 36, 3, 37, 38, 39, 40, 41, 42, 43, 44, 45, 46, 47, 48, 49, 50, 51, 52, 53, 54, 55, 56, 57, 58, 59, 60, 61, 62, 63, 64, 65, 66, 67, 68, 69, 70, 71, 72, 73, 74, 75, 76, 77, 78, 79, 80, 81, 82, 83, 84, 85, 86, 13, 14, 16, 167, 168, 169, 170, 171, 172, 173, 174, 175, 176, 177, 178, 179, 180, 181, 182, 183, 184, 185, 186, 187, 188] rfl (by decide +kernel)
set_option maxRecDepth 20000 in
theorem gX8_load_X8_takeWord : GoodIn wsX8_load (wsV RX8 136 RX8 yX8_takeWord wsX8_takeWord) := goodIn_app (goodIn_of _ (by decide +kernel)) ggX8_load_X8_takeWord
set_option maxRecDepth 20000 in
theorem ggX8_load_X8_report : GoodIn wsX8_load wsX8_report := goodIn_r _ [90, 5, 6, 167, 168, 169, 170, 171, 172, 173, 174, 175, 176, 177, 178, 179, 180, 181, 182, 183, 184, 185, 186, 187, 188] rfl (by decide +kernel)
set_option maxRecDepth 20000 in
theorem gX8_load_X8_report : GoodIn wsX8_load (wsV RX8 112 RX8 yX8_report wsX8_report) := goodIn_app (goodIn_of _ (by decide +kernel)) ggX8_load_X8_report
set_option maxRecDepth 20000 in
theorem ggX8_load_X8_number : GoodIn wsX8_load wsX8_number := goodIn_r _ [94, 4, 95, 96, 25, 26, 27, 15, 28, 5, 29, 30, 31, 32, 33, 34, 35, 36, 3, 37, 97, 98, 99, 13, 14, 16, 87, 88, 89, 90, 6, 100, 101, 102, 167, 168, 169, 170, 171, 172, 173, 174, 175, 176, 177, 178, 179, 180, 181, 182, 183, 184, 185, 186, 187, 188] rfl (by decide +kernel)
set_option maxRecDepth 20000 in
theorem gX8_load_X8_number : GoodIn wsX8_load (wsV RX8 148 RX8 yX8_number wsX8_number) := goodIn_app (goodIn_of _ (by decide +kernel)) ggX8_load_X8_number
set_option maxRecDepth 20000 in
theorem ggX8_load_X8_layGame : GoodIn wsX8_load wsX8_layGame := goodIn_r _ [105] rfl (by decide +kernel)
set_option maxRecDepth 20000 in
theorem gX8_load_X8_layGame : GoodIn wsX8_load (va_wsS RX8 45 yX8_layGame wsX8_layGame) := goodIn_app (goodIn_of _ (by decide +kernel)) ggX8_load_X8_layGame
set_option maxRecDepth 20000 in
theorem ggX8_load_X8_expect : GoodIn wsX8_load wsX8_expect := goodIn_r _ [109, 4, 25, 26, 27, 15, 28, 5, 29, 30, 31, 32, 33, 34, 35, 36, 3, 37, 87, 88, 89, 90, 6, 167, 168, 169, 170, 171, 172, 173, 174, 175, 176, 177, 178, 179, 180, 181, 182, 183, 184, 185, 186, 187, 188] rfl (by decide +kernel)
set_option maxRecDepth 20000 in
theorem gX8_load_X8_expect : GoodIn wsX8_load (wsV RX8 130 RX8 yX8_expect wsX8_expect) := goodIn_app (goodIn_of _ (by decide +kernel)) ggX8_load_X8_expect
set_option maxRecDepth 20000 in
theorem ggX8_load_X8_isGood : GoodIn wsX8_load wsX8_isGood := goodIn_r _ [28, 5, 167, 168, 169, 170, 171, 172, 173, 174, 175, 176, 177, 178, 179, 180, 181, 182, 183, 184, 185, 186, 187, 188] rfl (by decide +kernel)
set_option maxRecDepth 20000 in
theorem gX8_load_X8_isGood : GoodIn wsX8_load (wsV RX8 95 RX8 yX8_isGood wsX8_isGood) := goodIn_app (goodIn_of _ (by decide +kernel)) ggX8_load_X8_isGood
set_option maxRecDepth 20000 in
theorem ggX8_load_X8_ahead : GoodIn wsX8_load wsX8_ahead := goodIn_r _ [32, 4, 33, 34, 35, 15, 36, 3, 37, 167, 168, 169, 170, 171, 172, 173, 174, 175, 176, 177, 178, 179, 180, 181, 182, 183, 184, 185, 186, 187, 188] rfl (by decide +kernel)
set_option maxRecDepth 20000 in
theorem gX8_load_X8_ahead : GoodIn wsX8_load (wsV RX8 99 RX8 yX8_ahead wsX8_ahead) := goodIn_app (goodIn_of _ (by decide +kernel)) ggX8_load_X8_ahead
set_option maxRecDepth 20000 in
theorem ggX8_load_X8_statement : GoodIn wsX8_load wsX8_statement := goodIn_r _ [113, 4, 9, 10, 29, 30, 31, 15, 32, 33, 34, 35, 36, 3, 37, 21, 22, 23, 24, 25, 26, 27, 28, 5, 38, 39, 40, 41, 42, 43, 44, 45, 46, 47, 48, 49, 50, 51, 52, 53, 54, 55, 56, 57, 58, 59, 60, 61, 62, 63, 64, 65, 66, 67, 68, 69, 70, 71, 72, 73, 74, 75, 76, 77, 78, 79, 80, 81, 82, 83, 84, 85, 86, 13, 14, 16, 114, 115, 116, 117, 8, 87, 88, 89, 90, 6, 91, 92, 93, 94, 95, 96, 97, 98, 99, 100, 101, 102, 118, 119, 120, 121, 122, 123, 124, 125, 106, 107, 108, 109, 126, 127, 128, 129, 130, 131, 132, 133, 134, 135, 136, 137, 138, 139, 140, 141, 142, 143, 7, 144, 145, 146, 147, 167, 168, 169, 170, 171, 172, 173, 174, 175, 176, 177, 178, 179, 180, 181, 182, 183, 184, 185, 186, 187, 188] rfl (by decide +kernel)
set_option maxRecDepth 20000 in
theorem gX8_load_X8_statement : GoodIn wsX8_load (wsV RX8 193 RX8 yX8_statement wsX8_statement) := goodIn_app (goodIn_of _ (by decide +kernel)) ggX8_load_X8_statement
set_option maxRecDepth 20000 in
theorem ggX8_load_X8_deal : GoodIn wsX8_load wsX8_deal := goodIn_r _ [150, 151, 152, 153, 15, 154, 13, 14, 16, 129, 130, 131, 155, 156, 157] rfl (by decide +kernel)
set_option maxRecDepth 20000 in
theorem gX8_load_X8_deal : GoodIn wsX8_load (va_wsS RX8 49 yX8_deal wsX8_deal) := goodIn_app (goodIn_of _ (by decide +kernel)) ggX8_load_X8_deal
set_option maxRecDepth 20000 in
theorem ggX8_load_X8_remember : GoodIn wsX8_load wsX8_remember := goodIn_r _ [161, 162, 163, 12, 164, 165, 15, 166, 167, 168, 169, 170, 171, 172, 173, 174, 175, 176, 177, 178, 179, 180, 181, 182, 183, 184, 185, 186, 187, 188] rfl (by decide +kernel)
set_option maxRecDepth 20000 in
theorem gX8_load_X8_remember : GoodIn wsX8_load (wsV RX8 196 RX8 yX8_remember wsX8_remember) := goodIn_app (goodIn_of _ (by decide +kernel)) ggX8_load_X8_remember
set_option maxRecDepth 20000 in
theorem ggX8_load_X8_copy : GoodIn wsX8_load wsX8_copy := goodIn_r _ [166] rfl (by decide +kernel)
set_option maxRecDepth 20000 in
theorem gX8_load_X8_copy : GoodIn wsX8_load (va_wsS RX8 199 yX8_copy wsX8_copy) := goodIn_app (goodIn_of _ (by decide +kernel)) ggX8_load_X8_copy
theorem dX8_load_0 : decode cX8_load 0 = .ok (.aload_n 0, 1) := by decide +kernel
theorem dX8_load_1 : decode cX8_load 1 = .ok (.iconst 0, 1) := by decide +kernel
theorem dX8_load_2 : decode cX8_load 2 = .ok (.putfield 53, 3) := by decide +kernel
theorem dX8_load_5 : decode cX8_load 5 = .ok (.aload_n 0, 1) := by decide +kernel
theorem dX8_load_6 : decode cX8_load 6 = .ok (.iload_n 1, 1) := by decide +kernel
theorem dX8_load_7 : decode cX8_load 7 = .ok (.iconst 0, 1) := by decide +kernel
