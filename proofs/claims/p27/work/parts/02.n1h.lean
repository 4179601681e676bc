theorem dX10_init_53 : decode cX10_init 53 = .ok (.putfield 34, 3) := by decide +kernel
theorem dX10_init_56 : decode cX10_init 56 = .ok (.aload_n 0, 1) := by decide +kernel
theorem dX10_init_57 : decode cX10_init 57 = .ok (.iconst 3, 1) := by decide +kernel
theorem dX10_init_58 : decode cX10_init 58 = .ok (.newarray .boolean, 2) := by decide +kernel
theorem dX10_init_60 : decode cX10_init 60 = .ok (.putfield 37, 3) := by decide +kernel
theorem dX10_init_63 : decode cX10_init 63 = .ok (.aload_n 0, 1) := by decide +kernel
theorem dX10_init_64 : decode cX10_init 64 = .ok (.iconst 0, 1) := by decide +kernel
theorem dX10_init_65 : decode cX10_init 65 = .ok (.newarray .int, 2) := by decide +kernel
theorem dX10_init_67 : decode cX10_init 67 = .ok (.putfield 41, 3) := by decide +kernel
theorem dX10_init_70 : decode cX10_init 70 = .ok (.aload_n 0, 1) := by decide +kernel
theorem dX10_init_71 : decode cX10_init 71 = .ok (.iconst 5, 1) := by decide +kernel
theorem dX10_init_72 : decode cX10_init 72 = .ok (.newarray .long, 2) := by decide +kernel
theorem dX10_init_74 : decode cX10_init 74 = .ok (.putfield 44, 3) := by decide +kernel
theorem dX10_init_77 : decode cX10_init 77 = .ok (.return_, 1) := by decide +kernel
set_option maxRecDepth 20000 in
theorem ggX10_copy_X10_init : GoodIn wsX10_copy wsX10_init := goodIn_r _ [33, 34, 35, 36, 4, 5, 6, 7, 10, 15, 37, 14, 16, 23, 38, 24, 29, 39, 40, 41, 42, 43, 44, 45, 46, 47, 48, 49, 50, 51, 52, 53, 54, 55, 56, 57] rfl (by decide +kernel)
set_option maxRecDepth 20000 in
theorem gX10_copy_X10_init : GoodIn wsX10_copy (wsX10_init) := ggX10_copy_X10_init
theorem dX10_copy_0 : decode cX10_copy 0 = .ok (.new 8, 3) := by decide +kernel
theorem dX10_copy_3 : decode cX10_copy 3 = .ok (.dup, 1) := by decide +kernel
theorem dX10_copy_4 : decode cX10_copy 4 = .ok (.invokespecial 48, 3) := by decide +kernel
theorem dX10_copy_7 : decode cX10_copy 7 = .ok (.astore_n 1, 1) := by decide +kernel
theorem dX10_copy_8 : decode cX10_copy 8 = .ok (.aload_n 1, 1) := by decide +kernel
theorem dX10_copy_9 : decode cX10_copy 9 = .ok (.aload_n 0, 1) := by decide +kernel
theorem dX10_copy_10 : decode cX10_copy 10 = .ok (.getfield 7, 3) := by decide +kernel
theorem dX10_copy_13 : decode cX10_copy 13 = .ok (.putfield 7, 3) := by decide +kernel
theorem dX10_copy_16 : decode cX10_copy 16 = .ok (.aload_n 1, 1) := by decide +kernel
theorem dX10_copy_17 : decode cX10_copy 17 = .ok (.aload_n 0, 1) := by decide +kernel
theorem dX10_copy_18 : decode cX10_copy 18 = .ok (.getfield 13, 3) := by decide +kernel
theorem dX10_copy_21 : decode cX10_copy 21 = .ok (.putfield 13, 3) := by decide +kernel
theorem dX10_copy_24 : decode cX10_copy 24 = .ok (.aload_n 1, 1) := by decide +kernel
theorem dX10_copy_25 : decode cX10_copy 25 = .ok (.aload_n 0, 1) := by decide +kernel
theorem dX10_copy_26 : decode cX10_copy 26 = .ok (.getfield 16, 3) := by decide +kernel
theorem dX10_copy_29 : decode cX10_copy 29 = .ok (.putfield 16, 3) := by decide +kernel
theorem dX10_copy_32 : decode cX10_copy 32 = .ok (.aload_n 1, 1) := by decide +kernel
theorem dX10_copy_33 : decode cX10_copy 33 = .ok (.aload_n 0, 1) := by decide +kernel
theorem dX10_copy_34 : decode cX10_copy 34 = .ok (.getfield 19, 3) := by decide +kernel
theorem dX10_copy_37 : decode cX10_copy 37 = .ok (.putfield 19, 3) := by decide +kernel
theorem dX10_copy_40 : decode cX10_copy 40 = .ok (.aload_n 1, 1) := by decide +kernel
theorem dX10_copy_41 : decode cX10_copy 41 = .ok (.aload_n 0, 1) := by decide +kernel
theorem dX10_copy_42 : decode cX10_copy 42 = .ok (.getfield 49, 3) := by decide +kernel
theorem dX10_copy_45 : decode cX10_copy 45 = .ok (.putfield 49, 3) := by decide +kernel
theorem dX10_copy_48 : decode cX10_copy 48 = .ok (.aload_n 1, 1) := by decide +kernel
theorem dX10_copy_49 : decode cX10_copy 49 = .ok (.aload_n 0, 1) := by decide +kernel
theorem dX10_copy_50 : decode cX10_copy 50 = .ok (.getfield 52, 3) := by decide +kernel
theorem dX10_copy_53 : decode cX10_copy 53 = .ok (.putfield 52, 3) := by decide +kernel
theorem dX10_copy_56 : decode cX10_copy 56 = .ok (.aload_n 1, 1) := by decide +kernel
theorem dX10_copy_57 : decode cX10_copy 57 = .ok (.aload_n 0, 1) := by decide +kernel
theorem dX10_copy_58 : decode cX10_copy 58 = .ok (.getfield 22, 3) := by decide +kernel
theorem dX10_copy_61 : decode cX10_copy 61 = .ok (.putfield 22, 3) := by decide +kernel
theorem dX10_copy_64 : decode cX10_copy 64 = .ok (.aload_n 1, 1) := by decide +kernel
theorem dX10_copy_65 : decode cX10_copy 65 = .ok (.aload_n 0, 1) := by decide +kernel
theorem dX10_copy_66 : decode cX10_copy 66 = .ok (.getfield 56, 3) := by decide +kernel
theorem dX10_copy_69 : decode cX10_copy 69 = .ok (.putfield 56, 3) := by decide +kernel
theorem dX10_copy_72 : decode cX10_copy 72 = .ok (.aload_n 1, 1) := by decide +kernel
theorem dX10_copy_73 : decode cX10_copy 73 = .ok (.aload_n 0, 1) := by decide +kernel
theorem dX10_copy_74 : decode cX10_copy 74 = .ok (.getfield 59, 3) := by decide +kernel
theorem dX10_copy_77 : decode cX10_copy 77 = .ok (.putfield 59, 3) := by decide +kernel
theorem dX10_copy_80 : decode cX10_copy 80 = .ok (.aload_n 1, 1) := by decide +kernel
theorem dX10_copy_81 : decode cX10_copy 81 = .ok (.aload_n 0, 1) := by decide +kernel
theorem dX10_copy_82 : decode cX10_copy 82 = .ok (.getfield 62, 3) := by decide +kernel
theorem dX10_copy_85 : decode cX10_copy 85 = .ok (.putfield 62, 3) := by decide +kernel
theorem dX10_copy_88 : decode cX10_copy 88 = .ok (.aload_n 1, 1) := by decide +kernel
theorem dX10_copy_89 : decode cX10_copy 89 = .ok (.aload_n 0, 1) := by decide +kernel
theorem dX10_copy_90 : decode cX10_copy 90 = .ok (.getfield 27, 3) := by decide +kernel
theorem dX10_copy_93 : decode cX10_copy 93 = .ok (.invokevirtual 65, 3) := by decide +kernel
theorem dX10_copy_96 : decode cX10_copy 96 = .ok (.checkcast 25, 3) := by decide +kernel
theorem dX10_copy_99 : decode cX10_copy 99 = .ok (.putfield 27, 3) := by decide +kernel
theorem dX10_copy_102 : decode cX10_copy 102 = .ok (.aload_n 1, 1) := by decide +kernel
theorem dX10_copy_103 : decode cX10_copy 103 = .ok (.aload_n 0, 1) := by decide +kernel
theorem dX10_copy_104 : decode cX10_copy 104 = .ok (.getfield 30, 3) := by decide +kernel
theorem dX10_copy_107 : decode cX10_copy 107 = .ok (.invokevirtual 69, 3) := by decide +kernel
theorem dX10_copy_110 : decode cX10_copy 110 = .ok (.checkcast 70, 3) := by decide +kernel
theorem dX10_copy_113 : decode cX10_copy 113 = .ok (.putfield 30, 3) := by decide +kernel
theorem dX10_copy_116 : decode cX10_copy 116 = .ok (.aload_n 1, 1) := by decide +kernel
theorem dX10_copy_117 : decode cX10_copy 117 = .ok (.aload_n 0, 1) := by decide +kernel
theorem dX10_copy_118 : decode cX10_copy 118 = .ok (.getfield 34, 3) := by decide +kernel
theorem dX10_copy_121 : decode cX10_copy 121 = .ok (.invokevirtual 65, 3) := by decide +kernel
theorem dX10_copy_124 : decode cX10_copy 124 = .ok (.checkcast 25, 3) := by decide +kernel
theorem dX10_copy_127 : decode cX10_copy 127 = .ok (.putfield 34, 3) := by decide +kernel
theorem dX10_copy_130 : decode cX10_copy 130 = .ok (.aload_n 1, 1) := by decide +kernel
theorem dX10_copy_131 : decode cX10_copy 131 = .ok (.aload_n 0, 1) := by decide +kernel
theorem dX10_copy_132 : decode cX10_copy 132 = .ok (.getfield 37, 3) := by decide +kernel
theorem dX10_copy_135 : decode cX10_copy 135 = .ok (.invokevirtual 71, 3) := by decide +kernel
theorem dX10_copy_138 : decode cX10_copy 138 = .ok (.checkcast 72, 3) := by decide +kernel
theorem dX10_copy_141 : decode cX10_copy 141 = .ok (.putfield 37, 3) := by decide +kernel
theorem dX10_copy_144 : decode cX10_copy 144 = .ok (.aload_n 1, 1) := by decide +kernel
theorem dX10_copy_145 : decode cX10_copy 145 = .ok (.aload_n 0, 1) := by decide +kernel
theorem dX10_copy_146 : decode cX10_copy 146 = .ok (.getfield 41, 3) := by decide +kernel
theorem dX10_copy_149 : decode cX10_copy 149 = .ok (.putfield 41, 3) := by decide +kernel
theorem dX10_copy_152 : decode cX10_copy 152 = .ok (.aload_n 1, 1) := by decide +kernel
theorem dX10_copy_153 : decode cX10_copy 153 = .ok (.aload_n 0, 1) := by decide +kernel
theorem dX10_copy_154 : decode cX10_copy 154 = .ok (.getfield 73, 3) := by decide +kernel
theorem dX10_copy_157 : decode cX10_copy 157 = .ok (.putfield 73, 3) := by decide +kernel
theorem dX10_copy_160 : decode cX10_copy 160 = .ok (.aload_n 1, 1) := by decide +kernel
theorem dX10_copy_161 : decode cX10_copy 161 = .ok (.areturn, 1) := by decide +kernel
set_option maxRecDepth 20000 in
theorem ggX10_deals_L_has : GoodIn wsX10_deals wsL_has := goodIn_r _ [19] rfl (by decide +kernel)
set_option maxRecDepth 20000 in
theorem gX10_deals_L_has_n77 : GoodIn wsX10_deals (wsL_has) := ggX10_deals_L_has
set_option maxRecDepth 20000 in
theorem ggX10_deals_L_with : GoodIn wsX10_deals wsL_with := goodIn_r _ [21, 1] rfl (by decide +kernel)
set_option maxRecDepth 20000 in
theorem gX10_deals_L_with_n83 : GoodIn wsX10_deals (wsL_with) := ggX10_deals_L_with
theorem dX10_deals_0 : decode cX10_deals 0 = .ok (.iconst 0, 1) := by decide +kernel
theorem dX10_deals_1 : decode cX10_deals 1 = .ok (.newarray .int, 2) := by decide +kernel
theorem dX10_deals_3 : decode cX10_deals 3 = .ok (.astore_n 1, 1) := by decide +kernel
theorem dX10_deals_4 : decode cX10_deals 4 = .ok (.iconst 0, 1) := by decide +kernel
theorem dX10_deals_5 : decode cX10_deals 5 = .ok (.istore_n 2, 1) := by decide +kernel
theorem dX10_deals_6 : decode cX10_deals 6 = .ok (.iload_n 2, 1) := by decide +kernel
theorem dX10_deals_7 : decode cX10_deals 7 = .ok (.aload_n 0, 1) := by decide +kernel
theorem dX10_deals_8 : decode cX10_deals 8 = .ok (.getfield 7, 3) := by decide +kernel
theorem dX10_deals_11 : decode cX10_deals 11 = .ok (.if_icmp .gt 114, 3) := by decide +kernel
theorem dX10_deals_14 : decode cX10_deals 14 = .ok (.iload_n 2, 1) := by decide +kernel
theorem dX10_deals_15 : decode cX10_deals 15 = .ok (.istore_n 3, 1) := by decide +kernel
theorem dX10_deals_16 : decode cX10_deals 16 = .ok (.iload_n 3, 1) := by decide +kernel
theorem dX10_deals_17 : decode cX10_deals 17 = .ok (.aload_n 0, 1) := by decide +kernel
theorem dX10_deals_18 : decode cX10_deals 18 = .ok (.getfield 7, 3) := by decide +kernel
theorem dX10_deals_21 : decode cX10_deals 21 = .ok (.if_icmp .gt 98, 3) := by decide +kernel
theorem dX10_deals_24 : decode cX10_deals 24 = .ok (.iload_n 2, 1) := by decide +kernel
theorem dX10_deals_25 : decode cX10_deals 25 = .ok (.aload_n 0, 1) := by decide +kernel
theorem dX10_deals_26 : decode cX10_deals 26 = .ok (.getfield 16, 3) := by decide +kernel
theorem dX10_deals_29 : decode cX10_deals 29 = .ok (.if_icmp .ne 15, 3) := by decide +kernel
theorem dX10_deals_32 : decode cX10_deals 32 = .ok (.iload_n 3, 1) := by decide +kernel
theorem dX10_deals_33 : decode cX10_deals 33 = .ok (.aload_n 0, 1) := by decide +kernel
theorem dX10_deals_34 : decode cX10_deals 34 = .ok (.getfield 16, 3) := by decide +kernel
theorem dX10_deals_37 : decode cX10_deals 37 = .ok (.if_icmp .ne 7, 3) := by decide +kernel
theorem dX10_deals_40 : decode cX10_deals 40 = .ok (.iconst 1, 1) := by decide +kernel
theorem dX10_deals_41 : decode cX10_deals 41 = .ok (.goto 4, 3) := by decide +kernel
theorem dX10_deals_44 : decode cX10_deals 44 = .ok (.iconst 0, 1) := by decide +kernel
theorem dX10_deals_45 : decode cX10_deals 45 = .ok (.istore 4, 2) := by decide +kernel
theorem dX10_deals_47 : decode cX10_deals 47 = .ok (.aload_n 0, 1) := by decide +kernel
theorem dX10_deals_48 : decode cX10_deals 48 = .ok (.getfield 27, 3) := by decide +kernel
theorem dX10_deals_51 : decode cX10_deals 51 = .ok (.astore 5, 2) := by decide +kernel
theorem dX10_deals_53 : decode cX10_deals 53 = .ok (.aload 5, 2) := by decide +kernel
theorem dX10_deals_55 : decode cX10_deals 55 = .ok (.arraylength, 1) := by decide +kernel
theorem dX10_deals_56 : decode cX10_deals 56 = .ok (.istore 6, 2) := by decide +kernel
theorem dX10_deals_58 : decode cX10_deals 58 = .ok (.iconst 0, 1) := by decide +kernel
theorem dX10_deals_59 : decode cX10_deals 59 = .ok (.istore 7, 2) := by decide +kernel
theorem dX10_deals_61 : decode cX10_deals 61 = .ok (.iload 7, 2) := by decide +kernel
theorem dX10_deals_63 : decode cX10_deals 63 = .ok (.iload 6, 2) := by decide +kernel
theorem dX10_deals_65 : decode cX10_deals 65 = .ok (.if_icmp .ge 32, 3) := by decide +kernel
theorem dX10_deals_68 : decode cX10_deals 68 = .ok (.aload 5, 2) := by decide +kernel
theorem dX10_deals_70 : decode cX10_deals 70 = .ok (.iload 7, 2) := by decide +kernel
theorem dX10_deals_72 : decode cX10_deals 72 = .ok (.aaload, 1) := by decide +kernel
theorem dX10_deals_73 : decode cX10_deals 73 = .ok (.astore 8, 2) := by decide +kernel
theorem dX10_deals_75 : decode cX10_deals 75 = .ok (.iload 4, 2) := by decide +kernel
theorem dX10_deals_77 : decode cX10_deals 77 = .ok (.aload 8, 2) := by decide +kernel
theorem dX10_deals_79 : decode cX10_deals 79 = .ok (.bipush 10, 2) := by decide +kernel
theorem dX10_deals_81 : decode cX10_deals 81 = .ok (.iload_n 2, 1) := by decide +kernel
theorem dX10_deals_82 : decode cX10_deals 82 = .ok (.imul, 1) := by decide +kernel
theorem dX10_deals_83 : decode cX10_deals 83 = .ok (.iload_n 3, 1) := by decide +kernel
theorem dX10_deals_84 : decode cX10_deals 84 = .ok (.iadd, 1) := by decide +kernel
theorem dX10_deals_85 : decode cX10_deals 85 = .ok (.invokestatic 77, 3) := by decide +kernel
theorem dX10_deals_88 : decode cX10_deals 88 = .ok (.ior, 1) := by decide +kernel
theorem dX10_deals_89 : decode cX10_deals 89 = .ok (.istore 4, 2) := by decide +kernel
theorem dX10_deals_91 : decode cX10_deals 91 = .ok (.iinc 7 1, 3) := by decide +kernel
theorem dX10_deals_94 : decode cX10_deals 94 = .ok (.goto (-33), 3) := by decide +kernel
theorem dX10_deals_97 : decode cX10_deals 97 = .ok (.iload 4, 2) := by decide +kernel
theorem dX10_deals_99 : decode cX10_deals 99 = .ok (.ifCond .ne 14, 3) := by decide +kernel
theorem dX10_deals_102 : decode cX10_deals 102 = .ok (.aload_n 1, 1) := by decide +kernel
theorem dX10_deals_103 : decode cX10_deals 103 = .ok (.bipush 10, 2) := by decide +kernel
theorem dX10_deals_105 : decode cX10_deals 105 = .ok (.iload_n 2, 1) := by decide +kernel
theorem dX10_deals_106 : decode cX10_deals 106 = .ok (.imul, 1) := by decide +kernel
theorem dX10_deals_107 : decode cX10_deals 107 = .ok (.iload_n 3, 1) := by decide +kernel
theorem dX10_deals_108 : decode cX10_deals 108 = .ok (.iadd, 1) := by decide +kernel
theorem dX10_deals_109 : decode cX10_deals 109 = .ok (.invokestatic 83, 3) := by decide +kernel
theorem dX10_deals_112 : decode cX10_deals 112 = .ok (.astore_n 1, 1) := by decide +kernel
theorem dX10_deals_113 : decode cX10_deals 113 = .ok (.iinc 3 1, 3) := by decide +kernel
theorem dX10_deals_116 : decode cX10_deals 116 = .ok (.goto (-100), 3) := by decide +kernel
theorem dX10_deals_119 : decode cX10_deals 119 = .ok (.iinc 2 1, 3) := by decide +kernel
theorem dX10_deals_122 : decode cX10_deals 122 = .ok (.goto (-116), 3) := by decide +kernel
theorem dX10_deals_125 : decode cX10_deals 125 = .ok (.aload_n 1, 1) := by decide +kernel
theorem dX10_deals_126 : decode cX10_deals 126 = .ok (.arraylength, 1) := by decide +kernel
theorem dX10_deals_127 : decode cX10_deals 127 = .ok (.iconst 1, 1) := by decide +kernel
theorem dX10_deals_128 : decode cX10_deals 128 = .ok (.isub, 1) := by decide +kernel
theorem dX10_deals_129 : decode cX10_deals 129 = .ok (.istore_n 2, 1) := by decide +kernel
theorem dX10_deals_130 : decode cX10_deals 130 = .ok (.iload_n 2, 1) := by decide +kernel
theorem dX10_deals_131 : decode cX10_deals 131 = .ok (.iconst 1, 1) := by decide +kernel
theorem dX10_deals_132 : decode cX10_deals 132 = .ok (.if_icmp .lt 55, 3) := by decide +kernel
theorem dX10_deals_135 : decode cX10_deals 135 = .ok (.aload_n 0, 1) := by decide +kernel
theorem dX10_deals_136 : decode cX10_deals 136 = .ok (.ldc 87, 2) := by decide +kernel
theorem dX10_deals_138 : decode cX10_deals 138 = .ok (.aload_n 0, 1) := by decide +kernel
theorem dX10_deals_139 : decode cX10_deals 139 = .ok (.getfield 19, 3) := by decide +kernel
theorem dX10_deals_142 : decode cX10_deals 142 = .ok (.imul, 1) := by decide +kernel
theorem dX10_deals_143 : decode cX10_deals 143 = .ok (.sipush 12345, 3) := by decide +kernel
theorem dX10_deals_146 : decode cX10_deals 146 = .ok (.iadd, 1) := by decide +kernel
theorem dX10_deals_147 : decode cX10_deals 147 = .ok (.putfield 19, 3) := by decide +kernel
theorem dX10_deals_150 : decode cX10_deals 150 = .ok (.aload_n 0, 1) := by decide +kernel
theorem dX10_deals_151 : decode cX10_deals 151 = .ok (.getfield 19, 3) := by decide +kernel
theorem dX10_deals_154 : decode cX10_deals 154 = .ok (.bipush 16, 2) := by decide +kernel
theorem dX10_deals_156 : decode cX10_deals 156 = .ok (.iushr, 1) := by decide +kernel
theorem dX10_deals_157 : decode cX10_deals 157 = .ok (.ldc 88, 2) := by decide +kernel
theorem dX10_deals_159 : decode cX10_deals 159 = .ok (.irem, 1) := by decide +kernel
theorem dX10_deals_160 : decode cX10_deals 160 = .ok (.iload_n 2, 1) := by decide +kernel
theorem dX10_deals_161 : decode cX10_deals 161 = .ok (.iconst 1, 1) := by decide +kernel
theorem dX10_deals_162 : decode cX10_deals 162 = .ok (.iadd, 1) := by decide +kernel
theorem dX10_deals_163 : decode cX10_deals 163 = .ok (.irem, 1) := by decide +kernel
theorem dX10_deals_164 : decode cX10_deals 164 = .ok (.istore_n 3, 1) := by decide +kernel
theorem dX10_deals_165 : decode cX10_deals 165 = .ok (.aload_n 1, 1) := by decide +kernel
theorem dX10_deals_166 : decode cX10_deals 166 = .ok (.iload_n 2, 1) := by decide +kernel
theorem dX10_deals_167 : decode cX10_deals 167 = .ok (.iaload, 1) := by decide +kernel
theorem dX10_deals_168 : decode cX10_deals 168 = .ok (.istore 4, 2) := by decide +kernel
theorem dX10_deals_170 : decode cX10_deals 170 = .ok (.aload_n 1, 1) := by decide +kernel
theorem dX10_deals_171 : decode cX10_deals 171 = .ok (.iload_n 2, 1) := by decide +kernel
theorem dX10_deals_172 : decode cX10_deals 172 = .ok (.aload_n 1, 1) := by decide +kernel
theorem dX10_deals_173 : decode cX10_deals 173 = .ok (.iload_n 3, 1) := by decide +kernel
theorem dX10_deals_174 : decode cX10_deals 174 = .ok (.iaload, 1) := by decide +kernel
theorem dX10_deals_175 : decode cX10_deals 175 = .ok (.iastore, 1) := by decide +kernel
theorem dX10_deals_176 : decode cX10_deals 176 = .ok (.aload_n 1, 1) := by decide +kernel
theorem dX10_deals_177 : decode cX10_deals 177 = .ok (.iload_n 3, 1) := by decide +kernel
theorem dX10_deals_178 : decode cX10_deals 178 = .ok (.iload 4, 2) := by decide +kernel
theorem dX10_deals_180 : decode cX10_deals 180 = .ok (.iastore, 1) := by decide +kernel
theorem dX10_deals_181 : decode cX10_deals 181 = .ok (.iinc 2 (-1), 3) := by decide +kernel
theorem dX10_deals_184 : decode cX10_deals 184 = .ok (.goto (-54), 3) := by decide +kernel
theorem dX10_deals_187 : decode cX10_deals 187 = .ok (.iconst 0, 1) := by decide +kernel
theorem dX10_deals_188 : decode cX10_deals 188 = .ok (.istore_n 2, 1) := by decide +kernel
theorem dX10_deals_189 : decode cX10_deals 189 = .ok (.iconst 0, 1) := by decide +kernel
theorem dX10_deals_190 : decode cX10_deals 190 = .ok (.istore_n 3, 1) := by decide +kernel
theorem dX10_deals_191 : decode cX10_deals 191 = .ok (.iload_n 3, 1) := by decide +kernel
theorem dX10_deals_192 : decode cX10_deals 192 = .ok (.aload_n 0, 1) := by decide +kernel
theorem dX10_deals_193 : decode cX10_deals 193 = .ok (.getfield 27, 3) := by decide +kernel
theorem dX10_deals_196 : decode cX10_deals 196 = .ok (.arraylength, 1) := by decide +kernel
theorem dX10_deals_197 : decode cX10_deals 197 = .ok (.if_icmp .ge 53, 3) := by decide +kernel
theorem dX10_deals_200 : decode cX10_deals 200 = .ok (.aload_n 0, 1) := by decide +kernel
theorem dX10_deals_201 : decode cX10_deals 201 = .ok (.getfield 27, 3) := by decide +kernel
theorem dX10_deals_204 : decode cX10_deals 204 = .ok (.iload_n 3, 1) := by decide +kernel
theorem dX10_deals_205 : decode cX10_deals 205 = .ok (.aaload, 1) := by decide +kernel
theorem dX10_deals_206 : decode cX10_deals 206 = .ok (.arraylength, 1) := by decide +kernel
theorem dX10_deals_207 : decode cX10_deals 207 = .ok (.aload_n 0, 1) := by decide +kernel
theorem dX10_deals_208 : decode cX10_deals 208 = .ok (.getfield 13, 3) := by decide +kernel
theorem dX10_deals_211 : decode cX10_deals 211 = .ok (.if_icmp .ge 33, 3) := by decide +kernel
theorem dX10_deals_214 : decode cX10_deals 214 = .ok (.iload_n 2, 1) := by decide +kernel
theorem dX10_deals_215 : decode cX10_deals 215 = .ok (.aload_n 1, 1) := by decide +kernel
theorem dX10_deals_216 : decode cX10_deals 216 = .ok (.arraylength, 1) := by decide +kernel
theorem dX10_deals_217 : decode cX10_deals 217 = .ok (.if_icmp .ge 27, 3) := by decide +kernel
theorem dX10_deals_220 : decode cX10_deals 220 = .ok (.aload_n 0, 1) := by decide +kernel
theorem dX10_deals_221 : decode cX10_deals 221 = .ok (.getfield 27, 3) := by decide +kernel
theorem dX10_deals_224 : decode cX10_deals 224 = .ok (.iload_n 3, 1) := by decide +kernel
theorem dX10_deals_225 : decode cX10_deals 225 = .ok (.aload_n 0, 1) := by decide +kernel
theorem dX10_deals_226 : decode cX10_deals 226 = .ok (.getfield 27, 3) := by decide +kernel
theorem dX10_deals_229 : decode cX10_deals 229 = .ok (.iload_n 3, 1) := by decide +kernel
theorem dX10_deals_230 : decode cX10_deals 230 = .ok (.aaload, 1) := by decide +kernel
theorem dX10_deals_231 : decode cX10_deals 231 = .ok (.aload_n 1, 1) := by decide +kernel
theorem dX10_deals_232 : decode cX10_deals 232 = .ok (.iload_n 2, 1) := by decide +kernel
theorem dX10_deals_233 : decode cX10_deals 233 = .ok (.iaload, 1) := by decide +kernel
theorem dX10_deals_234 : decode cX10_deals 234 = .ok (.invokestatic 83, 3) := by decide +kernel
theorem dX10_deals_237 : decode cX10_deals 237 = .ok (.aastore, 1) := by decide +kernel
theorem dX10_deals_238 : decode cX10_deals 238 = .ok (.iinc 2 1, 3) := by decide +kernel
theorem dX10_deals_241 : decode cX10_deals 241 = .ok (.goto (-41), 3) := by decide +kernel
theorem dX10_deals_244 : decode cX10_deals 244 = .ok (.iinc 3 1, 3) := by decide +kernel
theorem dX10_deals_247 : decode cX10_deals 247 = .ok (.goto (-56), 3) := by decide +kernel
theorem dX10_deals_250 : decode cX10_deals 250 = .ok (.aload_n 0, 1) := by decide +kernel
theorem dX10_deals_251 : decode cX10_deals 251 = .ok (.iconst 0, 1) := by decide +kernel
theorem dX10_deals_252 : decode cX10_deals 252 = .ok (.newarray .int, 2) := by decide +kernel
theorem dX10_deals_254 : decode cX10_deals 254 = .ok (.putfield 41, 3) := by decide +kernel
theorem dX10_deals_257 : decode cX10_deals 257 = .ok (.iload_n 2, 1) := by decide +kernel
theorem dX10_deals_258 : decode cX10_deals 258 = .ok (.istore_n 3, 1) := by decide +kernel
theorem dX10_deals_259 : decode cX10_deals 259 = .ok (.iload_n 3, 1) := by decide +kernel
theorem dX10_deals_260 : decode cX10_deals 260 = .ok (.aload_n 1, 1) := by decide +kernel
theorem dX10_deals_261 : decode cX10_deals 261 = .ok (.arraylength, 1) := by decide +kernel
theorem dX10_deals_262 : decode cX10_deals 262 = .ok (.if_icmp .ge 23, 3) := by decide +kernel
theorem dX10_deals_265 : decode cX10_deals 265 = .ok (.aload_n 0, 1) := by decide +kernel
theorem dX10_deals_266 : decode cX10_deals 266 = .ok (.aload_n 0, 1) := by decide +kernel
theorem dX10_deals_267 : decode cX10_deals 267 = .ok (.getfield 41, 3) := by decide +kernel
theorem dX10_deals_270 : decode cX10_deals 270 = .ok (.aload_n 1, 1) := by decide +kernel
theorem dX10_deals_271 : decode cX10_deals 271 = .ok (.iload_n 3, 1) := by decide +kernel
theorem dX10_deals_272 : decode cX10_deals 272 = .ok (.iaload, 1) := by decide +kernel
theorem dX10_deals_273 : decode cX10_deals 273 = .ok (.invokestatic 83, 3) := by decide +kernel
theorem dX10_deals_276 : decode cX10_deals 276 = .ok (.putfield 41, 3) := by decide +kernel
theorem dX10_deals_279 : decode cX10_deals 279 = .ok (.iinc 3 1, 3) := by decide +kernel
theorem dX10_deals_282 : decode cX10_deals 282 = .ok (.goto (-23), 3) := by decide +kernel
theorem dX10_deals_285 : decode cX10_deals 285 = .ok (.iconst 0, 1) := by decide +kernel
theorem dX10_deals_286 : decode cX10_deals 286 = .ok (.istore_n 3, 1) := by decide +kernel
theorem dX10_deals_287 : decode cX10_deals 287 = .ok (.iload_n 3, 1) := by decide +kernel
theorem dX10_deals_288 : decode cX10_deals 288 = .ok (.aload_n 0, 1) := by decide +kernel
theorem dX10_deals_289 : decode cX10_deals 289 = .ok (.getfield 34, 3) := by decide +kernel
theorem dX10_deals_292 : decode cX10_deals 292 = .ok (.arraylength, 1) := by decide +kernel
theorem dX10_deals_293 : decode cX10_deals 293 = .ok (.if_icmp .ge 38, 3) := by decide +kernel
theorem dX10_deals_296 : decode cX10_deals 296 = .ok (.aload_n 0, 1) := by decide +kernel
theorem dX10_deals_297 : decode cX10_deals 297 = .ok (.getfield 34, 3) := by decide +kernel
theorem dX10_deals_300 : decode cX10_deals 300 = .ok (.iload_n 3, 1) := by decide +kernel
theorem dX10_deals_301 : decode cX10_deals 301 = .ok (.iconst 0, 1) := by decide +kernel
theorem dX10_deals_302 : decode cX10_deals 302 = .ok (.newarray .int, 2) := by decide +kernel
theorem dX10_deals_304 : decode cX10_deals 304 = .ok (.aastore, 1) := by decide +kernel
theorem dX10_deals_305 : decode cX10_deals 305 = .ok (.aload_n 0, 1) := by decide +kernel
theorem dX10_deals_306 : decode cX10_deals 306 = .ok (.getfield 37, 3) := by decide +kernel
theorem dX10_deals_309 : decode cX10_deals 309 = .ok (.iload_n 3, 1) := by decide +kernel
theorem dX10_deals_310 : decode cX10_deals 310 = .ok (.iload_n 3, 1) := by decide +kernel
theorem dX10_deals_311 : decode cX10_deals 311 = .ok (.aload_n 0, 1) := by decide +kernel
theorem dX10_deals_312 : decode cX10_deals 312 = .ok (.getfield 27, 3) := by decide +kernel
theorem dX10_deals_315 : decode cX10_deals 315 = .ok (.arraylength, 1) := by decide +kernel
theorem dX10_deals_316 : decode cX10_deals 316 = .ok (.if_icmp .ne 7, 3) := by decide +kernel
theorem dX10_deals_319 : decode cX10_deals 319 = .ok (.iconst 1, 1) := by decide +kernel
theorem dX10_deals_320 : decode cX10_deals 320 = .ok (.goto 4, 3) := by decide +kernel
theorem dX10_deals_323 : decode cX10_deals 323 = .ok (.iconst 0, 1) := by decide +kernel
theorem dX10_deals_324 : decode cX10_deals 324 = .ok (.bastore, 1) := by decide +kernel
theorem dX10_deals_325 : decode cX10_deals 325 = .ok (.iinc 3 1, 3) := by decide +kernel
theorem dX10_deals_328 : decode cX10_deals 328 = .ok (.goto (-41), 3) := by decide +kernel
theorem dX10_deals_331 : decode cX10_deals 331 = .ok (.aload_n 0, 1) := by decide +kernel
theorem dX10_deals_332 : decode cX10_deals 332 = .ok (.iconst 0, 1) := by decide +kernel
theorem dX10_deals_333 : decode cX10_deals 333 = .ok (.putfield 49, 3) := by decide +kernel
theorem dX10_deals_336 : decode cX10_deals 336 = .ok (.aload_n 0, 1) := by decide +kernel
theorem dX10_deals_337 : decode cX10_deals 337 = .ok (.iconst 0, 1) := by decide +kernel
theorem dX10_deals_338 : decode cX10_deals 338 = .ok (.putfield 52, 3) := by decide +kernel
theorem dX10_deals_341 : decode cX10_deals 341 = .ok (.aload_n 0, 1) := by decide +kernel
theorem dX10_deals_342 : decode cX10_deals 342 = .ok (.iconst (-1), 1) := by decide +kernel
theorem dX10_deals_343 : decode cX10_deals 343 = .ok (.putfield 22, 3) := by decide +kernel
theorem dX10_deals_346 : decode cX10_deals 346 = .ok (.aload_n 0, 1) := by decide +kernel
theorem dX10_deals_347 : decode cX10_deals 347 = .ok (.iconst 0, 1) := by decide +kernel
theorem dX10_deals_348 : decode cX10_deals 348 = .ok (.putfield 56, 3) := by decide +kernel
theorem dX10_deals_351 : decode cX10_deals 351 = .ok (.aload_n 0, 1) := by decide +kernel
theorem dX10_deals_352 : decode cX10_deals 352 = .ok (.iconst 0, 1) := by decide +kernel
theorem dX10_deals_353 : decode cX10_deals 353 = .ok (.putfield 62, 3) := by decide +kernel
theorem dX10_deals_356 : decode cX10_deals 356 = .ok (.return_, 1) := by decide +kernel
theorem dX10_end_0 : decode cX10_end 0 = .ok (.aload_n 0, 1) := by decide +kernel
theorem dX10_end_1 : decode cX10_end 1 = .ok (.getfield 16, 3) := by decide +kernel
theorem dX10_end_4 : decode cX10_end 4 = .ok (.istore_n 2, 1) := by decide +kernel
theorem dX10_end_5 : decode cX10_end 5 = .ok (.aload_n 0, 1) := by decide +kernel
theorem dX10_end_6 : decode cX10_end 6 = .ok (.getfield 34, 3) := by decide +kernel
theorem dX10_end_9 : decode cX10_end 9 = .ok (.iload_n 1, 1) := by decide +kernel
theorem dX10_end_10 : decode cX10_end 10 = .ok (.aaload, 1) := by decide +kernel
theorem dX10_end_11 : decode cX10_end 11 = .ok (.astore_n 3, 1) := by decide +kernel
theorem dX10_end_12 : decode cX10_end 12 = .ok (.aload_n 3, 1) := by decide +kernel
theorem dX10_end_13 : decode cX10_end 13 = .ok (.arraylength, 1) := by decide +kernel
theorem dX10_end_14 : decode cX10_end 14 = .ok (.istore 4, 2) := by decide +kernel
theorem dX10_end_16 : decode cX10_end 16 = .ok (.iconst 0, 1) := by decide +kernel
theorem dX10_end_17 : decode cX10_end 17 = .ok (.istore 5, 2) := by decide +kernel
theorem dX10_end_19 : decode cX10_end 19 = .ok (.iload 5, 2) := by decide +kernel
theorem dX10_end_21 : decode cX10_end 21 = .ok (.iload 4, 2) := by decide +kernel
theorem dX10_end_23 : decode cX10_end 23 = .ok (.if_icmp .ge 38, 3) := by decide +kernel
theorem dX10_end_26 : decode cX10_end 26 = .ok (.aload_n 3, 1) := by decide +kernel
theorem dX10_end_27 : decode cX10_end 27 = .ok (.iload 5, 2) := by decide +kernel
theorem dX10_end_29 : decode cX10_end 29 = .ok (.iaload, 1) := by decide +kernel
theorem dX10_end_30 : decode cX10_end 30 = .ok (.istore 6, 2) := by decide +kernel
theorem dX10_end_32 : decode cX10_end 32 = .ok (.iload 6, 2) := by decide +kernel
theorem dX10_end_34 : decode cX10_end 34 = .ok (.bipush 10, 2) := by decide +kernel
theorem dX10_end_36 : decode cX10_end 36 = .ok (.idiv, 1) := by decide +kernel
theorem dX10_end_37 : decode cX10_end 37 = .ok (.iload_n 2, 1) := by decide +kernel
theorem dX10_end_38 : decode cX10_end 38 = .ok (.if_icmp .ne 11, 3) := by decide +kernel
theorem dX10_end_41 : decode cX10_end 41 = .ok (.iload 6, 2) := by decide +kernel
theorem dX10_end_43 : decode cX10_end 43 = .ok (.bipush 10, 2) := by decide +kernel
theorem dX10_end_45 : decode cX10_end 45 = .ok (.irem, 1) := by decide +kernel
theorem dX10_end_46 : decode cX10_end 46 = .ok (.goto 8, 3) := by decide +kernel
theorem dX10_end_49 : decode cX10_end 49 = .ok (.iload 6, 2) := by decide +kernel
theorem dX10_end_51 : decode cX10_end 51 = .ok (.bipush 10, 2) := by decide +kernel
theorem dX10_end_53 : decode cX10_end 53 = .ok (.idiv, 1) := by decide +kernel
theorem dX10_end_54 : decode cX10_end 54 = .ok (.istore_n 2, 1) := by decide +kernel
theorem dX10_end_55 : decode cX10_end 55 = .ok (.iinc 5 1, 3) := by decide +kernel
theorem dX10_end_58 : decode cX10_end 58 = .ok (.goto (-39), 3) := by decide +kernel
theorem dX10_end_61 : decode cX10_end 61 = .ok (.iload_n 2, 1) := by decide +kernel
theorem dX10_end_62 : decode cX10_end 62 = .ok (.ireturn, 1) := by decide +kernel
set_option maxRecDepth 20000 in
theorem ggX10_why_L_has : GoodIn wsX10_why wsL_has := goodIn_r _ [8] rfl (by decide +kernel)
set_option maxRecDepth 20000 in
theorem gX10_why_L_has_n77 : GoodIn wsX10_why (wsL_has) := ggX10_why_L_has
set_option maxRecDepth 20000 in
theorem ggX10_why_X10_end : GoodIn wsX10_why wsX10_end := goodIn_r _ [13, 14, 15, 16, 17, 18, 19, 20, 21, 22, 23, 24, 25, 26, 27, 28, 29, 30, 31, 32] rfl (by decide +kernel)
set_option maxRecDepth 20000 in
theorem gX10_why_X10_end : GoodIn wsX10_why (wsV RX10 89 RX10 yX10_end wsX10_end) := goodIn_app (goodIn_of _ (by decide +kernel)) ggX10_why_X10_end
theorem dX10_why_0 : decode cX10_why 0 = .ok (.aload_n 0, 1) := by decide +kernel
theorem dX10_why_1 : decode cX10_why 1 = .ok (.getfield 56, 3) := by decide +kernel
theorem dX10_why_4 : decode cX10_why 4 = .ok (.ifCond .eq 5, 3) := by decide +kernel
theorem dX10_why_7 : decode cX10_why 7 = .ok (.iconst 1, 1) := by decide +kernel
theorem dX10_why_8 : decode cX10_why 8 = .ok (.ireturn, 1) := by decide +kernel
theorem dX10_why_9 : decode cX10_why 9 = .ok (.aload_n 0, 1) := by decide +kernel
theorem dX10_why_10 : decode cX10_why 10 = .ok (.getfield 27, 3) := by decide +kernel
theorem dX10_why_13 : decode cX10_why 13 = .ok (.aload_n 0, 1) := by decide +kernel
theorem dX10_why_14 : decode cX10_why 14 = .ok (.getfield 49, 3) := by decide +kernel
theorem dX10_why_17 : decode cX10_why 17 = .ok (.aaload, 1) := by decide +kernel
theorem dX10_why_18 : decode cX10_why 18 = .ok (.iload_n 1, 1) := by decide +kernel
theorem dX10_why_19 : decode cX10_why 19 = .ok (.invokestatic 77, 3) := by decide +kernel
theorem dX10_why_22 : decode cX10_why 22 = .ok (.ifCond .ne 5, 3) := by decide +kernel
theorem dX10_why_25 : decode cX10_why 25 = .ok (.iconst 2, 1) := by decide +kernel
theorem dX10_why_26 : decode cX10_why 26 = .ok (.ireturn, 1) := by decide +kernel
theorem dX10_why_27 : decode cX10_why 27 = .ok (.aload_n 0, 1) := by decide +kernel
theorem dX10_why_28 : decode cX10_why 28 = .ok (.getfield 22, 3) := by decide +kernel
theorem dX10_why_31 : decode cX10_why 31 = .ok (.ifCond .lt 13, 3) := by decide +kernel
theorem dX10_why_34 : decode cX10_why 34 = .ok (.aload_n 0, 1) := by decide +kernel
theorem dX10_why_35 : decode cX10_why 35 = .ok (.getfield 22, 3) := by decide +kernel
theorem dX10_why_38 : decode cX10_why 38 = .ok (.iload_n 2, 1) := by decide +kernel
theorem dX10_why_39 : decode cX10_why 39 = .ok (.if_icmp .eq 5, 3) := by decide +kernel
theorem dX10_why_42 : decode cX10_why 42 = .ok (.iconst 3, 1) := by decide +kernel
theorem dX10_why_43 : decode cX10_why 43 = .ok (.ireturn, 1) := by decide +kernel
theorem dX10_why_44 : decode cX10_why 44 = .ok (.aload_n 0, 1) := by decide +kernel
theorem dX10_why_45 : decode cX10_why 45 = .ok (.getfield 22, 3) := by decide +kernel
theorem dX10_why_48 : decode cX10_why 48 = .ok (.ifCond .ge 22, 3) := by decide +kernel
theorem dX10_why_51 : decode cX10_why 51 = .ok (.aload_n 0, 1) := by decide +kernel
theorem dX10_why_52 : decode cX10_why 52 = .ok (.getfield 37, 3) := by decide +kernel
theorem dX10_why_55 : decode cX10_why 55 = .ok (.iload_n 2, 1) := by decide +kernel
theorem dX10_why_56 : decode cX10_why 56 = .ok (.baload, 1) := by decide +kernel
theorem dX10_why_57 : decode cX10_why 57 = .ok (.ifCond .ne 13, 3) := by decide +kernel
theorem dX10_why_60 : decode cX10_why 60 = .ok (.iload_n 2, 1) := by decide +kernel
theorem dX10_why_61 : decode cX10_why 61 = .ok (.aload_n 0, 1) := by decide +kernel
theorem dX10_why_62 : decode cX10_why 62 = .ok (.getfield 49, 3) := by decide +kernel
theorem dX10_why_65 : decode cX10_why 65 = .ok (.if_icmp .eq 5, 3) := by decide +kernel
theorem dX10_why_68 : decode cX10_why 68 = .ok (.iconst 4, 1) := by decide +kernel
theorem dX10_why_69 : decode cX10_why 69 = .ok (.ireturn, 1) := by decide +kernel
theorem dX10_why_70 : decode cX10_why 70 = .ok (.iload_n 1, 1) := by decide +kernel
theorem dX10_why_71 : decode cX10_why 71 = .ok (.bipush 10, 2) := by decide +kernel
theorem dX10_why_73 : decode cX10_why 73 = .ok (.idiv, 1) := by decide +kernel
theorem dX10_why_74 : decode cX10_why 74 = .ok (.aload_n 0, 1) := by decide +kernel
theorem dX10_why_75 : decode cX10_why 75 = .ok (.iload_n 2, 1) := by decide +kernel
theorem dX10_why_76 : decode cX10_why 76 = .ok (.invokevirtual 89, 3) := by decide +kernel
theorem dX10_why_79 : decode cX10_why 79 = .ok (.if_icmp .eq 15, 3) := by decide +kernel
theorem dX10_why_82 : decode cX10_why 82 = .ok (.iload_n 1, 1) := by decide +kernel
theorem dX10_why_83 : decode cX10_why 83 = .ok (.bipush 10, 2) := by decide +kernel
theorem dX10_why_85 : decode cX10_why 85 = .ok (.irem, 1) := by decide +kernel
theorem dX10_why_86 : decode cX10_why 86 = .ok (.aload_n 0, 1) := by decide +kernel
theorem dX10_why_87 : decode cX10_why 87 = .ok (.iload_n 2, 1) := by decide +kernel
theorem dX10_why_88 : decode cX10_why 88 = .ok (.invokevirtual 89, 3) := by decide +kernel
theorem dX10_why_91 : decode cX10_why 91 = .ok (.if_icmp .ne 7, 3) := by decide +kernel
theorem dX10_why_94 : decode cX10_why 94 = .ok (.iconst 0, 1) := by decide +kernel
theorem dX10_why_95 : decode cX10_why 95 = .ok (.goto 4, 3) := by decide +kernel
theorem dX10_why_98 : decode cX10_why 98 = .ok (.iconst 5, 1) := by decide +kernel
theorem dX10_why_99 : decode cX10_why 99 = .ok (.ireturn, 1) := by decide +kernel
set_option maxRecDepth 20000 in
theorem ggX10_plays_X10_why : GoodIn wsX10_plays wsX10_why := goodIn_r _ [8, 9, 1, 2, 10, 11, 12, 13, 14, 15, 16, 17, 7, 18, 19, 3, 20, 21, 22, 23, 24, 25, 26, 27, 28, 29, 30, 31, 32, 33, 34, 35, 36] rfl (by decide +kernel)
set_option maxRecDepth 20000 in
theorem gX10_plays_X10_why : GoodIn wsX10_plays (wsV RX10 93 RX10 yX10_why wsX10_why) := goodIn_app (goodIn_of _ (by decide +kernel)) ggX10_plays_X10_why
theorem dX10_plays_0 : decode cX10_plays 0 = .ok (.iconst 0, 1) := by decide +kernel
theorem dX10_plays_1 : decode cX10_plays 1 = .ok (.istore_n 1, 1) := by decide +kernel
theorem dX10_plays_2 : decode cX10_plays 2 = .ok (.aload_n 0, 1) := by decide +kernel
theorem dX10_plays_3 : decode cX10_plays 3 = .ok (.getfield 27, 3) := by decide +kernel
theorem dX10_plays_6 : decode cX10_plays 6 = .ok (.aload_n 0, 1) := by decide +kernel
theorem dX10_plays_7 : decode cX10_plays 7 = .ok (.getfield 49, 3) := by decide +kernel
theorem dX10_plays_10 : decode cX10_plays 10 = .ok (.aaload, 1) := by decide +kernel
theorem dX10_plays_11 : decode cX10_plays 11 = .ok (.astore_n 2, 1) := by decide +kernel
theorem dX10_plays_12 : decode cX10_plays 12 = .ok (.aload_n 2, 1) := by decide +kernel
theorem dX10_plays_13 : decode cX10_plays 13 = .ok (.arraylength, 1) := by decide +kernel
theorem dX10_plays_14 : decode cX10_plays 14 = .ok (.istore_n 3, 1) := by decide +kernel
theorem dX10_plays_15 : decode cX10_plays 15 = .ok (.iconst 0, 1) := by decide +kernel
theorem dX10_plays_16 : decode cX10_plays 16 = .ok (.istore 4, 2) := by decide +kernel
theorem dX10_plays_18 : decode cX10_plays 18 = .ok (.iload 4, 2) := by decide +kernel
theorem dX10_plays_20 : decode cX10_plays 20 = .ok (.iload_n 3, 1) := by decide +kernel
theorem dX10_plays_21 : decode cX10_plays 21 = .ok (.if_icmp .ge 48, 3) := by decide +kernel
theorem dX10_plays_24 : decode cX10_plays 24 = .ok (.aload_n 2, 1) := by decide +kernel
theorem dX10_plays_25 : decode cX10_plays 25 = .ok (.iload 4, 2) := by decide +kernel
theorem dX10_plays_27 : decode cX10_plays 27 = .ok (.iaload, 1) := by decide +kernel
theorem dX10_plays_28 : decode cX10_plays 28 = .ok (.istore 5, 2) := by decide +kernel
theorem dX10_plays_30 : decode cX10_plays 30 = .ok (.iconst 0, 1) := by decide +kernel
theorem dX10_plays_31 : decode cX10_plays 31 = .ok (.istore 6, 2) := by decide +kernel
theorem dX10_plays_33 : decode cX10_plays 33 = .ok (.iload 6, 2) := by decide +kernel
theorem dX10_plays_35 : decode cX10_plays 35 = .ok (.aload_n 0, 1) := by decide +kernel
theorem dX10_plays_36 : decode cX10_plays 36 = .ok (.getfield 34, 3) := by decide +kernel
theorem dX10_plays_39 : decode cX10_plays 39 = .ok (.arraylength, 1) := by decide +kernel
theorem dX10_plays_40 : decode cX10_plays 40 = .ok (.if_icmp .ge 23, 3) := by decide +kernel
theorem dX10_plays_43 : decode cX10_plays 43 = .ok (.aload_n 0, 1) := by decide +kernel
theorem dX10_plays_44 : decode cX10_plays 44 = .ok (.iload 5, 2) := by decide +kernel
theorem dX10_plays_46 : decode cX10_plays 46 = .ok (.iload 6, 2) := by decide +kernel
theorem dX10_plays_48 : decode cX10_plays 48 = .ok (.invokevirtual 93, 3) := by decide +kernel
theorem dX10_plays_51 : decode cX10_plays 51 = .ok (.ifCond .ne 6, 3) := by decide +kernel
theorem dX10_plays_54 : decode cX10_plays 54 = .ok (.iinc 1 1, 3) := by decide +kernel
theorem dX10_plays_57 : decode cX10_plays 57 = .ok (.iinc 6 1, 3) := by decide +kernel
theorem dX10_plays_60 : decode cX10_plays 60 = .ok (.goto (-27), 3) := by decide +kernel
theorem dX10_plays_63 : decode cX10_plays 63 = .ok (.iinc 4 1, 3) := by decide +kernel
theorem dX10_plays_66 : decode cX10_plays 66 = .ok (.goto (-48), 3) := by decide +kernel
theorem dX10_plays_69 : decode cX10_plays 69 = .ok (.iload_n 1, 1) := by decide +kernel
theorem dX10_plays_70 : decode cX10_plays 70 = .ok (.ireturn, 1) := by decide +kernel
set_option maxRecDepth 20000 in
theorem ggX10_mayDraw_X10_plays : GoodIn wsX10_mayDraw wsX10_plays := goodIn_r _ [8, 9, 10, 11, 12, 13, 14, 7, 15, 1, 16, 17, 18, 19, 20, 21, 22, 23, 24, 25, 26, 27, 28, 29, 30, 31, 32, 33, 34, 35, 36, 37, 38, 39, 40, 41, 42] rfl (by decide +kernel)
set_option maxRecDepth 20000 in
theorem gX10_mayDraw_X10_plays : GoodIn wsX10_mayDraw (wsV RX10 97 RX10 yX10_plays wsX10_plays) := goodIn_app (goodIn_of _ (by decide +kernel)) ggX10_mayDraw_X10_plays
theorem dX10_mayDraw_0 : decode cX10_mayDraw 0 = .ok (.aload_n 0, 1) := by decide +kernel
theorem dX10_mayDraw_1 : decode cX10_mayDraw 1 = .ok (.getfield 56, 3) := by decide +kernel
theorem dX10_mayDraw_4 : decode cX10_mayDraw 4 = .ok (.ifCond .ne 29, 3) := by decide +kernel
theorem dX10_mayDraw_7 : decode cX10_mayDraw 7 = .ok (.aload_n 0, 1) := by decide +kernel
theorem dX10_mayDraw_8 : decode cX10_mayDraw 8 = .ok (.getfield 52, 3) := by decide +kernel
theorem dX10_mayDraw_11 : decode cX10_mayDraw 11 = .ok (.ifCond .ne 22, 3) := by decide +kernel
theorem dX10_mayDraw_14 : decode cX10_mayDraw 14 = .ok (.aload_n 0, 1) := by decide +kernel
theorem dX10_mayDraw_15 : decode cX10_mayDraw 15 = .ok (.getfield 41, 3) := by decide +kernel
theorem dX10_mayDraw_18 : decode cX10_mayDraw 18 = .ok (.arraylength, 1) := by decide +kernel
theorem dX10_mayDraw_19 : decode cX10_mayDraw 19 = .ok (.ifCond .le 14, 3) := by decide +kernel
theorem dX10_mayDraw_22 : decode cX10_mayDraw 22 = .ok (.aload_n 0, 1) := by decide +kernel
theorem dX10_mayDraw_23 : decode cX10_mayDraw 23 = .ok (.invokevirtual 97, 3) := by decide +kernel
theorem dX10_mayDraw_26 : decode cX10_mayDraw 26 = .ok (.ifCond .ne 7, 3) := by decide +kernel
theorem dX10_mayDraw_29 : decode cX10_mayDraw 29 = .ok (.iconst 1, 1) := by decide +kernel
theorem dX10_mayDraw_30 : decode cX10_mayDraw 30 = .ok (.goto 4, 3) := by decide +kernel
theorem dX10_mayDraw_33 : decode cX10_mayDraw 33 = .ok (.iconst 0, 1) := by decide +kernel
theorem dX10_mayDraw_34 : decode cX10_mayDraw 34 = .ok (.ireturn, 1) := by decide +kernel
set_option maxRecDepth 20000 in
theorem ggX10_mayPass_X10_plays : GoodIn wsX10_mayPass wsX10_plays := goodIn_r _ [8, 9, 10, 11, 12, 13, 14, 7, 15, 1, 16, 17, 18, 19, 20, 21, 22, 23, 24, 25, 26, 27, 28, 29, 30, 31, 32, 33, 34, 35, 36, 37, 38, 39, 40, 41, 42] rfl (by decide +kernel)
set_option maxRecDepth 20000 in
theorem gX10_mayPass_X10_plays : GoodIn wsX10_mayPass (wsV RX10 97 RX10 yX10_plays wsX10_plays) := goodIn_app (goodIn_of _ (by decide +kernel)) ggX10_mayPass_X10_plays
theorem dX10_mayPass_0 : decode cX10_mayPass 0 = .ok (.aload_n 0, 1) := by decide +kernel
theorem dX10_mayPass_1 : decode cX10_mayPass 1 = .ok (.getfield 56, 3) := by decide +kernel
theorem dX10_mayPass_4 : decode cX10_mayPass 4 = .ok (.ifCond .ne 29, 3) := by decide +kernel
theorem dX10_mayPass_7 : decode cX10_mayPass 7 = .ok (.aload_n 0, 1) := by decide +kernel
theorem dX10_mayPass_8 : decode cX10_mayPass 8 = .ok (.getfield 52, 3) := by decide +kernel
theorem dX10_mayPass_11 : decode cX10_mayPass 11 = .ok (.ifCond .ne 11, 3) := by decide +kernel
theorem dX10_mayPass_14 : decode cX10_mayPass 14 = .ok (.aload_n 0, 1) := by decide +kernel
theorem dX10_mayPass_15 : decode cX10_mayPass 15 = .ok (.getfield 41, 3) := by decide +kernel
theorem dX10_mayPass_18 : decode cX10_mayPass 18 = .ok (.arraylength, 1) := by decide +kernel
theorem dX10_mayPass_19 : decode cX10_mayPass 19 = .ok (.ifCond .ne 14, 3) := by decide +kernel
theorem dX10_mayPass_22 : decode cX10_mayPass 22 = .ok (.aload_n 0, 1) := by decide +kernel
theorem dX10_mayPass_23 : decode cX10_mayPass 23 = .ok (.invokevirtual 97, 3) := by decide +kernel
theorem dX10_mayPass_26 : decode cX10_mayPass 26 = .ok (.ifCond .ne 7, 3) := by decide +kernel
theorem dX10_mayPass_29 : decode cX10_mayPass 29 = .ok (.iconst 1, 1) := by decide +kernel
theorem dX10_mayPass_30 : decode cX10_mayPass 30 = .ok (.goto 4, 3) := by decide +kernel
theorem dX10_mayPass_33 : decode cX10_mayPass 33 = .ok (.iconst 0, 1) := by decide +kernel
theorem dX10_mayPass_34 : decode cX10_mayPass 34 = .ok (.ireturn, 1) := by decide +kernel
set_option maxRecDepth 20000 in
theorem ggX10_rank_X8_value : GoodIn wsX10_rank wsX8_value := goodIn_r _ [9, 10, 11, 12, 13, 14, 15, 16, 17, 18, 19, 20, 21, 22, 23, 6, 7, 8, 41, 42, 43, 44] rfl (by decide +kernel)
set_option maxRecDepth 20000 in
theorem gX10_rank_X8_value : GoodIn wsX10_rank (wsV RX10 101 RX8 yX8_value wsX8_value) := goodIn_app (goodIn_of _ (by decide +kernel)) ggX10_rank_X8_value
theorem dX10_rank_0 : decode cX10_rank 0 = .ok (.iload_n 1, 1) := by decide +kernel
theorem dX10_rank_1 : decode cX10_rank 1 = .ok (.bipush 10, 2) := by decide +kernel
theorem dX10_rank_3 : decode cX10_rank 3 = .ok (.idiv, 1) := by decide +kernel
theorem dX10_rank_4 : decode cX10_rank 4 = .ok (.iload_n 1, 1) := by decide +kernel
theorem dX10_rank_5 : decode cX10_rank 5 = .ok (.bipush 10, 2) := by decide +kernel
theorem dX10_rank_7 : decode cX10_rank 7 = .ok (.irem, 1) := by decide +kernel
theorem dX10_rank_8 : decode cX10_rank 8 = .ok (.iadd, 1) := by decide +kernel
theorem dX10_rank_9 : decode cX10_rank 9 = .ok (.istore_n 3, 1) := by decide +kernel
theorem dX10_rank_10 : decode cX10_rank 10 = .ok (.aload_n 0, 1) := by decide +kernel
theorem dX10_rank_11 : decode cX10_rank 11 = .ok (.getfield 44, 3) := by decide +kernel
theorem dX10_rank_14 : decode cX10_rank 14 = .ok (.iconst 0, 1) := by decide +kernel
theorem dX10_rank_15 : decode cX10_rank 15 = .ok (.iload_n 3, 1) := by decide +kernel
theorem dX10_rank_16 : decode cX10_rank 16 = .ok (.i2l, 1) := by decide +kernel
theorem dX10_rank_17 : decode cX10_rank 17 = .ok (.lastore, 1) := by decide +kernel
theorem dX10_rank_18 : decode cX10_rank 18 = .ok (.aload_n 0, 1) := by decide +kernel
theorem dX10_rank_19 : decode cX10_rank 19 = .ok (.getfield 44, 3) := by decide +kernel
theorem dX10_rank_22 : decode cX10_rank 22 = .ok (.iconst 1, 1) := by decide +kernel
theorem dX10_rank_23 : decode cX10_rank 23 = .ok (.iload_n 1, 1) := by decide +kernel
theorem dX10_rank_24 : decode cX10_rank 24 = .ok (.bipush 11, 2) := by decide +kernel
theorem dX10_rank_26 : decode cX10_rank 26 = .ok (.irem, 1) := by decide +kernel
theorem dX10_rank_27 : decode cX10_rank 27 = .ok (.ifCond .ne 7, 3) := by decide +kernel
theorem dX10_rank_30 : decode cX10_rank 30 = .ok (.lconst 1, 1) := by decide +kernel
theorem dX10_rank_31 : decode cX10_rank 31 = .ok (.goto 4, 3) := by decide +kernel
theorem dX10_rank_34 : decode cX10_rank 34 = .ok (.lconst 0, 1) := by decide +kernel
theorem dX10_rank_35 : decode cX10_rank 35 = .ok (.lastore, 1) := by decide +kernel
theorem dX10_rank_36 : decode cX10_rank 36 = .ok (.aload_n 0, 1) := by decide +kernel
theorem dX10_rank_37 : decode cX10_rank 37 = .ok (.getfield 44, 3) := by decide +kernel
theorem dX10_rank_40 : decode cX10_rank 40 = .ok (.iconst 2, 1) := by decide +kernel
theorem dX10_rank_41 : decode cX10_rank 41 = .ok (.iload_n 2, 1) := by decide +kernel
theorem dX10_rank_42 : decode cX10_rank 42 = .ok (.aload_n 0, 1) := by decide +kernel
theorem dX10_rank_43 : decode cX10_rank 43 = .ok (.getfield 49, 3) := by decide +kernel
theorem dX10_rank_46 : decode cX10_rank 46 = .ok (.if_icmp .ne 7, 3) := by decide +kernel
theorem dX10_rank_49 : decode cX10_rank 49 = .ok (.lconst 1, 1) := by decide +kernel
theorem dX10_rank_50 : decode cX10_rank 50 = .ok (.goto 4, 3) := by decide +kernel
theorem dX10_rank_53 : decode cX10_rank 53 = .ok (.lconst 0, 1) := by decide +kernel
theorem dX10_rank_54 : decode cX10_rank 54 = .ok (.lastore, 1) := by decide +kernel
theorem dX10_rank_55 : decode cX10_rank 55 = .ok (.aload_n 0, 1) := by decide +kernel
theorem dX10_rank_56 : decode cX10_rank 56 = .ok (.getfield 44, 3) := by decide +kernel
theorem dX10_rank_59 : decode cX10_rank 59 = .ok (.iconst 3, 1) := by decide +kernel
theorem dX10_rank_60 : decode cX10_rank 60 = .ok (.iload_n 2, 1) := by decide +kernel
theorem dX10_rank_61 : decode cX10_rank 61 = .ok (.aload_n 0, 1) := by decide +kernel
theorem dX10_rank_62 : decode cX10_rank 62 = .ok (.getfield 27, 3) := by decide +kernel
theorem dX10_rank_65 : decode cX10_rank 65 = .ok (.arraylength, 1) := by decide +kernel
theorem dX10_rank_66 : decode cX10_rank 66 = .ok (.if_icmp .ne 7, 3) := by decide +kernel
theorem dX10_rank_69 : decode cX10_rank 69 = .ok (.lconst 1, 1) := by decide +kernel
theorem dX10_rank_70 : decode cX10_rank 70 = .ok (.goto 4, 3) := by decide +kernel
theorem dX10_rank_73 : decode cX10_rank 73 = .ok (.lconst 0, 1) := by decide +kernel
theorem dX10_rank_74 : decode cX10_rank 74 = .ok (.lastore, 1) := by decide +kernel
theorem dX10_rank_75 : decode cX10_rank 75 = .ok (.aload_n 0, 1) := by decide +kernel
theorem dX10_rank_76 : decode cX10_rank 76 = .ok (.getfield 44, 3) := by decide +kernel
theorem dX10_rank_79 : decode cX10_rank 79 = .ok (.iconst 4, 1) := by decide +kernel
theorem dX10_rank_80 : decode cX10_rank 80 = .ok (.aload_n 0, 1) := by decide +kernel
theorem dX10_rank_81 : decode cX10_rank 81 = .ok (.getfield 27, 3) := by decide +kernel
theorem dX10_rank_84 : decode cX10_rank 84 = .ok (.aload_n 0, 1) := by decide +kernel
theorem dX10_rank_85 : decode cX10_rank 85 = .ok (.getfield 49, 3) := by decide +kernel
theorem dX10_rank_88 : decode cX10_rank 88 = .ok (.aaload, 1) := by decide +kernel
theorem dX10_rank_89 : decode cX10_rank 89 = .ok (.arraylength, 1) := by decide +kernel
theorem dX10_rank_90 : decode cX10_rank 90 = .ok (.iconst 1, 1) := by decide +kernel
theorem dX10_rank_91 : decode cX10_rank 91 = .ok (.isub, 1) := by decide +kernel
theorem dX10_rank_92 : decode cX10_rank 92 = .ok (.i2l, 1) := by decide +kernel
theorem dX10_rank_93 : decode cX10_rank 93 = .ok (.lastore, 1) := by decide +kernel
theorem dX10_rank_94 : decode cX10_rank 94 = .ok (.aload_n 0, 1) := by decide +kernel
theorem dX10_rank_95 : decode cX10_rank 95 = .ok (.getfield 73, 3) := by decide +kernel
theorem dX10_rank_98 : decode cX10_rank 98 = .ok (.ifnonnull 7, 3) := by decide +kernel
theorem dX10_rank_101 : decode cX10_rank 101 = .ok (.iload_n 3, 1) := by decide +kernel
theorem dX10_rank_102 : decode cX10_rank 102 = .ok (.goto 15, 3) := by decide +kernel
theorem dX10_rank_105 : decode cX10_rank 105 = .ok (.aload_n 0, 1) := by decide +kernel
theorem dX10_rank_106 : decode cX10_rank 106 = .ok (.getfield 73, 3) := by decide +kernel
theorem dX10_rank_109 : decode cX10_rank 109 = .ok (.aload_n 0, 1) := by decide +kernel
theorem dX10_rank_110 : decode cX10_rank 110 = .ok (.getfield 44, 3) := by decide +kernel
theorem dX10_rank_113 : decode cX10_rank 113 = .ok (.invokevirtual 101, 3) := by decide +kernel
theorem dX10_rank_116 : decode cX10_rank 116 = .ok (.l2i, 1) := by decide +kernel
theorem dX10_rank_117 : decode cX10_rank 117 = .ok (.ireturn, 1) := by decide +kernel
set_option maxRecDepth 20000 in
theorem ggX10_best_X10_why : GoodIn wsX10_best wsX10_why := goodIn_r _ [8, 9, 1, 2, 10, 11, 12, 13, 14, 15, 16, 17, 7, 18, 19, 3, 45, 46, 47, 48, 49, 50, 51, 52, 53, 54, 55, 56, 57, 58, 59, 60, 61] rfl (by decide +kernel)
set_option maxRecDepth 20000 in
theorem gX10_best_X10_why : GoodIn wsX10_best (wsV RX10 93 RX10 yX10_why wsX10_why) := goodIn_app (goodIn_of _ (by decide +kernel)) ggX10_best_X10_why
set_option maxRecDepth 20000 in
theorem ggX10_best_X10_rank : GoodIn wsX10_best wsX10_rank := goodIn_r _ [23, 24, 2, 1, 25, 26, 27, 28, 29, 30, 31, 32, 33, 34, 35, 36, 37, 38, 39, 40, 41, 42, 43, 44, 45, 46, 47, 48, 49, 50, 51, 52, 53, 54, 55, 56, 57, 58, 59, 60, 61, 62, 63, 64, 65] rfl (by decide +kernel)
set_option maxRecDepth 20000 in
theorem gX10_best_X10_rank : GoodIn wsX10_best (wsV RX10 107 RX10 yX10_rank wsX10_rank) := goodIn_app (goodIn_of _ (by decide +kernel)) ggX10_best_X10_rank
theorem dX10_best_0 : decode cX10_best 0 = .ok (.iconst (-1), 1) := by decide +kernel
theorem dX10_best_1 : decode cX10_best 1 = .ok (.istore_n 1, 1) := by decide +kernel
theorem dX10_best_2 : decode cX10_best 2 = .ok (.aload_n 0, 1) := by decide +kernel
theorem dX10_best_3 : decode cX10_best 3 = .ok (.getfield 27, 3) := by decide +kernel
theorem dX10_best_6 : decode cX10_best 6 = .ok (.aload_n 0, 1) := by decide +kernel
theorem dX10_best_7 : decode cX10_best 7 = .ok (.getfield 49, 3) := by decide +kernel
theorem dX10_best_10 : decode cX10_best 10 = .ok (.aaload, 1) := by decide +kernel
theorem dX10_best_11 : decode cX10_best 11 = .ok (.astore_n 2, 1) := by decide +kernel
theorem dX10_best_12 : decode cX10_best 12 = .ok (.aload_n 2, 1) := by decide +kernel
theorem dX10_best_13 : decode cX10_best 13 = .ok (.arraylength, 1) := by decide +kernel
theorem dX10_best_14 : decode cX10_best 14 = .ok (.istore_n 3, 1) := by decide +kernel
theorem dX10_best_15 : decode cX10_best 15 = .ok (.iconst 0, 1) := by decide +kernel
theorem dX10_best_16 : decode cX10_best 16 = .ok (.istore 4, 2) := by decide +kernel
theorem dX10_best_18 : decode cX10_best 18 = .ok (.iload 4, 2) := by decide +kernel
theorem dX10_best_20 : decode cX10_best 20 = .ok (.iload_n 3, 1) := by decide +kernel
theorem dX10_best_21 : decode cX10_best 21 = .ok (.if_icmp .ge 110, 3) := by decide +kernel
theorem dX10_best_24 : decode cX10_best 24 = .ok (.aload_n 2, 1) := by decide +kernel
theorem dX10_best_25 : decode cX10_best 25 = .ok (.iload 4, 2) := by decide +kernel
theorem dX10_best_27 : decode cX10_best 27 = .ok (.iaload, 1) := by decide +kernel
theorem dX10_best_28 : decode cX10_best 28 = .ok (.istore 5, 2) := by decide +kernel
theorem dX10_best_30 : decode cX10_best 30 = .ok (.iconst 0, 1) := by decide +kernel
theorem dX10_best_31 : decode cX10_best 31 = .ok (.istore 6, 2) := by decide +kernel
theorem dX10_best_33 : decode cX10_best 33 = .ok (.iload 6, 2) := by decide +kernel
theorem dX10_best_35 : decode cX10_best 35 = .ok (.aload_n 0, 1) := by decide +kernel
theorem dX10_best_36 : decode cX10_best 36 = .ok (.getfield 34, 3) := by decide +kernel
theorem dX10_best_39 : decode cX10_best 39 = .ok (.arraylength, 1) := by decide +kernel
theorem dX10_best_40 : decode cX10_best 40 = .ok (.if_icmp .ge 85, 3) := by decide +kernel
theorem dX10_best_43 : decode cX10_best 43 = .ok (.aload_n 0, 1) := by decide +kernel
theorem dX10_best_44 : decode cX10_best 44 = .ok (.iload 5, 2) := by decide +kernel
theorem dX10_best_46 : decode cX10_best 46 = .ok (.iload 6, 2) := by decide +kernel
theorem dX10_best_48 : decode cX10_best 48 = .ok (.invokevirtual 93, 3) := by decide +kernel
theorem dX10_best_51 : decode cX10_best 51 = .ok (.ifCond .eq 6, 3) := by decide +kernel
theorem dX10_best_54 : decode cX10_best 54 = .ok (.goto 65, 3) := by decide +kernel
theorem dX10_best_57 : decode cX10_best 57 = .ok (.iload_n 1, 1) := by decide +kernel
theorem dX10_best_58 : decode cX10_best 58 = .ok (.ifCond .ge 7, 3) := by decide +kernel
theorem dX10_best_61 : decode cX10_best 61 = .ok (.iconst 1, 1) := by decide +kernel
