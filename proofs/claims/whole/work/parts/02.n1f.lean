theorem dX4_takeFirst_35 : decode cX4_takeFirst 35 = .ok (.iload_n 1, 1) := by decide +kernel
theorem dX4_takeFirst_36 : decode cX4_takeFirst 36 = .ok (.ireturn, 1) := by decide +kernel
theorem dX5_init_0 : decode cX5_init 0 = .ok (.aload_n 0, 1) := by decide +kernel
theorem dX5_init_1 : decode cX5_init 1 = .ok (.invokespecial 3, 3) := by decide +kernel
theorem dX5_init_4 : decode cX5_init 4 = .ok (.aload_n 0, 1) := by decide +kernel
theorem dX5_init_5 : decode cX5_init 5 = .ok (.sipush 500, 3) := by decide +kernel
theorem dX5_init_8 : decode cX5_init 8 = .ok (.newarray .int, 2) := by decide +kernel
theorem dX5_init_10 : decode cX5_init 10 = .ok (.putfield 9, 3) := by decide +kernel
theorem dX5_init_13 : decode cX5_init 13 = .ok (.return_, 1) := by decide +kernel
set_option maxRecDepth 20000 in
theorem ggX5_store_X7_put : GoodIn wsX5_store wsX7_put := goodIn_r _ [5] rfl (by decide +kernel)
set_option maxRecDepth 20000 in
theorem gX5_store_X7_put_n19 : GoodIn wsX5_store (wsX7_put) := ggX5_store_X7_put
theorem dX5_store_0 : decode cX5_store 0 = .ok (.bipush 24, 2) := by decide +kernel
theorem dX5_store_2 : decode cX5_store 2 = .ok (.istore_n 2, 1) := by decide +kernel
theorem dX5_store_3 : decode cX5_store 3 = .ok (.iload_n 2, 1) := by decide +kernel
theorem dX5_store_4 : decode cX5_store 4 = .ok (.ifCond .lt 49, 3) := by decide +kernel
theorem dX5_store_7 : decode cX5_store 7 = .ok (.aload_n 0, 1) := by decide +kernel
theorem dX5_store_8 : decode cX5_store 8 = .ok (.getfield 15, 3) := by decide +kernel
theorem dX5_store_11 : decode cX5_store 11 = .ok (.aload_n 0, 1) := by decide +kernel
theorem dX5_store_12 : decode cX5_store 12 = .ok (.getfield 9, 3) := by decide +kernel
theorem dX5_store_15 : decode cX5_store 15 = .ok (.arraylength, 1) := by decide +kernel
theorem dX5_store_16 : decode cX5_store 16 = .ok (.if_icmp .ge 37, 3) := by decide +kernel
theorem dX5_store_19 : decode cX5_store 19 = .ok (.aload_n 0, 1) := by decide +kernel
theorem dX5_store_20 : decode cX5_store 20 = .ok (.getfield 9, 3) := by decide +kernel
theorem dX5_store_23 : decode cX5_store 23 = .ok (.aload_n 0, 1) := by decide +kernel
theorem dX5_store_24 : decode cX5_store 24 = .ok (.getfield 15, 3) := by decide +kernel
theorem dX5_store_27 : decode cX5_store 27 = .ok (.iload_n 1, 1) := by decide +kernel
theorem dX5_store_28 : decode cX5_store 28 = .ok (.iload_n 2, 1) := by decide +kernel
theorem dX5_store_29 : decode cX5_store 29 = .ok (.iushr, 1) := by decide +kernel
theorem dX5_store_30 : decode cX5_store 30 = .ok (.sipush 255, 3) := by decide +kernel
theorem dX5_store_33 : decode cX5_store 33 = .ok (.iand, 1) := by decide +kernel
theorem dX5_store_34 : decode cX5_store 34 = .ok (.invokestatic 19, 3) := by decide +kernel
theorem dX5_store_37 : decode cX5_store 37 = .ok (.aload_n 0, 1) := by decide +kernel
theorem dX5_store_38 : decode cX5_store 38 = .ok (.dup, 1) := by decide +kernel
theorem dX5_store_39 : decode cX5_store 39 = .ok (.getfield 15, 3) := by decide +kernel
theorem dX5_store_42 : decode cX5_store 42 = .ok (.iconst 1, 1) := by decide +kernel
theorem dX5_store_43 : decode cX5_store 43 = .ok (.iadd, 1) := by decide +kernel
theorem dX5_store_44 : decode cX5_store 44 = .ok (.putfield 15, 3) := by decide +kernel
theorem dX5_store_47 : decode cX5_store 47 = .ok (.iinc 2 (-8), 3) := by decide +kernel
theorem dX5_store_50 : decode cX5_store 50 = .ok (.goto (-47), 3) := by decide +kernel
theorem dX5_store_53 : decode cX5_store 53 = .ok (.return_, 1) := by decide +kernel
set_option maxRecDepth 20000 in
theorem ggX5_begin_X5_advance : GoodIn wsX5_begin wsX5_advance := goodIn_r _ [15, 9, 1, 10, 16, 17, 18, 19, 20, 21, 22, 23, 24, 25, 26] rfl (by decide +kernel)
set_option maxRecDepth 20000 in
theorem gX5_begin_X5_advance : GoodIn wsX5_begin (wsV RX5 38 RX5 yX5_advance wsX5_advance) := goodIn_app (goodIn_of _ (by decide +kernel)) ggX5_begin_X5_advance
theorem dX5_begin_0 : decode cX5_begin 0 = .ok (.aload_n 0, 1) := by decide +kernel
theorem dX5_begin_1 : decode cX5_begin 1 = .ok (.iconst 0, 1) := by decide +kernel
theorem dX5_begin_2 : decode cX5_begin 2 = .ok (.iload_n 1, 1) := by decide +kernel
theorem dX5_begin_3 : decode cX5_begin 3 = .ok (.aload_n 0, 1) := by decide +kernel
theorem dX5_begin_4 : decode cX5_begin 4 = .ok (.getfield 9, 3) := by decide +kernel
theorem dX5_begin_7 : decode cX5_begin 7 = .ok (.arraylength, 1) := by decide +kernel
theorem dX5_begin_8 : decode cX5_begin 8 = .ok (.invokestatic 23, 3) := by decide +kernel
theorem dX5_begin_11 : decode cX5_begin 11 = .ok (.invokestatic 29, 3) := by decide +kernel
theorem dX5_begin_14 : decode cX5_begin 14 = .ok (.putfield 32, 3) := by decide +kernel
theorem dX5_begin_17 : decode cX5_begin 17 = .ok (.aload_n 0, 1) := by decide +kernel
theorem dX5_begin_18 : decode cX5_begin 18 = .ok (.iconst 0, 1) := by decide +kernel
theorem dX5_begin_19 : decode cX5_begin 19 = .ok (.putfield 35, 3) := by decide +kernel
theorem dX5_begin_22 : decode cX5_begin 22 = .ok (.aload_n 0, 1) := by decide +kernel
theorem dX5_begin_23 : decode cX5_begin 23 = .ok (.invokevirtual 38, 3) := by decide +kernel
theorem dX5_begin_26 : decode cX5_begin 26 = .ok (.return_, 1) := by decide +kernel
theorem dX5_advance_0 : decode cX5_advance 0 = .ok (.aload_n 0, 1) := by decide +kernel
theorem dX5_advance_1 : decode cX5_advance 1 = .ok (.getfield 32, 3) := by decide +kernel
theorem dX5_advance_4 : decode cX5_advance 4 = .ok (.aload_n 0, 1) := by decide +kernel
theorem dX5_advance_5 : decode cX5_advance 5 = .ok (.getfield 9, 3) := by decide +kernel
theorem dX5_advance_8 : decode cX5_advance 8 = .ok (.arraylength, 1) := by decide +kernel
theorem dX5_advance_9 : decode cX5_advance 9 = .ok (.if_icmp .ge 10, 3) := by decide +kernel
theorem dX5_advance_12 : decode cX5_advance 12 = .ok (.aload_n 0, 1) := by decide +kernel
theorem dX5_advance_13 : decode cX5_advance 13 = .ok (.getfield 32, 3) := by decide +kernel
theorem dX5_advance_16 : decode cX5_advance 16 = .ok (.goto 8, 3) := by decide +kernel
theorem dX5_advance_19 : decode cX5_advance 19 = .ok (.aload_n 0, 1) := by decide +kernel
theorem dX5_advance_20 : decode cX5_advance 20 = .ok (.getfield 9, 3) := by decide +kernel
theorem dX5_advance_23 : decode cX5_advance 23 = .ok (.arraylength, 1) := by decide +kernel
theorem dX5_advance_24 : decode cX5_advance 24 = .ok (.istore_n 1, 1) := by decide +kernel
theorem dX5_advance_25 : decode cX5_advance 25 = .ok (.aload_n 0, 1) := by decide +kernel
theorem dX5_advance_26 : decode cX5_advance 26 = .ok (.aload_n 0, 1) := by decide +kernel
theorem dX5_advance_27 : decode cX5_advance 27 = .ok (.getfield 35, 3) := by decide +kernel
theorem dX5_advance_30 : decode cX5_advance 30 = .ok (.putfield 41, 3) := by decide +kernel
theorem dX5_advance_33 : decode cX5_advance 33 = .ok (.aload_n 0, 1) := by decide +kernel
theorem dX5_advance_34 : decode cX5_advance 34 = .ok (.getfield 41, 3) := by decide +kernel
theorem dX5_advance_37 : decode cX5_advance 37 = .ok (.ifCond .lt 38, 3) := by decide +kernel
theorem dX5_advance_40 : decode cX5_advance 40 = .ok (.aload_n 0, 1) := by decide +kernel
theorem dX5_advance_41 : decode cX5_advance 41 = .ok (.getfield 41, 3) := by decide +kernel
theorem dX5_advance_44 : decode cX5_advance 44 = .ok (.iload_n 1, 1) := by decide +kernel
theorem dX5_advance_45 : decode cX5_advance 45 = .ok (.if_icmp .ge 30, 3) := by decide +kernel
theorem dX5_advance_48 : decode cX5_advance 48 = .ok (.aload_n 0, 1) := by decide +kernel
theorem dX5_advance_49 : decode cX5_advance 49 = .ok (.getfield 9, 3) := by decide +kernel
theorem dX5_advance_52 : decode cX5_advance 52 = .ok (.aload_n 0, 1) := by decide +kernel
theorem dX5_advance_53 : decode cX5_advance 53 = .ok (.getfield 41, 3) := by decide +kernel
theorem dX5_advance_56 : decode cX5_advance 56 = .ok (.iaload, 1) := by decide +kernel
theorem dX5_advance_57 : decode cX5_advance 57 = .ok (.bipush 32, 2) := by decide +kernel
theorem dX5_advance_59 : decode cX5_advance 59 = .ok (.if_icmp .ne 16, 3) := by decide +kernel
theorem dX5_advance_62 : decode cX5_advance 62 = .ok (.aload_n 0, 1) := by decide +kernel
theorem dX5_advance_63 : decode cX5_advance 63 = .ok (.dup, 1) := by decide +kernel
theorem dX5_advance_64 : decode cX5_advance 64 = .ok (.getfield 41, 3) := by decide +kernel
theorem dX5_advance_67 : decode cX5_advance 67 = .ok (.iconst 1, 1) := by decide +kernel
theorem dX5_advance_68 : decode cX5_advance 68 = .ok (.iadd, 1) := by decide +kernel
theorem dX5_advance_69 : decode cX5_advance 69 = .ok (.putfield 41, 3) := by decide +kernel
theorem dX5_advance_72 : decode cX5_advance 72 = .ok (.goto (-39), 3) := by decide +kernel
theorem dX5_advance_75 : decode cX5_advance 75 = .ok (.aload_n 0, 1) := by decide +kernel
theorem dX5_advance_76 : decode cX5_advance 76 = .ok (.aload_n 0, 1) := by decide +kernel
theorem dX5_advance_77 : decode cX5_advance 77 = .ok (.getfield 41, 3) := by decide +kernel
theorem dX5_advance_80 : decode cX5_advance 80 = .ok (.putfield 35, 3) := by decide +kernel
theorem dX5_advance_83 : decode cX5_advance 83 = .ok (.aload_n 0, 1) := by decide +kernel
theorem dX5_advance_84 : decode cX5_advance 84 = .ok (.iconst 0, 1) := by decide +kernel
theorem dX5_advance_85 : decode cX5_advance 85 = .ok (.putfield 44, 3) := by decide +kernel
theorem dX5_advance_88 : decode cX5_advance 88 = .ok (.aload_n 0, 1) := by decide +kernel
theorem dX5_advance_89 : decode cX5_advance 89 = .ok (.getfield 35, 3) := by decide +kernel
theorem dX5_advance_92 : decode cX5_advance 92 = .ok (.ifCond .lt 92, 3) := by decide +kernel
theorem dX5_advance_95 : decode cX5_advance 95 = .ok (.aload_n 0, 1) := by decide +kernel
theorem dX5_advance_96 : decode cX5_advance 96 = .ok (.getfield 35, 3) := by decide +kernel
theorem dX5_advance_99 : decode cX5_advance 99 = .ok (.iload_n 1, 1) := by decide +kernel
theorem dX5_advance_100 : decode cX5_advance 100 = .ok (.if_icmp .ge 84, 3) := by decide +kernel
theorem dX5_advance_103 : decode cX5_advance 103 = .ok (.aload_n 0, 1) := by decide +kernel
theorem dX5_advance_104 : decode cX5_advance 104 = .ok (.getfield 9, 3) := by decide +kernel
theorem dX5_advance_107 : decode cX5_advance 107 = .ok (.aload_n 0, 1) := by decide +kernel
theorem dX5_advance_108 : decode cX5_advance 108 = .ok (.getfield 35, 3) := by decide +kernel
theorem dX5_advance_111 : decode cX5_advance 111 = .ok (.iaload, 1) := by decide +kernel
theorem dX5_advance_112 : decode cX5_advance 112 = .ok (.bipush 48, 2) := by decide +kernel
theorem dX5_advance_114 : decode cX5_advance 114 = .ok (.if_icmp .lt 70, 3) := by decide +kernel
theorem dX5_advance_117 : decode cX5_advance 117 = .ok (.aload_n 0, 1) := by decide +kernel
theorem dX5_advance_118 : decode cX5_advance 118 = .ok (.getfield 9, 3) := by decide +kernel
theorem dX5_advance_121 : decode cX5_advance 121 = .ok (.aload_n 0, 1) := by decide +kernel
theorem dX5_advance_122 : decode cX5_advance 122 = .ok (.getfield 35, 3) := by decide +kernel
theorem dX5_advance_125 : decode cX5_advance 125 = .ok (.iaload, 1) := by decide +kernel
theorem dX5_advance_126 : decode cX5_advance 126 = .ok (.bipush 57, 2) := by decide +kernel
theorem dX5_advance_128 : decode cX5_advance 128 = .ok (.if_icmp .gt 56, 3) := by decide +kernel
theorem dX5_advance_131 : decode cX5_advance 131 = .ok (.aload_n 0, 1) := by decide +kernel
theorem dX5_advance_132 : decode cX5_advance 132 = .ok (.aload_n 0, 1) := by decide +kernel
theorem dX5_advance_133 : decode cX5_advance 133 = .ok (.getfield 44, 3) := by decide +kernel
theorem dX5_advance_136 : decode cX5_advance 136 = .ok (.ldc 47, 2) := by decide +kernel
theorem dX5_advance_138 : decode cX5_advance 138 = .ok (.if_icmp .ge 26, 3) := by decide +kernel
theorem dX5_advance_141 : decode cX5_advance 141 = .ok (.bipush 10, 2) := by decide +kernel
theorem dX5_advance_143 : decode cX5_advance 143 = .ok (.aload_n 0, 1) := by decide +kernel
theorem dX5_advance_144 : decode cX5_advance 144 = .ok (.getfield 44, 3) := by decide +kernel
theorem dX5_advance_147 : decode cX5_advance 147 = .ok (.imul, 1) := by decide +kernel
theorem dX5_advance_148 : decode cX5_advance 148 = .ok (.aload_n 0, 1) := by decide +kernel
theorem dX5_advance_149 : decode cX5_advance 149 = .ok (.getfield 9, 3) := by decide +kernel
theorem dX5_advance_152 : decode cX5_advance 152 = .ok (.aload_n 0, 1) := by decide +kernel
theorem dX5_advance_153 : decode cX5_advance 153 = .ok (.getfield 35, 3) := by decide +kernel
theorem dX5_advance_156 : decode cX5_advance 156 = .ok (.iaload, 1) := by decide +kernel
theorem dX5_advance_157 : decode cX5_advance 157 = .ok (.iadd, 1) := by decide +kernel
theorem dX5_advance_158 : decode cX5_advance 158 = .ok (.bipush 48, 2) := by decide +kernel
theorem dX5_advance_160 : decode cX5_advance 160 = .ok (.isub, 1) := by decide +kernel
theorem dX5_advance_161 : decode cX5_advance 161 = .ok (.goto 7, 3) := by decide +kernel
theorem dX5_advance_164 : decode cX5_advance 164 = .ok (.aload_n 0, 1) := by decide +kernel
theorem dX5_advance_165 : decode cX5_advance 165 = .ok (.getfield 44, 3) := by decide +kernel
theorem dX5_advance_168 : decode cX5_advance 168 = .ok (.putfield 44, 3) := by decide +kernel
theorem dX5_advance_171 : decode cX5_advance 171 = .ok (.aload_n 0, 1) := by decide +kernel
theorem dX5_advance_172 : decode cX5_advance 172 = .ok (.dup, 1) := by decide +kernel
theorem dX5_advance_173 : decode cX5_advance 173 = .ok (.getfield 35, 3) := by decide +kernel
theorem dX5_advance_176 : decode cX5_advance 176 = .ok (.iconst 1, 1) := by decide +kernel
theorem dX5_advance_177 : decode cX5_advance 177 = .ok (.iadd, 1) := by decide +kernel
theorem dX5_advance_178 : decode cX5_advance 178 = .ok (.putfield 35, 3) := by decide +kernel
theorem dX5_advance_181 : decode cX5_advance 181 = .ok (.goto (-93), 3) := by decide +kernel
theorem dX5_advance_184 : decode cX5_advance 184 = .ok (.aload_n 0, 1) := by decide +kernel
theorem dX5_advance_185 : decode cX5_advance 185 = .ok (.getfield 35, 3) := by decide +kernel
theorem dX5_advance_188 : decode cX5_advance 188 = .ok (.aload_n 0, 1) := by decide +kernel
theorem dX5_advance_189 : decode cX5_advance 189 = .ok (.getfield 41, 3) := by decide +kernel
theorem dX5_advance_192 : decode cX5_advance 192 = .ok (.if_icmp .le 9, 3) := by decide +kernel
theorem dX5_advance_195 : decode cX5_advance 195 = .ok (.aload_n 0, 1) := by decide +kernel
theorem dX5_advance_196 : decode cX5_advance 196 = .ok (.iconst 1, 1) := by decide +kernel
theorem dX5_advance_197 : decode cX5_advance 197 = .ok (.putfield 48, 3) := by decide +kernel
theorem dX5_advance_200 : decode cX5_advance 200 = .ok (.return_, 1) := by decide +kernel
theorem dX5_advance_201 : decode cX5_advance 201 = .ok (.aload_n 0, 1) := by decide +kernel
theorem dX5_advance_202 : decode cX5_advance 202 = .ok (.getfield 35, 3) := by decide +kernel
theorem dX5_advance_205 : decode cX5_advance 205 = .ok (.ifCond .lt 52, 3) := by decide +kernel
theorem dX5_advance_208 : decode cX5_advance 208 = .ok (.aload_n 0, 1) := by decide +kernel
theorem dX5_advance_209 : decode cX5_advance 209 = .ok (.getfield 35, 3) := by decide +kernel
theorem dX5_advance_212 : decode cX5_advance 212 = .ok (.iload_n 1, 1) := by decide +kernel
theorem dX5_advance_213 : decode cX5_advance 213 = .ok (.if_icmp .ge 44, 3) := by decide +kernel
theorem dX5_advance_216 : decode cX5_advance 216 = .ok (.aload_n 0, 1) := by decide +kernel
theorem dX5_advance_217 : decode cX5_advance 217 = .ok (.getfield 9, 3) := by decide +kernel
theorem dX5_advance_220 : decode cX5_advance 220 = .ok (.aload_n 0, 1) := by decide +kernel
theorem dX5_advance_221 : decode cX5_advance 221 = .ok (.getfield 35, 3) := by decide +kernel
theorem dX5_advance_224 : decode cX5_advance 224 = .ok (.iaload, 1) := by decide +kernel
theorem dX5_advance_225 : decode cX5_advance 225 = .ok (.bipush 97, 2) := by decide +kernel
theorem dX5_advance_227 : decode cX5_advance 227 = .ok (.if_icmp .lt 30, 3) := by decide +kernel
theorem dX5_advance_230 : decode cX5_advance 230 = .ok (.aload_n 0, 1) := by decide +kernel
theorem dX5_advance_231 : decode cX5_advance 231 = .ok (.getfield 9, 3) := by decide +kernel
theorem dX5_advance_234 : decode cX5_advance 234 = .ok (.aload_n 0, 1) := by decide +kernel
theorem dX5_advance_235 : decode cX5_advance 235 = .ok (.getfield 35, 3) := by decide +kernel
theorem dX5_advance_238 : decode cX5_advance 238 = .ok (.iaload, 1) := by decide +kernel
theorem dX5_advance_239 : decode cX5_advance 239 = .ok (.bipush 122, 2) := by decide +kernel
theorem dX5_advance_241 : decode cX5_advance 241 = .ok (.if_icmp .gt 16, 3) := by decide +kernel
theorem dX5_advance_244 : decode cX5_advance 244 = .ok (.aload_n 0, 1) := by decide +kernel
theorem dX5_advance_245 : decode cX5_advance 245 = .ok (.dup, 1) := by decide +kernel
theorem dX5_advance_246 : decode cX5_advance 246 = .ok (.getfield 35, 3) := by decide +kernel
theorem dX5_advance_249 : decode cX5_advance 249 = .ok (.iconst 1, 1) := by decide +kernel
theorem dX5_advance_250 : decode cX5_advance 250 = .ok (.iadd, 1) := by decide +kernel
theorem dX5_advance_251 : decode cX5_advance 251 = .ok (.putfield 35, 3) := by decide +kernel
theorem dX5_advance_254 : decode cX5_advance 254 = .ok (.goto (-53), 3) := by decide +kernel
theorem dX5_advance_257 : decode cX5_advance 257 = .ok (.aload_n 0, 1) := by decide +kernel
theorem dX5_advance_258 : decode cX5_advance 258 = .ok (.getfield 35, 3) := by decide +kernel
theorem dX5_advance_261 : decode cX5_advance 261 = .ok (.aload_n 0, 1) := by decide +kernel
theorem dX5_advance_262 : decode cX5_advance 262 = .ok (.getfield 41, 3) := by decide +kernel
theorem dX5_advance_265 : decode cX5_advance 265 = .ok (.if_icmp .le 9, 3) := by decide +kernel
theorem dX5_advance_268 : decode cX5_advance 268 = .ok (.aload_n 0, 1) := by decide +kernel
theorem dX5_advance_269 : decode cX5_advance 269 = .ok (.iconst 2, 1) := by decide +kernel
theorem dX5_advance_270 : decode cX5_advance 270 = .ok (.putfield 48, 3) := by decide +kernel
theorem dX5_advance_273 : decode cX5_advance 273 = .ok (.return_, 1) := by decide +kernel
theorem dX5_advance_274 : decode cX5_advance 274 = .ok (.aload_n 0, 1) := by decide +kernel
theorem dX5_advance_275 : decode cX5_advance 275 = .ok (.aload_n 0, 1) := by decide +kernel
theorem dX5_advance_276 : decode cX5_advance 276 = .ok (.getfield 41, 3) := by decide +kernel
theorem dX5_advance_279 : decode cX5_advance 279 = .ok (.iload_n 1, 1) := by decide +kernel
theorem dX5_advance_280 : decode cX5_advance 280 = .ok (.if_icmp .ge 7, 3) := by decide +kernel
theorem dX5_advance_283 : decode cX5_advance 283 = .ok (.iconst 3, 1) := by decide +kernel
theorem dX5_advance_284 : decode cX5_advance 284 = .ok (.goto 4, 3) := by decide +kernel
theorem dX5_advance_287 : decode cX5_advance 287 = .ok (.iconst 0, 1) := by decide +kernel
theorem dX5_advance_288 : decode cX5_advance 288 = .ok (.putfield 48, 3) := by decide +kernel
theorem dX5_advance_291 : decode cX5_advance 291 = .ok (.aload_n 0, 1) := by decide +kernel
theorem dX5_advance_292 : decode cX5_advance 292 = .ok (.aload_n 0, 1) := by decide +kernel
theorem dX5_advance_293 : decode cX5_advance 293 = .ok (.getfield 41, 3) := by decide +kernel
theorem dX5_advance_296 : decode cX5_advance 296 = .ok (.iload_n 1, 1) := by decide +kernel
theorem dX5_advance_297 : decode cX5_advance 297 = .ok (.if_icmp .ge 12, 3) := by decide +kernel
theorem dX5_advance_300 : decode cX5_advance 300 = .ok (.aload_n 0, 1) := by decide +kernel
theorem dX5_advance_301 : decode cX5_advance 301 = .ok (.getfield 41, 3) := by decide +kernel
theorem dX5_advance_304 : decode cX5_advance 304 = .ok (.iconst 1, 1) := by decide +kernel
theorem dX5_advance_305 : decode cX5_advance 305 = .ok (.iadd, 1) := by decide +kernel
theorem dX5_advance_306 : decode cX5_advance 306 = .ok (.goto 4, 3) := by decide +kernel
theorem dX5_advance_309 : decode cX5_advance 309 = .ok (.iload_n 1, 1) := by decide +kernel
theorem dX5_advance_310 : decode cX5_advance 310 = .ok (.putfield 35, 3) := by decide +kernel
theorem dX5_advance_313 : decode cX5_advance 313 = .ok (.return_, 1) := by decide +kernel
theorem dX5_isNumber_0 : decode cX5_isNumber 0 = .ok (.aload_n 0, 1) := by decide +kernel
theorem dX5_isNumber_1 : decode cX5_isNumber 1 = .ok (.getfield 48, 3) := by decide +kernel
theorem dX5_isNumber_4 : decode cX5_isNumber 4 = .ok (.iconst 1, 1) := by decide +kernel
theorem dX5_isNumber_5 : decode cX5_isNumber 5 = .ok (.if_icmp .ne 7, 3) := by decide +kernel
theorem dX5_isNumber_8 : decode cX5_isNumber 8 = .ok (.iconst 1, 1) := by decide +kernel
theorem dX5_isNumber_9 : decode cX5_isNumber 9 = .ok (.goto 4, 3) := by decide +kernel
theorem dX5_isNumber_12 : decode cX5_isNumber 12 = .ok (.iconst 0, 1) := by decide +kernel
theorem dX5_isNumber_13 : decode cX5_isNumber 13 = .ok (.ireturn, 1) := by decide +kernel
set_option maxRecDepth 20000 in
theorem ggX5_isWord_J0_length_8abf5 : GoodIn wsX5_isWord wsJ0_length_8abf5 := goodIn_r _ [9, 10, 11, 12, 13, 8, 14, 15, 16] rfl (by decide +kernel)
set_option maxRecDepth 20000 in
theorem gX5_isWord_J0_length_8abf5 : GoodIn wsX5_isWord (wsV RX5 51 RJ0 yJ0_length_8abf5 wsJ0_length_8abf5) := goodIn_app (goodIn_of _ (by decide +kernel)) ggX5_isWord_J0_length_8abf5
set_option maxRecDepth 20000 in
theorem ggX5_isWord_J0_charAt_5068e : GoodIn wsX5_isWord wsJ0_charAt_5068e := goodIn_r _ [20, 10, 21, 22, 23, 8, 24, 15, 16, 25, 26, 27, 28, 29, 30, 31, 32, 33, 34, 35, 36, 37, 38, 39, 40, 41, 42, 43, 44, 45, 46, 47, 48, 49, 50, 51, 52, 53] rfl (by decide +kernel)
set_option maxRecDepth 20000 in
theorem gX5_isWord_J0_charAt_5068e : GoodIn wsX5_isWord (wsV RX5 56 RJ0 yJ0_charAt_5068e wsJ0_charAt_5068e) := goodIn_app (goodIn_of _ (by decide +kernel)) ggX5_isWord_J0_charAt_5068e
theorem dX5_isWord_0 : decode cX5_isWord 0 = .ok (.aload_n 0, 1) := by decide +kernel
theorem dX5_isWord_1 : decode cX5_isWord 1 = .ok (.getfield 48, 3) := by decide +kernel
theorem dX5_isWord_4 : decode cX5_isWord 4 = .ok (.iconst 2, 1) := by decide +kernel
theorem dX5_isWord_5 : decode cX5_isWord 5 = .ok (.if_icmp .ne 19, 3) := by decide +kernel
theorem dX5_isWord_8 : decode cX5_isWord 8 = .ok (.aload_n 0, 1) := by decide +kernel
theorem dX5_isWord_9 : decode cX5_isWord 9 = .ok (.getfield 35, 3) := by decide +kernel
theorem dX5_isWord_12 : decode cX5_isWord 12 = .ok (.aload_n 0, 1) := by decide +kernel
theorem dX5_isWord_13 : decode cX5_isWord 13 = .ok (.getfield 41, 3) := by decide +kernel
theorem dX5_isWord_16 : decode cX5_isWord 16 = .ok (.isub, 1) := by decide +kernel
theorem dX5_isWord_17 : decode cX5_isWord 17 = .ok (.aload_n 1, 1) := by decide +kernel
theorem dX5_isWord_18 : decode cX5_isWord 18 = .ok (.invokevirtual 51, 3) := by decide +kernel
theorem dX5_isWord_21 : decode cX5_isWord 21 = .ok (.if_icmp .eq 5, 3) := by decide +kernel
theorem dX5_isWord_24 : decode cX5_isWord 24 = .ok (.iconst 0, 1) := by decide +kernel
theorem dX5_isWord_25 : decode cX5_isWord 25 = .ok (.ireturn, 1) := by decide +kernel
theorem dX5_isWord_26 : decode cX5_isWord 26 = .ok (.iconst 1, 1) := by decide +kernel
theorem dX5_isWord_27 : decode cX5_isWord 27 = .ok (.istore_n 2, 1) := by decide +kernel
theorem dX5_isWord_28 : decode cX5_isWord 28 = .ok (.iconst 0, 1) := by decide +kernel
theorem dX5_isWord_29 : decode cX5_isWord 29 = .ok (.istore_n 3, 1) := by decide +kernel
theorem dX5_isWord_30 : decode cX5_isWord 30 = .ok (.iload_n 3, 1) := by decide +kernel
theorem dX5_isWord_31 : decode cX5_isWord 31 = .ok (.aload_n 1, 1) := by decide +kernel
theorem dX5_isWord_32 : decode cX5_isWord 32 = .ok (.invokevirtual 51, 3) := by decide +kernel
theorem dX5_isWord_35 : decode cX5_isWord 35 = .ok (.if_icmp .ge 57, 3) := by decide +kernel
theorem dX5_isWord_38 : decode cX5_isWord 38 = .ok (.aload_n 0, 1) := by decide +kernel
theorem dX5_isWord_39 : decode cX5_isWord 39 = .ok (.getfield 41, 3) := by decide +kernel
theorem dX5_isWord_42 : decode cX5_isWord 42 = .ok (.iload_n 3, 1) := by decide +kernel
theorem dX5_isWord_43 : decode cX5_isWord 43 = .ok (.iadd, 1) := by decide +kernel
theorem dX5_isWord_44 : decode cX5_isWord 44 = .ok (.istore 4, 2) := by decide +kernel
theorem dX5_isWord_46 : decode cX5_isWord 46 = .ok (.iload_n 2, 1) := by decide +kernel
theorem dX5_isWord_47 : decode cX5_isWord 47 = .ok (.ifCond .eq 37, 3) := by decide +kernel
theorem dX5_isWord_50 : decode cX5_isWord 50 = .ok (.iload 4, 2) := by decide +kernel
theorem dX5_isWord_52 : decode cX5_isWord 52 = .ok (.ifCond .lt 32, 3) := by decide +kernel
theorem dX5_isWord_55 : decode cX5_isWord 55 = .ok (.iload 4, 2) := by decide +kernel
theorem dX5_isWord_57 : decode cX5_isWord 57 = .ok (.aload_n 0, 1) := by decide +kernel
theorem dX5_isWord_58 : decode cX5_isWord 58 = .ok (.getfield 9, 3) := by decide +kernel
theorem dX5_isWord_61 : decode cX5_isWord 61 = .ok (.arraylength, 1) := by decide +kernel
theorem dX5_isWord_62 : decode cX5_isWord 62 = .ok (.if_icmp .ge 22, 3) := by decide +kernel
theorem dX5_isWord_65 : decode cX5_isWord 65 = .ok (.aload_n 0, 1) := by decide +kernel
theorem dX5_isWord_66 : decode cX5_isWord 66 = .ok (.getfield 9, 3) := by decide +kernel
theorem dX5_isWord_69 : decode cX5_isWord 69 = .ok (.iload 4, 2) := by decide +kernel
theorem dX5_isWord_71 : decode cX5_isWord 71 = .ok (.iaload, 1) := by decide +kernel
theorem dX5_isWord_72 : decode cX5_isWord 72 = .ok (.aload_n 1, 1) := by decide +kernel
theorem dX5_isWord_73 : decode cX5_isWord 73 = .ok (.iload_n 3, 1) := by decide +kernel
theorem dX5_isWord_74 : decode cX5_isWord 74 = .ok (.invokevirtual 56, 3) := by decide +kernel
theorem dX5_isWord_77 : decode cX5_isWord 77 = .ok (.if_icmp .ne 7, 3) := by decide +kernel
theorem dX5_isWord_80 : decode cX5_isWord 80 = .ok (.iconst 1, 1) := by decide +kernel
theorem dX5_isWord_81 : decode cX5_isWord 81 = .ok (.goto 4, 3) := by decide +kernel
theorem dX5_isWord_84 : decode cX5_isWord 84 = .ok (.iconst 0, 1) := by decide +kernel
theorem dX5_isWord_85 : decode cX5_isWord 85 = .ok (.istore_n 2, 1) := by decide +kernel
theorem dX5_isWord_86 : decode cX5_isWord 86 = .ok (.iinc 3 1, 3) := by decide +kernel
theorem dX5_isWord_89 : decode cX5_isWord 89 = .ok (.goto (-59), 3) := by decide +kernel
theorem dX5_isWord_92 : decode cX5_isWord 92 = .ok (.iload_n 2, 1) := by decide +kernel
theorem dX5_isWord_93 : decode cX5_isWord 93 = .ok (.ireturn, 1) := by decide +kernel
theorem dX5_isSign_0 : decode cX5_isSign 0 = .ok (.aload_n 0, 1) := by decide +kernel
theorem dX5_isSign_1 : decode cX5_isSign 1 = .ok (.getfield 48, 3) := by decide +kernel
theorem dX5_isSign_4 : decode cX5_isSign 4 = .ok (.iconst 3, 1) := by decide +kernel
theorem dX5_isSign_5 : decode cX5_isSign 5 = .ok (.if_icmp .ne 39, 3) := by decide +kernel
theorem dX5_isSign_8 : decode cX5_isSign 8 = .ok (.aload_n 0, 1) := by decide +kernel
theorem dX5_isSign_9 : decode cX5_isSign 9 = .ok (.getfield 41, 3) := by decide +kernel
theorem dX5_isSign_12 : decode cX5_isSign 12 = .ok (.ifCond .lt 32, 3) := by decide +kernel
theorem dX5_isSign_15 : decode cX5_isSign 15 = .ok (.aload_n 0, 1) := by decide +kernel
theorem dX5_isSign_16 : decode cX5_isSign 16 = .ok (.getfield 41, 3) := by decide +kernel
theorem dX5_isSign_19 : decode cX5_isSign 19 = .ok (.aload_n 0, 1) := by decide +kernel
theorem dX5_isSign_20 : decode cX5_isSign 20 = .ok (.getfield 9, 3) := by decide +kernel
theorem dX5_isSign_23 : decode cX5_isSign 23 = .ok (.arraylength, 1) := by decide +kernel
theorem dX5_isSign_24 : decode cX5_isSign 24 = .ok (.if_icmp .ge 20, 3) := by decide +kernel
theorem dX5_isSign_27 : decode cX5_isSign 27 = .ok (.aload_n 0, 1) := by decide +kernel
theorem dX5_isSign_28 : decode cX5_isSign 28 = .ok (.getfield 9, 3) := by decide +kernel
theorem dX5_isSign_31 : decode cX5_isSign 31 = .ok (.aload_n 0, 1) := by decide +kernel
theorem dX5_isSign_32 : decode cX5_isSign 32 = .ok (.getfield 41, 3) := by decide +kernel
theorem dX5_isSign_35 : decode cX5_isSign 35 = .ok (.iaload, 1) := by decide +kernel
theorem dX5_isSign_36 : decode cX5_isSign 36 = .ok (.iload_n 1, 1) := by decide +kernel
theorem dX5_isSign_37 : decode cX5_isSign 37 = .ok (.if_icmp .ne 7, 3) := by decide +kernel
theorem dX5_isSign_40 : decode cX5_isSign 40 = .ok (.iconst 1, 1) := by decide +kernel
theorem dX5_isSign_41 : decode cX5_isSign 41 = .ok (.goto 4, 3) := by decide +kernel
theorem dX5_isSign_44 : decode cX5_isSign 44 = .ok (.iconst 0, 1) := by decide +kernel
theorem dX5_isSign_45 : decode cX5_isSign 45 = .ok (.ireturn, 1) := by decide +kernel
theorem dX6_init_0 : decode cX6_init 0 = .ok (.aload_n 0, 1) := by decide +kernel
theorem dX6_init_1 : decode cX6_init 1 = .ok (.invokespecial 3, 3) := by decide +kernel
theorem dX6_init_4 : decode cX6_init 4 = .ok (.aload_n 0, 1) := by decide +kernel
theorem dX6_init_5 : decode cX6_init 5 = .ok (.bipush 55, 2) := by decide +kernel
theorem dX6_init_7 : decode cX6_init 7 = .ok (.newarray .int, 2) := by decide +kernel
theorem dX6_init_9 : decode cX6_init 9 = .ok (.putfield 9, 3) := by decide +kernel
theorem dX6_init_12 : decode cX6_init 12 = .ok (.aload_n 0, 1) := by decide +kernel
theorem dX6_init_13 : decode cX6_init 13 = .ok (.bipush 55, 2) := by decide +kernel
theorem dX6_init_15 : decode cX6_init 15 = .ok (.newarray .int, 2) := by decide +kernel
theorem dX6_init_17 : decode cX6_init 17 = .ok (.putfield 15, 3) := by decide +kernel
theorem dX6_init_20 : decode cX6_init 20 = .ok (.aload_n 0, 1) := by decide +kernel
theorem dX6_init_21 : decode cX6_init 21 = .ok (.iconst 5, 1) := by decide +kernel
theorem dX6_init_22 : decode cX6_init 22 = .ok (.newarray .int, 2) := by decide +kernel
theorem dX6_init_24 : decode cX6_init 24 = .ok (.putfield 18, 3) := by decide +kernel
theorem dX6_init_27 : decode cX6_init 27 = .ok (.aload_n 0, 1) := by decide +kernel
theorem dX6_init_28 : decode cX6_init 28 = .ok (.iconst 5, 1) := by decide +kernel
theorem dX6_init_29 : decode cX6_init 29 = .ok (.newarray .int, 2) := by decide +kernel
theorem dX6_init_31 : decode cX6_init 31 = .ok (.putfield 21, 3) := by decide +kernel
theorem dX6_init_34 : decode cX6_init 34 = .ok (.return_, 1) := by decide +kernel
set_option maxRecDepth 20000 in
theorem ggX6_takeOver_X7_copy : GoodIn wsX6_takeOver wsX7_copy := goodIn_r _ [8, 9, 10, 11, 12, 13, 14, 15, 16] rfl (by decide +kernel)
set_option maxRecDepth 20000 in
theorem gX6_takeOver_X7_copy_n24 : GoodIn wsX6_takeOver (wsX7_copy) := ggX6_takeOver_X7_copy
theorem dX6_takeOver_0 : decode cX6_takeOver 0 = .ok (.aload_n 1, 1) := by decide +kernel
theorem dX6_takeOver_1 : decode cX6_takeOver 1 = .ok (.getfield 9, 3) := by decide +kernel
theorem dX6_takeOver_4 : decode cX6_takeOver 4 = .ok (.aload_n 0, 1) := by decide +kernel
theorem dX6_takeOver_5 : decode cX6_takeOver 5 = .ok (.getfield 9, 3) := by decide +kernel
theorem dX6_takeOver_8 : decode cX6_takeOver 8 = .ok (.invokestatic 24, 3) := by decide +kernel
theorem dX6_takeOver_11 : decode cX6_takeOver 11 = .ok (.aload_n 1, 1) := by decide +kernel
theorem dX6_takeOver_12 : decode cX6_takeOver 12 = .ok (.getfield 15, 3) := by decide +kernel
theorem dX6_takeOver_15 : decode cX6_takeOver 15 = .ok (.aload_n 0, 1) := by decide +kernel
theorem dX6_takeOver_16 : decode cX6_takeOver 16 = .ok (.getfield 15, 3) := by decide +kernel
theorem dX6_takeOver_19 : decode cX6_takeOver 19 = .ok (.invokestatic 24, 3) := by decide +kernel
theorem dX6_takeOver_22 : decode cX6_takeOver 22 = .ok (.aload_n 0, 1) := by decide +kernel
theorem dX6_takeOver_23 : decode cX6_takeOver 23 = .ok (.aload_n 1, 1) := by decide +kernel
theorem dX6_takeOver_24 : decode cX6_takeOver 24 = .ok (.getfield 28, 3) := by decide +kernel
theorem dX6_takeOver_27 : decode cX6_takeOver 27 = .ok (.putfield 28, 3) := by decide +kernel
theorem dX6_takeOver_30 : decode cX6_takeOver 30 = .ok (.aload_n 1, 1) := by decide +kernel
theorem dX6_takeOver_31 : decode cX6_takeOver 31 = .ok (.getfield 18, 3) := by decide +kernel
theorem dX6_takeOver_34 : decode cX6_takeOver 34 = .ok (.aload_n 0, 1) := by decide +kernel
theorem dX6_takeOver_35 : decode cX6_takeOver 35 = .ok (.getfield 18, 3) := by decide +kernel
theorem dX6_takeOver_38 : decode cX6_takeOver 38 = .ok (.invokestatic 24, 3) := by decide +kernel
theorem dX6_takeOver_41 : decode cX6_takeOver 41 = .ok (.aload_n 1, 1) := by decide +kernel
theorem dX6_takeOver_42 : decode cX6_takeOver 42 = .ok (.getfield 21, 3) := by decide +kernel
theorem dX6_takeOver_45 : decode cX6_takeOver 45 = .ok (.aload_n 0, 1) := by decide +kernel
theorem dX6_takeOver_46 : decode cX6_takeOver 46 = .ok (.getfield 21, 3) := by decide +kernel
theorem dX6_takeOver_49 : decode cX6_takeOver 49 = .ok (.invokestatic 24, 3) := by decide +kernel
theorem dX6_takeOver_52 : decode cX6_takeOver 52 = .ok (.return_, 1) := by decide +kernel
set_option maxRecDepth 20000 in
theorem ggX6_begin_J7_fill_53178 : GoodIn wsX6_begin wsJ7_fill_53178 := goodIn_r _ [7] rfl (by decide +kernel)
set_option maxRecDepth 20000 in
theorem gX6_begin_J7_fill_53178 : GoodIn wsX6_begin (va_wsS RX6 32 yJ7_fill_53178 wsJ7_fill_53178) := goodIn_app (goodIn_of _ (by decide +kernel)) ggX6_begin_J7_fill_53178
theorem dX6_begin_0 : decode cX6_begin 0 = .ok (.aload_n 0, 1) := by decide +kernel
theorem dX6_begin_1 : decode cX6_begin 1 = .ok (.iconst 0, 1) := by decide +kernel
theorem dX6_begin_2 : decode cX6_begin 2 = .ok (.putfield 28, 3) := by decide +kernel
theorem dX6_begin_5 : decode cX6_begin 5 = .ok (.aload_n 0, 1) := by decide +kernel
theorem dX6_begin_6 : decode cX6_begin 6 = .ok (.getfield 18, 3) := by decide +kernel
theorem dX6_begin_9 : decode cX6_begin 9 = .ok (.iload_n 1, 1) := by decide +kernel
theorem dX6_begin_10 : decode cX6_begin 10 = .ok (.invokestatic 32, 3) := by decide +kernel
theorem dX6_begin_13 : decode cX6_begin 13 = .ok (.aload_n 0, 1) := by decide +kernel
theorem dX6_begin_14 : decode cX6_begin 14 = .ok (.getfield 21, 3) := by decide +kernel
theorem dX6_begin_17 : decode cX6_begin 17 = .ok (.iconst 0, 1) := by decide +kernel
theorem dX6_begin_18 : decode cX6_begin 18 = .ok (.invokestatic 32, 3) := by decide +kernel
theorem dX6_begin_21 : decode cX6_begin 21 = .ok (.return_, 1) := by decide +kernel
set_option maxRecDepth 20000 in
theorem ggX6_lay_X7_put : GoodIn wsX6_lay wsX7_put := goodIn_r _ [7] rfl (by decide +kernel)
set_option maxRecDepth 20000 in
theorem gX6_lay_X7_put_n38 : GoodIn wsX6_lay (wsX7_put) := ggX6_lay_X7_put
set_option maxRecDepth 20000 in
theorem ggX6_lay_X7_pipsOf : GoodIn wsX6_lay wsX7_pipsOf := goodIn_r _ [9, 10, 11, 6, 12, 13, 14, 15] rfl (by decide +kernel)
set_option maxRecDepth 20000 in
theorem gX6_lay_X7_pipsOf_n42 : GoodIn wsX6_lay (wsX7_pipsOf) := ggX6_lay_X7_pipsOf
set_option maxRecDepth 20000 in
theorem ggX6_lay_X6_endOf : GoodIn wsX6_lay wsX6_endOf := goodIn_r _ [20, 4, 21, 6, 22, 23, 24, 25, 26, 27] rfl (by decide +kernel)
set_option maxRecDepth 20000 in
theorem gX6_lay_X6_endOf : GoodIn wsX6_lay (wsV RX6 46 RX6 yX6_endOf wsX6_endOf) := goodIn_app (goodIn_of _ (by decide +kernel)) ggX6_lay_X6_endOf
theorem dX6_lay_0 : decode cX6_lay 0 = .ok (.aload_n 0, 1) := by decide +kernel
theorem dX6_lay_1 : decode cX6_lay 1 = .ok (.getfield 28, 3) := by decide +kernel
theorem dX6_lay_4 : decode cX6_lay 4 = .ok (.aload_n 0, 1) := by decide +kernel
theorem dX6_lay_5 : decode cX6_lay 5 = .ok (.getfield 9, 3) := by decide +kernel
theorem dX6_lay_8 : decode cX6_lay 8 = .ok (.arraylength, 1) := by decide +kernel
theorem dX6_lay_9 : decode cX6_lay 9 = .ok (.if_icmp .ge 55, 3) := by decide +kernel
theorem dX6_lay_12 : decode cX6_lay 12 = .ok (.aload_n 0, 1) := by decide +kernel
theorem dX6_lay_13 : decode cX6_lay 13 = .ok (.getfield 9, 3) := by decide +kernel
theorem dX6_lay_16 : decode cX6_lay 16 = .ok (.aload_n 0, 1) := by decide +kernel
theorem dX6_lay_17 : decode cX6_lay 17 = .ok (.getfield 28, 3) := by decide +kernel
theorem dX6_lay_20 : decode cX6_lay 20 = .ok (.iload_n 1, 1) := by decide +kernel
theorem dX6_lay_21 : decode cX6_lay 21 = .ok (.invokestatic 38, 3) := by decide +kernel
theorem dX6_lay_24 : decode cX6_lay 24 = .ok (.aload_n 0, 1) := by decide +kernel
theorem dX6_lay_25 : decode cX6_lay 25 = .ok (.getfield 15, 3) := by decide +kernel
theorem dX6_lay_28 : decode cX6_lay 28 = .ok (.aload_n 0, 1) := by decide +kernel
theorem dX6_lay_29 : decode cX6_lay 29 = .ok (.getfield 28, 3) := by decide +kernel
theorem dX6_lay_32 : decode cX6_lay 32 = .ok (.iload_n 2, 1) := by decide +kernel
theorem dX6_lay_33 : decode cX6_lay 33 = .ok (.invokestatic 38, 3) := by decide +kernel
theorem dX6_lay_36 : decode cX6_lay 36 = .ok (.aload_n 0, 1) := by decide +kernel
theorem dX6_lay_37 : decode cX6_lay 37 = .ok (.dup, 1) := by decide +kernel
theorem dX6_lay_38 : decode cX6_lay 38 = .ok (.getfield 28, 3) := by decide +kernel
theorem dX6_lay_41 : decode cX6_lay 41 = .ok (.iconst 1, 1) := by decide +kernel
theorem dX6_lay_42 : decode cX6_lay 42 = .ok (.iadd, 1) := by decide +kernel
theorem dX6_lay_43 : decode cX6_lay 43 = .ok (.putfield 28, 3) := by decide +kernel
theorem dX6_lay_46 : decode cX6_lay 46 = .ok (.aload_n 0, 1) := by decide +kernel
theorem dX6_lay_47 : decode cX6_lay 47 = .ok (.getfield 18, 3) := by decide +kernel
theorem dX6_lay_50 : decode cX6_lay 50 = .ok (.iload_n 2, 1) := by decide +kernel
theorem dX6_lay_51 : decode cX6_lay 51 = .ok (.iload_n 1, 1) := by decide +kernel
theorem dX6_lay_52 : decode cX6_lay 52 = .ok (.invokestatic 42, 3) := by decide +kernel
theorem dX6_lay_55 : decode cX6_lay 55 = .ok (.aload_n 0, 1) := by decide +kernel
theorem dX6_lay_56 : decode cX6_lay 56 = .ok (.iload_n 2, 1) := by decide +kernel
theorem dX6_lay_57 : decode cX6_lay 57 = .ok (.invokevirtual 46, 3) := by decide +kernel
theorem dX6_lay_60 : decode cX6_lay 60 = .ok (.isub, 1) := by decide +kernel
theorem dX6_lay_61 : decode cX6_lay 61 = .ok (.invokestatic 38, 3) := by decide +kernel
theorem dX6_lay_64 : decode cX6_lay 64 = .ok (.return_, 1) := by decide +kernel
set_option maxRecDepth 20000 in
theorem ggX6_endOf_X7_look : GoodIn wsX6_endOf wsX7_look := goodIn_r _ [4] rfl (by decide +kernel)
set_option maxRecDepth 20000 in
theorem gX6_endOf_X7_look_n49 : GoodIn wsX6_endOf (wsX7_look) := ggX6_endOf_X7_look
theorem dX6_endOf_0 : decode cX6_endOf 0 = .ok (.aload_n 0, 1) := by decide +kernel
theorem dX6_endOf_1 : decode cX6_endOf 1 = .ok (.getfield 18, 3) := by decide +kernel
theorem dX6_endOf_4 : decode cX6_endOf 4 = .ok (.iload_n 1, 1) := by decide +kernel
theorem dX6_endOf_5 : decode cX6_endOf 5 = .ok (.invokestatic 49, 3) := by decide +kernel
theorem dX6_endOf_8 : decode cX6_endOf 8 = .ok (.ireturn, 1) := by decide +kernel
set_option maxRecDepth 20000 in
theorem ggX6_isOpen_X7_look : GoodIn wsX6_isOpen wsX7_look := goodIn_r _ [4] rfl (by decide +kernel)
set_option maxRecDepth 20000 in
theorem gX6_isOpen_X7_look_n49 : GoodIn wsX6_isOpen (wsX7_look) := ggX6_isOpen_X7_look
theorem dX6_isOpen_0 : decode cX6_isOpen 0 = .ok (.aload_n 0, 1) := by decide +kernel
theorem dX6_isOpen_1 : decode cX6_isOpen 1 = .ok (.getfield 21, 3) := by decide +kernel
theorem dX6_isOpen_4 : decode cX6_isOpen 4 = .ok (.iload_n 1, 1) := by decide +kernel
theorem dX6_isOpen_5 : decode cX6_isOpen 5 = .ok (.invokestatic 49, 3) := by decide +kernel
theorem dX6_isOpen_8 : decode cX6_isOpen 8 = .ok (.iconst 1, 1) := by decide +kernel
theorem dX6_isOpen_9 : decode cX6_isOpen 9 = .ok (.if_icmp .ne 7, 3) := by decide +kernel
theorem dX6_isOpen_12 : decode cX6_isOpen 12 = .ok (.iconst 1, 1) := by decide +kernel
theorem dX6_isOpen_13 : decode cX6_isOpen 13 = .ok (.goto 4, 3) := by decide +kernel
theorem dX6_isOpen_16 : decode cX6_isOpen 16 = .ok (.iconst 0, 1) := by decide +kernel
theorem dX6_isOpen_17 : decode cX6_isOpen 17 = .ok (.ireturn, 1) := by decide +kernel
set_option maxRecDepth 20000 in
theorem ggX6_setOpen_X7_put : GoodIn wsX6_setOpen wsX7_put := goodIn_r _ [4] rfl (by decide +kernel)
set_option maxRecDepth 20000 in
theorem gX6_setOpen_X7_put_n38 : GoodIn wsX6_setOpen (wsX7_put) := ggX6_setOpen_X7_put
theorem dX6_setOpen_0 : decode cX6_setOpen 0 = .ok (.aload_n 0, 1) := by decide +kernel
theorem dX6_setOpen_1 : decode cX6_setOpen 1 = .ok (.getfield 21, 3) := by decide +kernel
theorem dX6_setOpen_4 : decode cX6_setOpen 4 = .ok (.iload_n 1, 1) := by decide +kernel
theorem dX6_setOpen_5 : decode cX6_setOpen 5 = .ok (.iload_n 2, 1) := by decide +kernel
theorem dX6_setOpen_6 : decode cX6_setOpen 6 = .ok (.ifCond .eq 7, 3) := by decide +kernel
theorem dX6_setOpen_9 : decode cX6_setOpen 9 = .ok (.iconst 1, 1) := by decide +kernel
theorem dX6_setOpen_10 : decode cX6_setOpen 10 = .ok (.goto 4, 3) := by decide +kernel
theorem dX6_setOpen_13 : decode cX6_setOpen 13 = .ok (.iconst 0, 1) := by decide +kernel
theorem dX6_setOpen_14 : decode cX6_setOpen 14 = .ok (.invokestatic 38, 3) := by decide +kernel
theorem dX6_setOpen_17 : decode cX6_setOpen 17 = .ok (.return_, 1) := by decide +kernel
set_option maxRecDepth 20000 in
theorem ggX6_countOf_X7_look : GoodIn wsX6_countOf wsX7_look := goodIn_r _ [5] rfl (by decide +kernel)
set_option maxRecDepth 20000 in
theorem gX6_countOf_X7_look_n49 : GoodIn wsX6_countOf (wsX7_look) := ggX6_countOf_X7_look
theorem dX6_countOf_0 : decode cX6_countOf 0 = .ok (.iconst 0, 1) := by decide +kernel
theorem dX6_countOf_1 : decode cX6_countOf 1 = .ok (.istore_n 2, 1) := by decide +kernel
theorem dX6_countOf_2 : decode cX6_countOf 2 = .ok (.iconst 0, 1) := by decide +kernel
theorem dX6_countOf_3 : decode cX6_countOf 3 = .ok (.istore_n 3, 1) := by decide +kernel
theorem dX6_countOf_4 : decode cX6_countOf 4 = .ok (.iload_n 3, 1) := by decide +kernel
theorem dX6_countOf_5 : decode cX6_countOf 5 = .ok (.aload_n 0, 1) := by decide +kernel
theorem dX6_countOf_6 : decode cX6_countOf 6 = .ok (.getfield 28, 3) := by decide +kernel
theorem dX6_countOf_9 : decode cX6_countOf 9 = .ok (.if_icmp .ge 24, 3) := by decide +kernel
theorem dX6_countOf_12 : decode cX6_countOf 12 = .ok (.aload_n 0, 1) := by decide +kernel
theorem dX6_countOf_13 : decode cX6_countOf 13 = .ok (.getfield 15, 3) := by decide +kernel
theorem dX6_countOf_16 : decode cX6_countOf 16 = .ok (.iload_n 3, 1) := by decide +kernel
theorem dX6_countOf_17 : decode cX6_countOf 17 = .ok (.invokestatic 49, 3) := by decide +kernel
theorem dX6_countOf_20 : decode cX6_countOf 20 = .ok (.iload_n 1, 1) := by decide +kernel
theorem dX6_countOf_21 : decode cX6_countOf 21 = .ok (.if_icmp .ne 6, 3) := by decide +kernel
theorem dX6_countOf_24 : decode cX6_countOf 24 = .ok (.iinc 2 1, 3) := by decide +kernel
theorem dX6_countOf_27 : decode cX6_countOf 27 = .ok (.iinc 3 1, 3) := by decide +kernel
theorem dX6_countOf_30 : decode cX6_countOf 30 = .ok (.goto (-26), 3) := by decide +kernel
theorem dX6_countOf_33 : decode cX6_countOf 33 = .ok (.iload_n 2, 1) := by decide +kernel
theorem dX6_countOf_34 : decode cX6_countOf 34 = .ok (.ireturn, 1) := by decide +kernel
set_option maxRecDepth 20000 in
theorem ggX6_pipsOn_X7_look : GoodIn wsX6_pipsOn wsX7_look := goodIn_r _ [6] rfl (by decide +kernel)
set_option maxRecDepth 20000 in
theorem gX6_pipsOn_X7_look_n49 : GoodIn wsX6_pipsOn (wsX7_look) := ggX6_pipsOn_X7_look
set_option maxRecDepth 20000 in
theorem ggX6_pipsOn_X7_pipsOf : GoodIn wsX6_pipsOn wsX7_pipsOf := goodIn_r _ [8, 9, 10, 5, 11, 12, 13, 14] rfl (by decide +kernel)
set_option maxRecDepth 20000 in
theorem gX6_pipsOn_X7_pipsOf_n42 : GoodIn wsX6_pipsOn (wsX7_pipsOf) := ggX6_pipsOn_X7_pipsOf
theorem dX6_pipsOn_0 : decode cX6_pipsOn 0 = .ok (.iconst 0, 1) := by decide +kernel
theorem dX6_pipsOn_1 : decode cX6_pipsOn 1 = .ok (.istore_n 2, 1) := by decide +kernel
theorem dX6_pipsOn_2 : decode cX6_pipsOn 2 = .ok (.iconst 0, 1) := by decide +kernel
theorem dX6_pipsOn_3 : decode cX6_pipsOn 3 = .ok (.istore_n 3, 1) := by decide +kernel
theorem dX6_pipsOn_4 : decode cX6_pipsOn 4 = .ok (.iload_n 3, 1) := by decide +kernel
theorem dX6_pipsOn_5 : decode cX6_pipsOn 5 = .ok (.aload_n 0, 1) := by decide +kernel
theorem dX6_pipsOn_6 : decode cX6_pipsOn 6 = .ok (.getfield 28, 3) := by decide +kernel
theorem dX6_pipsOn_9 : decode cX6_pipsOn 9 = .ok (.if_icmp .ge 35, 3) := by decide +kernel
theorem dX6_pipsOn_12 : decode cX6_pipsOn 12 = .ok (.aload_n 0, 1) := by decide +kernel
theorem dX6_pipsOn_13 : decode cX6_pipsOn 13 = .ok (.getfield 15, 3) := by decide +kernel
theorem dX6_pipsOn_16 : decode cX6_pipsOn 16 = .ok (.iload_n 3, 1) := by decide +kernel
theorem dX6_pipsOn_17 : decode cX6_pipsOn 17 = .ok (.invokestatic 49, 3) := by decide +kernel
theorem dX6_pipsOn_20 : decode cX6_pipsOn 20 = .ok (.iload_n 1, 1) := by decide +kernel
theorem dX6_pipsOn_21 : decode cX6_pipsOn 21 = .ok (.if_icmp .ne 17, 3) := by decide +kernel
theorem dX6_pipsOn_24 : decode cX6_pipsOn 24 = .ok (.iload_n 2, 1) := by decide +kernel
theorem dX6_pipsOn_25 : decode cX6_pipsOn 25 = .ok (.aload_n 0, 1) := by decide +kernel
theorem dX6_pipsOn_26 : decode cX6_pipsOn 26 = .ok (.getfield 9, 3) := by decide +kernel
theorem dX6_pipsOn_29 : decode cX6_pipsOn 29 = .ok (.iload_n 3, 1) := by decide +kernel
theorem dX6_pipsOn_30 : decode cX6_pipsOn 30 = .ok (.invokestatic 49, 3) := by decide +kernel
theorem dX6_pipsOn_33 : decode cX6_pipsOn 33 = .ok (.invokestatic 42, 3) := by decide +kernel
theorem dX6_pipsOn_36 : decode cX6_pipsOn 36 = .ok (.iadd, 1) := by decide +kernel
theorem dX6_pipsOn_37 : decode cX6_pipsOn 37 = .ok (.istore_n 2, 1) := by decide +kernel
theorem dX6_pipsOn_38 : decode cX6_pipsOn 38 = .ok (.iinc 3 1, 3) := by decide +kernel
theorem dX6_pipsOn_41 : decode cX6_pipsOn 41 = .ok (.goto (-37), 3) := by decide +kernel
theorem dX6_pipsOn_44 : decode cX6_pipsOn 44 = .ok (.iload_n 2, 1) := by decide +kernel
theorem dX6_pipsOn_45 : decode cX6_pipsOn 45 = .ok (.ireturn, 1) := by decide +kernel
set_option maxRecDepth 20000 in
theorem ggX6_tileAt_X7_look : GoodIn wsX6_tileAt wsX7_look := goodIn_r _ [6] rfl (by decide +kernel)
set_option maxRecDepth 20000 in
theorem gX6_tileAt_X7_look_n49 : GoodIn wsX6_tileAt (wsX7_look) := ggX6_tileAt_X7_look
theorem dX6_tileAt_0 : decode cX6_tileAt 0 = .ok (.iconst 0, 1) := by decide +kernel
theorem dX6_tileAt_1 : decode cX6_tileAt 1 = .ok (.istore_n 3, 1) := by decide +kernel
theorem dX6_tileAt_2 : decode cX6_tileAt 2 = .ok (.iconst 0, 1) := by decide +kernel
theorem dX6_tileAt_3 : decode cX6_tileAt 3 = .ok (.istore 4, 2) := by decide +kernel
theorem dX6_tileAt_5 : decode cX6_tileAt 5 = .ok (.iload 4, 2) := by decide +kernel
theorem dX6_tileAt_7 : decode cX6_tileAt 7 = .ok (.aload_n 0, 1) := by decide +kernel
theorem dX6_tileAt_8 : decode cX6_tileAt 8 = .ok (.getfield 28, 3) := by decide +kernel
theorem dX6_tileAt_11 : decode cX6_tileAt 11 = .ok (.if_icmp .ge 40, 3) := by decide +kernel
theorem dX6_tileAt_14 : decode cX6_tileAt 14 = .ok (.aload_n 0, 1) := by decide +kernel
theorem dX6_tileAt_15 : decode cX6_tileAt 15 = .ok (.getfield 15, 3) := by decide +kernel
theorem dX6_tileAt_18 : decode cX6_tileAt 18 = .ok (.iload 4, 2) := by decide +kernel
theorem dX6_tileAt_20 : decode cX6_tileAt 20 = .ok (.invokestatic 49, 3) := by decide +kernel
theorem dX6_tileAt_23 : decode cX6_tileAt 23 = .ok (.iload_n 1, 1) := by decide +kernel
theorem dX6_tileAt_24 : decode cX6_tileAt 24 = .ok (.if_icmp .ne 21, 3) := by decide +kernel
theorem dX6_tileAt_27 : decode cX6_tileAt 27 = .ok (.iload_n 3, 1) := by decide +kernel
theorem dX6_tileAt_28 : decode cX6_tileAt 28 = .ok (.iload_n 2, 1) := by decide +kernel
theorem dX6_tileAt_29 : decode cX6_tileAt 29 = .ok (.if_icmp .ne 13, 3) := by decide +kernel
theorem dX6_tileAt_32 : decode cX6_tileAt 32 = .ok (.aload_n 0, 1) := by decide +kernel
theorem dX6_tileAt_33 : decode cX6_tileAt 33 = .ok (.getfield 9, 3) := by decide +kernel
theorem dX6_tileAt_36 : decode cX6_tileAt 36 = .ok (.iload 4, 2) := by decide +kernel
theorem dX6_tileAt_38 : decode cX6_tileAt 38 = .ok (.invokestatic 49, 3) := by decide +kernel
theorem dX6_tileAt_41 : decode cX6_tileAt 41 = .ok (.ireturn, 1) := by decide +kernel
theorem dX6_tileAt_42 : decode cX6_tileAt 42 = .ok (.iinc 3 1, 3) := by decide +kernel
theorem dX6_tileAt_45 : decode cX6_tileAt 45 = .ok (.iinc 4 1, 3) := by decide +kernel
theorem dX6_tileAt_48 : decode cX6_tileAt 48 = .ok (.goto (-43), 3) := by decide +kernel
theorem dX6_tileAt_51 : decode cX6_tileAt 51 = .ok (.iconst (-1), 1) := by decide +kernel
theorem dX6_tileAt_52 : decode cX6_tileAt 52 = .ok (.ireturn, 1) := by decide +kernel
set_option maxRecDepth 20000 in
theorem ggX7_init_X1_init : GoodIn wsX7_init wsX1_init := goodIn_r _ [20, 21, 2, 3, 22, 23, 24, 25, 26, 27, 28, 29, 30, 31, 32, 33, 34, 35, 36, 37, 38, 39, 40, 41, 42, 43, 44, 45, 46, 47, 48, 49, 50, 51, 52, 53, 147, 148, 149, 150, 151, 152, 153, 154, 155, 156, 157, 158, 159, 160, 161, 162, 188, 189, 190, 191, 192, 193, 194, 195] rfl (by decide +kernel)
set_option maxRecDepth 20000 in
theorem gX7_init_X1_init : GoodIn wsX7_init (wsX1_init) := ggX7_init_X1_init
set_option maxRecDepth 20000 in
theorem ggX7_init_X3_init : GoodIn wsX7_init wsX3_init := goodIn_r _ [55, 56, 2, 3, 57, 58, 59, 60, 61, 5, 6, 62, 28, 63, 64, 65, 66, 67, 68, 69, 19, 20, 21, 22, 23, 24, 25, 26, 27, 29, 30, 31, 32, 33, 34, 35, 36, 37, 38, 39, 40, 41, 42, 43, 44, 45, 46, 47, 48, 49, 50, 51, 52, 53, 196, 197, 198, 199, 200, 201, 202, 170, 171, 172, 173, 174, 175, 176, 177, 178, 179, 180, 147, 148, 149, 150, 151, 152, 153, 154, 155, 156, 157, 158, 159, 160, 161, 162, 188, 189, 190, 191, 192, 193, 194, 195] rfl (by decide +kernel)
set_option maxRecDepth 20000 in
theorem gX7_init_X3_init_n25 : GoodIn wsX7_init (wsX3_init) := ggX7_init_X3_init
set_option maxRecDepth 20000 in
theorem ggX7_init_X2_init : GoodIn wsX7_init wsX2_init := goodIn_r _ [71, 72, 2, 3, 28, 73, 74, 75, 76, 181, 182, 183, 184, 185, 186, 187] rfl (by decide +kernel)
set_option maxRecDepth 20000 in
theorem gX7_init_X2_init_n32 : GoodIn wsX7_init (wsX2_init) := ggX7_init_X2_init
set_option maxRecDepth 20000 in
theorem ggX7_init_X1_dealRound : GoodIn wsX7_init wsX1_dealRound := goodIn_r _ [80, 34, 26, 23, 38, 25, 81, 82, 27, 83, 84, 85, 86, 87, 33, 88, 89, 90, 91, 92, 93, 6, 94, 22, 95, 96, 97, 98, 99, 100, 101, 102, 103, 104, 105, 106, 107, 29, 108, 109, 110, 111, 112, 113, 114, 115, 42, 116, 117, 118, 119, 120, 121, 122, 123, 124, 125, 126, 127, 128, 24, 129, 130, 131, 132, 133, 134, 135, 136, 137, 138, 139, 140, 141, 142, 143, 37, 144, 145, 48, 49, 146, 51, 52, 53, 147, 148, 149, 150, 151, 152, 153, 154, 155, 156, 157, 158, 159, 160, 161, 162, 188, 189, 190, 191, 192, 193, 194, 195] rfl (by decide +kernel)
set_option maxRecDepth 20000 in
theorem gX7_init_X1_dealRound : GoodIn wsX7_init (wsV RX7 37 RX1 yX1_dealRound wsX1_dealRound) := goodIn_app (goodIn_of _ (by decide +kernel)) ggX7_init_X1_dealRound
theorem dX7_init_0 : decode cX7_init 0 = .ok (.aload_n 0, 1) := by decide +kernel
theorem dX7_init_1 : decode cX7_init 1 = .ok (.invokespecial 1, 3) := by decide +kernel
theorem dX7_init_4 : decode cX7_init 4 = .ok (.aload_n 0, 1) := by decide +kernel
theorem dX7_init_5 : decode cX7_init 5 = .ok (.new 7, 3) := by decide +kernel
theorem dX7_init_8 : decode cX7_init 8 = .ok (.dup, 1) := by decide +kernel
theorem dX7_init_9 : decode cX7_init 9 = .ok (.invokespecial 9, 3) := by decide +kernel
theorem dX7_init_12 : decode cX7_init 12 = .ok (.putfield 10, 3) := by decide +kernel
theorem dX7_init_15 : decode cX7_init 15 = .ok (.aload_n 0, 1) := by decide +kernel
theorem dX7_init_16 : decode cX7_init 16 = .ok (.new 7, 3) := by decide +kernel
theorem dX7_init_19 : decode cX7_init 19 = .ok (.dup, 1) := by decide +kernel
theorem dX7_init_20 : decode cX7_init 20 = .ok (.invokespecial 9, 3) := by decide +kernel
theorem dX7_init_23 : decode cX7_init 23 = .ok (.putfield 16, 3) := by decide +kernel
theorem dX7_init_26 : decode cX7_init 26 = .ok (.aload_n 0, 1) := by decide +kernel
theorem dX7_init_27 : decode cX7_init 27 = .ok (.bipush 8, 2) := by decide +kernel
theorem dX7_init_29 : decode cX7_init 29 = .ok (.anewarray 7, 3) := by decide +kernel
theorem dX7_init_32 : decode cX7_init 32 = .ok (.putfield 19, 3) := by decide +kernel
theorem dX7_init_35 : decode cX7_init 35 = .ok (.aload_n 0, 1) := by decide +kernel
theorem dX7_init_36 : decode cX7_init 36 = .ok (.new 23, 3) := by decide +kernel
theorem dX7_init_39 : decode cX7_init 39 = .ok (.dup, 1) := by decide +kernel
theorem dX7_init_40 : decode cX7_init 40 = .ok (.invokespecial 25, 3) := by decide +kernel
theorem dX7_init_43 : decode cX7_init 43 = .ok (.putfield 26, 3) := by decide +kernel
theorem dX7_init_46 : decode cX7_init 46 = .ok (.aload_n 0, 1) := by decide +kernel
theorem dX7_init_47 : decode cX7_init 47 = .ok (.new 30, 3) := by decide +kernel
theorem dX7_init_50 : decode cX7_init 50 = .ok (.dup, 1) := by decide +kernel
theorem dX7_init_51 : decode cX7_init 51 = .ok (.invokespecial 32, 3) := by decide +kernel
theorem dX7_init_54 : decode cX7_init 54 = .ok (.putfield 33, 3) := by decide +kernel
theorem dX7_init_57 : decode cX7_init 57 = .ok (.iconst 0, 1) := by decide +kernel
theorem dX7_init_58 : decode cX7_init 58 = .ok (.istore_n 1, 1) := by decide +kernel
theorem dX7_init_59 : decode cX7_init 59 = .ok (.iload_n 1, 1) := by decide +kernel
theorem dX7_init_60 : decode cX7_init 60 = .ok (.aload_n 0, 1) := by decide +kernel
theorem dX7_init_61 : decode cX7_init 61 = .ok (.getfield 19, 3) := by decide +kernel
theorem dX7_init_64 : decode cX7_init 64 = .ok (.arraylength, 1) := by decide +kernel
theorem dX7_init_65 : decode cX7_init 65 = .ok (.if_icmp .ge 22, 3) := by decide +kernel
