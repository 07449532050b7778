theorem dX6_init_0 : decode cX6_init 0 = .ok (.aload_n 0, 1) := by decide +kernel
theorem dX6_init_1 : decode cX6_init 1 = .ok (.invokespecial 1, 3) := by decide +kernel
theorem dX6_init_4 : decode cX6_init 4 = .ok (.aload_n 0, 1) := by decide +kernel
theorem dX6_init_5 : decode cX6_init 5 = .ok (.sipush 264, 3) := by decide +kernel
theorem dX6_init_8 : decode cX6_init 8 = .ok (.newarray .int, 2) := by decide +kernel
theorem dX6_init_10 : decode cX6_init 10 = .ok (.putfield 7, 3) := by decide +kernel
theorem dX6_init_13 : decode cX6_init 13 = .ok (.aload_n 0, 1) := by decide +kernel
theorem dX6_init_14 : decode cX6_init 14 = .ok (.sipush 528, 3) := by decide +kernel
theorem dX6_init_17 : decode cX6_init 17 = .ok (.newarray .int, 2) := by decide +kernel
theorem dX6_init_19 : decode cX6_init 19 = .ok (.putfield 13, 3) := by decide +kernel
theorem dX6_init_22 : decode cX6_init 22 = .ok (.aload_n 0, 1) := by decide +kernel
theorem dX6_init_23 : decode cX6_init 23 = .ok (.iconst 2, 1) := by decide +kernel
theorem dX6_init_24 : decode cX6_init 24 = .ok (.newarray .boolean, 2) := by decide +kernel
theorem dX6_init_26 : decode cX6_init 26 = .ok (.putfield 16, 3) := by decide +kernel
theorem dX6_init_29 : decode cX6_init 29 = .ok (.aload_n 0, 1) := by decide +kernel
theorem dX6_init_30 : decode cX6_init 30 = .ok (.bipush 6, 2) := by decide +kernel
theorem dX6_init_32 : decode cX6_init 32 = .ok (.newarray .long, 2) := by decide +kernel
theorem dX6_init_34 : decode cX6_init 34 = .ok (.putfield 20, 3) := by decide +kernel
theorem dX6_init_37 : decode cX6_init 37 = .ok (.aload_n 0, 1) := by decide +kernel
theorem dX6_init_38 : decode cX6_init 38 = .ok (.sipush 400, 3) := by decide +kernel
theorem dX6_init_41 : decode cX6_init 41 = .ok (.newarray .int, 2) := by decide +kernel
theorem dX6_init_43 : decode cX6_init 43 = .ok (.putfield 24, 3) := by decide +kernel
theorem dX6_init_46 : decode cX6_init 46 = .ok (.aload_n 0, 1) := by decide +kernel
theorem dX6_init_47 : decode cX6_init 47 = .ok (.bipush 6, 2) := by decide +kernel
theorem dX6_init_49 : decode cX6_init 49 = .ok (.newarray .int, 2) := by decide +kernel
theorem dX6_init_51 : decode cX6_init 51 = .ok (.putfield 27, 3) := by decide +kernel
theorem dX6_init_54 : decode cX6_init 54 = .ok (.aload_n 0, 1) := by decide +kernel
theorem dX6_init_55 : decode cX6_init 55 = .ok (.bipush 36, 2) := by decide +kernel
theorem dX6_init_57 : decode cX6_init 57 = .ok (.newarray .int, 2) := by decide +kernel
theorem dX6_init_59 : decode cX6_init 59 = .ok (.putfield 30, 3) := by decide +kernel
theorem dX6_init_62 : decode cX6_init 62 = .ok (.aload_n 0, 1) := by decide +kernel
theorem dX6_init_63 : decode cX6_init 63 = .ok (.bipush 48, 2) := by decide +kernel
theorem dX6_init_65 : decode cX6_init 65 = .ok (.newarray .int, 2) := by decide +kernel
theorem dX6_init_67 : decode cX6_init 67 = .ok (.putfield 33, 3) := by decide +kernel
theorem dX6_init_70 : decode cX6_init 70 = .ok (.aload_n 0, 1) := by decide +kernel
theorem dX6_init_71 : decode cX6_init 71 = .ok (.bipush 6, 2) := by decide +kernel
theorem dX6_init_73 : decode cX6_init 73 = .ok (.newarray .int, 2) := by decide +kernel
theorem dX6_init_75 : decode cX6_init 75 = .ok (.putfield 36, 3) := by decide +kernel
theorem dX6_init_78 : decode cX6_init 78 = .ok (.aload_n 0, 1) := by decide +kernel
theorem dX6_init_79 : decode cX6_init 79 = .ok (.bipush 8, 2) := by decide +kernel
theorem dX6_init_81 : decode cX6_init 81 = .ok (.newarray .int, 2) := by decide +kernel
theorem dX6_init_83 : decode cX6_init 83 = .ok (.putfield 39, 3) := by decide +kernel
theorem dX6_init_86 : decode cX6_init 86 = .ok (.aload_n 0, 1) := by decide +kernel
theorem dX6_init_87 : decode cX6_init 87 = .ok (.sipush 400, 3) := by decide +kernel
theorem dX6_init_90 : decode cX6_init 90 = .ok (.newarray .long, 2) := by decide +kernel
theorem dX6_init_92 : decode cX6_init 92 = .ok (.putfield 42, 3) := by decide +kernel
theorem dX6_init_95 : decode cX6_init 95 = .ok (.aload_n 0, 1) := by decide +kernel
theorem dX6_init_96 : decode cX6_init 96 = .ok (.bipush 100, 2) := by decide +kernel
theorem dX6_init_98 : decode cX6_init 98 = .ok (.newarray .long, 2) := by decide +kernel
theorem dX6_init_100 : decode cX6_init 100 = .ok (.putfield 45, 3) := by decide +kernel
theorem dX6_init_103 : decode cX6_init 103 = .ok (.aload_n 0, 1) := by decide +kernel
theorem dX6_init_104 : decode cX6_init 104 = .ok (.bipush 100, 2) := by decide +kernel
theorem dX6_init_106 : decode cX6_init 106 = .ok (.newarray .int, 2) := by decide +kernel
theorem dX6_init_108 : decode cX6_init 108 = .ok (.putfield 48, 3) := by decide +kernel
theorem dX6_init_111 : decode cX6_init 111 = .ok (.aload_n 0, 1) := by decide +kernel
theorem dX6_init_112 : decode cX6_init 112 = .ok (.bipush 20, 2) := by decide +kernel
theorem dX6_init_114 : decode cX6_init 114 = .ok (.newarray .int, 2) := by decide +kernel
theorem dX6_init_116 : decode cX6_init 116 = .ok (.putfield 51, 3) := by decide +kernel
theorem dX6_init_119 : decode cX6_init 119 = .ok (.aload_n 0, 1) := by decide +kernel
theorem dX6_init_120 : decode cX6_init 120 = .ok (.getfield 27, 3) := by decide +kernel
theorem dX6_init_123 : decode cX6_init 123 = .ok (.iconst 0, 1) := by decide +kernel
theorem dX6_init_124 : decode cX6_init 124 = .ok (.iconst 2, 1) := by decide +kernel
theorem dX6_init_125 : decode cX6_init 125 = .ok (.iastore, 1) := by decide +kernel
theorem dX6_init_126 : decode cX6_init 126 = .ok (.aload_n 0, 1) := by decide +kernel
theorem dX6_init_127 : decode cX6_init 127 = .ok (.getfield 27, 3) := by decide +kernel
theorem dX6_init_130 : decode cX6_init 130 = .ok (.iconst 1, 1) := by decide +kernel
theorem dX6_init_131 : decode cX6_init 131 = .ok (.bipush 6, 2) := by decide +kernel
theorem dX6_init_133 : decode cX6_init 133 = .ok (.iastore, 1) := by decide +kernel
theorem dX6_init_134 : decode cX6_init 134 = .ok (.aload_n 0, 1) := by decide +kernel
theorem dX6_init_135 : decode cX6_init 135 = .ok (.getfield 27, 3) := by decide +kernel
theorem dX6_init_138 : decode cX6_init 138 = .ok (.iconst 2, 1) := by decide +kernel
theorem dX6_init_139 : decode cX6_init 139 = .ok (.iconst 2, 1) := by decide +kernel
theorem dX6_init_140 : decode cX6_init 140 = .ok (.iastore, 1) := by decide +kernel
theorem dX6_init_141 : decode cX6_init 141 = .ok (.aload_n 0, 1) := by decide +kernel
theorem dX6_init_142 : decode cX6_init 142 = .ok (.getfield 39, 3) := by decide +kernel
theorem dX6_init_145 : decode cX6_init 145 = .ok (.iconst 0, 1) := by decide +kernel
theorem dX6_init_146 : decode cX6_init 146 = .ok (.iconst 2, 1) := by decide +kernel
theorem dX6_init_147 : decode cX6_init 147 = .ok (.iastore, 1) := by decide +kernel
theorem dX6_init_148 : decode cX6_init 148 = .ok (.aload_n 0, 1) := by decide +kernel
theorem dX6_init_149 : decode cX6_init 149 = .ok (.getfield 39, 3) := by decide +kernel
theorem dX6_init_152 : decode cX6_init 152 = .ok (.iconst 1, 1) := by decide +kernel
theorem dX6_init_153 : decode cX6_init 153 = .ok (.bipush 6, 2) := by decide +kernel
theorem dX6_init_155 : decode cX6_init 155 = .ok (.iastore, 1) := by decide +kernel
theorem dX6_init_156 : decode cX6_init 156 = .ok (.aload_n 0, 1) := by decide +kernel
theorem dX6_init_157 : decode cX6_init 157 = .ok (.getfield 39, 3) := by decide +kernel
theorem dX6_init_160 : decode cX6_init 160 = .ok (.iconst 2, 1) := by decide +kernel
theorem dX6_init_161 : decode cX6_init 161 = .ok (.iconst 5, 1) := by decide +kernel
theorem dX6_init_162 : decode cX6_init 162 = .ok (.iastore, 1) := by decide +kernel
theorem dX6_init_163 : decode cX6_init 163 = .ok (.aload_n 0, 1) := by decide +kernel
theorem dX6_init_164 : decode cX6_init 164 = .ok (.getfield 39, 3) := by decide +kernel
theorem dX6_init_167 : decode cX6_init 167 = .ok (.iconst 3, 1) := by decide +kernel
theorem dX6_init_168 : decode cX6_init 168 = .ok (.iconst 1, 1) := by decide +kernel
theorem dX6_init_169 : decode cX6_init 169 = .ok (.iastore, 1) := by decide +kernel
theorem dX6_init_170 : decode cX6_init 170 = .ok (.aload_n 0, 1) := by decide +kernel
theorem dX6_init_171 : decode cX6_init 171 = .ok (.getfield 39, 3) := by decide +kernel
theorem dX6_init_174 : decode cX6_init 174 = .ok (.iconst 4, 1) := by decide +kernel
theorem dX6_init_175 : decode cX6_init 175 = .ok (.bipush 100, 2) := by decide +kernel
theorem dX6_init_177 : decode cX6_init 177 = .ok (.iastore, 1) := by decide +kernel
theorem dX6_init_178 : decode cX6_init 178 = .ok (.aload_n 0, 1) := by decide +kernel
theorem dX6_init_179 : decode cX6_init 179 = .ok (.getfield 39, 3) := by decide +kernel
theorem dX6_init_182 : decode cX6_init 182 = .ok (.iconst 5, 1) := by decide +kernel
theorem dX6_init_183 : decode cX6_init 183 = .ok (.bipush 20, 2) := by decide +kernel
theorem dX6_init_185 : decode cX6_init 185 = .ok (.iastore, 1) := by decide +kernel
theorem dX6_init_186 : decode cX6_init 186 = .ok (.aload_n 0, 1) := by decide +kernel
theorem dX6_init_187 : decode cX6_init 187 = .ok (.getfield 39, 3) := by decide +kernel
theorem dX6_init_190 : decode cX6_init 190 = .ok (.bipush 6, 2) := by decide +kernel
theorem dX6_init_192 : decode cX6_init 192 = .ok (.iconst 1, 1) := by decide +kernel
theorem dX6_init_193 : decode cX6_init 193 = .ok (.iastore, 1) := by decide +kernel
theorem dX6_init_194 : decode cX6_init 194 = .ok (.aload_n 0, 1) := by decide +kernel
theorem dX6_init_195 : decode cX6_init 195 = .ok (.getfield 39, 3) := by decide +kernel
theorem dX6_init_198 : decode cX6_init 198 = .ok (.bipush 7, 2) := by decide +kernel
theorem dX6_init_200 : decode cX6_init 200 = .ok (.bipush 6, 2) := by decide +kernel
theorem dX6_init_202 : decode cX6_init 202 = .ok (.iastore, 1) := by decide +kernel
theorem dX6_init_203 : decode cX6_init 203 = .ok (.aload_n 0, 1) := by decide +kernel
theorem dX6_init_204 : decode cX6_init 204 = .ok (.getfield 7, 3) := by decide +kernel
theorem dX6_init_207 : decode cX6_init 207 = .ok (.sipush 263, 3) := by decide +kernel
theorem dX6_init_210 : decode cX6_init 210 = .ok (.iconst 1, 1) := by decide +kernel
theorem dX6_init_211 : decode cX6_init 211 = .ok (.iastore, 1) := by decide +kernel
theorem dX6_init_212 : decode cX6_init 212 = .ok (.iconst 0, 1) := by decide +kernel
theorem dX6_init_213 : decode cX6_init 213 = .ok (.istore_n 1, 1) := by decide +kernel
theorem dX6_init_214 : decode cX6_init 214 = .ok (.iload_n 1, 1) := by decide +kernel
theorem dX6_init_215 : decode cX6_init 215 = .ok (.bipush 20, 2) := by decide +kernel
theorem dX6_init_217 : decode cX6_init 217 = .ok (.if_icmp .ge 81, 3) := by decide +kernel
theorem dX6_init_220 : decode cX6_init 220 = .ok (.aload_n 0, 1) := by decide +kernel
theorem dX6_init_221 : decode cX6_init 221 = .ok (.getfield 42, 3) := by decide +kernel
theorem dX6_init_224 : decode cX6_init 224 = .ok (.bipush 20, 2) := by decide +kernel
theorem dX6_init_226 : decode cX6_init 226 = .ok (.iload_n 1, 1) := by decide +kernel
theorem dX6_init_227 : decode cX6_init 227 = .ok (.imul, 1) := by decide +kernel
theorem dX6_init_228 : decode cX6_init 228 = .ok (.lconst 1, 1) := by decide +kernel
theorem dX6_init_229 : decode cX6_init 229 = .ok (.lastore, 1) := by decide +kernel
theorem dX6_init_230 : decode cX6_init 230 = .ok (.iconst 1, 1) := by decide +kernel
theorem dX6_init_231 : decode cX6_init 231 = .ok (.istore_n 2, 1) := by decide +kernel
theorem dX6_init_232 : decode cX6_init 232 = .ok (.iload_n 2, 1) := by decide +kernel
theorem dX6_init_233 : decode cX6_init 233 = .ok (.iload_n 1, 1) := by decide +kernel
theorem dX6_init_234 : decode cX6_init 234 = .ok (.if_icmp .gt 58, 3) := by decide +kernel
theorem dX6_init_237 : decode cX6_init 237 = .ok (.aload_n 0, 1) := by decide +kernel
theorem dX6_init_238 : decode cX6_init 238 = .ok (.getfield 42, 3) := by decide +kernel
theorem dX6_init_241 : decode cX6_init 241 = .ok (.bipush 20, 2) := by decide +kernel
theorem dX6_init_243 : decode cX6_init 243 = .ok (.iload_n 1, 1) := by decide +kernel
theorem dX6_init_244 : decode cX6_init 244 = .ok (.imul, 1) := by decide +kernel
theorem dX6_init_245 : decode cX6_init 245 = .ok (.iload_n 2, 1) := by decide +kernel
theorem dX6_init_246 : decode cX6_init 246 = .ok (.iadd, 1) := by decide +kernel
theorem dX6_init_247 : decode cX6_init 247 = .ok (.aload_n 0, 1) := by decide +kernel
theorem dX6_init_248 : decode cX6_init 248 = .ok (.getfield 42, 3) := by decide +kernel
theorem dX6_init_251 : decode cX6_init 251 = .ok (.bipush 20, 2) := by decide +kernel
theorem dX6_init_253 : decode cX6_init 253 = .ok (.iload_n 1, 1) := by decide +kernel
theorem dX6_init_254 : decode cX6_init 254 = .ok (.iconst 1, 1) := by decide +kernel
theorem dX6_init_255 : decode cX6_init 255 = .ok (.isub, 1) := by decide +kernel
theorem dX6_init_256 : decode cX6_init 256 = .ok (.imul, 1) := by decide +kernel
theorem dX6_init_257 : decode cX6_init 257 = .ok (.iload_n 2, 1) := by decide +kernel
theorem dX6_init_258 : decode cX6_init 258 = .ok (.iadd, 1) := by decide +kernel
theorem dX6_init_259 : decode cX6_init 259 = .ok (.iconst 1, 1) := by decide +kernel
theorem dX6_init_260 : decode cX6_init 260 = .ok (.isub, 1) := by decide +kernel
theorem dX6_init_261 : decode cX6_init 261 = .ok (.laload, 1) := by decide +kernel
theorem dX6_init_262 : decode cX6_init 262 = .ok (.iload_n 2, 1) := by decide +kernel
theorem dX6_init_263 : decode cX6_init 263 = .ok (.iload_n 1, 1) := by decide +kernel
theorem dX6_init_264 : decode cX6_init 264 = .ok (.if_icmp .ge 19, 3) := by decide +kernel
theorem dX6_init_267 : decode cX6_init 267 = .ok (.aload_n 0, 1) := by decide +kernel
theorem dX6_init_268 : decode cX6_init 268 = .ok (.getfield 42, 3) := by decide +kernel
theorem dX6_init_271 : decode cX6_init 271 = .ok (.bipush 20, 2) := by decide +kernel
theorem dX6_init_273 : decode cX6_init 273 = .ok (.iload_n 1, 1) := by decide +kernel
theorem dX6_init_274 : decode cX6_init 274 = .ok (.iconst 1, 1) := by decide +kernel
theorem dX6_init_275 : decode cX6_init 275 = .ok (.isub, 1) := by decide +kernel
theorem dX6_init_276 : decode cX6_init 276 = .ok (.imul, 1) := by decide +kernel
theorem dX6_init_277 : decode cX6_init 277 = .ok (.iload_n 2, 1) := by decide +kernel
theorem dX6_init_278 : decode cX6_init 278 = .ok (.iadd, 1) := by decide +kernel
theorem dX6_init_279 : decode cX6_init 279 = .ok (.laload, 1) := by decide +kernel
theorem dX6_init_280 : decode cX6_init 280 = .ok (.goto 4, 3) := by decide +kernel
theorem dX6_init_283 : decode cX6_init 283 = .ok (.lconst 0, 1) := by decide +kernel
theorem dX6_init_284 : decode cX6_init 284 = .ok (.ladd, 1) := by decide +kernel
theorem dX6_init_285 : decode cX6_init 285 = .ok (.lastore, 1) := by decide +kernel
theorem dX6_init_286 : decode cX6_init 286 = .ok (.iinc 2 1, 3) := by decide +kernel
theorem dX6_init_289 : decode cX6_init 289 = .ok (.goto (-57), 3) := by decide +kernel
theorem dX6_init_292 : decode cX6_init 292 = .ok (.iinc 1 1, 3) := by decide +kernel
theorem dX6_init_295 : decode cX6_init 295 = .ok (.goto (-81), 3) := by decide +kernel
theorem dX6_init_298 : decode cX6_init 298 = .ok (.iconst 0, 1) := by decide +kernel
theorem dX6_init_299 : decode cX6_init 299 = .ok (.istore_n 1, 1) := by decide +kernel
theorem dX6_init_300 : decode cX6_init 300 = .ok (.iload_n 1, 1) := by decide +kernel
theorem dX6_init_301 : decode cX6_init 301 = .ok (.bipush 6, 2) := by decide +kernel
theorem dX6_init_303 : decode cX6_init 303 = .ok (.if_icmp .ge 16, 3) := by decide +kernel
theorem dX6_init_306 : decode cX6_init 306 = .ok (.aload_n 0, 1) := by decide +kernel
theorem dX6_init_307 : decode cX6_init 307 = .ok (.getfield 36, 3) := by decide +kernel
theorem dX6_init_310 : decode cX6_init 310 = .ok (.iload_n 1, 1) := by decide +kernel
theorem dX6_init_311 : decode cX6_init 311 = .ok (.iconst 1, 1) := by decide +kernel
theorem dX6_init_312 : decode cX6_init 312 = .ok (.iastore, 1) := by decide +kernel
theorem dX6_init_313 : decode cX6_init 313 = .ok (.iinc 1 1, 3) := by decide +kernel
theorem dX6_init_316 : decode cX6_init 316 = .ok (.goto (-16), 3) := by decide +kernel
theorem dX6_init_319 : decode cX6_init 319 = .ok (.return_, 1) := by decide +kernel
theorem dX6_in_0 : decode cX6_in 0 = .ok (.iload_n 0, 1) := by decide +kernel
theorem dX6_in_1 : decode cX6_in 1 = .ok (.iload_n 1, 1) := by decide +kernel
theorem dX6_in_2 : decode cX6_in 2 = .ok (.if_icmp .lt 12, 3) := by decide +kernel
theorem dX6_in_5 : decode cX6_in 5 = .ok (.iload_n 0, 1) := by decide +kernel
theorem dX6_in_6 : decode cX6_in 6 = .ok (.iload_n 2, 1) := by decide +kernel
theorem dX6_in_7 : decode cX6_in 7 = .ok (.if_icmp .gt 7, 3) := by decide +kernel
theorem dX6_in_10 : decode cX6_in 10 = .ok (.iconst 1, 1) := by decide +kernel
theorem dX6_in_11 : decode cX6_in 11 = .ok (.goto 4, 3) := by decide +kernel
theorem dX6_in_14 : decode cX6_in 14 = .ok (.iconst 0, 1) := by decide +kernel
theorem dX6_in_15 : decode cX6_in 15 = .ok (.ireturn, 1) := by decide +kernel
set_option maxRecDepth 20000 in
theorem ggX6_isStall_X6_in : GoodIn wsX6_isStall wsX6_in := goodIn_r _ [5] (by decide +kernel) (by decide +kernel)
set_option maxRecDepth 20000 in
theorem gX6_isStall_X6_in : GoodIn wsX6_isStall (va_wsS RX6 61 yX6_in wsX6_in) := goodIn_app (goodIn_of _ (by decide +kernel)) ggX6_isStall_X6_in
theorem dX6_isStall_0 : decode cX6_isStall 0 = .ok (.iload_n 1, 1) := by decide +kernel
theorem dX6_isStall_1 : decode cX6_isStall 1 = .ok (.iconst 0, 1) := by decide +kernel
theorem dX6_isStall_2 : decode cX6_isStall 2 = .ok (.aload_n 0, 1) := by decide +kernel
theorem dX6_isStall_3 : decode cX6_isStall 3 = .ok (.getfield 58, 3) := by decide +kernel
theorem dX6_isStall_6 : decode cX6_isStall 6 = .ok (.iconst 1, 1) := by decide +kernel
theorem dX6_isStall_7 : decode cX6_isStall 7 = .ok (.isub, 1) := by decide +kernel
theorem dX6_isStall_8 : decode cX6_isStall 8 = .ok (.invokestatic 61, 3) := by decide +kernel
theorem dX6_isStall_11 : decode cX6_isStall 11 = .ok (.ireturn, 1) := by decide +kernel
set_option maxRecDepth 20000 in
theorem ggX6_isWay_X6_in : GoodIn wsX6_isWay wsX6_in := goodIn_r _ [5] (by decide +kernel) (by decide +kernel)
set_option maxRecDepth 20000 in
theorem gX6_isWay_X6_in : GoodIn wsX6_isWay (va_wsS RX6 61 yX6_in wsX6_in) := goodIn_app (goodIn_of _ (by decide +kernel)) ggX6_isWay_X6_in
theorem dX6_isWay_0 : decode cX6_isWay 0 = .ok (.iload_n 1, 1) := by decide +kernel
theorem dX6_isWay_1 : decode cX6_isWay 1 = .ok (.iconst 0, 1) := by decide +kernel
theorem dX6_isWay_2 : decode cX6_isWay 2 = .ok (.aload_n 0, 1) := by decide +kernel
theorem dX6_isWay_3 : decode cX6_isWay 3 = .ok (.getfield 65, 3) := by decide +kernel
theorem dX6_isWay_6 : decode cX6_isWay 6 = .ok (.iconst 1, 1) := by decide +kernel
theorem dX6_isWay_7 : decode cX6_isWay 7 = .ok (.isub, 1) := by decide +kernel
theorem dX6_isWay_8 : decode cX6_isWay 8 = .ok (.invokestatic 61, 3) := by decide +kernel
theorem dX6_isWay_11 : decode cX6_isWay 11 = .ok (.ireturn, 1) := by decide +kernel
set_option maxRecDepth 20000 in
theorem ggX6_isSort_X6_in : GoodIn wsX6_isSort wsX6_in := goodIn_r _ [4] (by decide +kernel) (by decide +kernel)
set_option maxRecDepth 20000 in
theorem gX6_isSort_X6_in : GoodIn wsX6_isSort (va_wsS RX6 61 yX6_in wsX6_in) := goodIn_app (goodIn_of _ (by decide +kernel)) ggX6_isSort_X6_in
theorem dX6_isSort_0 : decode cX6_isSort 0 = .ok (.iload_n 0, 1) := by decide +kernel
theorem dX6_isSort_1 : decode cX6_isSort 1 = .ok (.iconst 0, 1) := by decide +kernel
theorem dX6_isSort_2 : decode cX6_isSort 2 = .ok (.iconst 3, 1) := by decide +kernel
theorem dX6_isSort_3 : decode cX6_isSort 3 = .ok (.invokestatic 61, 3) := by decide +kernel
theorem dX6_isSort_6 : decode cX6_isSort 6 = .ok (.ireturn, 1) := by decide +kernel
theorem dX6_floor_0 : decode cX6_floor 0 = .ok (.iload_n 0, 1) := by decide +kernel
theorem dX6_floor_1 : decode cX6_floor 1 = .ok (.iload_n 1, 1) := by decide +kernel
theorem dX6_floor_2 : decode cX6_floor 2 = .ok (.idiv, 1) := by decide +kernel
theorem dX6_floor_3 : decode cX6_floor 3 = .ok (.istore_n 2, 1) := by decide +kernel
theorem dX6_floor_4 : decode cX6_floor 4 = .ok (.iload_n 0, 1) := by decide +kernel
theorem dX6_floor_5 : decode cX6_floor 5 = .ok (.iload_n 1, 1) := by decide +kernel
theorem dX6_floor_6 : decode cX6_floor 6 = .ok (.irem, 1) := by decide +kernel
theorem dX6_floor_7 : decode cX6_floor 7 = .ok (.ifCond .ge 9, 3) := by decide +kernel
theorem dX6_floor_10 : decode cX6_floor 10 = .ok (.iload_n 2, 1) := by decide +kernel
theorem dX6_floor_11 : decode cX6_floor 11 = .ok (.iconst 1, 1) := by decide +kernel
theorem dX6_floor_12 : decode cX6_floor 12 = .ok (.isub, 1) := by decide +kernel
theorem dX6_floor_13 : decode cX6_floor 13 = .ok (.goto 4, 3) := by decide +kernel
theorem dX6_floor_16 : decode cX6_floor 16 = .ok (.iload_n 2, 1) := by decide +kernel
theorem dX6_floor_17 : decode cX6_floor 17 = .ok (.ireturn, 1) := by decide +kernel
theorem dX6_size_0 : decode cX6_size 0 = .ok (.lload_n 0, 1) := by decide +kernel
theorem dX6_size_1 : decode cX6_size 1 = .ok (.lconst 0, 1) := by decide +kernel
theorem dX6_size_2 : decode cX6_size 2 = .ok (.lcmp, 1) := by decide +kernel
theorem dX6_size_3 : decode cX6_size 3 = .ok (.ifCond .ge 8, 3) := by decide +kernel
theorem dX6_size_6 : decode cX6_size 6 = .ok (.lload_n 0, 1) := by decide +kernel
theorem dX6_size_7 : decode cX6_size 7 = .ok (.lneg, 1) := by decide +kernel
theorem dX6_size_8 : decode cX6_size 8 = .ok (.goto 4, 3) := by decide +kernel
theorem dX6_size_11 : decode cX6_size 11 = .ok (.lload_n 0, 1) := by decide +kernel
theorem dX6_size_12 : decode cX6_size 12 = .ok (.lreturn, 1) := by decide +kernel
set_option maxRecDepth 20000 in
theorem ggX6_gcd_X6_size : GoodIn wsX6_gcd wsX6_size := goodIn_r _ [4] (by decide +kernel) (by decide +kernel)
set_option maxRecDepth 20000 in
theorem gX6_gcd_X6_size : GoodIn wsX6_gcd (va_wsS RX6 68 yX6_size wsX6_size) := goodIn_app (goodIn_of _ (by decide +kernel)) ggX6_gcd_X6_size
theorem dX6_gcd_0 : decode cX6_gcd 0 = .ok (.lload_n 0, 1) := by decide +kernel
theorem dX6_gcd_1 : decode cX6_gcd 1 = .ok (.invokestatic 68, 3) := by decide +kernel
theorem dX6_gcd_4 : decode cX6_gcd 4 = .ok (.lstore 4, 2) := by decide +kernel
theorem dX6_gcd_6 : decode cX6_gcd 6 = .ok (.lload_n 2, 1) := by decide +kernel
theorem dX6_gcd_7 : decode cX6_gcd 7 = .ok (.lstore 6, 2) := by decide +kernel
theorem dX6_gcd_9 : decode cX6_gcd 9 = .ok (.lload 6, 2) := by decide +kernel
theorem dX6_gcd_11 : decode cX6_gcd 11 = .ok (.lconst 0, 1) := by decide +kernel
theorem dX6_gcd_12 : decode cX6_gcd 12 = .ok (.lcmp, 1) := by decide +kernel
theorem dX6_gcd_13 : decode cX6_gcd 13 = .ok (.ifCond .eq 21, 3) := by decide +kernel
theorem dX6_gcd_16 : decode cX6_gcd 16 = .ok (.lload 4, 2) := by decide +kernel
theorem dX6_gcd_18 : decode cX6_gcd 18 = .ok (.lload 6, 2) := by decide +kernel
theorem dX6_gcd_20 : decode cX6_gcd 20 = .ok (.lrem, 1) := by decide +kernel
theorem dX6_gcd_21 : decode cX6_gcd 21 = .ok (.lstore 8, 2) := by decide +kernel
theorem dX6_gcd_23 : decode cX6_gcd 23 = .ok (.lload 6, 2) := by decide +kernel
theorem dX6_gcd_25 : decode cX6_gcd 25 = .ok (.lstore 4, 2) := by decide +kernel
theorem dX6_gcd_27 : decode cX6_gcd 27 = .ok (.lload 8, 2) := by decide +kernel
theorem dX6_gcd_29 : decode cX6_gcd 29 = .ok (.lstore 6, 2) := by decide +kernel
theorem dX6_gcd_31 : decode cX6_gcd 31 = .ok (.goto (-22), 3) := by decide +kernel
theorem dX6_gcd_34 : decode cX6_gcd 34 = .ok (.lload 4, 2) := by decide +kernel
theorem dX6_gcd_36 : decode cX6_gcd 36 = .ok (.lreturn, 1) := by decide +kernel
set_option maxRecDepth 20000 in
theorem ggX6_part_X6_gcd : GoodIn wsX6_part wsX6_gcd := goodIn_r _ [4, 5, 6, 3, 7] (by decide +kernel) (by decide +kernel)
set_option maxRecDepth 20000 in
theorem gX6_part_X6_gcd : GoodIn wsX6_part (va_wsS RX6 72 yX6_gcd wsX6_gcd) := goodIn_app (goodIn_of _ (by decide +kernel)) ggX6_part_X6_gcd
theorem dX6_part_0 : decode cX6_part 0 = .ok (.lload_n 0, 1) := by decide +kernel
theorem dX6_part_1 : decode cX6_part 1 = .ok (.lload_n 2, 1) := by decide +kernel
theorem dX6_part_2 : decode cX6_part 2 = .ok (.invokestatic 72, 3) := by decide +kernel
theorem dX6_part_5 : decode cX6_part 5 = .ok (.lstore 5, 2) := by decide +kernel
theorem dX6_part_7 : decode cX6_part 7 = .ok (.iload 4, 2) := by decide +kernel
theorem dX6_part_9 : decode cX6_part 9 = .ok (.ifCond .ne 10, 3) := by decide +kernel
theorem dX6_part_12 : decode cX6_part 12 = .ok (.lload_n 0, 1) := by decide +kernel
theorem dX6_part_13 : decode cX6_part 13 = .ok (.lload 5, 2) := by decide +kernel
theorem dX6_part_15 : decode cX6_part 15 = .ok (.ldiv, 1) := by decide +kernel
theorem dX6_part_16 : decode cX6_part 16 = .ok (.goto 7, 3) := by decide +kernel
theorem dX6_part_19 : decode cX6_part 19 = .ok (.lload_n 2, 1) := by decide +kernel
theorem dX6_part_20 : decode cX6_part 20 = .ok (.lload 5, 2) := by decide +kernel
theorem dX6_part_22 : decode cX6_part 22 = .ok (.ldiv, 1) := by decide +kernel
theorem dX6_part_23 : decode cX6_part 23 = .ok (.lreturn, 1) := by decide +kernel
theorem dX6_power_0 : decode cX6_power 0 = .ok (.lconst 1, 1) := by decide +kernel
theorem dX6_power_1 : decode cX6_power 1 = .ok (.lstore_n 3, 1) := by decide +kernel
theorem dX6_power_2 : decode cX6_power 2 = .ok (.iconst 0, 1) := by decide +kernel
theorem dX6_power_3 : decode cX6_power 3 = .ok (.istore 5, 2) := by decide +kernel
theorem dX6_power_5 : decode cX6_power 5 = .ok (.iload 5, 2) := by decide +kernel
theorem dX6_power_7 : decode cX6_power 7 = .ok (.iload_n 2, 1) := by decide +kernel
theorem dX6_power_8 : decode cX6_power 8 = .ok (.if_icmp .ge 13, 3) := by decide +kernel
theorem dX6_power_11 : decode cX6_power 11 = .ok (.lload_n 3, 1) := by decide +kernel
theorem dX6_power_12 : decode cX6_power 12 = .ok (.lload_n 0, 1) := by decide +kernel
theorem dX6_power_13 : decode cX6_power 13 = .ok (.lmul, 1) := by decide +kernel
theorem dX6_power_14 : decode cX6_power 14 = .ok (.lstore_n 3, 1) := by decide +kernel
theorem dX6_power_15 : decode cX6_power 15 = .ok (.iinc 5 1, 3) := by decide +kernel
theorem dX6_power_18 : decode cX6_power 18 = .ok (.goto (-13), 3) := by decide +kernel
theorem dX6_power_21 : decode cX6_power 21 = .ok (.lload_n 3, 1) := by decide +kernel
theorem dX6_power_22 : decode cX6_power 22 = .ok (.lreturn, 1) := by decide +kernel
set_option maxRecDepth 20000 in
theorem ggX6_type_X6_in : GoodIn wsX6_type wsX6_in := goodIn_r _ [8] (by decide +kernel) (by decide +kernel)
set_option maxRecDepth 20000 in
theorem gX6_type_X6_in : GoodIn wsX6_type (va_wsS RX6 61 yX6_in wsX6_in) := goodIn_app (goodIn_of _ (by decide +kernel)) ggX6_type_X6_in
theorem dX6_type_0 : decode cX6_type 0 = .ok (.aload_n 0, 1) := by decide +kernel
theorem dX6_type_1 : decode cX6_type 1 = .ok (.iconst 0, 1) := by decide +kernel
theorem dX6_type_2 : decode cX6_type 2 = .ok (.putfield 54, 3) := by decide +kernel
theorem dX6_type_5 : decode cX6_type 5 = .ok (.iload_n 3, 1) := by decide +kernel
theorem dX6_type_6 : decode cX6_type 6 = .ok (.iconst 1, 1) := by decide +kernel
theorem dX6_type_7 : decode cX6_type 7 = .ok (.bipush 8, 2) := by decide +kernel
theorem dX6_type_9 : decode cX6_type 9 = .ok (.invokestatic 61, 3) := by decide +kernel
theorem dX6_type_12 : decode cX6_type 12 = .ok (.ifCond .ne 5, 3) := by decide +kernel
theorem dX6_type_15 : decode cX6_type 15 = .ok (.iconst (-1), 1) := by decide +kernel
theorem dX6_type_16 : decode cX6_type 16 = .ok (.ireturn, 1) := by decide +kernel
theorem dX6_type_17 : decode cX6_type 17 = .ok (.aload_n 0, 1) := by decide +kernel
theorem dX6_type_18 : decode cX6_type 18 = .ok (.getfield 76, 3) := by decide +kernel
theorem dX6_type_21 : decode cX6_type 21 = .ok (.iload_n 3, 1) := by decide +kernel
theorem dX6_type_22 : decode cX6_type 22 = .ok (.iadd, 1) := by decide +kernel
theorem dX6_type_23 : decode cX6_type 23 = .ok (.sipush 400, 3) := by decide +kernel
theorem dX6_type_26 : decode cX6_type 26 = .ok (.if_icmp .le 6, 3) := by decide +kernel
theorem dX6_type_29 : decode cX6_type 29 = .ok (.bipush (-3), 2) := by decide +kernel
theorem dX6_type_31 : decode cX6_type 31 = .ok (.ireturn, 1) := by decide +kernel
theorem dX6_type_32 : decode cX6_type 32 = .ok (.iload_n 3, 1) := by decide +kernel
theorem dX6_type_33 : decode cX6_type 33 = .ok (.iconst 1, 1) := by decide +kernel
theorem dX6_type_34 : decode cX6_type 34 = .ok (.isub, 1) := by decide +kernel
theorem dX6_type_35 : decode cX6_type 35 = .ok (.istore 4, 2) := by decide +kernel
theorem dX6_type_37 : decode cX6_type 37 = .ok (.iload 4, 2) := by decide +kernel
theorem dX6_type_39 : decode cX6_type 39 = .ok (.ifCond .lt 40, 3) := by decide +kernel
theorem dX6_type_42 : decode cX6_type 42 = .ok (.aload_n 0, 1) := by decide +kernel
theorem dX6_type_43 : decode cX6_type 43 = .ok (.getfield 24, 3) := by decide +kernel
theorem dX6_type_46 : decode cX6_type 46 = .ok (.aload_n 0, 1) := by decide +kernel
theorem dX6_type_47 : decode cX6_type 47 = .ok (.getfield 76, 3) := by decide +kernel
theorem dX6_type_50 : decode cX6_type 50 = .ok (.lload_n 1, 1) := by decide +kernel
theorem dX6_type_51 : decode cX6_type 51 = .ok (.bipush 8, 2) := by decide +kernel
theorem dX6_type_53 : decode cX6_type 53 = .ok (.iload 4, 2) := by decide +kernel
theorem dX6_type_55 : decode cX6_type 55 = .ok (.imul, 1) := by decide +kernel
theorem dX6_type_56 : decode cX6_type 56 = .ok (.lshr, 1) := by decide +kernel
theorem dX6_type_57 : decode cX6_type 57 = .ok (.ldc2_w 79, 3) := by decide +kernel
theorem dX6_type_60 : decode cX6_type 60 = .ok (.land, 1) := by decide +kernel
theorem dX6_type_61 : decode cX6_type 61 = .ok (.l2i, 1) := by decide +kernel
theorem dX6_type_62 : decode cX6_type 62 = .ok (.iastore, 1) := by decide +kernel
theorem dX6_type_63 : decode cX6_type 63 = .ok (.aload_n 0, 1) := by decide +kernel
theorem dX6_type_64 : decode cX6_type 64 = .ok (.dup, 1) := by decide +kernel
theorem dX6_type_65 : decode cX6_type 65 = .ok (.getfield 76, 3) := by decide +kernel
theorem dX6_type_68 : decode cX6_type 68 = .ok (.iconst 1, 1) := by decide +kernel
theorem dX6_type_69 : decode cX6_type 69 = .ok (.iadd, 1) := by decide +kernel
theorem dX6_type_70 : decode cX6_type 70 = .ok (.putfield 76, 3) := by decide +kernel
theorem dX6_type_73 : decode cX6_type 73 = .ok (.iinc 4 (-1), 3) := by decide +kernel
theorem dX6_type_76 : decode cX6_type 76 = .ok (.goto (-39), 3) := by decide +kernel
theorem dX6_type_79 : decode cX6_type 79 = .ok (.aload_n 0, 1) := by decide +kernel
theorem dX6_type_80 : decode cX6_type 80 = .ok (.getfield 76, 3) := by decide +kernel
theorem dX6_type_83 : decode cX6_type 83 = .ok (.ireturn, 1) := by decide +kernel
theorem dX6_clear_0 : decode cX6_clear 0 = .ok (.aload_n 0, 1) := by decide +kernel
theorem dX6_clear_1 : decode cX6_clear 1 = .ok (.iconst 0, 1) := by decide +kernel
theorem dX6_clear_2 : decode cX6_clear 2 = .ok (.putfield 54, 3) := by decide +kernel
theorem dX6_clear_5 : decode cX6_clear 5 = .ok (.aload_n 0, 1) := by decide +kernel
theorem dX6_clear_6 : decode cX6_clear 6 = .ok (.getfield 76, 3) := by decide +kernel
theorem dX6_clear_9 : decode cX6_clear 9 = .ok (.istore_n 1, 1) := by decide +kernel
theorem dX6_clear_10 : decode cX6_clear 10 = .ok (.aload_n 0, 1) := by decide +kernel
theorem dX6_clear_11 : decode cX6_clear 11 = .ok (.iconst 0, 1) := by decide +kernel
theorem dX6_clear_12 : decode cX6_clear 12 = .ok (.putfield 76, 3) := by decide +kernel
theorem dX6_clear_15 : decode cX6_clear 15 = .ok (.iload_n 1, 1) := by decide +kernel
theorem dX6_clear_16 : decode cX6_clear 16 = .ok (.ireturn, 1) := by decide +kernel
theorem dX6_byteAt_0 : decode cX6_byteAt 0 = .ok (.iload_n 1, 1) := by decide +kernel
theorem dX6_byteAt_1 : decode cX6_byteAt 1 = .ok (.aload_n 0, 1) := by decide +kernel
theorem dX6_byteAt_2 : decode cX6_byteAt 2 = .ok (.getfield 76, 3) := by decide +kernel
theorem dX6_byteAt_5 : decode cX6_byteAt 5 = .ok (.if_icmp .ge 12, 3) := by decide +kernel
theorem dX6_byteAt_8 : decode cX6_byteAt 8 = .ok (.aload_n 0, 1) := by decide +kernel
theorem dX6_byteAt_9 : decode cX6_byteAt 9 = .ok (.getfield 24, 3) := by decide +kernel
theorem dX6_byteAt_12 : decode cX6_byteAt 12 = .ok (.iload_n 1, 1) := by decide +kernel
theorem dX6_byteAt_13 : decode cX6_byteAt 13 = .ok (.iaload, 1) := by decide +kernel
theorem dX6_byteAt_14 : decode cX6_byteAt 14 = .ok (.goto 4, 3) := by decide +kernel
theorem dX6_byteAt_17 : decode cX6_byteAt 17 = .ok (.iconst (-1), 1) := by decide +kernel
theorem dX6_byteAt_18 : decode cX6_byteAt 18 = .ok (.ireturn, 1) := by decide +kernel
theorem dX6_add_0 : decode cX6_add 0 = .ok (.iload_n 2, 1) := by decide +kernel
theorem dX6_add_1 : decode cX6_add 1 = .ok (.ifCond .ne 7, 3) := by decide +kernel
theorem dX6_add_4 : decode cX6_add 4 = .ok (.lload_n 0, 1) := by decide +kernel
theorem dX6_add_5 : decode cX6_add 5 = .ok (.goto 11, 3) := by decide +kernel
theorem dX6_add_8 : decode cX6_add 8 = .ok (.ldc2_w 81, 3) := by decide +kernel
theorem dX6_add_11 : decode cX6_add 11 = .ok (.lload_n 0, 1) := by decide +kernel
theorem dX6_add_12 : decode cX6_add 12 = .ok (.lmul, 1) := by decide +kernel
theorem dX6_add_13 : decode cX6_add 13 = .ok (.iload_n 2, 1) := by decide +kernel
theorem dX6_add_14 : decode cX6_add 14 = .ok (.i2l, 1) := by decide +kernel
theorem dX6_add_15 : decode cX6_add 15 = .ok (.ladd, 1) := by decide +kernel
theorem dX6_add_16 : decode cX6_add 16 = .ok (.lreturn, 1) := by decide +kernel
set_option maxRecDepth 20000 in
theorem ggX6_word_X6_add : GoodIn wsX6_word wsX6_add := goodIn_r _ [4, 5] (by decide +kernel) (by decide +kernel)
set_option maxRecDepth 20000 in
theorem gX6_word_X6_add : GoodIn wsX6_word (va_wsS RX6 83 yX6_add wsX6_add) := goodIn_app (goodIn_of _ (by decide +kernel)) ggX6_word_X6_add
theorem dX6_word_0 : decode cX6_word 0 = .ok (.lconst 0, 1) := by decide +kernel
theorem dX6_word_1 : decode cX6_word 1 = .ok (.iload_n 0, 1) := by decide +kernel
theorem dX6_word_2 : decode cX6_word 2 = .ok (.invokestatic 83, 3) := by decide +kernel
theorem dX6_word_5 : decode cX6_word 5 = .ok (.iload_n 1, 1) := by decide +kernel
theorem dX6_word_6 : decode cX6_word 6 = .ok (.invokestatic 83, 3) := by decide +kernel
theorem dX6_word_9 : decode cX6_word 9 = .ok (.iload_n 2, 1) := by decide +kernel
theorem dX6_word_10 : decode cX6_word 10 = .ok (.invokestatic 83, 3) := by decide +kernel
theorem dX6_word_13 : decode cX6_word 13 = .ok (.iload_n 3, 1) := by decide +kernel
theorem dX6_word_14 : decode cX6_word 14 = .ok (.invokestatic 83, 3) := by decide +kernel
theorem dX6_word_17 : decode cX6_word 17 = .ok (.iload 4, 2) := by decide +kernel
theorem dX6_word_19 : decode cX6_word 19 = .ok (.invokestatic 83, 3) := by decide +kernel
theorem dX6_word_22 : decode cX6_word 22 = .ok (.iload 5, 2) := by decide +kernel
theorem dX6_word_24 : decode cX6_word 24 = .ok (.invokestatic 83, 3) := by decide +kernel
theorem dX6_word_27 : decode cX6_word 27 = .ok (.lreturn, 1) := by decide +kernel
set_option maxRecDepth 20000 in
theorem ggX6_wordOf_X6_word : GoodIn wsX6_wordOf wsX6_word := goodIn_r _ [7, 8, 9, 6, 10, 1] (by decide +kernel) (by decide +kernel)
set_option maxRecDepth 20000 in
theorem gX6_wordOf_X6_word : GoodIn wsX6_wordOf (va_wsS RX6 87 yX6_word wsX6_word) := goodIn_app (goodIn_of _ (by decide +kernel)) ggX6_wordOf_X6_word
theorem dX6_wordOf_0 : decode cX6_wordOf 0 = .ok (.iload_n 2, 1) := by decide +kernel
theorem dX6_wordOf_1 : decode cX6_wordOf 1 = .ok (.bipush 8, 2) := by decide +kernel
theorem dX6_wordOf_3 : decode cX6_wordOf 3 = .ok (.if_icmp .ne 47, 3) := by decide +kernel
theorem dX6_wordOf_6 : decode cX6_wordOf 6 = .ok (.lload_n 0, 1) := by decide +kernel
theorem dX6_wordOf_7 : decode cX6_wordOf 7 = .ok (.ldc2_w 81, 3) := by decide +kernel
theorem dX6_wordOf_10 : decode cX6_wordOf 10 = .ok (.ldc2_w 81, 3) := by decide +kernel
theorem dX6_wordOf_13 : decode cX6_wordOf 13 = .ok (.bipush 115, 2) := by decide +kernel
theorem dX6_wordOf_15 : decode cX6_wordOf 15 = .ok (.bipush 116, 2) := by decide +kernel
theorem dX6_wordOf_17 : decode cX6_wordOf 17 = .ok (.bipush 114, 2) := by decide +kernel
theorem dX6_wordOf_19 : decode cX6_wordOf 19 = .ok (.bipush 97, 2) := by decide +kernel
theorem dX6_wordOf_21 : decode cX6_wordOf 21 = .ok (.bipush 110, 2) := by decide +kernel
theorem dX6_wordOf_23 : decode cX6_wordOf 23 = .ok (.bipush 103, 2) := by decide +kernel
theorem dX6_wordOf_25 : decode cX6_wordOf 25 = .ok (.invokestatic 87, 3) := by decide +kernel
theorem dX6_wordOf_28 : decode cX6_wordOf 28 = .ok (.lmul, 1) := by decide +kernel
theorem dX6_wordOf_29 : decode cX6_wordOf 29 = .ok (.ldc2_w 91, 3) := by decide +kernel
theorem dX6_wordOf_32 : decode cX6_wordOf 32 = .ok (.ladd, 1) := by decide +kernel
theorem dX6_wordOf_33 : decode cX6_wordOf 33 = .ok (.lmul, 1) := by decide +kernel
theorem dX6_wordOf_34 : decode cX6_wordOf 34 = .ok (.ldc2_w 93, 3) := by decide +kernel
theorem dX6_wordOf_37 : decode cX6_wordOf 37 = .ok (.ladd, 1) := by decide +kernel
theorem dX6_wordOf_38 : decode cX6_wordOf 38 = .ok (.lcmp, 1) := by decide +kernel
theorem dX6_wordOf_39 : decode cX6_wordOf 39 = .ok (.ifCond .ne 8, 3) := by decide +kernel
theorem dX6_wordOf_42 : decode cX6_wordOf 42 = .ok (.bipush 12, 2) := by decide +kernel
theorem dX6_wordOf_44 : decode cX6_wordOf 44 = .ok (.goto 5, 3) := by decide +kernel
theorem dX6_wordOf_47 : decode cX6_wordOf 47 = .ok (.bipush (-9), 2) := by decide +kernel
theorem dX6_wordOf_49 : decode cX6_wordOf 49 = .ok (.ireturn, 1) := by decide +kernel
theorem dX6_wordOf_50 : decode cX6_wordOf 50 = .ok (.lload_n 0, 1) := by decide +kernel
theorem dX6_wordOf_51 : decode cX6_wordOf 51 = .ok (.bipush 108, 2) := by decide +kernel
theorem dX6_wordOf_53 : decode cX6_wordOf 53 = .ok (.bipush 117, 2) := by decide +kernel
theorem dX6_wordOf_55 : decode cX6_wordOf 55 = .ok (.bipush 99, 2) := by decide +kernel
theorem dX6_wordOf_57 : decode cX6_wordOf 57 = .ok (.bipush 107, 2) := by decide +kernel
theorem dX6_wordOf_59 : decode cX6_wordOf 59 = .ok (.iconst 0, 1) := by decide +kernel
theorem dX6_wordOf_60 : decode cX6_wordOf 60 = .ok (.iconst 0, 1) := by decide +kernel
theorem dX6_wordOf_61 : decode cX6_wordOf 61 = .ok (.invokestatic 87, 3) := by decide +kernel
theorem dX6_wordOf_64 : decode cX6_wordOf 64 = .ok (.lcmp, 1) := by decide +kernel
theorem dX6_wordOf_65 : decode cX6_wordOf 65 = .ok (.ifCond .ne 7, 3) := by decide +kernel
theorem dX6_wordOf_68 : decode cX6_wordOf 68 = .ok (.iconst 0, 1) := by decide +kernel
theorem dX6_wordOf_69 : decode cX6_wordOf 69 = .ok (.goto 96, 3) := by decide +kernel
theorem dX6_wordOf_72 : decode cX6_wordOf 72 = .ok (.lload_n 0, 1) := by decide +kernel
theorem dX6_wordOf_73 : decode cX6_wordOf 73 = .ok (.bipush 115, 2) := by decide +kernel
theorem dX6_wordOf_75 : decode cX6_wordOf 75 = .ok (.bipush 116, 2) := by decide +kernel
theorem dX6_wordOf_77 : decode cX6_wordOf 77 = .ok (.bipush 97, 2) := by decide +kernel
theorem dX6_wordOf_79 : decode cX6_wordOf 79 = .ok (.bipush 108, 2) := by decide +kernel
theorem dX6_wordOf_81 : decode cX6_wordOf 81 = .ok (.bipush 108, 2) := by decide +kernel
theorem dX6_wordOf_83 : decode cX6_wordOf 83 = .ok (.iconst 0, 1) := by decide +kernel
theorem dX6_wordOf_84 : decode cX6_wordOf 84 = .ok (.invokestatic 87, 3) := by decide +kernel
theorem dX6_wordOf_87 : decode cX6_wordOf 87 = .ok (.lcmp, 1) := by decide +kernel
theorem dX6_wordOf_88 : decode cX6_wordOf 88 = .ok (.ifCond .ne 7, 3) := by decide +kernel
theorem dX6_wordOf_91 : decode cX6_wordOf 91 = .ok (.iconst 1, 1) := by decide +kernel
theorem dX6_wordOf_92 : decode cX6_wordOf 92 = .ok (.goto 73, 3) := by decide +kernel
theorem dX6_wordOf_95 : decode cX6_wordOf 95 = .ok (.lload_n 0, 1) := by decide +kernel
theorem dX6_wordOf_96 : decode cX6_wordOf 96 = .ok (.bipush 119, 2) := by decide +kernel
theorem dX6_wordOf_98 : decode cX6_wordOf 98 = .ok (.bipush 97, 2) := by decide +kernel
theorem dX6_wordOf_100 : decode cX6_wordOf 100 = .ok (.bipush 121, 2) := by decide +kernel
theorem dX6_wordOf_102 : decode cX6_wordOf 102 = .ok (.iconst 0, 1) := by decide +kernel
theorem dX6_wordOf_103 : decode cX6_wordOf 103 = .ok (.iconst 0, 1) := by decide +kernel
theorem dX6_wordOf_104 : decode cX6_wordOf 104 = .ok (.iconst 0, 1) := by decide +kernel
theorem dX6_wordOf_105 : decode cX6_wordOf 105 = .ok (.invokestatic 87, 3) := by decide +kernel
theorem dX6_wordOf_108 : decode cX6_wordOf 108 = .ok (.lcmp, 1) := by decide +kernel
theorem dX6_wordOf_109 : decode cX6_wordOf 109 = .ok (.ifCond .ne 7, 3) := by decide +kernel
theorem dX6_wordOf_112 : decode cX6_wordOf 112 = .ok (.iconst 2, 1) := by decide +kernel
theorem dX6_wordOf_113 : decode cX6_wordOf 113 = .ok (.goto 52, 3) := by decide +kernel
theorem dX6_wordOf_116 : decode cX6_wordOf 116 = .ok (.lload_n 0, 1) := by decide +kernel
theorem dX6_wordOf_117 : decode cX6_wordOf 117 = .ok (.bipush 104, 2) := by decide +kernel
theorem dX6_wordOf_119 : decode cX6_wordOf 119 = .ok (.bipush 111, 2) := by decide +kernel
theorem dX6_wordOf_121 : decode cX6_wordOf 121 = .ok (.bipush 110, 2) := by decide +kernel
theorem dX6_wordOf_123 : decode cX6_wordOf 123 = .ok (.bipush 101, 2) := by decide +kernel
theorem dX6_wordOf_125 : decode cX6_wordOf 125 = .ok (.bipush 115, 2) := by decide +kernel
theorem dX6_wordOf_127 : decode cX6_wordOf 127 = .ok (.bipush 116, 2) := by decide +kernel
theorem dX6_wordOf_129 : decode cX6_wordOf 129 = .ok (.invokestatic 87, 3) := by decide +kernel
theorem dX6_wordOf_132 : decode cX6_wordOf 132 = .ok (.lcmp, 1) := by decide +kernel
theorem dX6_wordOf_133 : decode cX6_wordOf 133 = .ok (.ifCond .ne 7, 3) := by decide +kernel
theorem dX6_wordOf_136 : decode cX6_wordOf 136 = .ok (.iconst 3, 1) := by decide +kernel
theorem dX6_wordOf_137 : decode cX6_wordOf 137 = .ok (.goto 28, 3) := by decide +kernel
theorem dX6_wordOf_140 : decode cX6_wordOf 140 = .ok (.lload_n 0, 1) := by decide +kernel
theorem dX6_wordOf_141 : decode cX6_wordOf 141 = .ok (.bipush 115, 2) := by decide +kernel
theorem dX6_wordOf_143 : decode cX6_wordOf 143 = .ok (.bipush 99, 2) := by decide +kernel
theorem dX6_wordOf_145 : decode cX6_wordOf 145 = .ok (.bipush 97, 2) := by decide +kernel
theorem dX6_wordOf_147 : decode cX6_wordOf 147 = .ok (.bipush 108, 2) := by decide +kernel
theorem dX6_wordOf_149 : decode cX6_wordOf 149 = .ok (.bipush 101, 2) := by decide +kernel
theorem dX6_wordOf_151 : decode cX6_wordOf 151 = .ok (.iconst 0, 1) := by decide +kernel
theorem dX6_wordOf_152 : decode cX6_wordOf 152 = .ok (.invokestatic 87, 3) := by decide +kernel
theorem dX6_wordOf_155 : decode cX6_wordOf 155 = .ok (.lcmp, 1) := by decide +kernel
theorem dX6_wordOf_156 : decode cX6_wordOf 156 = .ok (.ifCond .ne 7, 3) := by decide +kernel
theorem dX6_wordOf_159 : decode cX6_wordOf 159 = .ok (.iconst 4, 1) := by decide +kernel
theorem dX6_wordOf_160 : decode cX6_wordOf 160 = .ok (.goto 5, 3) := by decide +kernel
theorem dX6_wordOf_163 : decode cX6_wordOf 163 = .ok (.bipush (-9), 2) := by decide +kernel
theorem dX6_wordOf_165 : decode cX6_wordOf 165 = .ok (.istore_n 3, 1) := by decide +kernel
theorem dX6_wordOf_166 : decode cX6_wordOf 166 = .ok (.lload_n 0, 1) := by decide +kernel
theorem dX6_wordOf_167 : decode cX6_wordOf 167 = .ok (.bipush 116, 2) := by decide +kernel
theorem dX6_wordOf_169 : decode cX6_wordOf 169 = .ok (.bipush 104, 2) := by decide +kernel
theorem dX6_wordOf_171 : decode cX6_wordOf 171 = .ok (.bipush 117, 2) := by decide +kernel
theorem dX6_wordOf_173 : decode cX6_wordOf 173 = .ok (.bipush 109, 2) := by decide +kernel
theorem dX6_wordOf_175 : decode cX6_wordOf 175 = .ok (.bipush 98, 2) := by decide +kernel
theorem dX6_wordOf_177 : decode cX6_wordOf 177 = .ok (.iconst 0, 1) := by decide +kernel
theorem dX6_wordOf_178 : decode cX6_wordOf 178 = .ok (.invokestatic 87, 3) := by decide +kernel
theorem dX6_wordOf_181 : decode cX6_wordOf 181 = .ok (.lcmp, 1) := by decide +kernel
theorem dX6_wordOf_182 : decode cX6_wordOf 182 = .ok (.ifCond .ne 7, 3) := by decide +kernel
theorem dX6_wordOf_185 : decode cX6_wordOf 185 = .ok (.iconst 5, 1) := by decide +kernel
theorem dX6_wordOf_186 : decode cX6_wordOf 186 = .ok (.goto 71, 3) := by decide +kernel
theorem dX6_wordOf_189 : decode cX6_wordOf 189 = .ok (.lload_n 0, 1) := by decide +kernel
theorem dX6_wordOf_190 : decode cX6_wordOf 190 = .ok (.bipush 114, 2) := by decide +kernel
theorem dX6_wordOf_192 : decode cX6_wordOf 192 = .ok (.bipush 111, 2) := by decide +kernel
theorem dX6_wordOf_194 : decode cX6_wordOf 194 = .ok (.bipush 117, 2) := by decide +kernel
theorem dX6_wordOf_196 : decode cX6_wordOf 196 = .ok (.bipush 110, 2) := by decide +kernel
theorem dX6_wordOf_198 : decode cX6_wordOf 198 = .ok (.bipush 100, 2) := by decide +kernel
theorem dX6_wordOf_200 : decode cX6_wordOf 200 = .ok (.iconst 0, 1) := by decide +kernel
theorem dX6_wordOf_201 : decode cX6_wordOf 201 = .ok (.invokestatic 87, 3) := by decide +kernel
theorem dX6_wordOf_204 : decode cX6_wordOf 204 = .ok (.lcmp, 1) := by decide +kernel
theorem dX6_wordOf_205 : decode cX6_wordOf 205 = .ok (.ifCond .ne 8, 3) := by decide +kernel
theorem dX6_wordOf_208 : decode cX6_wordOf 208 = .ok (.bipush 6, 2) := by decide +kernel
theorem dX6_wordOf_210 : decode cX6_wordOf 210 = .ok (.goto 47, 3) := by decide +kernel
theorem dX6_wordOf_213 : decode cX6_wordOf 213 = .ok (.lload_n 0, 1) := by decide +kernel
theorem dX6_wordOf_214 : decode cX6_wordOf 214 = .ok (.bipush 105, 2) := by decide +kernel
theorem dX6_wordOf_216 : decode cX6_wordOf 216 = .ok (.bipush 110, 2) := by decide +kernel
theorem dX6_wordOf_218 : decode cX6_wordOf 218 = .ok (.iconst 0, 1) := by decide +kernel
theorem dX6_wordOf_219 : decode cX6_wordOf 219 = .ok (.iconst 0, 1) := by decide +kernel
theorem dX6_wordOf_220 : decode cX6_wordOf 220 = .ok (.iconst 0, 1) := by decide +kernel
theorem dX6_wordOf_221 : decode cX6_wordOf 221 = .ok (.iconst 0, 1) := by decide +kernel
theorem dX6_wordOf_222 : decode cX6_wordOf 222 = .ok (.invokestatic 87, 3) := by decide +kernel
theorem dX6_wordOf_225 : decode cX6_wordOf 225 = .ok (.lcmp, 1) := by decide +kernel
theorem dX6_wordOf_226 : decode cX6_wordOf 226 = .ok (.ifCond .ne 8, 3) := by decide +kernel
theorem dX6_wordOf_229 : decode cX6_wordOf 229 = .ok (.bipush 7, 2) := by decide +kernel
theorem dX6_wordOf_231 : decode cX6_wordOf 231 = .ok (.goto 26, 3) := by decide +kernel
theorem dX6_wordOf_234 : decode cX6_wordOf 234 = .ok (.lload_n 0, 1) := by decide +kernel
theorem dX6_wordOf_235 : decode cX6_wordOf 235 = .ok (.bipush 116, 2) := by decide +kernel
theorem dX6_wordOf_237 : decode cX6_wordOf 237 = .ok (.bipush 111, 2) := by decide +kernel
theorem dX6_wordOf_239 : decode cX6_wordOf 239 = .ok (.iconst 0, 1) := by decide +kernel
theorem dX6_wordOf_240 : decode cX6_wordOf 240 = .ok (.iconst 0, 1) := by decide +kernel
theorem dX6_wordOf_241 : decode cX6_wordOf 241 = .ok (.iconst 0, 1) := by decide +kernel
theorem dX6_wordOf_242 : decode cX6_wordOf 242 = .ok (.iconst 0, 1) := by decide +kernel
theorem dX6_wordOf_243 : decode cX6_wordOf 243 = .ok (.invokestatic 87, 3) := by decide +kernel
theorem dX6_wordOf_246 : decode cX6_wordOf 246 = .ok (.lcmp, 1) := by decide +kernel
theorem dX6_wordOf_247 : decode cX6_wordOf 247 = .ok (.ifCond .ne 8, 3) := by decide +kernel
theorem dX6_wordOf_250 : decode cX6_wordOf 250 = .ok (.bipush 8, 2) := by decide +kernel
theorem dX6_wordOf_252 : decode cX6_wordOf 252 = .ok (.goto 5, 3) := by decide +kernel
theorem dX6_wordOf_255 : decode cX6_wordOf 255 = .ok (.bipush (-9), 2) := by decide +kernel
theorem dX6_wordOf_257 : decode cX6_wordOf 257 = .ok (.istore 4, 2) := by decide +kernel
theorem dX6_wordOf_259 : decode cX6_wordOf 259 = .ok (.lload_n 0, 1) := by decide +kernel
theorem dX6_wordOf_260 : decode cX6_wordOf 260 = .ok (.bipush 111, 2) := by decide +kernel
theorem dX6_wordOf_262 : decode cX6_wordOf 262 = .ok (.bipush 108, 2) := by decide +kernel
theorem dX6_wordOf_264 : decode cX6_wordOf 264 = .ok (.bipush 100, 2) := by decide +kernel
theorem dX6_wordOf_266 : decode cX6_wordOf 266 = .ok (.iconst 0, 1) := by decide +kernel
theorem dX6_wordOf_267 : decode cX6_wordOf 267 = .ok (.iconst 0, 1) := by decide +kernel
theorem dX6_wordOf_268 : decode cX6_wordOf 268 = .ok (.iconst 0, 1) := by decide +kernel
theorem dX6_wordOf_269 : decode cX6_wordOf 269 = .ok (.invokestatic 87, 3) := by decide +kernel
theorem dX6_wordOf_272 : decode cX6_wordOf 272 = .ok (.lcmp, 1) := by decide +kernel
theorem dX6_wordOf_273 : decode cX6_wordOf 273 = .ok (.ifCond .ne 8, 3) := by decide +kernel
theorem dX6_wordOf_276 : decode cX6_wordOf 276 = .ok (.bipush 9, 2) := by decide +kernel
theorem dX6_wordOf_278 : decode cX6_wordOf 278 = .ok (.goto 54, 3) := by decide +kernel
theorem dX6_wordOf_281 : decode cX6_wordOf 281 = .ok (.lload_n 0, 1) := by decide +kernel
theorem dX6_wordOf_282 : decode cX6_wordOf 282 = .ok (.bipush 121, 2) := by decide +kernel
theorem dX6_wordOf_284 : decode cX6_wordOf 284 = .ok (.bipush 111, 2) := by decide +kernel
theorem dX6_wordOf_286 : decode cX6_wordOf 286 = .ok (.bipush 117, 2) := by decide +kernel
theorem dX6_wordOf_288 : decode cX6_wordOf 288 = .ok (.bipush 110, 2) := by decide +kernel
theorem dX6_wordOf_290 : decode cX6_wordOf 290 = .ok (.bipush 103, 2) := by decide +kernel
theorem dX6_wordOf_292 : decode cX6_wordOf 292 = .ok (.iconst 0, 1) := by decide +kernel
theorem dX6_wordOf_293 : decode cX6_wordOf 293 = .ok (.invokestatic 87, 3) := by decide +kernel
theorem dX6_wordOf_296 : decode cX6_wordOf 296 = .ok (.lcmp, 1) := by decide +kernel
theorem dX6_wordOf_297 : decode cX6_wordOf 297 = .ok (.ifCond .ne 8, 3) := by decide +kernel
theorem dX6_wordOf_300 : decode cX6_wordOf 300 = .ok (.bipush 10, 2) := by decide +kernel
theorem dX6_wordOf_302 : decode cX6_wordOf 302 = .ok (.goto 30, 3) := by decide +kernel
theorem dX6_wordOf_305 : decode cX6_wordOf 305 = .ok (.lload_n 0, 1) := by decide +kernel
theorem dX6_wordOf_306 : decode cX6_wordOf 306 = .ok (.bipush 102, 2) := by decide +kernel
theorem dX6_wordOf_308 : decode cX6_wordOf 308 = .ok (.bipush 114, 2) := by decide +kernel
theorem dX6_wordOf_310 : decode cX6_wordOf 310 = .ok (.bipush 105, 2) := by decide +kernel
theorem dX6_wordOf_312 : decode cX6_wordOf 312 = .ok (.bipush 101, 2) := by decide +kernel
theorem dX6_wordOf_314 : decode cX6_wordOf 314 = .ok (.bipush 110, 2) := by decide +kernel
theorem dX6_wordOf_316 : decode cX6_wordOf 316 = .ok (.bipush 100, 2) := by decide +kernel
theorem dX6_wordOf_318 : decode cX6_wordOf 318 = .ok (.invokestatic 87, 3) := by decide +kernel
theorem dX6_wordOf_321 : decode cX6_wordOf 321 = .ok (.lcmp, 1) := by decide +kernel
theorem dX6_wordOf_322 : decode cX6_wordOf 322 = .ok (.ifCond .ne 8, 3) := by decide +kernel
theorem dX6_wordOf_325 : decode cX6_wordOf 325 = .ok (.bipush 11, 2) := by decide +kernel
theorem dX6_wordOf_327 : decode cX6_wordOf 327 = .ok (.goto 5, 3) := by decide +kernel
theorem dX6_wordOf_330 : decode cX6_wordOf 330 = .ok (.bipush (-9), 2) := by decide +kernel
theorem dX6_wordOf_332 : decode cX6_wordOf 332 = .ok (.istore 5, 2) := by decide +kernel
theorem dX6_wordOf_334 : decode cX6_wordOf 334 = .ok (.iload_n 2, 1) := by decide +kernel
theorem dX6_wordOf_335 : decode cX6_wordOf 335 = .ok (.bipush 6, 2) := by decide +kernel
theorem dX6_wordOf_337 : decode cX6_wordOf 337 = .ok (.if_icmp .le 8, 3) := by decide +kernel
theorem dX6_wordOf_340 : decode cX6_wordOf 340 = .ok (.bipush (-9), 2) := by decide +kernel
theorem dX6_wordOf_342 : decode cX6_wordOf 342 = .ok (.goto 27, 3) := by decide +kernel
theorem dX6_wordOf_345 : decode cX6_wordOf 345 = .ok (.iload_n 3, 1) := by decide +kernel
theorem dX6_wordOf_346 : decode cX6_wordOf 346 = .ok (.bipush (-9), 2) := by decide +kernel
theorem dX6_wordOf_348 : decode cX6_wordOf 348 = .ok (.if_icmp .eq 7, 3) := by decide +kernel
theorem dX6_wordOf_351 : decode cX6_wordOf 351 = .ok (.iload_n 3, 1) := by decide +kernel
theorem dX6_wordOf_352 : decode cX6_wordOf 352 = .ok (.goto 17, 3) := by decide +kernel
theorem dX6_wordOf_355 : decode cX6_wordOf 355 = .ok (.iload 4, 2) := by decide +kernel
theorem dX6_wordOf_357 : decode cX6_wordOf 357 = .ok (.bipush (-9), 2) := by decide +kernel
theorem dX6_wordOf_359 : decode cX6_wordOf 359 = .ok (.if_icmp .eq 8, 3) := by decide +kernel
theorem dX6_wordOf_362 : decode cX6_wordOf 362 = .ok (.iload 4, 2) := by decide +kernel
theorem dX6_wordOf_364 : decode cX6_wordOf 364 = .ok (.goto 5, 3) := by decide +kernel
theorem dX6_wordOf_367 : decode cX6_wordOf 367 = .ok (.iload 5, 2) := by decide +kernel
theorem dX6_wordOf_369 : decode cX6_wordOf 369 = .ok (.ireturn, 1) := by decide +kernel
set_option maxRecDepth 20000 in
theorem ggX6_advances_X6_byteAt : GoodIn wsX6_advances wsX6_byteAt := goodIn_r _ [9, 10, 11, 27, 28, 29, 30, 31, 32, 33, 34, 35, 36, 37, 38, 39, 40, 41, 42, 43, 44, 45, 46, 47, 48, 49, 50, 51, 52, 53, 54, 55] (by decide +kernel) (by decide +kernel)
set_option maxRecDepth 20000 in
theorem gX6_advances_X6_byteAt : GoodIn wsX6_advances (wsV RX6 98 RX6 yX6_byteAt wsX6_byteAt) := goodIn_app (goodIn_of _ (by decide +kernel)) ggX6_advances_X6_byteAt
set_option maxRecDepth 20000 in
theorem ggX6_advances_X6_in : GoodIn wsX6_advances wsX6_in := goodIn_r _ [14] (by decide +kernel) (by decide +kernel)
set_option maxRecDepth 20000 in
theorem gX6_advances_X6_in : GoodIn wsX6_advances (va_wsS RX6 61 yX6_in wsX6_in) := goodIn_app (goodIn_of _ (by decide +kernel)) ggX6_advances_X6_in
set_option maxRecDepth 20000 in
theorem ggX6_advances_X6_add : GoodIn wsX6_advances wsX6_add := goodIn_r _ [17, 18] (by decide +kernel) (by decide +kernel)
set_option maxRecDepth 20000 in
theorem gX6_advances_X6_add : GoodIn wsX6_advances (va_wsS RX6 83 yX6_add wsX6_add) := goodIn_app (goodIn_of _ (by decide +kernel)) ggX6_advances_X6_add
set_option maxRecDepth 20000 in
theorem ggX6_advances_X6_wordOf : GoodIn wsX6_advances wsX6_wordOf := goodIn_r _ [21, 18, 22, 23, 24, 25, 8, 26, 15, 16, 17] (by decide +kernel) (by decide +kernel)
set_option maxRecDepth 20000 in
theorem gX6_advances_X6_wordOf : GoodIn wsX6_advances (va_wsS RX6 108 yX6_wordOf wsX6_wordOf) := goodIn_app (goodIn_of _ (by decide +kernel)) ggX6_advances_X6_wordOf
theorem dX6_advances_0 : decode cX6_advances 0 = .ok (.aload_n 0, 1) := by decide +kernel
theorem dX6_advances_1 : decode cX6_advances 1 = .ok (.aload_n 0, 1) := by decide +kernel
theorem dX6_advances_2 : decode cX6_advances 2 = .ok (.getfield 95, 3) := by decide +kernel
theorem dX6_advances_5 : decode cX6_advances 5 = .ok (.invokevirtual 98, 3) := by decide +kernel
theorem dX6_advances_8 : decode cX6_advances 8 = .ok (.bipush 32, 2) := by decide +kernel
theorem dX6_advances_10 : decode cX6_advances 10 = .ok (.if_icmp .ne 16, 3) := by decide +kernel
theorem dX6_advances_13 : decode cX6_advances 13 = .ok (.aload_n 0, 1) := by decide +kernel
theorem dX6_advances_14 : decode cX6_advances 14 = .ok (.dup, 1) := by decide +kernel
theorem dX6_advances_15 : decode cX6_advances 15 = .ok (.getfield 95, 3) := by decide +kernel
theorem dX6_advances_18 : decode cX6_advances 18 = .ok (.iconst 1, 1) := by decide +kernel
theorem dX6_advances_19 : decode cX6_advances 19 = .ok (.iadd, 1) := by decide +kernel
theorem dX6_advances_20 : decode cX6_advances 20 = .ok (.putfield 95, 3) := by decide +kernel
theorem dX6_advances_23 : decode cX6_advances 23 = .ok (.goto (-23), 3) := by decide +kernel
theorem dX6_advances_26 : decode cX6_advances 26 = .ok (.aload_n 0, 1) := by decide +kernel
theorem dX6_advances_27 : decode cX6_advances 27 = .ok (.aload_n 0, 1) := by decide +kernel
theorem dX6_advances_28 : decode cX6_advances 28 = .ok (.getfield 95, 3) := by decide +kernel
theorem dX6_advances_31 : decode cX6_advances 31 = .ok (.putfield 102, 3) := by decide +kernel
theorem dX6_advances_34 : decode cX6_advances 34 = .ok (.aload_n 0, 1) := by decide +kernel
theorem dX6_advances_35 : decode cX6_advances 35 = .ok (.aload_n 0, 1) := by decide +kernel
theorem dX6_advances_36 : decode cX6_advances 36 = .ok (.getfield 95, 3) := by decide +kernel
theorem dX6_advances_39 : decode cX6_advances 39 = .ok (.invokevirtual 98, 3) := by decide +kernel
theorem dX6_advances_42 : decode cX6_advances 42 = .ok (.istore_n 1, 1) := by decide +kernel
theorem dX6_advances_43 : decode cX6_advances 43 = .ok (.iload_n 1, 1) := by decide +kernel
theorem dX6_advances_44 : decode cX6_advances 44 = .ok (.ifCond .ge 11, 3) := by decide +kernel
theorem dX6_advances_47 : decode cX6_advances 47 = .ok (.aload_n 0, 1) := by decide +kernel
theorem dX6_advances_48 : decode cX6_advances 48 = .ok (.iconst 0, 1) := by decide +kernel
theorem dX6_advances_49 : decode cX6_advances 49 = .ok (.putfield 105, 3) := by decide +kernel
theorem dX6_advances_52 : decode cX6_advances 52 = .ok (.goto 267, 3) := by decide +kernel
theorem dX6_advances_55 : decode cX6_advances 55 = .ok (.iload_n 1, 1) := by decide +kernel
theorem dX6_advances_56 : decode cX6_advances 56 = .ok (.bipush 97, 2) := by decide +kernel
theorem dX6_advances_58 : decode cX6_advances 58 = .ok (.bipush 122, 2) := by decide +kernel
theorem dX6_advances_60 : decode cX6_advances 60 = .ok (.invokestatic 61, 3) := by decide +kernel
theorem dX6_advances_63 : decode cX6_advances 63 = .ok (.ifCond .eq 105, 3) := by decide +kernel
theorem dX6_advances_66 : decode cX6_advances 66 = .ok (.lconst 0, 1) := by decide +kernel
theorem dX6_advances_67 : decode cX6_advances 67 = .ok (.lstore_n 2, 1) := by decide +kernel
theorem dX6_advances_68 : decode cX6_advances 68 = .ok (.aload_n 0, 1) := by decide +kernel
theorem dX6_advances_69 : decode cX6_advances 69 = .ok (.aload_n 0, 1) := by decide +kernel
theorem dX6_advances_70 : decode cX6_advances 70 = .ok (.getfield 95, 3) := by decide +kernel
theorem dX6_advances_73 : decode cX6_advances 73 = .ok (.invokevirtual 98, 3) := by decide +kernel
theorem dX6_advances_76 : decode cX6_advances 76 = .ok (.bipush 97, 2) := by decide +kernel
theorem dX6_advances_78 : decode cX6_advances 78 = .ok (.bipush 122, 2) := by decide +kernel
theorem dX6_advances_80 : decode cX6_advances 80 = .ok (.invokestatic 61, 3) := by decide +kernel
theorem dX6_advances_83 : decode cX6_advances 83 = .ok (.ifCond .eq 47, 3) := by decide +kernel
theorem dX6_advances_86 : decode cX6_advances 86 = .ok (.aload_n 0, 1) := by decide +kernel
theorem dX6_advances_87 : decode cX6_advances 87 = .ok (.getfield 95, 3) := by decide +kernel
theorem dX6_advances_90 : decode cX6_advances 90 = .ok (.aload_n 0, 1) := by decide +kernel
theorem dX6_advances_91 : decode cX6_advances 91 = .ok (.getfield 102, 3) := by decide +kernel
theorem dX6_advances_94 : decode cX6_advances 94 = .ok (.isub, 1) := by decide +kernel
theorem dX6_advances_95 : decode cX6_advances 95 = .ok (.bipush 8, 2) := by decide +kernel
theorem dX6_advances_97 : decode cX6_advances 97 = .ok (.if_icmp .ge 18, 3) := by decide +kernel
theorem dX6_advances_100 : decode cX6_advances 100 = .ok (.lload_n 2, 1) := by decide +kernel
theorem dX6_advances_101 : decode cX6_advances 101 = .ok (.aload_n 0, 1) := by decide +kernel
theorem dX6_advances_102 : decode cX6_advances 102 = .ok (.aload_n 0, 1) := by decide +kernel
theorem dX6_advances_103 : decode cX6_advances 103 = .ok (.getfield 95, 3) := by decide +kernel
theorem dX6_advances_106 : decode cX6_advances 106 = .ok (.invokevirtual 98, 3) := by decide +kernel
theorem dX6_advances_109 : decode cX6_advances 109 = .ok (.invokestatic 83, 3) := by decide +kernel
theorem dX6_advances_112 : decode cX6_advances 112 = .ok (.goto 4, 3) := by decide +kernel
theorem dX6_advances_115 : decode cX6_advances 115 = .ok (.lload_n 2, 1) := by decide +kernel
theorem dX6_advances_116 : decode cX6_advances 116 = .ok (.lstore_n 2, 1) := by decide +kernel
theorem dX6_advances_117 : decode cX6_advances 117 = .ok (.aload_n 0, 1) := by decide +kernel
theorem dX6_advances_118 : decode cX6_advances 118 = .ok (.dup, 1) := by decide +kernel
theorem dX6_advances_119 : decode cX6_advances 119 = .ok (.getfield 95, 3) := by decide +kernel
theorem dX6_advances_122 : decode cX6_advances 122 = .ok (.iconst 1, 1) := by decide +kernel
theorem dX6_advances_123 : decode cX6_advances 123 = .ok (.iadd, 1) := by decide +kernel
theorem dX6_advances_124 : decode cX6_advances 124 = .ok (.putfield 95, 3) := by decide +kernel
theorem dX6_advances_127 : decode cX6_advances 127 = .ok (.goto (-59), 3) := by decide +kernel
theorem dX6_advances_130 : decode cX6_advances 130 = .ok (.aload_n 0, 1) := by decide +kernel
theorem dX6_advances_131 : decode cX6_advances 131 = .ok (.lload_n 2, 1) := by decide +kernel
theorem dX6_advances_132 : decode cX6_advances 132 = .ok (.aload_n 0, 1) := by decide +kernel
theorem dX6_advances_133 : decode cX6_advances 133 = .ok (.getfield 95, 3) := by decide +kernel
theorem dX6_advances_136 : decode cX6_advances 136 = .ok (.aload_n 0, 1) := by decide +kernel
theorem dX6_advances_137 : decode cX6_advances 137 = .ok (.getfield 102, 3) := by decide +kernel
theorem dX6_advances_140 : decode cX6_advances 140 = .ok (.isub, 1) := by decide +kernel
theorem dX6_advances_141 : decode cX6_advances 141 = .ok (.invokestatic 108, 3) := by decide +kernel
theorem dX6_advances_144 : decode cX6_advances 144 = .ok (.putfield 112, 3) := by decide +kernel
theorem dX6_advances_147 : decode cX6_advances 147 = .ok (.aload_n 0, 1) := by decide +kernel
theorem dX6_advances_148 : decode cX6_advances 148 = .ok (.aload_n 0, 1) := by decide +kernel
theorem dX6_advances_149 : decode cX6_advances 149 = .ok (.getfield 112, 3) := by decide +kernel
theorem dX6_advances_152 : decode cX6_advances 152 = .ok (.bipush (-9), 2) := by decide +kernel
theorem dX6_advances_154 : decode cX6_advances 154 = .ok (.if_icmp .ne 7, 3) := by decide +kernel
theorem dX6_advances_157 : decode cX6_advances 157 = .ok (.iconst 4, 1) := by decide +kernel
theorem dX6_advances_158 : decode cX6_advances 158 = .ok (.goto 4, 3) := by decide +kernel
theorem dX6_advances_161 : decode cX6_advances 161 = .ok (.iconst 1, 1) := by decide +kernel
theorem dX6_advances_162 : decode cX6_advances 162 = .ok (.putfield 105, 3) := by decide +kernel
theorem dX6_advances_165 : decode cX6_advances 165 = .ok (.goto 154, 3) := by decide +kernel
theorem dX6_advances_168 : decode cX6_advances 168 = .ok (.iload_n 1, 1) := by decide +kernel
theorem dX6_advances_169 : decode cX6_advances 169 = .ok (.bipush 48, 2) := by decide +kernel
theorem dX6_advances_171 : decode cX6_advances 171 = .ok (.bipush 57, 2) := by decide +kernel
theorem dX6_advances_173 : decode cX6_advances 173 = .ok (.invokestatic 61, 3) := by decide +kernel
theorem dX6_advances_176 : decode cX6_advances 176 = .ok (.ifCond .eq 118, 3) := by decide +kernel
theorem dX6_advances_179 : decode cX6_advances 179 = .ok (.aload_n 0, 1) := by decide +kernel
theorem dX6_advances_180 : decode cX6_advances 180 = .ok (.iconst 0, 1) := by decide +kernel
theorem dX6_advances_181 : decode cX6_advances 181 = .ok (.putfield 112, 3) := by decide +kernel
theorem dX6_advances_184 : decode cX6_advances 184 = .ok (.aload_n 0, 1) := by decide +kernel
theorem dX6_advances_185 : decode cX6_advances 185 = .ok (.aload_n 0, 1) := by decide +kernel
theorem dX6_advances_186 : decode cX6_advances 186 = .ok (.getfield 95, 3) := by decide +kernel
theorem dX6_advances_189 : decode cX6_advances 189 = .ok (.invokevirtual 98, 3) := by decide +kernel
theorem dX6_advances_192 : decode cX6_advances 192 = .ok (.bipush 48, 2) := by decide +kernel
theorem dX6_advances_194 : decode cX6_advances 194 = .ok (.bipush 57, 2) := by decide +kernel
theorem dX6_advances_196 : decode cX6_advances 196 = .ok (.invokestatic 61, 3) := by decide +kernel
theorem dX6_advances_199 : decode cX6_advances 199 = .ok (.ifCond .eq 55, 3) := by decide +kernel
theorem dX6_advances_202 : decode cX6_advances 202 = .ok (.aload_n 0, 1) := by decide +kernel
theorem dX6_advances_203 : decode cX6_advances 203 = .ok (.aload_n 0, 1) := by decide +kernel
theorem dX6_advances_204 : decode cX6_advances 204 = .ok (.getfield 112, 3) := by decide +kernel
theorem dX6_advances_207 : decode cX6_advances 207 = .ok (.bipush 99, 2) := by decide +kernel
theorem dX6_advances_209 : decode cX6_advances 209 = .ok (.if_icmp .le 10, 3) := by decide +kernel
theorem dX6_advances_212 : decode cX6_advances 212 = .ok (.aload_n 0, 1) := by decide +kernel
theorem dX6_advances_213 : decode cX6_advances 213 = .ok (.getfield 112, 3) := by decide +kernel
theorem dX6_advances_216 : decode cX6_advances 216 = .ok (.goto 22, 3) := by decide +kernel
theorem dX6_advances_219 : decode cX6_advances 219 = .ok (.bipush 10, 2) := by decide +kernel
theorem dX6_advances_221 : decode cX6_advances 221 = .ok (.aload_n 0, 1) := by decide +kernel
theorem dX6_advances_222 : decode cX6_advances 222 = .ok (.getfield 112, 3) := by decide +kernel
theorem dX6_advances_225 : decode cX6_advances 225 = .ok (.imul, 1) := by decide +kernel
theorem dX6_advances_226 : decode cX6_advances 226 = .ok (.aload_n 0, 1) := by decide +kernel
theorem dX6_advances_227 : decode cX6_advances 227 = .ok (.aload_n 0, 1) := by decide +kernel
theorem dX6_advances_228 : decode cX6_advances 228 = .ok (.getfield 95, 3) := by decide +kernel
theorem dX6_advances_231 : decode cX6_advances 231 = .ok (.invokevirtual 98, 3) := by decide +kernel
theorem dX6_advances_234 : decode cX6_advances 234 = .ok (.iadd, 1) := by decide +kernel
theorem dX6_advances_235 : decode cX6_advances 235 = .ok (.bipush 48, 2) := by decide +kernel
theorem dX6_advances_237 : decode cX6_advances 237 = .ok (.isub, 1) := by decide +kernel
theorem dX6_advances_238 : decode cX6_advances 238 = .ok (.putfield 112, 3) := by decide +kernel
theorem dX6_advances_241 : decode cX6_advances 241 = .ok (.aload_n 0, 1) := by decide +kernel
theorem dX6_advances_242 : decode cX6_advances 242 = .ok (.dup, 1) := by decide +kernel
theorem dX6_advances_243 : decode cX6_advances 243 = .ok (.getfield 95, 3) := by decide +kernel
theorem dX6_advances_246 : decode cX6_advances 246 = .ok (.iconst 1, 1) := by decide +kernel
theorem dX6_advances_247 : decode cX6_advances 247 = .ok (.iadd, 1) := by decide +kernel
theorem dX6_advances_248 : decode cX6_advances 248 = .ok (.putfield 95, 3) := by decide +kernel
theorem dX6_advances_251 : decode cX6_advances 251 = .ok (.goto (-67), 3) := by decide +kernel
theorem dX6_advances_254 : decode cX6_advances 254 = .ok (.aload_n 0, 1) := by decide +kernel
theorem dX6_advances_255 : decode cX6_advances 255 = .ok (.aload_n 0, 1) := by decide +kernel
theorem dX6_advances_256 : decode cX6_advances 256 = .ok (.getfield 112, 3) := by decide +kernel
theorem dX6_advances_259 : decode cX6_advances 259 = .ok (.bipush 99, 2) := by decide +kernel
theorem dX6_advances_261 : decode cX6_advances 261 = .ok (.if_icmp .gt 22, 3) := by decide +kernel
theorem dX6_advances_264 : decode cX6_advances 264 = .ok (.iload_n 1, 1) := by decide +kernel
theorem dX6_advances_265 : decode cX6_advances 265 = .ok (.bipush 48, 2) := by decide +kernel
theorem dX6_advances_267 : decode cX6_advances 267 = .ok (.if_icmp .ne 20, 3) := by decide +kernel
theorem dX6_advances_270 : decode cX6_advances 270 = .ok (.aload_n 0, 1) := by decide +kernel
theorem dX6_advances_271 : decode cX6_advances 271 = .ok (.getfield 95, 3) := by decide +kernel
theorem dX6_advances_274 : decode cX6_advances 274 = .ok (.aload_n 0, 1) := by decide +kernel
theorem dX6_advances_275 : decode cX6_advances 275 = .ok (.getfield 102, 3) := by decide +kernel
theorem dX6_advances_278 : decode cX6_advances 278 = .ok (.isub, 1) := by decide +kernel
theorem dX6_advances_279 : decode cX6_advances 279 = .ok (.iconst 1, 1) := by decide +kernel
theorem dX6_advances_280 : decode cX6_advances 280 = .ok (.if_icmp .le 7, 3) := by decide +kernel
theorem dX6_advances_283 : decode cX6_advances 283 = .ok (.iconst 4, 1) := by decide +kernel
theorem dX6_advances_284 : decode cX6_advances 284 = .ok (.goto 4, 3) := by decide +kernel
theorem dX6_advances_287 : decode cX6_advances 287 = .ok (.iconst 2, 1) := by decide +kernel
theorem dX6_advances_288 : decode cX6_advances 288 = .ok (.putfield 105, 3) := by decide +kernel
theorem dX6_advances_291 : decode cX6_advances 291 = .ok (.goto 28, 3) := by decide +kernel
theorem dX6_advances_294 : decode cX6_advances 294 = .ok (.aload_n 0, 1) := by decide +kernel
theorem dX6_advances_295 : decode cX6_advances 295 = .ok (.dup, 1) := by decide +kernel
theorem dX6_advances_296 : decode cX6_advances 296 = .ok (.getfield 95, 3) := by decide +kernel
theorem dX6_advances_299 : decode cX6_advances 299 = .ok (.iconst 1, 1) := by decide +kernel
theorem dX6_advances_300 : decode cX6_advances 300 = .ok (.iadd, 1) := by decide +kernel
theorem dX6_advances_301 : decode cX6_advances 301 = .ok (.putfield 95, 3) := by decide +kernel
theorem dX6_advances_304 : decode cX6_advances 304 = .ok (.aload_n 0, 1) := by decide +kernel
theorem dX6_advances_305 : decode cX6_advances 305 = .ok (.iload_n 1, 1) := by decide +kernel
theorem dX6_advances_306 : decode cX6_advances 306 = .ok (.bipush 59, 2) := by decide +kernel
theorem dX6_advances_308 : decode cX6_advances 308 = .ok (.if_icmp .ne 7, 3) := by decide +kernel
theorem dX6_advances_311 : decode cX6_advances 311 = .ok (.iconst 3, 1) := by decide +kernel
theorem dX6_advances_312 : decode cX6_advances 312 = .ok (.goto 4, 3) := by decide +kernel
theorem dX6_advances_315 : decode cX6_advances 315 = .ok (.iconst 4, 1) := by decide +kernel
theorem dX6_advances_316 : decode cX6_advances 316 = .ok (.putfield 105, 3) := by decide +kernel
theorem dX6_advances_319 : decode cX6_advances 319 = .ok (.return_, 1) := by decide +kernel
theorem dX6_isWell_0 : decode cX6_isWell 0 = .ok (.aload_n 0, 1) := by decide +kernel
theorem dX6_isWell_1 : decode cX6_isWell 1 = .ok (.getfield 115, 3) := by decide +kernel
theorem dX6_isWell_4 : decode cX6_isWell 4 = .ok (.ifCond .ge 7, 3) := by decide +kernel
theorem dX6_isWell_7 : decode cX6_isWell 7 = .ok (.iconst 1, 1) := by decide +kernel
theorem dX6_isWell_8 : decode cX6_isWell 8 = .ok (.goto 4, 3) := by decide +kernel
theorem dX6_isWell_11 : decode cX6_isWell 11 = .ok (.iconst 0, 1) := by decide +kernel
theorem dX6_isWell_12 : decode cX6_isWell 12 = .ok (.ireturn, 1) := by decide +kernel
set_option maxRecDepth 20000 in
theorem ggX6_takes_X6_isWell : GoodIn wsX6_takes wsX6_isWell := goodIn_r _ [8, 2, 36, 37, 38, 39, 40, 41, 42, 43, 44, 45, 46, 47, 48, 49, 50, 51, 52, 53, 54, 55, 56, 57, 58, 59, 60, 61, 62, 63, 64] (by decide +kernel) (by decide +kernel)
set_option maxRecDepth 20000 in
theorem gX6_takes_X6_isWell : GoodIn wsX6_takes (wsV RX6 118 RX6 yX6_isWell wsX6_isWell) := goodIn_app (goodIn_of _ (by decide +kernel)) ggX6_takes_X6_isWell
set_option maxRecDepth 20000 in
theorem ggX6_takes_X6_advances : GoodIn wsX6_takes wsX6_advances := goodIn_r _ [12, 13, 1, 14, 3, 15, 16, 17, 7, 18, 19, 20, 21, 22, 23, 24, 25, 26, 27, 28, 29, 30, 31, 32, 33, 34, 35, 36, 37, 38, 39, 40, 41, 42, 43, 44, 45, 46, 47, 48, 49, 50, 51, 52, 53, 54, 55, 56, 57, 58, 59, 60, 61, 62, 63, 64] (by decide +kernel) (by decide +kernel)
set_option maxRecDepth 20000 in
theorem gX6_takes_X6_advances : GoodIn wsX6_takes (wsV RX6 122 RX6 yX6_advances wsX6_advances) := goodIn_app (goodIn_of _ (by decide +kernel)) ggX6_takes_X6_advances
theorem dX6_takes_0 : decode cX6_takes 0 = .ok (.aload_n 0, 1) := by decide +kernel
theorem dX6_takes_1 : decode cX6_takes 1 = .ok (.invokevirtual 118, 3) := by decide +kernel
theorem dX6_takes_4 : decode cX6_takes 4 = .ok (.ifCond .ne 5, 3) := by decide +kernel
theorem dX6_takes_7 : decode cX6_takes 7 = .ok (.iconst 0, 1) := by decide +kernel
theorem dX6_takes_8 : decode cX6_takes 8 = .ok (.ireturn, 1) := by decide +kernel
theorem dX6_takes_9 : decode cX6_takes 9 = .ok (.iload_n 1, 1) := by decide +kernel
theorem dX6_takes_10 : decode cX6_takes 10 = .ok (.ifCond .ne 13, 3) := by decide +kernel
theorem dX6_takes_13 : decode cX6_takes 13 = .ok (.aload_n 0, 1) := by decide +kernel
theorem dX6_takes_14 : decode cX6_takes 14 = .ok (.aload_n 0, 1) := by decide +kernel
theorem dX6_takes_15 : decode cX6_takes 15 = .ok (.getfield 102, 3) := by decide +kernel
theorem dX6_takes_18 : decode cX6_takes 18 = .ok (.putfield 115, 3) := by decide +kernel
theorem dX6_takes_21 : decode cX6_takes 21 = .ok (.iconst 0, 1) := by decide +kernel
theorem dX6_takes_22 : decode cX6_takes 22 = .ok (.ireturn, 1) := by decide +kernel
theorem dX6_takes_23 : decode cX6_takes 23 = .ok (.aload_n 0, 1) := by decide +kernel
theorem dX6_takes_24 : decode cX6_takes 24 = .ok (.getfield 112, 3) := by decide +kernel
theorem dX6_takes_27 : decode cX6_takes 27 = .ok (.istore_n 2, 1) := by decide +kernel
theorem dX6_takes_28 : decode cX6_takes 28 = .ok (.aload_n 0, 1) := by decide +kernel
theorem dX6_takes_29 : decode cX6_takes 29 = .ok (.invokevirtual 122, 3) := by decide +kernel
theorem dX6_takes_32 : decode cX6_takes 32 = .ok (.iload_n 2, 1) := by decide +kernel
theorem dX6_takes_33 : decode cX6_takes 33 = .ok (.ireturn, 1) := by decide +kernel
set_option maxRecDepth 20000 in
theorem ggX6_number_X6_in : GoodIn wsX6_number wsX6_in := goodIn_r _ [6] (by decide +kernel) (by decide +kernel)
set_option maxRecDepth 20000 in
theorem gX6_number_X6_in : GoodIn wsX6_number (va_wsS RX6 61 yX6_in wsX6_in) := goodIn_app (goodIn_of _ (by decide +kernel)) ggX6_number_X6_in
set_option maxRecDepth 20000 in
theorem ggX6_number_X6_takes : GoodIn wsX6_number wsX6_takes := goodIn_r _ [10, 11, 12, 2, 13, 14, 15, 5, 16, 17, 18, 19, 20, 21, 1, 22, 23, 24, 25, 26, 27, 3, 4, 6, 28, 29, 30, 31, 32, 33, 34, 35, 36, 37, 38, 39, 40, 41, 42, 43, 44, 45, 46, 47, 48, 49, 50, 51, 52, 53, 54, 55, 56, 57, 58, 59, 60, 61, 62, 63, 64, 65, 66, 67, 68] (by decide +kernel) (by decide +kernel)
set_option maxRecDepth 20000 in
theorem gX6_number_X6_takes : GoodIn wsX6_number (wsV RX6 125 RX6 yX6_takes wsX6_takes) := goodIn_app (goodIn_of _ (by decide +kernel)) ggX6_number_X6_takes
theorem dX6_number_0 : decode cX6_number 0 = .ok (.aload_n 0, 1) := by decide +kernel
theorem dX6_number_1 : decode cX6_number 1 = .ok (.aload_n 0, 1) := by decide +kernel
theorem dX6_number_2 : decode cX6_number 2 = .ok (.getfield 105, 3) := by decide +kernel
theorem dX6_number_5 : decode cX6_number 5 = .ok (.iconst 2, 1) := by decide +kernel
theorem dX6_number_6 : decode cX6_number 6 = .ok (.if_icmp .ne 19, 3) := by decide +kernel
theorem dX6_number_9 : decode cX6_number 9 = .ok (.aload_n 0, 1) := by decide +kernel
theorem dX6_number_10 : decode cX6_number 10 = .ok (.getfield 112, 3) := by decide +kernel
theorem dX6_number_13 : decode cX6_number 13 = .ok (.iload_n 1, 1) := by decide +kernel
theorem dX6_number_14 : decode cX6_number 14 = .ok (.iload_n 2, 1) := by decide +kernel
theorem dX6_number_15 : decode cX6_number 15 = .ok (.invokestatic 61, 3) := by decide +kernel
theorem dX6_number_18 : decode cX6_number 18 = .ok (.ifCond .eq 7, 3) := by decide +kernel
theorem dX6_number_21 : decode cX6_number 21 = .ok (.iconst 1, 1) := by decide +kernel
theorem dX6_number_22 : decode cX6_number 22 = .ok (.goto 4, 3) := by decide +kernel
theorem dX6_number_25 : decode cX6_number 25 = .ok (.iconst 0, 1) := by decide +kernel
theorem dX6_number_26 : decode cX6_number 26 = .ok (.invokevirtual 125, 3) := by decide +kernel
theorem dX6_number_29 : decode cX6_number 29 = .ok (.ireturn, 1) := by decide +kernel
set_option maxRecDepth 20000 in
theorem ggX6_isWord_X6_isWell : GoodIn wsX6_isWord wsX6_isWell := goodIn_r _ [7, 8, 9, 10, 11, 12, 13, 14, 15, 16, 17, 18, 19, 20, 21, 22, 23, 24, 25, 26, 27, 28, 29, 30, 31, 32, 33, 34, 35, 36, 37] (by decide +kernel) (by decide +kernel)
set_option maxRecDepth 20000 in
theorem gX6_isWord_X6_isWell : GoodIn wsX6_isWord (wsV RX6 118 RX6 yX6_isWell wsX6_isWell) := goodIn_app (goodIn_of _ (by decide +kernel)) ggX6_isWord_X6_isWell
theorem dX6_isWord_0 : decode cX6_isWord 0 = .ok (.aload_n 0, 1) := by decide +kernel
theorem dX6_isWord_1 : decode cX6_isWord 1 = .ok (.invokevirtual 118, 3) := by decide +kernel
theorem dX6_isWord_4 : decode cX6_isWord 4 = .ok (.ifCond .eq 23, 3) := by decide +kernel
theorem dX6_isWord_7 : decode cX6_isWord 7 = .ok (.aload_n 0, 1) := by decide +kernel
theorem dX6_isWord_8 : decode cX6_isWord 8 = .ok (.getfield 105, 3) := by decide +kernel
theorem dX6_isWord_11 : decode cX6_isWord 11 = .ok (.iconst 1, 1) := by decide +kernel
theorem dX6_isWord_12 : decode cX6_isWord 12 = .ok (.if_icmp .ne 15, 3) := by decide +kernel
theorem dX6_isWord_15 : decode cX6_isWord 15 = .ok (.aload_n 0, 1) := by decide +kernel
theorem dX6_isWord_16 : decode cX6_isWord 16 = .ok (.getfield 112, 3) := by decide +kernel
theorem dX6_isWord_19 : decode cX6_isWord 19 = .ok (.iload_n 1, 1) := by decide +kernel
theorem dX6_isWord_20 : decode cX6_isWord 20 = .ok (.if_icmp .ne 7, 3) := by decide +kernel
theorem dX6_isWord_23 : decode cX6_isWord 23 = .ok (.iconst 1, 1) := by decide +kernel
theorem dX6_isWord_24 : decode cX6_isWord 24 = .ok (.goto 4, 3) := by decide +kernel
theorem dX6_isWord_27 : decode cX6_isWord 27 = .ok (.iconst 0, 1) := by decide +kernel
theorem dX6_isWord_28 : decode cX6_isWord 28 = .ok (.ireturn, 1) := by decide +kernel
set_option maxRecDepth 20000 in
theorem ggX6_readsLuck_X6_number : GoodIn wsX6_readsLuck wsX6_number := goodIn_r _ [8, 2, 3, 9, 10, 7, 11, 12, 13, 14, 15, 16, 17, 18, 19, 20, 21, 22, 23, 24, 25, 26, 27, 28, 29, 30, 31, 32, 33, 34, 35, 36, 37, 38, 39, 40, 41, 42, 43, 44, 45, 46, 47, 48, 49, 50, 51, 52, 53, 54, 55, 56, 57, 58, 59, 60, 61, 62, 63, 64, 65, 66, 67, 68, 69, 70, 71, 72, 73] (by decide +kernel) (by decide +kernel)
set_option maxRecDepth 20000 in
theorem gX6_readsLuck_X6_number : GoodIn wsX6_readsLuck (wsV RX6 129 RX6 yX6_number wsX6_number) := goodIn_app (goodIn_of _ (by decide +kernel)) ggX6_readsLuck_X6_number
set_option maxRecDepth 20000 in
theorem ggX6_readsLuck_X6_takes : GoodIn wsX6_readsLuck wsX6_takes := goodIn_r _ [15, 16, 17, 3, 18, 19, 20, 7, 21, 22, 23, 24, 25, 26, 2, 27, 28, 29, 30, 31, 32, 9, 10, 11, 33, 34, 35, 36, 37, 38, 39, 40, 41, 42, 43, 44, 45, 46, 47, 48, 49, 50, 51, 52, 53, 54, 55, 56, 57, 58, 59, 60, 61, 62, 63, 64, 65, 66, 67, 68, 69, 70, 71, 72, 73] (by decide +kernel) (by decide +kernel)
set_option maxRecDepth 20000 in
theorem gX6_readsLuck_X6_takes : GoodIn wsX6_readsLuck (wsV RX6 125 RX6 yX6_takes wsX6_takes) := goodIn_app (goodIn_of _ (by decide +kernel)) ggX6_readsLuck_X6_takes
theorem dX6_readsLuck_0 : decode cX6_readsLuck 0 = .ok (.aload_n 0, 1) := by decide +kernel
theorem dX6_readsLuck_1 : decode cX6_readsLuck 1 = .ok (.getfield 27, 3) := by decide +kernel
theorem dX6_readsLuck_4 : decode cX6_readsLuck 4 = .ok (.iconst 3, 1) := by decide +kernel
theorem dX6_readsLuck_5 : decode cX6_readsLuck 5 = .ok (.aload_n 0, 1) := by decide +kernel
theorem dX6_readsLuck_6 : decode cX6_readsLuck 6 = .ok (.iconst 0, 1) := by decide +kernel
theorem dX6_readsLuck_7 : decode cX6_readsLuck 7 = .ok (.bipush 10, 2) := by decide +kernel
theorem dX6_readsLuck_9 : decode cX6_readsLuck 9 = .ok (.invokevirtual 129, 3) := by decide +kernel
theorem dX6_readsLuck_12 : decode cX6_readsLuck 12 = .ok (.iastore, 1) := by decide +kernel
theorem dX6_readsLuck_13 : decode cX6_readsLuck 13 = .ok (.aload_n 0, 1) := by decide +kernel
theorem dX6_readsLuck_14 : decode cX6_readsLuck 14 = .ok (.getfield 27, 3) := by decide +kernel
theorem dX6_readsLuck_17 : decode cX6_readsLuck 17 = .ok (.iconst 4, 1) := by decide +kernel
theorem dX6_readsLuck_18 : decode cX6_readsLuck 18 = .ok (.aload_n 0, 1) := by decide +kernel
theorem dX6_readsLuck_19 : decode cX6_readsLuck 19 = .ok (.iconst 0, 1) := by decide +kernel
theorem dX6_readsLuck_20 : decode cX6_readsLuck 20 = .ok (.bipush 10, 2) := by decide +kernel
theorem dX6_readsLuck_22 : decode cX6_readsLuck 22 = .ok (.invokevirtual 129, 3) := by decide +kernel
theorem dX6_readsLuck_25 : decode cX6_readsLuck 25 = .ok (.iastore, 1) := by decide +kernel
theorem dX6_readsLuck_26 : decode cX6_readsLuck 26 = .ok (.aload_n 0, 1) := by decide +kernel
theorem dX6_readsLuck_27 : decode cX6_readsLuck 27 = .ok (.getfield 27, 3) := by decide +kernel
theorem dX6_readsLuck_30 : decode cX6_readsLuck 30 = .ok (.iconst 5, 1) := by decide +kernel
theorem dX6_readsLuck_31 : decode cX6_readsLuck 31 = .ok (.aload_n 0, 1) := by decide +kernel
theorem dX6_readsLuck_32 : decode cX6_readsLuck 32 = .ok (.aload_n 0, 1) := by decide +kernel
theorem dX6_readsLuck_33 : decode cX6_readsLuck 33 = .ok (.getfield 105, 3) := by decide +kernel
theorem dX6_readsLuck_36 : decode cX6_readsLuck 36 = .ok (.iconst 2, 1) := by decide +kernel
theorem dX6_readsLuck_37 : decode cX6_readsLuck 37 = .ok (.if_icmp .ne 30, 3) := by decide +kernel
theorem dX6_readsLuck_40 : decode cX6_readsLuck 40 = .ok (.aload_n 0, 1) := by decide +kernel
theorem dX6_readsLuck_41 : decode cX6_readsLuck 41 = .ok (.getfield 27, 3) := by decide +kernel
theorem dX6_readsLuck_44 : decode cX6_readsLuck 44 = .ok (.iconst 3, 1) := by decide +kernel
theorem dX6_readsLuck_45 : decode cX6_readsLuck 45 = .ok (.iaload, 1) := by decide +kernel
theorem dX6_readsLuck_46 : decode cX6_readsLuck 46 = .ok (.aload_n 0, 1) := by decide +kernel
theorem dX6_readsLuck_47 : decode cX6_readsLuck 47 = .ok (.getfield 27, 3) := by decide +kernel
theorem dX6_readsLuck_50 : decode cX6_readsLuck 50 = .ok (.iconst 4, 1) := by decide +kernel
theorem dX6_readsLuck_51 : decode cX6_readsLuck 51 = .ok (.iaload, 1) := by decide +kernel
theorem dX6_readsLuck_52 : decode cX6_readsLuck 52 = .ok (.iadd, 1) := by decide +kernel
theorem dX6_readsLuck_53 : decode cX6_readsLuck 53 = .ok (.aload_n 0, 1) := by decide +kernel
theorem dX6_readsLuck_54 : decode cX6_readsLuck 54 = .ok (.getfield 112, 3) := by decide +kernel
theorem dX6_readsLuck_57 : decode cX6_readsLuck 57 = .ok (.iadd, 1) := by decide +kernel
theorem dX6_readsLuck_58 : decode cX6_readsLuck 58 = .ok (.bipush 10, 2) := by decide +kernel
theorem dX6_readsLuck_60 : decode cX6_readsLuck 60 = .ok (.if_icmp .ne 7, 3) := by decide +kernel
theorem dX6_readsLuck_63 : decode cX6_readsLuck 63 = .ok (.iconst 1, 1) := by decide +kernel
theorem dX6_readsLuck_64 : decode cX6_readsLuck 64 = .ok (.goto 4, 3) := by decide +kernel
theorem dX6_readsLuck_67 : decode cX6_readsLuck 67 = .ok (.iconst 0, 1) := by decide +kernel
theorem dX6_readsLuck_68 : decode cX6_readsLuck 68 = .ok (.invokevirtual 125, 3) := by decide +kernel
theorem dX6_readsLuck_71 : decode cX6_readsLuck 71 = .ok (.iastore, 1) := by decide +kernel
theorem dX6_readsLuck_72 : decode cX6_readsLuck 72 = .ok (.return_, 1) := by decide +kernel
set_option maxRecDepth 20000 in
theorem ggX6_readsStall_X6_number : GoodIn wsX6_readsStall wsX6_number := goodIn_r _ [7, 8, 9, 10, 11, 6, 12, 13, 14, 15, 16, 17, 18, 19, 20, 21, 22, 23, 24, 25, 26, 27, 28, 29, 30, 31, 32, 33, 34, 35, 36, 37, 38, 39, 40, 41, 42, 43, 44, 45, 46, 47, 48, 49, 50, 51, 52, 53, 54, 55, 56, 57, 58, 59, 60, 61, 62, 63, 64, 65, 66, 67, 68, 69, 70, 71, 72, 73, 74] (by decide +kernel) (by decide +kernel)
set_option maxRecDepth 20000 in
theorem gX6_readsStall_X6_number : GoodIn wsX6_readsStall (wsV RX6 129 RX6 yX6_number wsX6_number) := goodIn_app (goodIn_of _ (by decide +kernel)) ggX6_readsStall_X6_number
theorem dX6_readsStall_0 : decode cX6_readsStall 0 = .ok (.bipush 18, 2) := by decide +kernel
theorem dX6_readsStall_2 : decode cX6_readsStall 2 = .ok (.iconst 3, 1) := by decide +kernel
theorem dX6_readsStall_3 : decode cX6_readsStall 3 = .ok (.aload_n 0, 1) := by decide +kernel
theorem dX6_readsStall_4 : decode cX6_readsStall 4 = .ok (.getfield 133, 3) := by decide +kernel
theorem dX6_readsStall_7 : decode cX6_readsStall 7 = .ok (.imul, 1) := by decide +kernel
theorem dX6_readsStall_8 : decode cX6_readsStall 8 = .ok (.iadd, 1) := by decide +kernel
theorem dX6_readsStall_9 : decode cX6_readsStall 9 = .ok (.istore_n 1, 1) := by decide +kernel
theorem dX6_readsStall_10 : decode cX6_readsStall 10 = .ok (.aload_n 0, 1) := by decide +kernel
theorem dX6_readsStall_11 : decode cX6_readsStall 11 = .ok (.getfield 30, 3) := by decide +kernel
theorem dX6_readsStall_14 : decode cX6_readsStall 14 = .ok (.iload_n 1, 1) := by decide +kernel
theorem dX6_readsStall_15 : decode cX6_readsStall 15 = .ok (.aload_n 0, 1) := by decide +kernel
theorem dX6_readsStall_16 : decode cX6_readsStall 16 = .ok (.iconst 1, 1) := by decide +kernel
theorem dX6_readsStall_17 : decode cX6_readsStall 17 = .ok (.bipush 20, 2) := by decide +kernel
theorem dX6_readsStall_19 : decode cX6_readsStall 19 = .ok (.invokevirtual 129, 3) := by decide +kernel
theorem dX6_readsStall_22 : decode cX6_readsStall 22 = .ok (.iastore, 1) := by decide +kernel
theorem dX6_readsStall_23 : decode cX6_readsStall 23 = .ok (.aload_n 0, 1) := by decide +kernel
theorem dX6_readsStall_24 : decode cX6_readsStall 24 = .ok (.getfield 30, 3) := by decide +kernel
theorem dX6_readsStall_27 : decode cX6_readsStall 27 = .ok (.iload_n 1, 1) := by decide +kernel
theorem dX6_readsStall_28 : decode cX6_readsStall 28 = .ok (.iconst 1, 1) := by decide +kernel
theorem dX6_readsStall_29 : decode cX6_readsStall 29 = .ok (.iadd, 1) := by decide +kernel
theorem dX6_readsStall_30 : decode cX6_readsStall 30 = .ok (.aload_n 0, 1) := by decide +kernel
theorem dX6_readsStall_31 : decode cX6_readsStall 31 = .ok (.iconst 0, 1) := by decide +kernel
theorem dX6_readsStall_32 : decode cX6_readsStall 32 = .ok (.bipush 9, 2) := by decide +kernel
theorem dX6_readsStall_34 : decode cX6_readsStall 34 = .ok (.invokevirtual 129, 3) := by decide +kernel
theorem dX6_readsStall_37 : decode cX6_readsStall 37 = .ok (.iastore, 1) := by decide +kernel
theorem dX6_readsStall_38 : decode cX6_readsStall 38 = .ok (.aload_n 0, 1) := by decide +kernel
theorem dX6_readsStall_39 : decode cX6_readsStall 39 = .ok (.getfield 30, 3) := by decide +kernel
theorem dX6_readsStall_42 : decode cX6_readsStall 42 = .ok (.iload_n 1, 1) := by decide +kernel
theorem dX6_readsStall_43 : decode cX6_readsStall 43 = .ok (.iconst 2, 1) := by decide +kernel
theorem dX6_readsStall_44 : decode cX6_readsStall 44 = .ok (.iadd, 1) := by decide +kernel
theorem dX6_readsStall_45 : decode cX6_readsStall 45 = .ok (.aload_n 0, 1) := by decide +kernel
theorem dX6_readsStall_46 : decode cX6_readsStall 46 = .ok (.iconst 0, 1) := by decide +kernel
theorem dX6_readsStall_47 : decode cX6_readsStall 47 = .ok (.bipush 99, 2) := by decide +kernel
theorem dX6_readsStall_49 : decode cX6_readsStall 49 = .ok (.invokevirtual 129, 3) := by decide +kernel
theorem dX6_readsStall_52 : decode cX6_readsStall 52 = .ok (.iastore, 1) := by decide +kernel
theorem dX6_readsStall_53 : decode cX6_readsStall 53 = .ok (.aload_n 0, 1) := by decide +kernel
theorem dX6_readsStall_54 : decode cX6_readsStall 54 = .ok (.dup, 1) := by decide +kernel
theorem dX6_readsStall_55 : decode cX6_readsStall 55 = .ok (.getfield 133, 3) := by decide +kernel
theorem dX6_readsStall_58 : decode cX6_readsStall 58 = .ok (.iconst 1, 1) := by decide +kernel
theorem dX6_readsStall_59 : decode cX6_readsStall 59 = .ok (.iadd, 1) := by decide +kernel
theorem dX6_readsStall_60 : decode cX6_readsStall 60 = .ok (.putfield 133, 3) := by decide +kernel
theorem dX6_readsStall_63 : decode cX6_readsStall 63 = .ok (.return_, 1) := by decide +kernel
set_option maxRecDepth 20000 in
theorem ggX6_readsWay_X6_in : GoodIn wsX6_readsWay wsX6_in := goodIn_r _ [8] (by decide +kernel) (by decide +kernel)
set_option maxRecDepth 20000 in
theorem gX6_readsWay_X6_in : GoodIn wsX6_readsWay (va_wsS RX6 61 yX6_in wsX6_in) := goodIn_app (goodIn_of _ (by decide +kernel)) ggX6_readsWay_X6_in
set_option maxRecDepth 20000 in
theorem ggX6_readsWay_X6_takes : GoodIn wsX6_readsWay wsX6_takes := goodIn_r _ [12, 13, 14, 3, 15, 16, 17, 7, 18, 19, 20, 21, 22, 23, 2, 24, 25, 26, 27, 28, 29, 5, 6, 8, 30, 31, 32, 33, 34, 35, 36, 37, 38, 39, 40, 41, 50, 51, 52, 53, 54, 55, 56, 57, 58, 59, 60, 61, 62, 63, 64, 65, 66, 67, 68, 69, 70, 71, 72, 73, 74, 75, 76, 77, 78] (by decide +kernel) (by decide +kernel)
set_option maxRecDepth 20000 in
theorem gX6_readsWay_X6_takes : GoodIn wsX6_readsWay (wsV RX6 125 RX6 yX6_takes wsX6_takes) := goodIn_app (goodIn_of _ (by decide +kernel)) ggX6_readsWay_X6_takes
set_option maxRecDepth 20000 in
theorem ggX6_readsWay_X6_isWell : GoodIn wsX6_readsWay wsX6_isWell := goodIn_r _ [18, 14, 50, 51, 52, 53, 54, 55, 56, 57, 58, 59, 60, 61, 62, 63, 64, 65, 66, 67, 68, 69, 70, 71, 72, 73, 74, 75, 76, 77, 78] (by decide +kernel) (by decide +kernel)
set_option maxRecDepth 20000 in
theorem gX6_readsWay_X6_isWell : GoodIn wsX6_readsWay (wsV RX6 118 RX6 yX6_isWell wsX6_isWell) := goodIn_app (goodIn_of _ (by decide +kernel)) ggX6_readsWay_X6_isWell
set_option maxRecDepth 20000 in
theorem ggX6_readsWay_X6_number : GoodIn wsX6_readsWay wsX6_number := goodIn_r _ [45, 2, 3, 5, 6, 7, 8, 9, 10, 11, 12, 13, 14, 15, 16, 17, 18, 19, 20, 21, 22, 23, 24, 25, 26, 27, 28, 29, 30, 31, 32, 33, 34, 35, 36, 37, 38, 39, 40, 41, 50, 51, 52, 53, 54, 55, 56, 57, 58, 59, 60, 61, 62, 63, 64, 65, 66, 67, 68, 69, 70, 71, 72, 73, 74, 75, 76, 77, 78] (by decide +kernel) (by decide +kernel)
set_option maxRecDepth 20000 in
theorem gX6_readsWay_X6_number : GoodIn wsX6_readsWay (wsV RX6 129 RX6 yX6_number wsX6_number) := goodIn_app (goodIn_of _ (by decide +kernel)) ggX6_readsWay_X6_number
set_option maxRecDepth 20000 in
theorem ggX6_readsWay_X6_isWord : GoodIn wsX6_readsWay wsX6_isWord := goodIn_r _ [49, 2, 3, 15, 16, 17, 7, 18, 14, 50, 51, 52, 53, 54, 55, 56, 57, 58, 59, 60, 61, 62, 63, 64, 65, 66, 67, 68, 69, 70, 71, 72, 73, 74, 75, 76, 77, 78] (by decide +kernel) (by decide +kernel)
set_option maxRecDepth 20000 in
theorem gX6_readsWay_X6_isWord : GoodIn wsX6_readsWay (wsV RX6 139 RX6 yX6_isWord wsX6_isWord) := goodIn_app (goodIn_of _ (by decide +kernel)) ggX6_readsWay_X6_isWord
set_option maxRecDepth 20000 in
theorem ggX6_readsWay_X6_advances : GoodIn wsX6_readsWay wsX6_advances := goodIn_r _ [22, 23, 13, 2, 3, 24, 25, 26, 7, 27, 28, 29, 5, 6, 8, 30, 31, 32, 33, 34, 35, 36, 37, 38, 39, 40, 41, 50, 51, 52, 53, 54, 55, 56, 57, 58, 59, 60, 61, 62, 63, 64, 65, 66, 67, 68, 69, 70, 71, 72, 73, 74, 75, 76, 77, 78] (by decide +kernel) (by decide +kernel)
set_option maxRecDepth 20000 in
theorem gX6_readsWay_X6_advances : GoodIn wsX6_readsWay (wsV RX6 122 RX6 yX6_advances wsX6_advances) := goodIn_app (goodIn_of _ (by decide +kernel)) ggX6_readsWay_X6_advances
theorem dX6_readsWay_0 : decode cX6_readsWay 0 = .ok (.bipush 24, 2) := by decide +kernel
theorem dX6_readsWay_2 : decode cX6_readsWay 2 = .ok (.iconst 4, 1) := by decide +kernel
theorem dX6_readsWay_3 : decode cX6_readsWay 3 = .ok (.aload_n 0, 1) := by decide +kernel
theorem dX6_readsWay_4 : decode cX6_readsWay 4 = .ok (.getfield 136, 3) := by decide +kernel
theorem dX6_readsWay_7 : decode cX6_readsWay 7 = .ok (.imul, 1) := by decide +kernel
theorem dX6_readsWay_8 : decode cX6_readsWay 8 = .ok (.iadd, 1) := by decide +kernel
theorem dX6_readsWay_9 : decode cX6_readsWay 9 = .ok (.istore_n 1, 1) := by decide +kernel
theorem dX6_readsWay_10 : decode cX6_readsWay 10 = .ok (.aload_n 0, 1) := by decide +kernel
theorem dX6_readsWay_11 : decode cX6_readsWay 11 = .ok (.aload_n 0, 1) := by decide +kernel
theorem dX6_readsWay_12 : decode cX6_readsWay 12 = .ok (.getfield 105, 3) := by decide +kernel
theorem dX6_readsWay_15 : decode cX6_readsWay 15 = .ok (.iconst 1, 1) := by decide +kernel
theorem dX6_readsWay_16 : decode cX6_readsWay 16 = .ok (.if_icmp .ne 20, 3) := by decide +kernel
theorem dX6_readsWay_19 : decode cX6_readsWay 19 = .ok (.aload_n 0, 1) := by decide +kernel
theorem dX6_readsWay_20 : decode cX6_readsWay 20 = .ok (.getfield 112, 3) := by decide +kernel
theorem dX6_readsWay_23 : decode cX6_readsWay 23 = .ok (.iconst 3, 1) := by decide +kernel
theorem dX6_readsWay_24 : decode cX6_readsWay 24 = .ok (.bipush 6, 2) := by decide +kernel
theorem dX6_readsWay_26 : decode cX6_readsWay 26 = .ok (.invokestatic 61, 3) := by decide +kernel
theorem dX6_readsWay_29 : decode cX6_readsWay 29 = .ok (.ifCond .eq 7, 3) := by decide +kernel
theorem dX6_readsWay_32 : decode cX6_readsWay 32 = .ok (.iconst 1, 1) := by decide +kernel
theorem dX6_readsWay_33 : decode cX6_readsWay 33 = .ok (.goto 4, 3) := by decide +kernel
theorem dX6_readsWay_36 : decode cX6_readsWay 36 = .ok (.iconst 0, 1) := by decide +kernel
theorem dX6_readsWay_37 : decode cX6_readsWay 37 = .ok (.invokevirtual 125, 3) := by decide +kernel
theorem dX6_readsWay_40 : decode cX6_readsWay 40 = .ok (.istore_n 2, 1) := by decide +kernel
theorem dX6_readsWay_41 : decode cX6_readsWay 41 = .ok (.aload_n 0, 1) := by decide +kernel
theorem dX6_readsWay_42 : decode cX6_readsWay 42 = .ok (.getfield 33, 3) := by decide +kernel
theorem dX6_readsWay_45 : decode cX6_readsWay 45 = .ok (.iload_n 1, 1) := by decide +kernel
theorem dX6_readsWay_46 : decode cX6_readsWay 46 = .ok (.iload_n 2, 1) := by decide +kernel
theorem dX6_readsWay_47 : decode cX6_readsWay 47 = .ok (.iconst 3, 1) := by decide +kernel
theorem dX6_readsWay_48 : decode cX6_readsWay 48 = .ok (.isub, 1) := by decide +kernel
theorem dX6_readsWay_49 : decode cX6_readsWay 49 = .ok (.iastore, 1) := by decide +kernel
theorem dX6_readsWay_50 : decode cX6_readsWay 50 = .ok (.aload_n 0, 1) := by decide +kernel
theorem dX6_readsWay_51 : decode cX6_readsWay 51 = .ok (.getfield 33, 3) := by decide +kernel
theorem dX6_readsWay_54 : decode cX6_readsWay 54 = .ok (.iload_n 1, 1) := by decide +kernel
theorem dX6_readsWay_55 : decode cX6_readsWay 55 = .ok (.iconst 1, 1) := by decide +kernel
theorem dX6_readsWay_56 : decode cX6_readsWay 56 = .ok (.iadd, 1) := by decide +kernel
theorem dX6_readsWay_57 : decode cX6_readsWay 57 = .ok (.iconst 0, 1) := by decide +kernel
theorem dX6_readsWay_58 : decode cX6_readsWay 58 = .ok (.iastore, 1) := by decide +kernel
theorem dX6_readsWay_59 : decode cX6_readsWay 59 = .ok (.aload_n 0, 1) := by decide +kernel
theorem dX6_readsWay_60 : decode cX6_readsWay 60 = .ok (.getfield 33, 3) := by decide +kernel
theorem dX6_readsWay_63 : decode cX6_readsWay 63 = .ok (.iload_n 1, 1) := by decide +kernel
theorem dX6_readsWay_64 : decode cX6_readsWay 64 = .ok (.iconst 2, 1) := by decide +kernel
theorem dX6_readsWay_65 : decode cX6_readsWay 65 = .ok (.iadd, 1) := by decide +kernel
theorem dX6_readsWay_66 : decode cX6_readsWay 66 = .ok (.iconst 1, 1) := by decide +kernel
theorem dX6_readsWay_67 : decode cX6_readsWay 67 = .ok (.iastore, 1) := by decide +kernel
theorem dX6_readsWay_68 : decode cX6_readsWay 68 = .ok (.aload_n 0, 1) := by decide +kernel
theorem dX6_readsWay_69 : decode cX6_readsWay 69 = .ok (.getfield 33, 3) := by decide +kernel
theorem dX6_readsWay_72 : decode cX6_readsWay 72 = .ok (.iload_n 1, 1) := by decide +kernel
theorem dX6_readsWay_73 : decode cX6_readsWay 73 = .ok (.iconst 3, 1) := by decide +kernel
theorem dX6_readsWay_74 : decode cX6_readsWay 74 = .ok (.iadd, 1) := by decide +kernel
theorem dX6_readsWay_75 : decode cX6_readsWay 75 = .ok (.bipush 15, 2) := by decide +kernel
theorem dX6_readsWay_77 : decode cX6_readsWay 77 = .ok (.iastore, 1) := by decide +kernel
theorem dX6_readsWay_78 : decode cX6_readsWay 78 = .ok (.aload_n 0, 1) := by decide +kernel
theorem dX6_readsWay_79 : decode cX6_readsWay 79 = .ok (.invokevirtual 118, 3) := by decide +kernel
theorem dX6_readsWay_82 : decode cX6_readsWay 82 = .ok (.ifCond .eq 28, 3) := by decide +kernel
theorem dX6_readsWay_85 : decode cX6_readsWay 85 = .ok (.iload_n 2, 1) := by decide +kernel
theorem dX6_readsWay_86 : decode cX6_readsWay 86 = .ok (.iconst 4, 1) := by decide +kernel
theorem dX6_readsWay_87 : decode cX6_readsWay 87 = .ok (.if_icmp .eq 8, 3) := by decide +kernel
theorem dX6_readsWay_90 : decode cX6_readsWay 90 = .ok (.iload_n 2, 1) := by decide +kernel
theorem dX6_readsWay_91 : decode cX6_readsWay 91 = .ok (.iconst 5, 1) := by decide +kernel
theorem dX6_readsWay_92 : decode cX6_readsWay 92 = .ok (.if_icmp .ne 18, 3) := by decide +kernel
theorem dX6_readsWay_95 : decode cX6_readsWay 95 = .ok (.aload_n 0, 1) := by decide +kernel
theorem dX6_readsWay_96 : decode cX6_readsWay 96 = .ok (.getfield 33, 3) := by decide +kernel
theorem dX6_readsWay_99 : decode cX6_readsWay 99 = .ok (.iload_n 1, 1) := by decide +kernel
theorem dX6_readsWay_100 : decode cX6_readsWay 100 = .ok (.iconst 1, 1) := by decide +kernel
theorem dX6_readsWay_101 : decode cX6_readsWay 101 = .ok (.iadd, 1) := by decide +kernel
theorem dX6_readsWay_102 : decode cX6_readsWay 102 = .ok (.aload_n 0, 1) := by decide +kernel
theorem dX6_readsWay_103 : decode cX6_readsWay 103 = .ok (.iconst 1, 1) := by decide +kernel
theorem dX6_readsWay_104 : decode cX6_readsWay 104 = .ok (.bipush 99, 2) := by decide +kernel
theorem dX6_readsWay_106 : decode cX6_readsWay 106 = .ok (.invokevirtual 129, 3) := by decide +kernel
theorem dX6_readsWay_109 : decode cX6_readsWay 109 = .ok (.iastore, 1) := by decide +kernel
theorem dX6_readsWay_110 : decode cX6_readsWay 110 = .ok (.aload_n 0, 1) := by decide +kernel
theorem dX6_readsWay_111 : decode cX6_readsWay 111 = .ok (.invokevirtual 118, 3) := by decide +kernel
theorem dX6_readsWay_114 : decode cX6_readsWay 114 = .ok (.ifCond .eq 163, 3) := by decide +kernel
theorem dX6_readsWay_117 : decode cX6_readsWay 117 = .ok (.iload_n 2, 1) := by decide +kernel
theorem dX6_readsWay_118 : decode cX6_readsWay 118 = .ok (.iconst 5, 1) := by decide +kernel
theorem dX6_readsWay_119 : decode cX6_readsWay 119 = .ok (.if_icmp .ne 158, 3) := by decide +kernel
theorem dX6_readsWay_122 : decode cX6_readsWay 122 = .ok (.aload_n 0, 1) := by decide +kernel
theorem dX6_readsWay_123 : decode cX6_readsWay 123 = .ok (.aload_n 0, 1) := by decide +kernel
theorem dX6_readsWay_124 : decode cX6_readsWay 124 = .ok (.bipush 7, 2) := by decide +kernel
theorem dX6_readsWay_126 : decode cX6_readsWay 126 = .ok (.invokevirtual 139, 3) := by decide +kernel
theorem dX6_readsWay_129 : decode cX6_readsWay 129 = .ok (.invokevirtual 125, 3) := by decide +kernel
theorem dX6_readsWay_132 : decode cX6_readsWay 132 = .ok (.pop, 1) := by decide +kernel
theorem dX6_readsWay_133 : decode cX6_readsWay 133 = .ok (.aload_n 0, 1) := by decide +kernel
theorem dX6_readsWay_134 : decode cX6_readsWay 134 = .ok (.getfield 33, 3) := by decide +kernel
theorem dX6_readsWay_137 : decode cX6_readsWay 137 = .ok (.iload_n 1, 1) := by decide +kernel
theorem dX6_readsWay_138 : decode cX6_readsWay 138 = .ok (.iconst 2, 1) := by decide +kernel
theorem dX6_readsWay_139 : decode cX6_readsWay 139 = .ok (.iadd, 1) := by decide +kernel
theorem dX6_readsWay_140 : decode cX6_readsWay 140 = .ok (.aload_n 0, 1) := by decide +kernel
theorem dX6_readsWay_141 : decode cX6_readsWay 141 = .ok (.iconst 1, 1) := by decide +kernel
theorem dX6_readsWay_142 : decode cX6_readsWay 142 = .ok (.iconst 5, 1) := by decide +kernel
theorem dX6_readsWay_143 : decode cX6_readsWay 143 = .ok (.invokevirtual 129, 3) := by decide +kernel
theorem dX6_readsWay_146 : decode cX6_readsWay 146 = .ok (.iastore, 1) := by decide +kernel
theorem dX6_readsWay_147 : decode cX6_readsWay 147 = .ok (.aload_n 0, 1) := by decide +kernel
theorem dX6_readsWay_148 : decode cX6_readsWay 148 = .ok (.bipush 8, 2) := by decide +kernel
theorem dX6_readsWay_150 : decode cX6_readsWay 150 = .ok (.invokevirtual 139, 3) := by decide +kernel
theorem dX6_readsWay_153 : decode cX6_readsWay 153 = .ok (.ifCond .eq 124, 3) := by decide +kernel
theorem dX6_readsWay_156 : decode cX6_readsWay 156 = .ok (.aload_n 0, 1) := by decide +kernel
theorem dX6_readsWay_157 : decode cX6_readsWay 157 = .ok (.invokevirtual 122, 3) := by decide +kernel
theorem dX6_readsWay_160 : decode cX6_readsWay 160 = .ok (.aload_n 0, 1) := by decide +kernel
theorem dX6_readsWay_161 : decode cX6_readsWay 161 = .ok (.getfield 33, 3) := by decide +kernel
theorem dX6_readsWay_164 : decode cX6_readsWay 164 = .ok (.iload_n 1, 1) := by decide +kernel
theorem dX6_readsWay_165 : decode cX6_readsWay 165 = .ok (.iconst 3, 1) := by decide +kernel
theorem dX6_readsWay_166 : decode cX6_readsWay 166 = .ok (.iadd, 1) := by decide +kernel
theorem dX6_readsWay_167 : decode cX6_readsWay 167 = .ok (.iconst 0, 1) := by decide +kernel
theorem dX6_readsWay_168 : decode cX6_readsWay 168 = .ok (.iastore, 1) := by decide +kernel
theorem dX6_readsWay_169 : decode cX6_readsWay 169 = .ok (.iconst 1, 1) := by decide +kernel
theorem dX6_readsWay_170 : decode cX6_readsWay 170 = .ok (.istore_n 3, 1) := by decide +kernel
theorem dX6_readsWay_171 : decode cX6_readsWay 171 = .ok (.iload_n 3, 1) := by decide +kernel
theorem dX6_readsWay_172 : decode cX6_readsWay 172 = .ok (.ifCond .eq 105, 3) := by decide +kernel
theorem dX6_readsWay_175 : decode cX6_readsWay 175 = .ok (.aload_n 0, 1) := by decide +kernel
theorem dX6_readsWay_176 : decode cX6_readsWay 176 = .ok (.aload_n 0, 1) := by decide +kernel
theorem dX6_readsWay_177 : decode cX6_readsWay 177 = .ok (.getfield 105, 3) := by decide +kernel
theorem dX6_readsWay_180 : decode cX6_readsWay 180 = .ok (.iconst 1, 1) := by decide +kernel
theorem dX6_readsWay_181 : decode cX6_readsWay 181 = .ok (.if_icmp .ne 37, 3) := by decide +kernel
theorem dX6_readsWay_184 : decode cX6_readsWay 184 = .ok (.aload_n 0, 1) := by decide +kernel
theorem dX6_readsWay_185 : decode cX6_readsWay 185 = .ok (.getfield 112, 3) := by decide +kernel
theorem dX6_readsWay_188 : decode cX6_readsWay 188 = .ok (.bipush 9, 2) := by decide +kernel
theorem dX6_readsWay_190 : decode cX6_readsWay 190 = .ok (.if_icmp .lt 28, 3) := by decide +kernel
theorem dX6_readsWay_193 : decode cX6_readsWay 193 = .ok (.aload_n 0, 1) := by decide +kernel
theorem dX6_readsWay_194 : decode cX6_readsWay 194 = .ok (.getfield 33, 3) := by decide +kernel
theorem dX6_readsWay_197 : decode cX6_readsWay 197 = .ok (.iload_n 1, 1) := by decide +kernel
theorem dX6_readsWay_198 : decode cX6_readsWay 198 = .ok (.iconst 3, 1) := by decide +kernel
theorem dX6_readsWay_199 : decode cX6_readsWay 199 = .ok (.iadd, 1) := by decide +kernel
theorem dX6_readsWay_200 : decode cX6_readsWay 200 = .ok (.iaload, 1) := by decide +kernel
theorem dX6_readsWay_201 : decode cX6_readsWay 201 = .ok (.aload_n 0, 1) := by decide +kernel
theorem dX6_readsWay_202 : decode cX6_readsWay 202 = .ok (.getfield 112, 3) := by decide +kernel
theorem dX6_readsWay_205 : decode cX6_readsWay 205 = .ok (.bipush 9, 2) := by decide +kernel
theorem dX6_readsWay_207 : decode cX6_readsWay 207 = .ok (.isub, 1) := by decide +kernel
theorem dX6_readsWay_208 : decode cX6_readsWay 208 = .ok (.ishr, 1) := by decide +kernel
theorem dX6_readsWay_209 : decode cX6_readsWay 209 = .ok (.iconst 1, 1) := by decide +kernel
theorem dX6_readsWay_210 : decode cX6_readsWay 210 = .ok (.iand, 1) := by decide +kernel
theorem dX6_readsWay_211 : decode cX6_readsWay 211 = .ok (.ifCond .ne 7, 3) := by decide +kernel
theorem dX6_readsWay_214 : decode cX6_readsWay 214 = .ok (.iconst 1, 1) := by decide +kernel
theorem dX6_readsWay_215 : decode cX6_readsWay 215 = .ok (.goto 4, 3) := by decide +kernel
theorem dX6_readsWay_218 : decode cX6_readsWay 218 = .ok (.iconst 0, 1) := by decide +kernel
theorem dX6_readsWay_219 : decode cX6_readsWay 219 = .ok (.invokevirtual 125, 3) := by decide +kernel
theorem dX6_readsWay_222 : decode cX6_readsWay 222 = .ok (.bipush 9, 2) := by decide +kernel
theorem dX6_readsWay_224 : decode cX6_readsWay 224 = .ok (.isub, 1) := by decide +kernel
theorem dX6_readsWay_225 : decode cX6_readsWay 225 = .ok (.istore 4, 2) := by decide +kernel
theorem dX6_readsWay_227 : decode cX6_readsWay 227 = .ok (.aload_n 0, 1) := by decide +kernel
theorem dX6_readsWay_228 : decode cX6_readsWay 228 = .ok (.getfield 33, 3) := by decide +kernel
theorem dX6_readsWay_231 : decode cX6_readsWay 231 = .ok (.iload_n 1, 1) := by decide +kernel
theorem dX6_readsWay_232 : decode cX6_readsWay 232 = .ok (.iconst 3, 1) := by decide +kernel
theorem dX6_readsWay_233 : decode cX6_readsWay 233 = .ok (.iadd, 1) := by decide +kernel
theorem dX6_readsWay_234 : decode cX6_readsWay 234 = .ok (.dup2, 1) := by decide +kernel
theorem dX6_readsWay_235 : decode cX6_readsWay 235 = .ok (.iaload, 1) := by decide +kernel
theorem dX6_readsWay_236 : decode cX6_readsWay 236 = .ok (.aload_n 0, 1) := by decide +kernel
theorem dX6_readsWay_237 : decode cX6_readsWay 237 = .ok (.invokevirtual 118, 3) := by decide +kernel
theorem dX6_readsWay_240 : decode cX6_readsWay 240 = .ok (.ifCond .eq 10, 3) := by decide +kernel
theorem dX6_readsWay_243 : decode cX6_readsWay 243 = .ok (.iconst 1, 1) := by decide +kernel
theorem dX6_readsWay_244 : decode cX6_readsWay 244 = .ok (.iload 4, 2) := by decide +kernel
theorem dX6_readsWay_246 : decode cX6_readsWay 246 = .ok (.ishl, 1) := by decide +kernel
theorem dX6_readsWay_247 : decode cX6_readsWay 247 = .ok (.goto 4, 3) := by decide +kernel
theorem dX6_readsWay_250 : decode cX6_readsWay 250 = .ok (.iconst 0, 1) := by decide +kernel
theorem dX6_readsWay_251 : decode cX6_readsWay 251 = .ok (.ior, 1) := by decide +kernel
theorem dX6_readsWay_252 : decode cX6_readsWay 252 = .ok (.iastore, 1) := by decide +kernel
theorem dX6_readsWay_253 : decode cX6_readsWay 253 = .ok (.aload_n 0, 1) := by decide +kernel
theorem dX6_readsWay_254 : decode cX6_readsWay 254 = .ok (.invokevirtual 118, 3) := by decide +kernel
theorem dX6_readsWay_257 : decode cX6_readsWay 257 = .ok (.ifCond .eq 15, 3) := by decide +kernel
theorem dX6_readsWay_260 : decode cX6_readsWay 260 = .ok (.aload_n 0, 1) := by decide +kernel
theorem dX6_readsWay_261 : decode cX6_readsWay 261 = .ok (.getfield 105, 3) := by decide +kernel
theorem dX6_readsWay_264 : decode cX6_readsWay 264 = .ok (.iconst 3, 1) := by decide +kernel
theorem dX6_readsWay_265 : decode cX6_readsWay 265 = .ok (.if_icmp .eq 7, 3) := by decide +kernel
theorem dX6_readsWay_268 : decode cX6_readsWay 268 = .ok (.iconst 1, 1) := by decide +kernel
theorem dX6_readsWay_269 : decode cX6_readsWay 269 = .ok (.goto 4, 3) := by decide +kernel
theorem dX6_readsWay_272 : decode cX6_readsWay 272 = .ok (.iconst 0, 1) := by decide +kernel
theorem dX6_readsWay_273 : decode cX6_readsWay 273 = .ok (.istore_n 3, 1) := by decide +kernel
theorem dX6_readsWay_274 : decode cX6_readsWay 274 = .ok (.goto (-103), 3) := by decide +kernel
theorem dX6_readsWay_277 : decode cX6_readsWay 277 = .ok (.aload_n 0, 1) := by decide +kernel
theorem dX6_readsWay_278 : decode cX6_readsWay 278 = .ok (.dup, 1) := by decide +kernel
theorem dX6_readsWay_279 : decode cX6_readsWay 279 = .ok (.getfield 136, 3) := by decide +kernel
theorem dX6_readsWay_282 : decode cX6_readsWay 282 = .ok (.iconst 1, 1) := by decide +kernel
theorem dX6_readsWay_283 : decode cX6_readsWay 283 = .ok (.iadd, 1) := by decide +kernel
theorem dX6_readsWay_284 : decode cX6_readsWay 284 = .ok (.putfield 136, 3) := by decide +kernel
theorem dX6_readsWay_287 : decode cX6_readsWay 287 = .ok (.return_, 1) := by decide +kernel
set_option maxRecDepth 20000 in
theorem ggX6_begins_X6_advances : GoodIn wsX6_begins wsX6_advances := goodIn_r _ [10, 2, 11, 12, 13, 14, 15, 16, 9, 17, 18, 19, 20, 21, 22, 23, 24, 25, 26, 27, 28, 29, 30, 31, 32, 33, 34, 35, 36, 37, 38, 39, 40, 41, 42, 43, 44, 45, 46, 47, 48, 49, 50, 51, 52, 53, 54, 55, 56, 57, 58, 59, 60, 61, 62, 63] (by decide +kernel) (by decide +kernel)
set_option maxRecDepth 20000 in
theorem gX6_begins_X6_advances : GoodIn wsX6_begins (wsV RX6 122 RX6 yX6_advances wsX6_advances) := goodIn_app (goodIn_of _ (by decide +kernel)) ggX6_begins_X6_advances
theorem dX6_begins_0 : decode cX6_begins 0 = .ok (.aload_n 0, 1) := by decide +kernel
theorem dX6_begins_1 : decode cX6_begins 1 = .ok (.iconst (-1), 1) := by decide +kernel
theorem dX6_begins_2 : decode cX6_begins 2 = .ok (.putfield 115, 3) := by decide +kernel
theorem dX6_begins_5 : decode cX6_begins 5 = .ok (.aload_n 0, 1) := by decide +kernel
theorem dX6_begins_6 : decode cX6_begins 6 = .ok (.iconst 0, 1) := by decide +kernel
theorem dX6_begins_7 : decode cX6_begins 7 = .ok (.putfield 95, 3) := by decide +kernel
theorem dX6_begins_10 : decode cX6_begins 10 = .ok (.aload_n 0, 1) := by decide +kernel
theorem dX6_begins_11 : decode cX6_begins 11 = .ok (.iconst 0, 1) := by decide +kernel
theorem dX6_begins_12 : decode cX6_begins 12 = .ok (.putfield 133, 3) := by decide +kernel
theorem dX6_begins_15 : decode cX6_begins 15 = .ok (.aload_n 0, 1) := by decide +kernel
theorem dX6_begins_16 : decode cX6_begins 16 = .ok (.iconst 0, 1) := by decide +kernel
theorem dX6_begins_17 : decode cX6_begins 17 = .ok (.putfield 136, 3) := by decide +kernel
theorem dX6_begins_20 : decode cX6_begins 20 = .ok (.aload_n 0, 1) := by decide +kernel
theorem dX6_begins_21 : decode cX6_begins 21 = .ok (.getfield 27, 3) := by decide +kernel
theorem dX6_begins_24 : decode cX6_begins 24 = .ok (.iconst 3, 1) := by decide +kernel
theorem dX6_begins_25 : decode cX6_begins 25 = .ok (.iconst 2, 1) := by decide +kernel
theorem dX6_begins_26 : decode cX6_begins 26 = .ok (.iastore, 1) := by decide +kernel
theorem dX6_begins_27 : decode cX6_begins 27 = .ok (.aload_n 0, 1) := by decide +kernel
theorem dX6_begins_28 : decode cX6_begins 28 = .ok (.getfield 27, 3) := by decide +kernel
theorem dX6_begins_31 : decode cX6_begins 31 = .ok (.iconst 4, 1) := by decide +kernel
theorem dX6_begins_32 : decode cX6_begins 32 = .ok (.bipush 6, 2) := by decide +kernel
theorem dX6_begins_34 : decode cX6_begins 34 = .ok (.iastore, 1) := by decide +kernel
theorem dX6_begins_35 : decode cX6_begins 35 = .ok (.aload_n 0, 1) := by decide +kernel
theorem dX6_begins_36 : decode cX6_begins 36 = .ok (.getfield 27, 3) := by decide +kernel
theorem dX6_begins_39 : decode cX6_begins 39 = .ok (.iconst 5, 1) := by decide +kernel
theorem dX6_begins_40 : decode cX6_begins 40 = .ok (.iconst 2, 1) := by decide +kernel
theorem dX6_begins_41 : decode cX6_begins 41 = .ok (.iastore, 1) := by decide +kernel
theorem dX6_begins_42 : decode cX6_begins 42 = .ok (.aload_n 0, 1) := by decide +kernel
theorem dX6_begins_43 : decode cX6_begins 43 = .ok (.invokevirtual 122, 3) := by decide +kernel
theorem dX6_begins_46 : decode cX6_begins 46 = .ok (.return_, 1) := by decide +kernel
set_option maxRecDepth 20000 in
theorem ggX6_market_X6_begins : GoodIn wsX6_market wsX6_begins := goodIn_r _ [20, 6, 21, 4, 5, 7, 22, 23, 24, 19, 25, 26, 2, 3, 27, 28, 29, 30, 15, 31, 32, 33, 34, 35, 36, 37, 38, 39, 40, 41, 42, 43, 44, 45, 46, 75, 76, 77, 78, 79, 80, 81, 82, 83, 84, 85, 86, 87, 88, 89, 90, 91, 92, 93, 94, 95, 96, 97, 98, 99, 100, 101, 102, 103] (by decide +kernel) (by decide +kernel)
set_option maxRecDepth 20000 in
theorem gX6_market_X6_begins : GoodIn wsX6_market (wsV RX6 143 RX6 yX6_begins wsX6_begins) := goodIn_app (goodIn_of _ (by decide +kernel)) ggX6_market_X6_begins
set_option maxRecDepth 20000 in
theorem ggX6_market_X6_isWell : GoodIn wsX6_market wsX6_isWell := goodIn_r _ [50, 6, 75, 76, 77, 78, 79, 80, 81, 82, 83, 84, 85, 86, 87, 88, 89, 90, 91, 92, 93, 94, 95, 96, 97, 98, 99, 100, 101, 102, 103] (by decide +kernel) (by decide +kernel)
set_option maxRecDepth 20000 in
theorem gX6_market_X6_isWell : GoodIn wsX6_market (wsV RX6 118 RX6 yX6_isWell wsX6_isWell) := goodIn_app (goodIn_of _ (by decide +kernel)) ggX6_market_X6_isWell
set_option maxRecDepth 20000 in
theorem ggX6_market_X6_takes : GoodIn wsX6_market wsX6_takes := goodIn_r _ [54, 26, 6, 3, 47, 48, 49, 19, 50, 22, 23, 24, 25, 21, 2, 27, 28, 29, 30, 15, 31, 32, 33, 34, 35, 36, 37, 38, 39, 40, 41, 42, 43, 44, 45, 46, 75, 76, 77, 78, 79, 80, 81, 82, 83, 84, 85, 86, 87, 88, 89, 90, 91, 92, 93, 94, 95, 96, 97, 98, 99, 100, 101, 102, 103] (by decide +kernel) (by decide +kernel)
set_option maxRecDepth 20000 in
theorem gX6_market_X6_takes : GoodIn wsX6_market (wsV RX6 125 RX6 yX6_takes wsX6_takes) := goodIn_app (goodIn_of _ (by decide +kernel)) ggX6_market_X6_takes
set_option maxRecDepth 20000 in
theorem ggX6_market_X6_readsLuck : GoodIn wsX6_market wsX6_readsLuck := goodIn_r _ [58, 7, 2, 3, 59, 60, 61, 19, 62, 32, 33, 34, 51, 52, 53, 54, 26, 6, 47, 48, 49, 50, 22, 23, 24, 25, 21, 27, 28, 29, 30, 15, 31, 35, 36, 37, 38, 39, 40, 41, 42, 43, 44, 45, 46, 75, 76, 77, 78, 79, 80, 81, 82, 83, 84, 85, 86, 87, 88, 89, 90, 91, 92, 93, 94, 95, 96, 97, 98, 99, 100, 101, 102, 103] (by decide +kernel) (by decide +kernel)
set_option maxRecDepth 20000 in
theorem gX6_market_X6_readsLuck : GoodIn wsX6_market (wsV RX6 146 RX6 yX6_readsLuck wsX6_readsLuck) := goodIn_app (goodIn_of _ (by decide +kernel)) ggX6_market_X6_readsLuck
set_option maxRecDepth 20000 in
theorem ggX6_market_X6_readsStall : GoodIn wsX6_market wsX6_readsStall := goodIn_r _ [66, 4, 8, 59, 60, 61, 19, 62, 2, 3, 32, 33, 34, 51, 52, 53, 54, 26, 6, 47, 48, 49, 50, 22, 23, 24, 25, 21, 27, 28, 29, 30, 15, 31, 35, 36, 37, 38, 39, 40, 41, 42, 43, 44, 45, 46, 75, 76, 77, 78, 79, 80, 81, 82, 83, 84, 85, 86, 87, 88, 89, 90, 91, 92, 93, 94, 95, 96, 97, 98, 99, 100, 101, 102, 103] (by decide +kernel) (by decide +kernel)
set_option maxRecDepth 20000 in
theorem gX6_market_X6_readsStall : GoodIn wsX6_market (wsV RX6 149 RX6 yX6_readsStall wsX6_readsStall) := goodIn_app (goodIn_of _ (by decide +kernel)) ggX6_market_X6_readsStall
set_option maxRecDepth 20000 in
theorem ggX6_market_X6_readsWay : GoodIn wsX6_market wsX6_readsWay := goodIn_r _ [70, 5, 2, 3, 9, 32, 33, 19, 34, 51, 52, 53, 54, 26, 6, 47, 48, 49, 50, 22, 23, 24, 25, 21, 27, 28, 29, 30, 15, 31, 35, 36, 37, 38, 39, 40, 41, 42, 43, 44, 45, 46, 59, 60, 61, 62, 71, 72, 73, 74, 75, 76, 77, 78, 79, 80, 81, 82, 83, 84, 85, 86, 87, 88, 89, 90, 91, 92, 93, 94, 95, 96, 97, 98, 99, 100, 101, 102, 103] (by decide +kernel) (by decide +kernel)
set_option maxRecDepth 20000 in
theorem gX6_market_X6_readsWay : GoodIn wsX6_market (wsV RX6 152 RX6 yX6_readsWay wsX6_readsWay) := goodIn_app (goodIn_of _ (by decide +kernel)) ggX6_market_X6_readsWay
theorem dX6_market_0 : decode cX6_market 0 = .ok (.aload_n 0, 1) := by decide +kernel
theorem dX6_market_1 : decode cX6_market 1 = .ok (.iconst 0, 1) := by decide +kernel
theorem dX6_market_2 : decode cX6_market 2 = .ok (.putfield 54, 3) := by decide +kernel
theorem dX6_market_5 : decode cX6_market 5 = .ok (.iconst 0, 1) := by decide +kernel
theorem dX6_market_6 : decode cX6_market 6 = .ok (.istore_n 1, 1) := by decide +kernel
theorem dX6_market_7 : decode cX6_market 7 = .ok (.iconst 0, 1) := by decide +kernel
theorem dX6_market_8 : decode cX6_market 8 = .ok (.istore_n 2, 1) := by decide +kernel
theorem dX6_market_9 : decode cX6_market 9 = .ok (.aload_n 0, 1) := by decide +kernel
theorem dX6_market_10 : decode cX6_market 10 = .ok (.invokevirtual 143, 3) := by decide +kernel
theorem dX6_market_13 : decode cX6_market 13 = .ok (.aload_n 0, 1) := by decide +kernel
theorem dX6_market_14 : decode cX6_market 14 = .ok (.invokevirtual 118, 3) := by decide +kernel
theorem dX6_market_17 : decode cX6_market 17 = .ok (.ifCond .eq 176, 3) := by decide +kernel
theorem dX6_market_20 : decode cX6_market 20 = .ok (.aload_n 0, 1) := by decide +kernel
theorem dX6_market_21 : decode cX6_market 21 = .ok (.getfield 105, 3) := by decide +kernel
theorem dX6_market_24 : decode cX6_market 24 = .ok (.ifCond .eq 169, 3) := by decide +kernel
theorem dX6_market_27 : decode cX6_market 27 = .ok (.aload_n 0, 1) := by decide +kernel
theorem dX6_market_28 : decode cX6_market 28 = .ok (.getfield 112, 3) := by decide +kernel
theorem dX6_market_31 : decode cX6_market 31 = .ok (.ifCond .ne 15, 3) := by decide +kernel
theorem dX6_market_34 : decode cX6_market 34 = .ok (.iload_n 2, 1) := by decide +kernel
theorem dX6_market_35 : decode cX6_market 35 = .ok (.ifCond .ne 7, 3) := by decide +kernel
theorem dX6_market_38 : decode cX6_market 38 = .ok (.iconst 1, 1) := by decide +kernel
theorem dX6_market_39 : decode cX6_market 39 = .ok (.goto 54, 3) := by decide +kernel
theorem dX6_market_42 : decode cX6_market 42 = .ok (.iconst 0, 1) := by decide +kernel
theorem dX6_market_43 : decode cX6_market 43 = .ok (.goto 50, 3) := by decide +kernel
theorem dX6_market_46 : decode cX6_market 46 = .ok (.aload_n 0, 1) := by decide +kernel
theorem dX6_market_47 : decode cX6_market 47 = .ok (.getfield 112, 3) := by decide +kernel
theorem dX6_market_50 : decode cX6_market 50 = .ok (.iconst 1, 1) := by decide +kernel
theorem dX6_market_51 : decode cX6_market 51 = .ok (.if_icmp .ne 20, 3) := by decide +kernel
theorem dX6_market_54 : decode cX6_market 54 = .ok (.aload_n 0, 1) := by decide +kernel
theorem dX6_market_55 : decode cX6_market 55 = .ok (.getfield 133, 3) := by decide +kernel
theorem dX6_market_58 : decode cX6_market 58 = .ok (.bipush 6, 2) := by decide +kernel
theorem dX6_market_60 : decode cX6_market 60 = .ok (.if_icmp .ge 7, 3) := by decide +kernel
theorem dX6_market_63 : decode cX6_market 63 = .ok (.iconst 1, 1) := by decide +kernel
theorem dX6_market_64 : decode cX6_market 64 = .ok (.goto 29, 3) := by decide +kernel
theorem dX6_market_67 : decode cX6_market 67 = .ok (.iconst 0, 1) := by decide +kernel
theorem dX6_market_68 : decode cX6_market 68 = .ok (.goto 25, 3) := by decide +kernel
theorem dX6_market_71 : decode cX6_market 71 = .ok (.aload_n 0, 1) := by decide +kernel
theorem dX6_market_72 : decode cX6_market 72 = .ok (.getfield 112, 3) := by decide +kernel
theorem dX6_market_75 : decode cX6_market 75 = .ok (.iconst 2, 1) := by decide +kernel
theorem dX6_market_76 : decode cX6_market 76 = .ok (.if_icmp .ne 16, 3) := by decide +kernel
theorem dX6_market_79 : decode cX6_market 79 = .ok (.aload_n 0, 1) := by decide +kernel
theorem dX6_market_80 : decode cX6_market 80 = .ok (.getfield 136, 3) := by decide +kernel
theorem dX6_market_83 : decode cX6_market 83 = .ok (.bipush 6, 2) := by decide +kernel
theorem dX6_market_85 : decode cX6_market 85 = .ok (.if_icmp .ge 7, 3) := by decide +kernel
theorem dX6_market_88 : decode cX6_market 88 = .ok (.iconst 1, 1) := by decide +kernel
theorem dX6_market_89 : decode cX6_market 89 = .ok (.goto 4, 3) := by decide +kernel
theorem dX6_market_92 : decode cX6_market 92 = .ok (.iconst 0, 1) := by decide +kernel
theorem dX6_market_93 : decode cX6_market 93 = .ok (.istore_n 3, 1) := by decide +kernel
theorem dX6_market_94 : decode cX6_market 94 = .ok (.aload_n 0, 1) := by decide +kernel
theorem dX6_market_95 : decode cX6_market 95 = .ok (.aload_n 0, 1) := by decide +kernel
theorem dX6_market_96 : decode cX6_market 96 = .ok (.getfield 105, 3) := by decide +kernel
theorem dX6_market_99 : decode cX6_market 99 = .ok (.iconst 1, 1) := by decide +kernel
theorem dX6_market_100 : decode cX6_market 100 = .ok (.if_icmp .ne 11, 3) := by decide +kernel
theorem dX6_market_103 : decode cX6_market 103 = .ok (.iload_n 3, 1) := by decide +kernel
theorem dX6_market_104 : decode cX6_market 104 = .ok (.ifCond .eq 7, 3) := by decide +kernel
theorem dX6_market_107 : decode cX6_market 107 = .ok (.iconst 1, 1) := by decide +kernel
theorem dX6_market_108 : decode cX6_market 108 = .ok (.goto 4, 3) := by decide +kernel
theorem dX6_market_111 : decode cX6_market 111 = .ok (.iconst 0, 1) := by decide +kernel
theorem dX6_market_112 : decode cX6_market 112 = .ok (.invokevirtual 125, 3) := by decide +kernel
theorem dX6_market_115 : decode cX6_market 115 = .ok (.istore 4, 2) := by decide +kernel
theorem dX6_market_117 : decode cX6_market 117 = .ok (.aload_n 0, 1) := by decide +kernel
theorem dX6_market_118 : decode cX6_market 118 = .ok (.invokevirtual 118, 3) := by decide +kernel
theorem dX6_market_121 : decode cX6_market 121 = .ok (.ifCond .eq 17, 3) := by decide +kernel
theorem dX6_market_124 : decode cX6_market 124 = .ok (.iload 4, 2) := by decide +kernel
theorem dX6_market_126 : decode cX6_market 126 = .ok (.ifCond .ne 12, 3) := by decide +kernel
theorem dX6_market_129 : decode cX6_market 129 = .ok (.iconst 1, 1) := by decide +kernel
theorem dX6_market_130 : decode cX6_market 130 = .ok (.istore_n 2, 1) := by decide +kernel
theorem dX6_market_131 : decode cX6_market 131 = .ok (.aload_n 0, 1) := by decide +kernel
theorem dX6_market_132 : decode cX6_market 132 = .ok (.invokevirtual 146, 3) := by decide +kernel
theorem dX6_market_135 : decode cX6_market 135 = .ok (.goto 34, 3) := by decide +kernel
theorem dX6_market_138 : decode cX6_market 138 = .ok (.aload_n 0, 1) := by decide +kernel
theorem dX6_market_139 : decode cX6_market 139 = .ok (.invokevirtual 118, 3) := by decide +kernel
theorem dX6_market_142 : decode cX6_market 142 = .ok (.ifCond .eq 16, 3) := by decide +kernel
theorem dX6_market_145 : decode cX6_market 145 = .ok (.iload 4, 2) := by decide +kernel
theorem dX6_market_147 : decode cX6_market 147 = .ok (.iconst 1, 1) := by decide +kernel
theorem dX6_market_148 : decode cX6_market 148 = .ok (.if_icmp .ne 10, 3) := by decide +kernel
theorem dX6_market_151 : decode cX6_market 151 = .ok (.aload_n 0, 1) := by decide +kernel
theorem dX6_market_152 : decode cX6_market 152 = .ok (.invokevirtual 149, 3) := by decide +kernel
theorem dX6_market_155 : decode cX6_market 155 = .ok (.goto 14, 3) := by decide +kernel
theorem dX6_market_158 : decode cX6_market 158 = .ok (.aload_n 0, 1) := by decide +kernel
theorem dX6_market_159 : decode cX6_market 159 = .ok (.invokevirtual 118, 3) := by decide +kernel
theorem dX6_market_162 : decode cX6_market 162 = .ok (.ifCond .eq 7, 3) := by decide +kernel
theorem dX6_market_165 : decode cX6_market 165 = .ok (.aload_n 0, 1) := by decide +kernel
theorem dX6_market_166 : decode cX6_market 166 = .ok (.invokevirtual 152, 3) := by decide +kernel
theorem dX6_market_169 : decode cX6_market 169 = .ok (.aload_n 0, 1) := by decide +kernel
theorem dX6_market_170 : decode cX6_market 170 = .ok (.aload_n 0, 1) := by decide +kernel
theorem dX6_market_171 : decode cX6_market 171 = .ok (.getfield 105, 3) := by decide +kernel
theorem dX6_market_174 : decode cX6_market 174 = .ok (.iconst 3, 1) := by decide +kernel
theorem dX6_market_175 : decode cX6_market 175 = .ok (.if_icmp .ne 7, 3) := by decide +kernel
theorem dX6_market_178 : decode cX6_market 178 = .ok (.iconst 1, 1) := by decide +kernel
theorem dX6_market_179 : decode cX6_market 179 = .ok (.goto 4, 3) := by decide +kernel
theorem dX6_market_182 : decode cX6_market 182 = .ok (.iconst 0, 1) := by decide +kernel
theorem dX6_market_183 : decode cX6_market 183 = .ok (.invokevirtual 125, 3) := by decide +kernel
theorem dX6_market_186 : decode cX6_market 186 = .ok (.pop, 1) := by decide +kernel
theorem dX6_market_187 : decode cX6_market 187 = .ok (.iinc 1 1, 3) := by decide +kernel
theorem dX6_market_190 : decode cX6_market 190 = .ok (.goto (-177), 3) := by decide +kernel
theorem dX6_market_193 : decode cX6_market 193 = .ok (.aload_n 0, 1) := by decide +kernel
theorem dX6_market_194 : decode cX6_market 194 = .ok (.invokevirtual 118, 3) := by decide +kernel
theorem dX6_market_197 : decode cX6_market 197 = .ok (.ifCond .ne 11, 3) := by decide +kernel
theorem dX6_market_200 : decode cX6_market 200 = .ok (.bipush (-10), 2) := by decide +kernel
theorem dX6_market_202 : decode cX6_market 202 = .ok (.aload_n 0, 1) := by decide +kernel
theorem dX6_market_203 : decode cX6_market 203 = .ok (.getfield 115, 3) := by decide +kernel
theorem dX6_market_206 : decode cX6_market 206 = .ok (.isub, 1) := by decide +kernel
theorem dX6_market_207 : decode cX6_market 207 = .ok (.ireturn, 1) := by decide +kernel
theorem dX6_market_208 : decode cX6_market 208 = .ok (.iconst 0, 1) := by decide +kernel
theorem dX6_market_209 : decode cX6_market 209 = .ok (.istore_n 3, 1) := by decide +kernel
theorem dX6_market_210 : decode cX6_market 210 = .ok (.iload_n 3, 1) := by decide +kernel
theorem dX6_market_211 : decode cX6_market 211 = .ok (.iconst 3, 1) := by decide +kernel
theorem dX6_market_212 : decode cX6_market 212 = .ok (.if_icmp .ge 23, 3) := by decide +kernel
theorem dX6_market_215 : decode cX6_market 215 = .ok (.aload_n 0, 1) := by decide +kernel
theorem dX6_market_216 : decode cX6_market 216 = .ok (.getfield 27, 3) := by decide +kernel
theorem dX6_market_219 : decode cX6_market 219 = .ok (.iload_n 3, 1) := by decide +kernel
theorem dX6_market_220 : decode cX6_market 220 = .ok (.aload_n 0, 1) := by decide +kernel
theorem dX6_market_221 : decode cX6_market 221 = .ok (.getfield 27, 3) := by decide +kernel
theorem dX6_market_224 : decode cX6_market 224 = .ok (.iconst 3, 1) := by decide +kernel
theorem dX6_market_225 : decode cX6_market 225 = .ok (.iload_n 3, 1) := by decide +kernel
theorem dX6_market_226 : decode cX6_market 226 = .ok (.iadd, 1) := by decide +kernel
theorem dX6_market_227 : decode cX6_market 227 = .ok (.iaload, 1) := by decide +kernel
theorem dX6_market_228 : decode cX6_market 228 = .ok (.iastore, 1) := by decide +kernel
theorem dX6_market_229 : decode cX6_market 229 = .ok (.iinc 3 1, 3) := by decide +kernel
theorem dX6_market_232 : decode cX6_market 232 = .ok (.goto (-22), 3) := by decide +kernel
theorem dX6_market_235 : decode cX6_market 235 = .ok (.iconst 0, 1) := by decide +kernel
theorem dX6_market_236 : decode cX6_market 236 = .ok (.istore_n 3, 1) := by decide +kernel
theorem dX6_market_237 : decode cX6_market 237 = .ok (.iload_n 3, 1) := by decide +kernel
theorem dX6_market_238 : decode cX6_market 238 = .ok (.bipush 18, 2) := by decide +kernel
theorem dX6_market_240 : decode cX6_market 240 = .ok (.if_icmp .ge 24, 3) := by decide +kernel
theorem dX6_market_243 : decode cX6_market 243 = .ok (.aload_n 0, 1) := by decide +kernel
theorem dX6_market_244 : decode cX6_market 244 = .ok (.getfield 30, 3) := by decide +kernel
theorem dX6_market_247 : decode cX6_market 247 = .ok (.iload_n 3, 1) := by decide +kernel
theorem dX6_market_248 : decode cX6_market 248 = .ok (.aload_n 0, 1) := by decide +kernel
theorem dX6_market_249 : decode cX6_market 249 = .ok (.getfield 30, 3) := by decide +kernel
theorem dX6_market_252 : decode cX6_market 252 = .ok (.bipush 18, 2) := by decide +kernel
theorem dX6_market_254 : decode cX6_market 254 = .ok (.iload_n 3, 1) := by decide +kernel
theorem dX6_market_255 : decode cX6_market 255 = .ok (.iadd, 1) := by decide +kernel
theorem dX6_market_256 : decode cX6_market 256 = .ok (.iaload, 1) := by decide +kernel
theorem dX6_market_257 : decode cX6_market 257 = .ok (.iastore, 1) := by decide +kernel
theorem dX6_market_258 : decode cX6_market 258 = .ok (.iinc 3 1, 3) := by decide +kernel
theorem dX6_market_261 : decode cX6_market 261 = .ok (.goto (-24), 3) := by decide +kernel
theorem dX6_market_264 : decode cX6_market 264 = .ok (.iconst 0, 1) := by decide +kernel
theorem dX6_market_265 : decode cX6_market 265 = .ok (.istore_n 3, 1) := by decide +kernel
theorem dX6_market_266 : decode cX6_market 266 = .ok (.iload_n 3, 1) := by decide +kernel
theorem dX6_market_267 : decode cX6_market 267 = .ok (.bipush 24, 2) := by decide +kernel
theorem dX6_market_269 : decode cX6_market 269 = .ok (.if_icmp .ge 24, 3) := by decide +kernel
theorem dX6_market_272 : decode cX6_market 272 = .ok (.aload_n 0, 1) := by decide +kernel
theorem dX6_market_273 : decode cX6_market 273 = .ok (.getfield 33, 3) := by decide +kernel
theorem dX6_market_276 : decode cX6_market 276 = .ok (.iload_n 3, 1) := by decide +kernel
theorem dX6_market_277 : decode cX6_market 277 = .ok (.aload_n 0, 1) := by decide +kernel
theorem dX6_market_278 : decode cX6_market 278 = .ok (.getfield 33, 3) := by decide +kernel
theorem dX6_market_281 : decode cX6_market 281 = .ok (.bipush 24, 2) := by decide +kernel
theorem dX6_market_283 : decode cX6_market 283 = .ok (.iload_n 3, 1) := by decide +kernel
theorem dX6_market_284 : decode cX6_market 284 = .ok (.iadd, 1) := by decide +kernel
theorem dX6_market_285 : decode cX6_market 285 = .ok (.iaload, 1) := by decide +kernel
theorem dX6_market_286 : decode cX6_market 286 = .ok (.iastore, 1) := by decide +kernel
theorem dX6_market_287 : decode cX6_market 287 = .ok (.iinc 3 1, 3) := by decide +kernel
theorem dX6_market_290 : decode cX6_market 290 = .ok (.goto (-24), 3) := by decide +kernel
theorem dX6_market_293 : decode cX6_market 293 = .ok (.aload_n 0, 1) := by decide +kernel
theorem dX6_market_294 : decode cX6_market 294 = .ok (.aload_n 0, 1) := by decide +kernel
theorem dX6_market_295 : decode cX6_market 295 = .ok (.getfield 133, 3) := by decide +kernel
theorem dX6_market_298 : decode cX6_market 298 = .ok (.putfield 58, 3) := by decide +kernel
theorem dX6_market_301 : decode cX6_market 301 = .ok (.aload_n 0, 1) := by decide +kernel
theorem dX6_market_302 : decode cX6_market 302 = .ok (.aload_n 0, 1) := by decide +kernel
theorem dX6_market_303 : decode cX6_market 303 = .ok (.getfield 136, 3) := by decide +kernel
theorem dX6_market_306 : decode cX6_market 306 = .ok (.putfield 65, 3) := by decide +kernel
theorem dX6_market_309 : decode cX6_market 309 = .ok (.aload_n 0, 1) := by decide +kernel
theorem dX6_market_310 : decode cX6_market 310 = .ok (.getfield 7, 3) := by decide +kernel
theorem dX6_market_313 : decode cX6_market 313 = .ok (.iconst 0, 1) := by decide +kernel
theorem dX6_market_314 : decode cX6_market 314 = .ok (.iconst 0, 1) := by decide +kernel
theorem dX6_market_315 : decode cX6_market 315 = .ok (.iastore, 1) := by decide +kernel
theorem dX6_market_316 : decode cX6_market 316 = .ok (.aload_n 0, 1) := by decide +kernel
theorem dX6_market_317 : decode cX6_market 317 = .ok (.getfield 7, 3) := by decide +kernel
theorem dX6_market_320 : decode cX6_market 320 = .ok (.sipush 181, 3) := by decide +kernel
theorem dX6_market_323 : decode cX6_market 323 = .ok (.iconst 0, 1) := by decide +kernel
theorem dX6_market_324 : decode cX6_market 324 = .ok (.iastore, 1) := by decide +kernel
theorem dX6_market_325 : decode cX6_market 325 = .ok (.aload_n 0, 1) := by decide +kernel
theorem dX6_market_326 : decode cX6_market 326 = .ok (.getfield 7, 3) := by decide +kernel
theorem dX6_market_329 : decode cX6_market 329 = .ok (.sipush 262, 3) := by decide +kernel
theorem dX6_market_332 : decode cX6_market 332 = .ok (.iconst 0, 1) := by decide +kernel
theorem dX6_market_333 : decode cX6_market 333 = .ok (.iastore, 1) := by decide +kernel
theorem dX6_market_334 : decode cX6_market 334 = .ok (.aload_n 0, 1) := by decide +kernel
theorem dX6_market_335 : decode cX6_market 335 = .ok (.getfield 16, 3) := by decide +kernel
theorem dX6_market_338 : decode cX6_market 338 = .ok (.iconst 0, 1) := by decide +kernel
theorem dX6_market_339 : decode cX6_market 339 = .ok (.iconst 0, 1) := by decide +kernel
theorem dX6_market_340 : decode cX6_market 340 = .ok (.bastore, 1) := by decide +kernel
theorem dX6_market_341 : decode cX6_market 341 = .ok (.aload_n 0, 1) := by decide +kernel
theorem dX6_market_342 : decode cX6_market 342 = .ok (.getfield 16, 3) := by decide +kernel
theorem dX6_market_345 : decode cX6_market 345 = .ok (.iconst 1, 1) := by decide +kernel
theorem dX6_market_346 : decode cX6_market 346 = .ok (.iconst 0, 1) := by decide +kernel
theorem dX6_market_347 : decode cX6_market 347 = .ok (.bastore, 1) := by decide +kernel
theorem dX6_market_348 : decode cX6_market 348 = .ok (.iconst 0, 1) := by decide +kernel
theorem dX6_market_349 : decode cX6_market 349 = .ok (.istore_n 3, 1) := by decide +kernel
theorem dX6_market_350 : decode cX6_market 350 = .ok (.iload_n 3, 1) := by decide +kernel
theorem dX6_market_351 : decode cX6_market 351 = .ok (.bipush 6, 2) := by decide +kernel
theorem dX6_market_353 : decode cX6_market 353 = .ok (.if_icmp .ge 16, 3) := by decide +kernel
theorem dX6_market_356 : decode cX6_market 356 = .ok (.aload_n 0, 1) := by decide +kernel
theorem dX6_market_357 : decode cX6_market 357 = .ok (.getfield 36, 3) := by decide +kernel
theorem dX6_market_360 : decode cX6_market 360 = .ok (.iload_n 3, 1) := by decide +kernel
theorem dX6_market_361 : decode cX6_market 361 = .ok (.iconst 1, 1) := by decide +kernel
theorem dX6_market_362 : decode cX6_market 362 = .ok (.iastore, 1) := by decide +kernel
theorem dX6_market_363 : decode cX6_market 363 = .ok (.iinc 3 1, 3) := by decide +kernel
theorem dX6_market_366 : decode cX6_market 366 = .ok (.goto (-16), 3) := by decide +kernel
theorem dX6_market_369 : decode cX6_market 369 = .ok (.aload_n 0, 1) := by decide +kernel
theorem dX6_market_370 : decode cX6_market 370 = .ok (.iconst 0, 1) := by decide +kernel
theorem dX6_market_371 : decode cX6_market 371 = .ok (.putfield 76, 3) := by decide +kernel
theorem dX6_market_374 : decode cX6_market 374 = .ok (.iload_n 1, 1) := by decide +kernel
theorem dX6_market_375 : decode cX6_market 375 = .ok (.ireturn, 1) := by decide +kernel
set_option maxRecDepth 20000 in
theorem ggX6_bagsOf_X6_bag : GoodIn wsX6_bagsOf wsX6_bag := goodIn_r _ [6, 1, 7, 8, 9, 10, 11, 12, 13, 14, 15, 16, 17, 18, 19, 20, 21, 22, 23, 24, 25, 26, 27, 28, 29, 30, 31, 32, 33, 34, 35] (by decide +kernel) (by decide +kernel)
set_option maxRecDepth 20000 in
theorem gX6_bagsOf_X6_bag : GoodIn wsX6_bagsOf (wsV RX6 155 RX6 yX6_bag wsX6_bag) := goodIn_app (goodIn_of _ (by decide +kernel)) ggX6_bagsOf_X6_bag
theorem dX6_bagsOf_0 : decode cX6_bagsOf 0 = .ok (.iconst 0, 1) := by decide +kernel
theorem dX6_bagsOf_1 : decode cX6_bagsOf 1 = .ok (.istore_n 2, 1) := by decide +kernel
theorem dX6_bagsOf_2 : decode cX6_bagsOf 2 = .ok (.iconst 0, 1) := by decide +kernel
theorem dX6_bagsOf_3 : decode cX6_bagsOf 3 = .ok (.istore_n 3, 1) := by decide +kernel
theorem dX6_bagsOf_4 : decode cX6_bagsOf 4 = .ok (.iload_n 3, 1) := by decide +kernel
theorem dX6_bagsOf_5 : decode cX6_bagsOf 5 = .ok (.aload_n 0, 1) := by decide +kernel
theorem dX6_bagsOf_6 : decode cX6_bagsOf 6 = .ok (.getfield 7, 3) := by decide +kernel
theorem dX6_bagsOf_9 : decode cX6_bagsOf 9 = .ok (.iconst 0, 1) := by decide +kernel
theorem dX6_bagsOf_10 : decode cX6_bagsOf 10 = .ok (.iaload, 1) := by decide +kernel
theorem dX6_bagsOf_11 : decode cX6_bagsOf 11 = .ok (.if_icmp .ge 27, 3) := by decide +kernel
theorem dX6_bagsOf_14 : decode cX6_bagsOf 14 = .ok (.iload_n 2, 1) := by decide +kernel
theorem dX6_bagsOf_15 : decode cX6_bagsOf 15 = .ok (.aload_n 0, 1) := by decide +kernel
theorem dX6_bagsOf_16 : decode cX6_bagsOf 16 = .ok (.iload_n 3, 1) := by decide +kernel
theorem dX6_bagsOf_17 : decode cX6_bagsOf 17 = .ok (.iconst 0, 1) := by decide +kernel
theorem dX6_bagsOf_18 : decode cX6_bagsOf 18 = .ok (.invokevirtual 155, 3) := by decide +kernel
theorem dX6_bagsOf_21 : decode cX6_bagsOf 21 = .ok (.iload_n 1, 1) := by decide +kernel
theorem dX6_bagsOf_22 : decode cX6_bagsOf 22 = .ok (.if_icmp .ne 7, 3) := by decide +kernel
theorem dX6_bagsOf_25 : decode cX6_bagsOf 25 = .ok (.iconst 1, 1) := by decide +kernel
theorem dX6_bagsOf_26 : decode cX6_bagsOf 26 = .ok (.goto 4, 3) := by decide +kernel
theorem dX6_bagsOf_29 : decode cX6_bagsOf 29 = .ok (.iconst 0, 1) := by decide +kernel
theorem dX6_bagsOf_30 : decode cX6_bagsOf 30 = .ok (.iadd, 1) := by decide +kernel
theorem dX6_bagsOf_31 : decode cX6_bagsOf 31 = .ok (.istore_n 2, 1) := by decide +kernel
theorem dX6_bagsOf_32 : decode cX6_bagsOf 32 = .ok (.iinc 3 1, 3) := by decide +kernel
theorem dX6_bagsOf_35 : decode cX6_bagsOf 35 = .ok (.goto (-31), 3) := by decide +kernel
theorem dX6_bagsOf_38 : decode cX6_bagsOf 38 = .ok (.iload_n 2, 1) := by decide +kernel
theorem dX6_bagsOf_39 : decode cX6_bagsOf 39 = .ok (.ireturn, 1) := by decide +kernel
theorem dX6_trialsOf_0 : decode cX6_trialsOf 0 = .ok (.iconst 0, 1) := by decide +kernel
theorem dX6_trialsOf_1 : decode cX6_trialsOf 1 = .ok (.istore_n 2, 1) := by decide +kernel
theorem dX6_trialsOf_2 : decode cX6_trialsOf 2 = .ok (.iconst 0, 1) := by decide +kernel
theorem dX6_trialsOf_3 : decode cX6_trialsOf 3 = .ok (.istore_n 3, 1) := by decide +kernel
theorem dX6_trialsOf_4 : decode cX6_trialsOf 4 = .ok (.iload_n 3, 1) := by decide +kernel
theorem dX6_trialsOf_5 : decode cX6_trialsOf 5 = .ok (.aload_n 0, 1) := by decide +kernel
theorem dX6_trialsOf_6 : decode cX6_trialsOf 6 = .ok (.getfield 7, 3) := by decide +kernel
theorem dX6_trialsOf_9 : decode cX6_trialsOf 9 = .ok (.sipush 181, 3) := by decide +kernel
theorem dX6_trialsOf_12 : decode cX6_trialsOf 12 = .ok (.iaload, 1) := by decide +kernel
theorem dX6_trialsOf_13 : decode cX6_trialsOf 13 = .ok (.if_icmp .ge 33, 3) := by decide +kernel
theorem dX6_trialsOf_16 : decode cX6_trialsOf 16 = .ok (.iload_n 2, 1) := by decide +kernel
theorem dX6_trialsOf_17 : decode cX6_trialsOf 17 = .ok (.aload_n 0, 1) := by decide +kernel
theorem dX6_trialsOf_18 : decode cX6_trialsOf 18 = .ok (.getfield 7, 3) := by decide +kernel
theorem dX6_trialsOf_21 : decode cX6_trialsOf 21 = .ok (.sipush 182, 3) := by decide +kernel
theorem dX6_trialsOf_24 : decode cX6_trialsOf 24 = .ok (.iconst 4, 1) := by decide +kernel
theorem dX6_trialsOf_25 : decode cX6_trialsOf 25 = .ok (.iload_n 3, 1) := by decide +kernel
theorem dX6_trialsOf_26 : decode cX6_trialsOf 26 = .ok (.imul, 1) := by decide +kernel
theorem dX6_trialsOf_27 : decode cX6_trialsOf 27 = .ok (.iadd, 1) := by decide +kernel
theorem dX6_trialsOf_28 : decode cX6_trialsOf 28 = .ok (.iaload, 1) := by decide +kernel
theorem dX6_trialsOf_29 : decode cX6_trialsOf 29 = .ok (.iload_n 1, 1) := by decide +kernel
theorem dX6_trialsOf_30 : decode cX6_trialsOf 30 = .ok (.if_icmp .ne 7, 3) := by decide +kernel
theorem dX6_trialsOf_33 : decode cX6_trialsOf 33 = .ok (.iconst 1, 1) := by decide +kernel
theorem dX6_trialsOf_34 : decode cX6_trialsOf 34 = .ok (.goto 4, 3) := by decide +kernel
theorem dX6_trialsOf_37 : decode cX6_trialsOf 37 = .ok (.iconst 0, 1) := by decide +kernel
theorem dX6_trialsOf_38 : decode cX6_trialsOf 38 = .ok (.iadd, 1) := by decide +kernel
theorem dX6_trialsOf_39 : decode cX6_trialsOf 39 = .ok (.istore_n 2, 1) := by decide +kernel
theorem dX6_trialsOf_40 : decode cX6_trialsOf 40 = .ok (.iinc 3 1, 3) := by decide +kernel
theorem dX6_trialsOf_43 : decode cX6_trialsOf 43 = .ok (.goto (-39), 3) := by decide +kernel
theorem dX6_trialsOf_46 : decode cX6_trialsOf 46 = .ok (.iload_n 2, 1) := by decide +kernel
theorem dX6_trialsOf_47 : decode cX6_trialsOf 47 = .ok (.ireturn, 1) := by decide +kernel
set_option maxRecDepth 20000 in
theorem ggX6_stall_X6_isStall : GoodIn wsX6_stall wsX6_isStall := goodIn_r _ [7, 8, 9, 10, 6, 11, 25, 26, 27, 28, 29, 30, 31, 32, 33, 34, 35, 36, 37, 38, 39, 40, 41, 42, 43, 44, 45, 46, 47, 48, 49, 50, 51, 52, 53] (by decide +kernel) (by decide +kernel)
set_option maxRecDepth 20000 in
theorem gX6_stall_X6_isStall : GoodIn wsX6_stall (wsV RX6 158 RX6 yX6_isStall wsX6_isStall) := goodIn_app (goodIn_of _ (by decide +kernel)) ggX6_stall_X6_isStall
set_option maxRecDepth 20000 in
theorem ggX6_stall_X6_in : GoodIn wsX6_stall wsX6_in := goodIn_r _ [11] (by decide +kernel) (by decide +kernel)
set_option maxRecDepth 20000 in
theorem gX6_stall_X6_in : GoodIn wsX6_stall (va_wsS RX6 61 yX6_in wsX6_in) := goodIn_app (goodIn_of _ (by decide +kernel)) ggX6_stall_X6_in
set_option maxRecDepth 20000 in
theorem ggX6_stall_X6_bagsOf : GoodIn wsX6_stall wsX6_bagsOf := goodIn_r _ [15, 16, 17, 18, 19, 6, 20, 25, 26, 27, 28, 29, 30, 31, 32, 33, 34, 35, 36, 37, 38, 39, 40, 41, 42, 43, 44, 45, 46, 47, 48, 49, 50, 51, 52, 53] (by decide +kernel) (by decide +kernel)
set_option maxRecDepth 20000 in
theorem gX6_stall_X6_bagsOf : GoodIn wsX6_stall (wsV RX6 161 RX6 yX6_bagsOf wsX6_bagsOf) := goodIn_app (goodIn_of _ (by decide +kernel)) ggX6_stall_X6_bagsOf
set_option maxRecDepth 20000 in
theorem ggX6_stall_X6_trialsOf : GoodIn wsX6_stall wsX6_trialsOf := goodIn_r _ [24, 16, 25, 26, 27, 28, 29, 30, 31, 32, 33, 34, 35, 36, 37, 38, 39, 40, 41, 42, 43, 44, 45, 46, 47, 48, 49, 50, 51, 52, 53] (by decide +kernel) (by decide +kernel)
set_option maxRecDepth 20000 in
theorem gX6_stall_X6_trialsOf : GoodIn wsX6_stall (wsV RX6 164 RX6 yX6_trialsOf wsX6_trialsOf) := goodIn_app (goodIn_of _ (by decide +kernel)) ggX6_stall_X6_trialsOf
theorem dX6_stall_0 : decode cX6_stall 0 = .ok (.aload_n 0, 1) := by decide +kernel
theorem dX6_stall_1 : decode cX6_stall 1 = .ok (.iconst 0, 1) := by decide +kernel
theorem dX6_stall_2 : decode cX6_stall 2 = .ok (.putfield 54, 3) := by decide +kernel
theorem dX6_stall_5 : decode cX6_stall 5 = .ok (.aload_n 0, 1) := by decide +kernel
theorem dX6_stall_6 : decode cX6_stall 6 = .ok (.iload_n 1, 1) := by decide +kernel
theorem dX6_stall_7 : decode cX6_stall 7 = .ok (.invokevirtual 158, 3) := by decide +kernel
theorem dX6_stall_10 : decode cX6_stall 10 = .ok (.ifCond .eq 12, 3) := by decide +kernel
theorem dX6_stall_13 : decode cX6_stall 13 = .ok (.iload_n 2, 1) := by decide +kernel
theorem dX6_stall_14 : decode cX6_stall 14 = .ok (.iconst 0, 1) := by decide +kernel
theorem dX6_stall_15 : decode cX6_stall 15 = .ok (.iconst 4, 1) := by decide +kernel
theorem dX6_stall_16 : decode cX6_stall 16 = .ok (.invokestatic 61, 3) := by decide +kernel
theorem dX6_stall_19 : decode cX6_stall 19 = .ok (.ifCond .ne 7, 3) := by decide +kernel
theorem dX6_stall_22 : decode cX6_stall 22 = .ok (.iconst (-1), 1) := by decide +kernel
theorem dX6_stall_23 : decode cX6_stall 23 = .ok (.goto 39, 3) := by decide +kernel
theorem dX6_stall_26 : decode cX6_stall 26 = .ok (.iload_n 2, 1) := by decide +kernel
theorem dX6_stall_27 : decode cX6_stall 27 = .ok (.iconst 3, 1) := by decide +kernel
theorem dX6_stall_28 : decode cX6_stall 28 = .ok (.if_icmp .ge 16, 3) := by decide +kernel
theorem dX6_stall_31 : decode cX6_stall 31 = .ok (.aload_n 0, 1) := by decide +kernel
theorem dX6_stall_32 : decode cX6_stall 32 = .ok (.getfield 30, 3) := by decide +kernel
theorem dX6_stall_35 : decode cX6_stall 35 = .ok (.iconst 3, 1) := by decide +kernel
theorem dX6_stall_36 : decode cX6_stall 36 = .ok (.iload_n 1, 1) := by decide +kernel
theorem dX6_stall_37 : decode cX6_stall 37 = .ok (.imul, 1) := by decide +kernel
theorem dX6_stall_38 : decode cX6_stall 38 = .ok (.iload_n 2, 1) := by decide +kernel
theorem dX6_stall_39 : decode cX6_stall 39 = .ok (.iadd, 1) := by decide +kernel
theorem dX6_stall_40 : decode cX6_stall 40 = .ok (.iaload, 1) := by decide +kernel
theorem dX6_stall_41 : decode cX6_stall 41 = .ok (.goto 21, 3) := by decide +kernel
theorem dX6_stall_44 : decode cX6_stall 44 = .ok (.iload_n 2, 1) := by decide +kernel
theorem dX6_stall_45 : decode cX6_stall 45 = .ok (.iconst 3, 1) := by decide +kernel
theorem dX6_stall_46 : decode cX6_stall 46 = .ok (.if_icmp .ne 11, 3) := by decide +kernel
theorem dX6_stall_49 : decode cX6_stall 49 = .ok (.aload_n 0, 1) := by decide +kernel
theorem dX6_stall_50 : decode cX6_stall 50 = .ok (.iload_n 1, 1) := by decide +kernel
theorem dX6_stall_51 : decode cX6_stall 51 = .ok (.invokevirtual 161, 3) := by decide +kernel
theorem dX6_stall_54 : decode cX6_stall 54 = .ok (.goto 8, 3) := by decide +kernel
theorem dX6_stall_57 : decode cX6_stall 57 = .ok (.aload_n 0, 1) := by decide +kernel
theorem dX6_stall_58 : decode cX6_stall 58 = .ok (.iload_n 1, 1) := by decide +kernel
theorem dX6_stall_59 : decode cX6_stall 59 = .ok (.invokevirtual 164, 3) := by decide +kernel
theorem dX6_stall_62 : decode cX6_stall 62 = .ok (.ireturn, 1) := by decide +kernel
set_option maxRecDepth 20000 in
theorem ggX6_way_X6_isWay : GoodIn wsX6_way wsX6_isWay := goodIn_r _ [7, 8, 9, 10, 6, 11, 12, 13, 14, 15, 16, 17, 18, 19, 20, 21, 22, 23, 24, 25, 26, 27, 28, 29, 30, 31, 32, 33, 34, 35, 36, 37, 38, 39, 40] (by decide +kernel) (by decide +kernel)
set_option maxRecDepth 20000 in
theorem gX6_way_X6_isWay : GoodIn wsX6_way (wsV RX6 167 RX6 yX6_isWay wsX6_isWay) := goodIn_app (goodIn_of _ (by decide +kernel)) ggX6_way_X6_isWay
set_option maxRecDepth 20000 in
theorem ggX6_way_X6_in : GoodIn wsX6_way wsX6_in := goodIn_r _ [11] (by decide +kernel) (by decide +kernel)
set_option maxRecDepth 20000 in
theorem gX6_way_X6_in : GoodIn wsX6_way (va_wsS RX6 61 yX6_in wsX6_in) := goodIn_app (goodIn_of _ (by decide +kernel)) ggX6_way_X6_in
theorem dX6_way_0 : decode cX6_way 0 = .ok (.aload_n 0, 1) := by decide +kernel
theorem dX6_way_1 : decode cX6_way 1 = .ok (.iconst 0, 1) := by decide +kernel
theorem dX6_way_2 : decode cX6_way 2 = .ok (.putfield 54, 3) := by decide +kernel
theorem dX6_way_5 : decode cX6_way 5 = .ok (.aload_n 0, 1) := by decide +kernel
theorem dX6_way_6 : decode cX6_way 6 = .ok (.iload_n 1, 1) := by decide +kernel
theorem dX6_way_7 : decode cX6_way 7 = .ok (.invokevirtual 167, 3) := by decide +kernel
theorem dX6_way_10 : decode cX6_way 10 = .ok (.ifCond .eq 25, 3) := by decide +kernel
theorem dX6_way_13 : decode cX6_way 13 = .ok (.iload_n 2, 1) := by decide +kernel
theorem dX6_way_14 : decode cX6_way 14 = .ok (.iconst 0, 1) := by decide +kernel
theorem dX6_way_15 : decode cX6_way 15 = .ok (.iconst 3, 1) := by decide +kernel
theorem dX6_way_16 : decode cX6_way 16 = .ok (.invokestatic 61, 3) := by decide +kernel
theorem dX6_way_19 : decode cX6_way 19 = .ok (.ifCond .eq 16, 3) := by decide +kernel
theorem dX6_way_22 : decode cX6_way 22 = .ok (.aload_n 0, 1) := by decide +kernel
theorem dX6_way_23 : decode cX6_way 23 = .ok (.getfield 33, 3) := by decide +kernel
theorem dX6_way_26 : decode cX6_way 26 = .ok (.iconst 4, 1) := by decide +kernel
theorem dX6_way_27 : decode cX6_way 27 = .ok (.iload_n 1, 1) := by decide +kernel
theorem dX6_way_28 : decode cX6_way 28 = .ok (.imul, 1) := by decide +kernel
theorem dX6_way_29 : decode cX6_way 29 = .ok (.iload_n 2, 1) := by decide +kernel
theorem dX6_way_30 : decode cX6_way 30 = .ok (.iadd, 1) := by decide +kernel
theorem dX6_way_31 : decode cX6_way 31 = .ok (.iaload, 1) := by decide +kernel
theorem dX6_way_32 : decode cX6_way 32 = .ok (.goto 4, 3) := by decide +kernel
theorem dX6_way_35 : decode cX6_way 35 = .ok (.iconst (-1), 1) := by decide +kernel
theorem dX6_way_36 : decode cX6_way 36 = .ok (.ireturn, 1) := by decide +kernel
set_option maxRecDepth 20000 in
theorem ggX6_honest_X6_in : GoodIn wsX6_honest wsX6_in := goodIn_r _ [5] (by decide +kernel) (by decide +kernel)
set_option maxRecDepth 20000 in
theorem gX6_honest_X6_in : GoodIn wsX6_honest (va_wsS RX6 61 yX6_in wsX6_in) := goodIn_app (goodIn_of _ (by decide +kernel)) ggX6_honest_X6_in
theorem dX6_honest_0 : decode cX6_honest 0 = .ok (.iload_n 1, 1) := by decide +kernel
theorem dX6_honest_1 : decode cX6_honest 1 = .ok (.iconst (-1), 1) := by decide +kernel
theorem dX6_honest_2 : decode cX6_honest 2 = .ok (.iconst 1, 1) := by decide +kernel
theorem dX6_honest_3 : decode cX6_honest 3 = .ok (.invokestatic 61, 3) := by decide +kernel
theorem dX6_honest_6 : decode cX6_honest 6 = .ok (.ifCond .eq 17, 3) := by decide +kernel
theorem dX6_honest_9 : decode cX6_honest 9 = .ok (.bipush 60, 2) := by decide +kernel
theorem dX6_honest_11 : decode cX6_honest 11 = .ok (.aload_n 0, 1) := by decide +kernel
theorem dX6_honest_12 : decode cX6_honest 12 = .ok (.getfield 27, 3) := by decide +kernel
theorem dX6_honest_15 : decode cX6_honest 15 = .ok (.iload_n 1, 1) := by decide +kernel
theorem dX6_honest_16 : decode cX6_honest 16 = .ok (.iconst 1, 1) := by decide +kernel
theorem dX6_honest_17 : decode cX6_honest 17 = .ok (.iadd, 1) := by decide +kernel
theorem dX6_honest_18 : decode cX6_honest 18 = .ok (.iaload, 1) := by decide +kernel
theorem dX6_honest_19 : decode cX6_honest 19 = .ok (.imul, 1) := by decide +kernel
theorem dX6_honest_20 : decode cX6_honest 20 = .ok (.goto 4, 3) := by decide +kernel
theorem dX6_honest_23 : decode cX6_honest 23 = .ok (.iconst 0, 1) := by decide +kernel
theorem dX6_honest_24 : decode cX6_honest 24 = .ok (.ireturn, 1) := by decide +kernel
set_option maxRecDepth 20000 in
theorem ggX6_oftenOf_X6_in : GoodIn wsX6_oftenOf wsX6_in := goodIn_r _ [6] (by decide +kernel) (by decide +kernel)
set_option maxRecDepth 20000 in
theorem gX6_oftenOf_X6_in : GoodIn wsX6_oftenOf (va_wsS RX6 61 yX6_in wsX6_in) := goodIn_app (goodIn_of _ (by decide +kernel)) ggX6_oftenOf_X6_in
set_option maxRecDepth 20000 in
theorem ggX6_oftenOf_X6_honest : GoodIn wsX6_oftenOf wsX6_honest := goodIn_r _ [10, 11, 3, 4, 5, 6, 12, 13, 14, 15, 16, 17, 18, 19, 20, 21, 22, 23, 24, 25, 26, 27, 28, 29, 30, 31, 32, 33, 34, 35, 36, 37, 38, 39, 40] (by decide +kernel) (by decide +kernel)
set_option maxRecDepth 20000 in
theorem gX6_oftenOf_X6_honest : GoodIn wsX6_oftenOf (wsV RX6 170 RX6 yX6_honest wsX6_honest) := goodIn_app (goodIn_of _ (by decide +kernel)) ggX6_oftenOf_X6_honest
theorem dX6_oftenOf_0 : decode cX6_oftenOf 0 = .ok (.iload 4, 2) := by decide +kernel
theorem dX6_oftenOf_2 : decode cX6_oftenOf 2 = .ok (.iconst (-1), 1) := by decide +kernel
theorem dX6_oftenOf_3 : decode cX6_oftenOf 3 = .ok (.bipush 100, 2) := by decide +kernel
theorem dX6_oftenOf_5 : decode cX6_oftenOf 5 = .ok (.invokestatic 61, 3) := by decide +kernel
theorem dX6_oftenOf_8 : decode cX6_oftenOf 8 = .ok (.ifCond .ne 5, 3) := by decide +kernel
theorem dX6_oftenOf_11 : decode cX6_oftenOf 11 = .ok (.iconst 0, 1) := by decide +kernel
theorem dX6_oftenOf_12 : decode cX6_oftenOf 12 = .ok (.ireturn, 1) := by decide +kernel
theorem dX6_oftenOf_13 : decode cX6_oftenOf 13 = .ok (.aload_n 0, 1) := by decide +kernel
theorem dX6_oftenOf_14 : decode cX6_oftenOf 14 = .ok (.getfield 33, 3) := by decide +kernel
theorem dX6_oftenOf_17 : decode cX6_oftenOf 17 = .ok (.iconst 4, 1) := by decide +kernel
theorem dX6_oftenOf_18 : decode cX6_oftenOf 18 = .ok (.iload_n 1, 1) := by decide +kernel
theorem dX6_oftenOf_19 : decode cX6_oftenOf 19 = .ok (.imul, 1) := by decide +kernel
theorem dX6_oftenOf_20 : decode cX6_oftenOf 20 = .ok (.iaload, 1) := by decide +kernel
theorem dX6_oftenOf_21 : decode cX6_oftenOf 21 = .ok (.istore 5, 2) := by decide +kernel
theorem dX6_oftenOf_23 : decode cX6_oftenOf 23 = .ok (.aload_n 0, 1) := by decide +kernel
theorem dX6_oftenOf_24 : decode cX6_oftenOf 24 = .ok (.getfield 33, 3) := by decide +kernel
theorem dX6_oftenOf_27 : decode cX6_oftenOf 27 = .ok (.iconst 4, 1) := by decide +kernel
theorem dX6_oftenOf_28 : decode cX6_oftenOf 28 = .ok (.iload_n 1, 1) := by decide +kernel
theorem dX6_oftenOf_29 : decode cX6_oftenOf 29 = .ok (.imul, 1) := by decide +kernel
theorem dX6_oftenOf_30 : decode cX6_oftenOf 30 = .ok (.iconst 1, 1) := by decide +kernel
theorem dX6_oftenOf_31 : decode cX6_oftenOf 31 = .ok (.iadd, 1) := by decide +kernel
theorem dX6_oftenOf_32 : decode cX6_oftenOf 32 = .ok (.iaload, 1) := by decide +kernel
theorem dX6_oftenOf_33 : decode cX6_oftenOf 33 = .ok (.aload_n 0, 1) := by decide +kernel
theorem dX6_oftenOf_34 : decode cX6_oftenOf 34 = .ok (.getfield 30, 3) := by decide +kernel
theorem dX6_oftenOf_37 : decode cX6_oftenOf 37 = .ok (.iconst 3, 1) := by decide +kernel
theorem dX6_oftenOf_38 : decode cX6_oftenOf 38 = .ok (.iload_n 2, 1) := by decide +kernel
theorem dX6_oftenOf_39 : decode cX6_oftenOf 39 = .ok (.imul, 1) := by decide +kernel
theorem dX6_oftenOf_40 : decode cX6_oftenOf 40 = .ok (.iaload, 1) := by decide +kernel
theorem dX6_oftenOf_41 : decode cX6_oftenOf 41 = .ok (.iadd, 1) := by decide +kernel
theorem dX6_oftenOf_42 : decode cX6_oftenOf 42 = .ok (.iconst 1, 1) := by decide +kernel
theorem dX6_oftenOf_43 : decode cX6_oftenOf 43 = .ok (.isub, 1) := by decide +kernel
theorem dX6_oftenOf_44 : decode cX6_oftenOf 44 = .ok (.aload_n 0, 1) := by decide +kernel
theorem dX6_oftenOf_45 : decode cX6_oftenOf 45 = .ok (.getfield 30, 3) := by decide +kernel
theorem dX6_oftenOf_48 : decode cX6_oftenOf 48 = .ok (.iconst 3, 1) := by decide +kernel
theorem dX6_oftenOf_49 : decode cX6_oftenOf 49 = .ok (.iload_n 2, 1) := by decide +kernel
theorem dX6_oftenOf_50 : decode cX6_oftenOf 50 = .ok (.imul, 1) := by decide +kernel
theorem dX6_oftenOf_51 : decode cX6_oftenOf 51 = .ok (.iaload, 1) := by decide +kernel
theorem dX6_oftenOf_52 : decode cX6_oftenOf 52 = .ok (.idiv, 1) := by decide +kernel
theorem dX6_oftenOf_53 : decode cX6_oftenOf 53 = .ok (.istore 6, 2) := by decide +kernel
theorem dX6_oftenOf_55 : decode cX6_oftenOf 55 = .ok (.aload_n 0, 1) := by decide +kernel
theorem dX6_oftenOf_56 : decode cX6_oftenOf 56 = .ok (.getfield 33, 3) := by decide +kernel
theorem dX6_oftenOf_59 : decode cX6_oftenOf 59 = .ok (.iconst 4, 1) := by decide +kernel
theorem dX6_oftenOf_60 : decode cX6_oftenOf 60 = .ok (.iload_n 1, 1) := by decide +kernel
theorem dX6_oftenOf_61 : decode cX6_oftenOf 61 = .ok (.imul, 1) := by decide +kernel
theorem dX6_oftenOf_62 : decode cX6_oftenOf 62 = .ok (.iconst 2, 1) := by decide +kernel
theorem dX6_oftenOf_63 : decode cX6_oftenOf 63 = .ok (.iadd, 1) := by decide +kernel
theorem dX6_oftenOf_64 : decode cX6_oftenOf 64 = .ok (.iaload, 1) := by decide +kernel
theorem dX6_oftenOf_65 : decode cX6_oftenOf 65 = .ok (.istore 7, 2) := by decide +kernel
theorem dX6_oftenOf_67 : decode cX6_oftenOf 67 = .ok (.aload_n 0, 1) := by decide +kernel
theorem dX6_oftenOf_68 : decode cX6_oftenOf 68 = .ok (.getfield 33, 3) := by decide +kernel
theorem dX6_oftenOf_71 : decode cX6_oftenOf 71 = .ok (.iconst 4, 1) := by decide +kernel
theorem dX6_oftenOf_72 : decode cX6_oftenOf 72 = .ok (.iload_n 1, 1) := by decide +kernel
theorem dX6_oftenOf_73 : decode cX6_oftenOf 73 = .ok (.imul, 1) := by decide +kernel
theorem dX6_oftenOf_74 : decode cX6_oftenOf 74 = .ok (.iconst 3, 1) := by decide +kernel
theorem dX6_oftenOf_75 : decode cX6_oftenOf 75 = .ok (.iadd, 1) := by decide +kernel
theorem dX6_oftenOf_76 : decode cX6_oftenOf 76 = .ok (.iaload, 1) := by decide +kernel
theorem dX6_oftenOf_77 : decode cX6_oftenOf 77 = .ok (.iload_n 3, 1) := by decide +kernel
theorem dX6_oftenOf_78 : decode cX6_oftenOf 78 = .ok (.ishr, 1) := by decide +kernel
theorem dX6_oftenOf_79 : decode cX6_oftenOf 79 = .ok (.iconst 1, 1) := by decide +kernel
theorem dX6_oftenOf_80 : decode cX6_oftenOf 80 = .ok (.iand, 1) := by decide +kernel
theorem dX6_oftenOf_81 : decode cX6_oftenOf 81 = .ok (.iconst 1, 1) := by decide +kernel
theorem dX6_oftenOf_82 : decode cX6_oftenOf 82 = .ok (.if_icmp .ne 7, 3) := by decide +kernel
theorem dX6_oftenOf_85 : decode cX6_oftenOf 85 = .ok (.iconst 1, 1) := by decide +kernel
theorem dX6_oftenOf_86 : decode cX6_oftenOf 86 = .ok (.goto 4, 3) := by decide +kernel
theorem dX6_oftenOf_89 : decode cX6_oftenOf 89 = .ok (.iconst 0, 1) := by decide +kernel
theorem dX6_oftenOf_90 : decode cX6_oftenOf 90 = .ok (.istore 8, 2) := by decide +kernel
theorem dX6_oftenOf_92 : decode cX6_oftenOf 92 = .ok (.iload 5, 2) := by decide +kernel
theorem dX6_oftenOf_94 : decode cX6_oftenOf 94 = .ok (.iconst 3, 1) := by decide +kernel
theorem dX6_oftenOf_95 : decode cX6_oftenOf 95 = .ok (.if_icmp .ne 38, 3) := by decide +kernel
theorem dX6_oftenOf_98 : decode cX6_oftenOf 98 = .ok (.iload 4, 2) := by decide +kernel
theorem dX6_oftenOf_100 : decode cX6_oftenOf 100 = .ok (.ifCond .ne 17, 3) := by decide +kernel
theorem dX6_oftenOf_103 : decode cX6_oftenOf 103 = .ok (.aload_n 0, 1) := by decide +kernel
theorem dX6_oftenOf_104 : decode cX6_oftenOf 104 = .ok (.iconst (-1), 1) := by decide +kernel
theorem dX6_oftenOf_105 : decode cX6_oftenOf 105 = .ok (.invokevirtual 170, 3) := by decide +kernel
theorem dX6_oftenOf_108 : decode cX6_oftenOf 108 = .ok (.aload_n 0, 1) := by decide +kernel
theorem dX6_oftenOf_109 : decode cX6_oftenOf 109 = .ok (.iconst 0, 1) := by decide +kernel
theorem dX6_oftenOf_110 : decode cX6_oftenOf 110 = .ok (.invokevirtual 170, 3) := by decide +kernel
theorem dX6_oftenOf_113 : decode cX6_oftenOf 113 = .ok (.iadd, 1) := by decide +kernel
theorem dX6_oftenOf_114 : decode cX6_oftenOf 114 = .ok (.goto 18, 3) := by decide +kernel
theorem dX6_oftenOf_117 : decode cX6_oftenOf 117 = .ok (.iload 4, 2) := by decide +kernel
theorem dX6_oftenOf_119 : decode cX6_oftenOf 119 = .ok (.iconst 1, 1) := by decide +kernel
theorem dX6_oftenOf_120 : decode cX6_oftenOf 120 = .ok (.if_icmp .ne 11, 3) := by decide +kernel
theorem dX6_oftenOf_123 : decode cX6_oftenOf 123 = .ok (.aload_n 0, 1) := by decide +kernel
theorem dX6_oftenOf_124 : decode cX6_oftenOf 124 = .ok (.iconst 1, 1) := by decide +kernel
theorem dX6_oftenOf_125 : decode cX6_oftenOf 125 = .ok (.invokevirtual 170, 3) := by decide +kernel
theorem dX6_oftenOf_128 : decode cX6_oftenOf 128 = .ok (.goto 4, 3) := by decide +kernel
theorem dX6_oftenOf_131 : decode cX6_oftenOf 131 = .ok (.iconst 0, 1) := by decide +kernel
theorem dX6_oftenOf_132 : decode cX6_oftenOf 132 = .ok (.ireturn, 1) := by decide +kernel
theorem dX6_oftenOf_133 : decode cX6_oftenOf 133 = .ok (.iload 5, 2) := by decide +kernel
theorem dX6_oftenOf_135 : decode cX6_oftenOf 135 = .ok (.ifCond .eq 14, 3) := by decide +kernel
theorem dX6_oftenOf_138 : decode cX6_oftenOf 138 = .ok (.iload 5, 2) := by decide +kernel
theorem dX6_oftenOf_140 : decode cX6_oftenOf 140 = .ok (.iconst 2, 1) := by decide +kernel
theorem dX6_oftenOf_141 : decode cX6_oftenOf 141 = .ok (.if_icmp .ne 17, 3) := by decide +kernel
theorem dX6_oftenOf_144 : decode cX6_oftenOf 144 = .ok (.iload 8, 2) := by decide +kernel
theorem dX6_oftenOf_146 : decode cX6_oftenOf 146 = .ok (.ifCond .ne 12, 3) := by decide +kernel
theorem dX6_oftenOf_149 : decode cX6_oftenOf 149 = .ok (.aload_n 0, 1) := by decide +kernel
theorem dX6_oftenOf_150 : decode cX6_oftenOf 150 = .ok (.iload 4, 2) := by decide +kernel
theorem dX6_oftenOf_152 : decode cX6_oftenOf 152 = .ok (.invokevirtual 170, 3) := by decide +kernel
theorem dX6_oftenOf_155 : decode cX6_oftenOf 155 = .ok (.goto 48, 3) := by decide +kernel
theorem dX6_oftenOf_158 : decode cX6_oftenOf 158 = .ok (.iload 5, 2) := by decide +kernel
theorem dX6_oftenOf_160 : decode cX6_oftenOf 160 = .ok (.iconst 1, 1) := by decide +kernel
theorem dX6_oftenOf_161 : decode cX6_oftenOf 161 = .ok (.if_icmp .ne 15, 3) := by decide +kernel
theorem dX6_oftenOf_164 : decode cX6_oftenOf 164 = .ok (.aload_n 0, 1) := by decide +kernel
theorem dX6_oftenOf_165 : decode cX6_oftenOf 165 = .ok (.iload 4, 2) := by decide +kernel
theorem dX6_oftenOf_167 : decode cX6_oftenOf 167 = .ok (.iload 6, 2) := by decide +kernel
theorem dX6_oftenOf_169 : decode cX6_oftenOf 169 = .ok (.isub, 1) := by decide +kernel
theorem dX6_oftenOf_170 : decode cX6_oftenOf 170 = .ok (.invokevirtual 170, 3) := by decide +kernel
theorem dX6_oftenOf_173 : decode cX6_oftenOf 173 = .ok (.goto 30, 3) := by decide +kernel
theorem dX6_oftenOf_176 : decode cX6_oftenOf 176 = .ok (.aload_n 0, 1) := by decide +kernel
theorem dX6_oftenOf_177 : decode cX6_oftenOf 177 = .ok (.iload 4, 2) := by decide +kernel
theorem dX6_oftenOf_179 : decode cX6_oftenOf 179 = .ok (.iload 6, 2) := by decide +kernel
theorem dX6_oftenOf_181 : decode cX6_oftenOf 181 = .ok (.isub, 1) := by decide +kernel
theorem dX6_oftenOf_182 : decode cX6_oftenOf 182 = .ok (.invokevirtual 170, 3) := by decide +kernel
theorem dX6_oftenOf_185 : decode cX6_oftenOf 185 = .ok (.iload 7, 2) := by decide +kernel
theorem dX6_oftenOf_187 : decode cX6_oftenOf 187 = .ok (.idiv, 1) := by decide +kernel
theorem dX6_oftenOf_188 : decode cX6_oftenOf 188 = .ok (.aload_n 0, 1) := by decide +kernel
theorem dX6_oftenOf_189 : decode cX6_oftenOf 189 = .ok (.iload 4, 2) := by decide +kernel
theorem dX6_oftenOf_191 : decode cX6_oftenOf 191 = .ok (.invokevirtual 170, 3) := by decide +kernel
theorem dX6_oftenOf_194 : decode cX6_oftenOf 194 = .ok (.iload 7, 2) := by decide +kernel
theorem dX6_oftenOf_196 : decode cX6_oftenOf 196 = .ok (.idiv, 1) := by decide +kernel
theorem dX6_oftenOf_197 : decode cX6_oftenOf 197 = .ok (.iload 7, 2) := by decide +kernel
theorem dX6_oftenOf_199 : decode cX6_oftenOf 199 = .ok (.iconst 1, 1) := by decide +kernel
theorem dX6_oftenOf_200 : decode cX6_oftenOf 200 = .ok (.isub, 1) := by decide +kernel
theorem dX6_oftenOf_201 : decode cX6_oftenOf 201 = .ok (.imul, 1) := by decide +kernel
theorem dX6_oftenOf_202 : decode cX6_oftenOf 202 = .ok (.iadd, 1) := by decide +kernel
theorem dX6_oftenOf_203 : decode cX6_oftenOf 203 = .ok (.ireturn, 1) := by decide +kernel
set_option maxRecDepth 20000 in
theorem ggX6_often_X6_isWay : GoodIn wsX6_often wsX6_isWay := goodIn_r _ [6, 7, 8, 9, 5, 10, 30, 31, 32, 33, 34, 35, 36, 37, 38, 39, 40, 41, 42, 43, 44, 45, 46, 47, 48, 49, 50, 51, 52, 53, 54, 55, 56, 57, 58] (by decide +kernel) (by decide +kernel)
set_option maxRecDepth 20000 in
theorem gX6_often_X6_isWay : GoodIn wsX6_often (wsV RX6 167 RX6 yX6_isWay wsX6_isWay) := goodIn_app (goodIn_of _ (by decide +kernel)) ggX6_often_X6_isWay
set_option maxRecDepth 20000 in
theorem ggX6_often_X6_isStall : GoodIn wsX6_often wsX6_isStall := goodIn_r _ [14, 15, 8, 9, 5, 10, 30, 31, 32, 33, 34, 35, 36, 37, 38, 39, 40, 41, 42, 43, 44, 45, 46, 47, 48, 49, 50, 51, 52, 53, 54, 55, 56, 57, 58] (by decide +kernel) (by decide +kernel)
set_option maxRecDepth 20000 in
theorem gX6_often_X6_isStall : GoodIn wsX6_often (wsV RX6 158 RX6 yX6_isStall wsX6_isStall) := goodIn_app (goodIn_of _ (by decide +kernel)) ggX6_often_X6_isStall
set_option maxRecDepth 20000 in
theorem ggX6_often_X6_isSort : GoodIn wsX6_often wsX6_isSort := goodIn_r _ [18, 8, 9, 5, 10] (by decide +kernel) (by decide +kernel)
set_option maxRecDepth 20000 in
theorem gX6_often_X6_isSort : GoodIn wsX6_often (va_wsS RX6 173 yX6_isSort wsX6_isSort) := goodIn_app (goodIn_of _ (by decide +kernel)) ggX6_often_X6_isSort
set_option maxRecDepth 20000 in
theorem ggX6_often_X6_oftenOf : GoodIn wsX6_often wsX6_oftenOf := goodIn_r _ [22, 23, 24, 8, 9, 5, 10, 25, 26, 27, 28, 29, 30, 31, 32, 33, 34, 35, 36, 37, 38, 39, 40, 41, 42, 43, 44, 45, 46, 47, 48, 49, 50, 51, 52, 53, 54, 55, 56, 57, 58] (by decide +kernel) (by decide +kernel)
set_option maxRecDepth 20000 in
theorem gX6_often_X6_oftenOf : GoodIn wsX6_often (wsV RX6 176 RX6 yX6_oftenOf wsX6_oftenOf) := goodIn_app (goodIn_of _ (by decide +kernel)) ggX6_often_X6_oftenOf
theorem dX6_often_0 : decode cX6_often 0 = .ok (.aload_n 0, 1) := by decide +kernel
theorem dX6_often_1 : decode cX6_often 1 = .ok (.iconst 0, 1) := by decide +kernel
theorem dX6_often_2 : decode cX6_often 2 = .ok (.putfield 54, 3) := by decide +kernel
theorem dX6_often_5 : decode cX6_often 5 = .ok (.aload_n 0, 1) := by decide +kernel
theorem dX6_often_6 : decode cX6_often 6 = .ok (.iload_n 1, 1) := by decide +kernel
theorem dX6_often_7 : decode cX6_often 7 = .ok (.invokevirtual 167, 3) := by decide +kernel
theorem dX6_often_10 : decode cX6_often 10 = .ok (.ifCond .eq 30, 3) := by decide +kernel
theorem dX6_often_13 : decode cX6_often 13 = .ok (.aload_n 0, 1) := by decide +kernel
theorem dX6_often_14 : decode cX6_often 14 = .ok (.iload_n 2, 1) := by decide +kernel
theorem dX6_often_15 : decode cX6_often 15 = .ok (.invokevirtual 158, 3) := by decide +kernel
theorem dX6_often_18 : decode cX6_often 18 = .ok (.ifCond .eq 22, 3) := by decide +kernel
theorem dX6_often_21 : decode cX6_often 21 = .ok (.iload_n 3, 1) := by decide +kernel
theorem dX6_often_22 : decode cX6_often 22 = .ok (.invokestatic 173, 3) := by decide +kernel
theorem dX6_often_25 : decode cX6_often 25 = .ok (.ifCond .eq 15, 3) := by decide +kernel
theorem dX6_often_28 : decode cX6_often 28 = .ok (.aload_n 0, 1) := by decide +kernel
theorem dX6_often_29 : decode cX6_often 29 = .ok (.iload_n 1, 1) := by decide +kernel
theorem dX6_often_30 : decode cX6_often 30 = .ok (.iload_n 2, 1) := by decide +kernel
theorem dX6_often_31 : decode cX6_often 31 = .ok (.iload_n 3, 1) := by decide +kernel
theorem dX6_often_32 : decode cX6_often 32 = .ok (.iload 4, 2) := by decide +kernel
theorem dX6_often_34 : decode cX6_often 34 = .ok (.invokevirtual 176, 3) := by decide +kernel
theorem dX6_often_37 : decode cX6_often 37 = .ok (.goto 4, 3) := by decide +kernel
theorem dX6_often_40 : decode cX6_often 40 = .ok (.iconst (-1), 1) := by decide +kernel
theorem dX6_often_41 : decode cX6_often 41 = .ok (.ireturn, 1) := by decide +kernel
theorem dX6_bag_0 : decode cX6_bag 0 = .ok (.aload_n 0, 1) := by decide +kernel
theorem dX6_bag_1 : decode cX6_bag 1 = .ok (.getfield 7, 3) := by decide +kernel
theorem dX6_bag_4 : decode cX6_bag 4 = .ok (.iconst 1, 1) := by decide +kernel
theorem dX6_bag_5 : decode cX6_bag 5 = .ok (.bipush 6, 2) := by decide +kernel
theorem dX6_bag_7 : decode cX6_bag 7 = .ok (.iload_n 1, 1) := by decide +kernel
theorem dX6_bag_8 : decode cX6_bag 8 = .ok (.imul, 1) := by decide +kernel
theorem dX6_bag_9 : decode cX6_bag 9 = .ok (.iadd, 1) := by decide +kernel
theorem dX6_bag_10 : decode cX6_bag 10 = .ok (.iload_n 2, 1) := by decide +kernel
theorem dX6_bag_11 : decode cX6_bag 11 = .ok (.iadd, 1) := by decide +kernel
theorem dX6_bag_12 : decode cX6_bag 12 = .ok (.iaload, 1) := by decide +kernel
theorem dX6_bag_13 : decode cX6_bag 13 = .ok (.ireturn, 1) := by decide +kernel
set_option maxRecDepth 20000 in
theorem ggX6_bag__X6_isStall : GoodIn wsX6_bag_ wsX6_isStall := goodIn_r _ [7, 8, 9, 10, 6, 11, 15, 16, 17, 18, 19, 20, 21, 22, 23, 24, 25, 26, 27, 28, 29, 30, 31, 32, 33, 34, 35, 36, 37, 38, 39, 40, 41, 42, 43] (by decide +kernel) (by decide +kernel)
set_option maxRecDepth 20000 in
theorem gX6_bag__X6_isStall : GoodIn wsX6_bag_ (wsV RX6 158 RX6 yX6_isStall wsX6_isStall) := goodIn_app (goodIn_of _ (by decide +kernel)) ggX6_bag__X6_isStall
set_option maxRecDepth 20000 in
theorem ggX6_bag__X6_in : GoodIn wsX6_bag_ wsX6_in := goodIn_r _ [11] (by decide +kernel) (by decide +kernel)
set_option maxRecDepth 20000 in
theorem gX6_bag__X6_in : GoodIn wsX6_bag_ (va_wsS RX6 61 yX6_in wsX6_in) := goodIn_app (goodIn_of _ (by decide +kernel)) ggX6_bag__X6_in
set_option maxRecDepth 20000 in
theorem ggX6_bag__X6_isSort : GoodIn wsX6_bag_ wsX6_isSort := goodIn_r _ [14, 9, 10, 6, 11] (by decide +kernel) (by decide +kernel)
set_option maxRecDepth 20000 in
theorem gX6_bag__X6_isSort : GoodIn wsX6_bag_ (va_wsS RX6 173 yX6_isSort wsX6_isSort) := goodIn_app (goodIn_of _ (by decide +kernel)) ggX6_bag__X6_isSort
theorem dX6_bag__0 : decode cX6_bag_ 0 = .ok (.aload_n 0, 1) := by decide +kernel
theorem dX6_bag__1 : decode cX6_bag_ 1 = .ok (.iconst 0, 1) := by decide +kernel
theorem dX6_bag__2 : decode cX6_bag_ 2 = .ok (.putfield 54, 3) := by decide +kernel
theorem dX6_bag__5 : decode cX6_bag_ 5 = .ok (.aload_n 0, 1) := by decide +kernel
theorem dX6_bag__6 : decode cX6_bag_ 6 = .ok (.iload_n 1, 1) := by decide +kernel
theorem dX6_bag__7 : decode cX6_bag_ 7 = .ok (.invokevirtual 158, 3) := by decide +kernel
theorem dX6_bag__10 : decode cX6_bag_ 10 = .ok (.ifCond .eq 55, 3) := by decide +kernel
theorem dX6_bag__13 : decode cX6_bag_ 13 = .ok (.iload_n 2, 1) := by decide +kernel
theorem dX6_bag__14 : decode cX6_bag_ 14 = .ok (.iconst 0, 1) := by decide +kernel
theorem dX6_bag__15 : decode cX6_bag_ 15 = .ok (.bipush 11, 2) := by decide +kernel
theorem dX6_bag__17 : decode cX6_bag_ 17 = .ok (.invokestatic 61, 3) := by decide +kernel
theorem dX6_bag__20 : decode cX6_bag_ 20 = .ok (.ifCond .eq 45, 3) := by decide +kernel
theorem dX6_bag__23 : decode cX6_bag_ 23 = .ok (.iload_n 3, 1) := by decide +kernel
theorem dX6_bag__24 : decode cX6_bag_ 24 = .ok (.invokestatic 173, 3) := by decide +kernel
theorem dX6_bag__27 : decode cX6_bag_ 27 = .ok (.ifCond .eq 38, 3) := by decide +kernel
theorem dX6_bag__30 : decode cX6_bag_ 30 = .ok (.iload 4, 2) := by decide +kernel
theorem dX6_bag__32 : decode cX6_bag_ 32 = .ok (.iconst 1, 1) := by decide +kernel
theorem dX6_bag__33 : decode cX6_bag_ 33 = .ok (.sipush 999, 3) := by decide +kernel
theorem dX6_bag__36 : decode cX6_bag_ 36 = .ok (.invokestatic 61, 3) := by decide +kernel
theorem dX6_bag__39 : decode cX6_bag_ 39 = .ok (.ifCond .eq 26, 3) := by decide +kernel
theorem dX6_bag__42 : decode cX6_bag_ 42 = .ok (.iload 5, 2) := by decide +kernel
theorem dX6_bag__44 : decode cX6_bag_ 44 = .ok (.iconst 0, 1) := by decide +kernel
theorem dX6_bag__45 : decode cX6_bag_ 45 = .ok (.sipush 999, 3) := by decide +kernel
theorem dX6_bag__48 : decode cX6_bag_ 48 = .ok (.invokestatic 61, 3) := by decide +kernel
theorem dX6_bag__51 : decode cX6_bag_ 51 = .ok (.ifCond .eq 14, 3) := by decide +kernel
theorem dX6_bag__54 : decode cX6_bag_ 54 = .ok (.iload 6, 2) := by decide +kernel
theorem dX6_bag__56 : decode cX6_bag_ 56 = .ok (.iconst 0, 1) := by decide +kernel
theorem dX6_bag__57 : decode cX6_bag_ 57 = .ok (.bipush 99, 2) := by decide +kernel
theorem dX6_bag__59 : decode cX6_bag_ 59 = .ok (.invokestatic 61, 3) := by decide +kernel
theorem dX6_bag__62 : decode cX6_bag_ 62 = .ok (.ifCond .ne 5, 3) := by decide +kernel
theorem dX6_bag__65 : decode cX6_bag_ 65 = .ok (.iconst (-1), 1) := by decide +kernel
theorem dX6_bag__66 : decode cX6_bag_ 66 = .ok (.ireturn, 1) := by decide +kernel
theorem dX6_bag__67 : decode cX6_bag_ 67 = .ok (.aload_n 0, 1) := by decide +kernel
theorem dX6_bag__68 : decode cX6_bag_ 68 = .ok (.getfield 7, 3) := by decide +kernel
theorem dX6_bag__71 : decode cX6_bag_ 71 = .ok (.iconst 0, 1) := by decide +kernel
theorem dX6_bag__72 : decode cX6_bag_ 72 = .ok (.iaload, 1) := by decide +kernel
theorem dX6_bag__73 : decode cX6_bag_ 73 = .ok (.bipush 30, 2) := by decide +kernel
theorem dX6_bag__75 : decode cX6_bag_ 75 = .ok (.if_icmp .ne 6, 3) := by decide +kernel
theorem dX6_bag__78 : decode cX6_bag_ 78 = .ok (.bipush (-3), 2) := by decide +kernel
theorem dX6_bag__80 : decode cX6_bag_ 80 = .ok (.ireturn, 1) := by decide +kernel
theorem dX6_bag__81 : decode cX6_bag_ 81 = .ok (.iconst 1, 1) := by decide +kernel
theorem dX6_bag__82 : decode cX6_bag_ 82 = .ok (.bipush 6, 2) := by decide +kernel
theorem dX6_bag__84 : decode cX6_bag_ 84 = .ok (.aload_n 0, 1) := by decide +kernel
theorem dX6_bag__85 : decode cX6_bag_ 85 = .ok (.getfield 7, 3) := by decide +kernel
theorem dX6_bag__88 : decode cX6_bag_ 88 = .ok (.iconst 0, 1) := by decide +kernel
theorem dX6_bag__89 : decode cX6_bag_ 89 = .ok (.iaload, 1) := by decide +kernel
theorem dX6_bag__90 : decode cX6_bag_ 90 = .ok (.imul, 1) := by decide +kernel
theorem dX6_bag__91 : decode cX6_bag_ 91 = .ok (.iadd, 1) := by decide +kernel
theorem dX6_bag__92 : decode cX6_bag_ 92 = .ok (.istore 7, 2) := by decide +kernel
theorem dX6_bag__94 : decode cX6_bag_ 94 = .ok (.aload_n 0, 1) := by decide +kernel
theorem dX6_bag__95 : decode cX6_bag_ 95 = .ok (.getfield 7, 3) := by decide +kernel
theorem dX6_bag__98 : decode cX6_bag_ 98 = .ok (.iload 7, 2) := by decide +kernel
theorem dX6_bag__100 : decode cX6_bag_ 100 = .ok (.iload_n 1, 1) := by decide +kernel
theorem dX6_bag__101 : decode cX6_bag_ 101 = .ok (.iastore, 1) := by decide +kernel
theorem dX6_bag__102 : decode cX6_bag_ 102 = .ok (.aload_n 0, 1) := by decide +kernel
theorem dX6_bag__103 : decode cX6_bag_ 103 = .ok (.getfield 7, 3) := by decide +kernel
theorem dX6_bag__106 : decode cX6_bag_ 106 = .ok (.iload 7, 2) := by decide +kernel
theorem dX6_bag__108 : decode cX6_bag_ 108 = .ok (.iconst 1, 1) := by decide +kernel
theorem dX6_bag__109 : decode cX6_bag_ 109 = .ok (.iadd, 1) := by decide +kernel
theorem dX6_bag__110 : decode cX6_bag_ 110 = .ok (.iload_n 2, 1) := by decide +kernel
theorem dX6_bag__111 : decode cX6_bag_ 111 = .ok (.iastore, 1) := by decide +kernel
theorem dX6_bag__112 : decode cX6_bag_ 112 = .ok (.aload_n 0, 1) := by decide +kernel
theorem dX6_bag__113 : decode cX6_bag_ 113 = .ok (.getfield 7, 3) := by decide +kernel
theorem dX6_bag__116 : decode cX6_bag_ 116 = .ok (.iload 7, 2) := by decide +kernel
theorem dX6_bag__118 : decode cX6_bag_ 118 = .ok (.iconst 2, 1) := by decide +kernel
theorem dX6_bag__119 : decode cX6_bag_ 119 = .ok (.iadd, 1) := by decide +kernel
theorem dX6_bag__120 : decode cX6_bag_ 120 = .ok (.iload_n 3, 1) := by decide +kernel
theorem dX6_bag__121 : decode cX6_bag_ 121 = .ok (.iastore, 1) := by decide +kernel
theorem dX6_bag__122 : decode cX6_bag_ 122 = .ok (.aload_n 0, 1) := by decide +kernel
theorem dX6_bag__123 : decode cX6_bag_ 123 = .ok (.getfield 7, 3) := by decide +kernel
theorem dX6_bag__126 : decode cX6_bag_ 126 = .ok (.iload 7, 2) := by decide +kernel
theorem dX6_bag__128 : decode cX6_bag_ 128 = .ok (.iconst 3, 1) := by decide +kernel
theorem dX6_bag__129 : decode cX6_bag_ 129 = .ok (.iadd, 1) := by decide +kernel
theorem dX6_bag__130 : decode cX6_bag_ 130 = .ok (.iload 4, 2) := by decide +kernel
theorem dX6_bag__132 : decode cX6_bag_ 132 = .ok (.iastore, 1) := by decide +kernel
theorem dX6_bag__133 : decode cX6_bag_ 133 = .ok (.aload_n 0, 1) := by decide +kernel
theorem dX6_bag__134 : decode cX6_bag_ 134 = .ok (.getfield 7, 3) := by decide +kernel
theorem dX6_bag__137 : decode cX6_bag_ 137 = .ok (.iload 7, 2) := by decide +kernel
theorem dX6_bag__139 : decode cX6_bag_ 139 = .ok (.iconst 4, 1) := by decide +kernel
theorem dX6_bag__140 : decode cX6_bag_ 140 = .ok (.iadd, 1) := by decide +kernel
theorem dX6_bag__141 : decode cX6_bag_ 141 = .ok (.iload 5, 2) := by decide +kernel
theorem dX6_bag__143 : decode cX6_bag_ 143 = .ok (.iastore, 1) := by decide +kernel
theorem dX6_bag__144 : decode cX6_bag_ 144 = .ok (.aload_n 0, 1) := by decide +kernel
theorem dX6_bag__145 : decode cX6_bag_ 145 = .ok (.getfield 7, 3) := by decide +kernel
theorem dX6_bag__148 : decode cX6_bag_ 148 = .ok (.iload 7, 2) := by decide +kernel
theorem dX6_bag__150 : decode cX6_bag_ 150 = .ok (.iconst 5, 1) := by decide +kernel
theorem dX6_bag__151 : decode cX6_bag_ 151 = .ok (.iadd, 1) := by decide +kernel
theorem dX6_bag__152 : decode cX6_bag_ 152 = .ok (.iload 6, 2) := by decide +kernel
theorem dX6_bag__154 : decode cX6_bag_ 154 = .ok (.iastore, 1) := by decide +kernel
theorem dX6_bag__155 : decode cX6_bag_ 155 = .ok (.aload_n 0, 1) := by decide +kernel
theorem dX6_bag__156 : decode cX6_bag_ 156 = .ok (.getfield 7, 3) := by decide +kernel
theorem dX6_bag__159 : decode cX6_bag_ 159 = .ok (.iconst 0, 1) := by decide +kernel
theorem dX6_bag__160 : decode cX6_bag_ 160 = .ok (.dup2, 1) := by decide +kernel
theorem dX6_bag__161 : decode cX6_bag_ 161 = .ok (.iaload, 1) := by decide +kernel
theorem dX6_bag__162 : decode cX6_bag_ 162 = .ok (.iconst 1, 1) := by decide +kernel
theorem dX6_bag__163 : decode cX6_bag_ 163 = .ok (.iadd, 1) := by decide +kernel
theorem dX6_bag__164 : decode cX6_bag_ 164 = .ok (.iastore, 1) := by decide +kernel
theorem dX6_bag__165 : decode cX6_bag_ 165 = .ok (.aload_n 0, 1) := by decide +kernel
theorem dX6_bag__166 : decode cX6_bag_ 166 = .ok (.getfield 7, 3) := by decide +kernel
theorem dX6_bag__169 : decode cX6_bag_ 169 = .ok (.iconst 0, 1) := by decide +kernel
theorem dX6_bag__170 : decode cX6_bag_ 170 = .ok (.iaload, 1) := by decide +kernel
theorem dX6_bag__171 : decode cX6_bag_ 171 = .ok (.iconst 1, 1) := by decide +kernel
theorem dX6_bag__172 : decode cX6_bag_ 172 = .ok (.isub, 1) := by decide +kernel
theorem dX6_bag__173 : decode cX6_bag_ 173 = .ok (.ireturn, 1) := by decide +kernel
set_option maxRecDepth 20000 in
theorem ggX6_shortOf_X6_bag : GoodIn wsX6_shortOf wsX6_bag := goodIn_r _ [6, 7, 8, 9, 10, 11, 12, 13, 14, 15, 16, 17, 18, 19, 20, 21, 22, 23, 24, 25, 26, 27, 28, 29, 30, 31, 32, 33, 34, 35, 36] (by decide +kernel) (by decide +kernel)
set_option maxRecDepth 20000 in
theorem gX6_shortOf_X6_bag : GoodIn wsX6_shortOf (wsV RX6 155 RX6 yX6_bag wsX6_bag) := goodIn_app (goodIn_of _ (by decide +kernel)) ggX6_shortOf_X6_bag
theorem dX6_shortOf_0 : decode cX6_shortOf 0 = .ok (.aload_n 0, 1) := by decide +kernel
theorem dX6_shortOf_1 : decode cX6_shortOf 1 = .ok (.iload_n 1, 1) := by decide +kernel
theorem dX6_shortOf_2 : decode cX6_shortOf 2 = .ok (.iconst 3, 1) := by decide +kernel
theorem dX6_shortOf_3 : decode cX6_shortOf 3 = .ok (.invokevirtual 155, 3) := by decide +kernel
theorem dX6_shortOf_6 : decode cX6_shortOf 6 = .ok (.aload_n 0, 1) := by decide +kernel
theorem dX6_shortOf_7 : decode cX6_shortOf 7 = .ok (.iload_n 1, 1) := by decide +kernel
theorem dX6_shortOf_8 : decode cX6_shortOf 8 = .ok (.iconst 4, 1) := by decide +kernel
theorem dX6_shortOf_9 : decode cX6_shortOf 9 = .ok (.invokevirtual 155, 3) := by decide +kernel
theorem dX6_shortOf_12 : decode cX6_shortOf 12 = .ok (.isub, 1) := by decide +kernel
theorem dX6_shortOf_13 : decode cX6_shortOf 13 = .ok (.aload_n 0, 1) := by decide +kernel
theorem dX6_shortOf_14 : decode cX6_shortOf 14 = .ok (.getfield 30, 3) := by decide +kernel
theorem dX6_shortOf_17 : decode cX6_shortOf 17 = .ok (.iconst 3, 1) := by decide +kernel
theorem dX6_shortOf_18 : decode cX6_shortOf 18 = .ok (.aload_n 0, 1) := by decide +kernel
theorem dX6_shortOf_19 : decode cX6_shortOf 19 = .ok (.iload_n 1, 1) := by decide +kernel
theorem dX6_shortOf_20 : decode cX6_shortOf 20 = .ok (.iconst 0, 1) := by decide +kernel
theorem dX6_shortOf_21 : decode cX6_shortOf 21 = .ok (.invokevirtual 155, 3) := by decide +kernel
theorem dX6_shortOf_24 : decode cX6_shortOf 24 = .ok (.imul, 1) := by decide +kernel
theorem dX6_shortOf_25 : decode cX6_shortOf 25 = .ok (.iconst 1, 1) := by decide +kernel
theorem dX6_shortOf_26 : decode cX6_shortOf 26 = .ok (.iadd, 1) := by decide +kernel
theorem dX6_shortOf_27 : decode cX6_shortOf 27 = .ok (.iaload, 1) := by decide +kernel
theorem dX6_shortOf_28 : decode cX6_shortOf 28 = .ok (.aload_n 0, 1) := by decide +kernel
theorem dX6_shortOf_29 : decode cX6_shortOf 29 = .ok (.iload_n 1, 1) := by decide +kernel
theorem dX6_shortOf_30 : decode cX6_shortOf 30 = .ok (.iconst 5, 1) := by decide +kernel
theorem dX6_shortOf_31 : decode cX6_shortOf 31 = .ok (.invokevirtual 155, 3) := by decide +kernel
theorem dX6_shortOf_34 : decode cX6_shortOf 34 = .ok (.imul, 1) := by decide +kernel
theorem dX6_shortOf_35 : decode cX6_shortOf 35 = .ok (.bipush 10, 2) := by decide +kernel
theorem dX6_shortOf_37 : decode cX6_shortOf 37 = .ok (.idiv, 1) := by decide +kernel
theorem dX6_shortOf_38 : decode cX6_shortOf 38 = .ok (.isub, 1) := by decide +kernel
theorem dX6_shortOf_39 : decode cX6_shortOf 39 = .ok (.ireturn, 1) := by decide +kernel
set_option maxRecDepth 20000 in
theorem ggX6_stepsOf_X6_bag : GoodIn wsX6_stepsOf wsX6_bag := goodIn_r _ [6, 7, 15, 16, 17, 18, 19, 20, 21, 22, 23, 24, 25, 26, 27, 28, 29, 30, 31, 32, 33, 34, 35, 36, 37, 38, 39, 40, 41, 42, 43] (by decide +kernel) (by decide +kernel)
set_option maxRecDepth 20000 in
theorem gX6_stepsOf_X6_bag : GoodIn wsX6_stepsOf (wsV RX6 155 RX6 yX6_bag wsX6_bag) := goodIn_app (goodIn_of _ (by decide +kernel)) ggX6_stepsOf_X6_bag
set_option maxRecDepth 20000 in
theorem ggX6_stepsOf_X6_shortOf : GoodIn wsX6_stepsOf wsX6_shortOf := goodIn_r _ [11, 1, 2, 3, 4, 5, 6, 7, 15, 16, 17, 18, 19, 20, 21, 22, 23, 24, 25, 26, 27, 28, 29, 30, 31, 32, 33, 34, 35, 36, 37, 38, 39, 40, 41, 42, 43] (by decide +kernel) (by decide +kernel)
set_option maxRecDepth 20000 in
theorem gX6_stepsOf_X6_shortOf : GoodIn wsX6_stepsOf (wsV RX6 180 RX6 yX6_shortOf wsX6_shortOf) := goodIn_app (goodIn_of _ (by decide +kernel)) ggX6_stepsOf_X6_shortOf
set_option maxRecDepth 20000 in
theorem ggX6_stepsOf_X6_floor : GoodIn wsX6_stepsOf wsX6_floor := goodIn_r _ [14] (by decide +kernel) (by decide +kernel)
set_option maxRecDepth 20000 in
theorem gX6_stepsOf_X6_floor : GoodIn wsX6_stepsOf (va_wsS RX6 183 yX6_floor wsX6_floor) := goodIn_app (goodIn_of _ (by decide +kernel)) ggX6_stepsOf_X6_floor
theorem dX6_stepsOf_0 : decode cX6_stepsOf 0 = .ok (.aload_n 0, 1) := by decide +kernel
theorem dX6_stepsOf_1 : decode cX6_stepsOf 1 = .ok (.getfield 30, 3) := by decide +kernel
theorem dX6_stepsOf_4 : decode cX6_stepsOf 4 = .ok (.iconst 3, 1) := by decide +kernel
theorem dX6_stepsOf_5 : decode cX6_stepsOf 5 = .ok (.aload_n 0, 1) := by decide +kernel
theorem dX6_stepsOf_6 : decode cX6_stepsOf 6 = .ok (.iload_n 1, 1) := by decide +kernel
theorem dX6_stepsOf_7 : decode cX6_stepsOf 7 = .ok (.iconst 0, 1) := by decide +kernel
theorem dX6_stepsOf_8 : decode cX6_stepsOf 8 = .ok (.invokevirtual 155, 3) := by decide +kernel
theorem dX6_stepsOf_11 : decode cX6_stepsOf 11 = .ok (.imul, 1) := by decide +kernel
theorem dX6_stepsOf_12 : decode cX6_stepsOf 12 = .ok (.iaload, 1) := by decide +kernel
theorem dX6_stepsOf_13 : decode cX6_stepsOf 13 = .ok (.istore_n 2, 1) := by decide +kernel
theorem dX6_stepsOf_14 : decode cX6_stepsOf 14 = .ok (.iconst 2, 1) := by decide +kernel
theorem dX6_stepsOf_15 : decode cX6_stepsOf 15 = .ok (.aload_n 0, 1) := by decide +kernel
theorem dX6_stepsOf_16 : decode cX6_stepsOf 16 = .ok (.iload_n 1, 1) := by decide +kernel
theorem dX6_stepsOf_17 : decode cX6_stepsOf 17 = .ok (.invokevirtual 180, 3) := by decide +kernel
theorem dX6_stepsOf_20 : decode cX6_stepsOf 20 = .ok (.imul, 1) := by decide +kernel
theorem dX6_stepsOf_21 : decode cX6_stepsOf 21 = .ok (.iload_n 2, 1) := by decide +kernel
theorem dX6_stepsOf_22 : decode cX6_stepsOf 22 = .ok (.iadd, 1) := by decide +kernel
theorem dX6_stepsOf_23 : decode cX6_stepsOf 23 = .ok (.iconst 2, 1) := by decide +kernel
theorem dX6_stepsOf_24 : decode cX6_stepsOf 24 = .ok (.iload_n 2, 1) := by decide +kernel
theorem dX6_stepsOf_25 : decode cX6_stepsOf 25 = .ok (.imul, 1) := by decide +kernel
theorem dX6_stepsOf_26 : decode cX6_stepsOf 26 = .ok (.invokestatic 183, 3) := by decide +kernel
theorem dX6_stepsOf_29 : decode cX6_stepsOf 29 = .ok (.ireturn, 1) := by decide +kernel
set_option maxRecDepth 20000 in
theorem ggX6_isBag_X6_in : GoodIn wsX6_isBag wsX6_in := goodIn_r _ [5] (by decide +kernel) (by decide +kernel)
set_option maxRecDepth 20000 in
theorem gX6_isBag_X6_in : GoodIn wsX6_isBag (va_wsS RX6 61 yX6_in wsX6_in) := goodIn_app (goodIn_of _ (by decide +kernel)) ggX6_isBag_X6_in
theorem dX6_isBag_0 : decode cX6_isBag 0 = .ok (.iload_n 1, 1) := by decide +kernel
theorem dX6_isBag_1 : decode cX6_isBag 1 = .ok (.iconst 0, 1) := by decide +kernel
theorem dX6_isBag_2 : decode cX6_isBag 2 = .ok (.aload_n 0, 1) := by decide +kernel
theorem dX6_isBag_3 : decode cX6_isBag 3 = .ok (.getfield 7, 3) := by decide +kernel
theorem dX6_isBag_6 : decode cX6_isBag 6 = .ok (.iconst 0, 1) := by decide +kernel
theorem dX6_isBag_7 : decode cX6_isBag 7 = .ok (.iaload, 1) := by decide +kernel
theorem dX6_isBag_8 : decode cX6_isBag 8 = .ok (.iconst 1, 1) := by decide +kernel
theorem dX6_isBag_9 : decode cX6_isBag 9 = .ok (.isub, 1) := by decide +kernel
theorem dX6_isBag_10 : decode cX6_isBag 10 = .ok (.invokestatic 61, 3) := by decide +kernel
theorem dX6_isBag_13 : decode cX6_isBag 13 = .ok (.ireturn, 1) := by decide +kernel
set_option maxRecDepth 20000 in
theorem ggX6_about_X6_isBag : GoodIn wsX6_about wsX6_isBag := goodIn_r _ [7, 8, 9, 10, 6, 11, 28, 29, 30, 31, 32, 33, 34, 35, 36, 37, 38, 39, 40, 41, 42, 43, 44, 45, 46, 47, 48, 49, 50, 51, 52, 53, 54, 55, 56] (by decide +kernel) (by decide +kernel)
set_option maxRecDepth 20000 in
theorem gX6_about_X6_isBag : GoodIn wsX6_about (wsV RX6 186 RX6 yX6_isBag wsX6_isBag) := goodIn_app (goodIn_of _ (by decide +kernel)) ggX6_about_X6_isBag
set_option maxRecDepth 20000 in
theorem ggX6_about_X6_in : GoodIn wsX6_about wsX6_in := goodIn_r _ [11] (by decide +kernel) (by decide +kernel)
set_option maxRecDepth 20000 in
theorem gX6_about_X6_in : GoodIn wsX6_about (va_wsS RX6 61 yX6_in wsX6_in) := goodIn_app (goodIn_of _ (by decide +kernel)) ggX6_about_X6_in
set_option maxRecDepth 20000 in
theorem ggX6_about_X6_bag : GoodIn wsX6_about wsX6_bag := goodIn_r _ [15, 8, 28, 29, 30, 31, 32, 33, 34, 35, 36, 37, 38, 39, 40, 41, 42, 43, 44, 45, 46, 47, 48, 49, 50, 51, 52, 53, 54, 55, 56] (by decide +kernel) (by decide +kernel)
set_option maxRecDepth 20000 in
theorem gX6_about_X6_bag : GoodIn wsX6_about (wsV RX6 155 RX6 yX6_bag wsX6_bag) := goodIn_app (goodIn_of _ (by decide +kernel)) ggX6_about_X6_bag
set_option maxRecDepth 20000 in
theorem ggX6_about_X6_shortOf : GoodIn wsX6_about wsX6_shortOf := goodIn_r _ [19, 20, 12, 13, 14, 6, 15, 8, 28, 29, 30, 31, 32, 33, 34, 35, 36, 37, 38, 39, 40, 41, 42, 43, 44, 45, 46, 47, 48, 49, 50, 51, 52, 53, 54, 55, 56] (by decide +kernel) (by decide +kernel)
set_option maxRecDepth 20000 in
theorem gX6_about_X6_shortOf : GoodIn wsX6_about (wsV RX6 180 RX6 yX6_shortOf wsX6_shortOf) := goodIn_app (goodIn_of _ (by decide +kernel)) ggX6_about_X6_shortOf
set_option maxRecDepth 20000 in
theorem ggX6_about_X6_stepsOf : GoodIn wsX6_about wsX6_stepsOf := goodIn_r _ [24, 20, 12, 13, 14, 6, 15, 8, 16, 17, 18, 19, 25, 26, 27, 28, 29, 30, 31, 32, 33, 34, 35, 36, 37, 38, 39, 40, 41, 42, 43, 44, 45, 46, 47, 48, 49, 50, 51, 52, 53, 54, 55, 56] (by decide +kernel) (by decide +kernel)
set_option maxRecDepth 20000 in
theorem gX6_about_X6_stepsOf : GoodIn wsX6_about (wsV RX6 191 RX6 yX6_stepsOf wsX6_stepsOf) := goodIn_app (goodIn_of _ (by decide +kernel)) ggX6_about_X6_stepsOf
theorem dX6_about_0 : decode cX6_about 0 = .ok (.aload_n 0, 1) := by decide +kernel
theorem dX6_about_1 : decode cX6_about 1 = .ok (.iconst 0, 1) := by decide +kernel
theorem dX6_about_2 : decode cX6_about 2 = .ok (.putfield 54, 3) := by decide +kernel
theorem dX6_about_5 : decode cX6_about 5 = .ok (.aload_n 0, 1) := by decide +kernel
theorem dX6_about_6 : decode cX6_about 6 = .ok (.iload_n 1, 1) := by decide +kernel
theorem dX6_about_7 : decode cX6_about 7 = .ok (.invokevirtual 186, 3) := by decide +kernel
theorem dX6_about_10 : decode cX6_about 10 = .ok (.ifCond .eq 12, 3) := by decide +kernel
theorem dX6_about_13 : decode cX6_about 13 = .ok (.iload_n 2, 1) := by decide +kernel
theorem dX6_about_14 : decode cX6_about 14 = .ok (.iconst 0, 1) := by decide +kernel
theorem dX6_about_15 : decode cX6_about 15 = .ok (.iconst 4, 1) := by decide +kernel
theorem dX6_about_16 : decode cX6_about 16 = .ok (.invokestatic 61, 3) := by decide +kernel
theorem dX6_about_19 : decode cX6_about 19 = .ok (.ifCond .ne 9, 3) := by decide +kernel
theorem dX6_about_22 : decode cX6_about 22 = .ok (.ldc2_w 189, 3) := by decide +kernel
theorem dX6_about_25 : decode cX6_about 25 = .ok (.goto 38, 3) := by decide +kernel
theorem dX6_about_28 : decode cX6_about 28 = .ok (.iload_n 2, 1) := by decide +kernel
theorem dX6_about_29 : decode cX6_about 29 = .ok (.iconst 3, 1) := by decide +kernel
theorem dX6_about_30 : decode cX6_about 30 = .ok (.if_icmp .ge 13, 3) := by decide +kernel
theorem dX6_about_33 : decode cX6_about 33 = .ok (.aload_n 0, 1) := by decide +kernel
theorem dX6_about_34 : decode cX6_about 34 = .ok (.iload_n 1, 1) := by decide +kernel
theorem dX6_about_35 : decode cX6_about 35 = .ok (.iload_n 2, 1) := by decide +kernel
theorem dX6_about_36 : decode cX6_about 36 = .ok (.invokevirtual 155, 3) := by decide +kernel
theorem dX6_about_39 : decode cX6_about 39 = .ok (.i2l, 1) := by decide +kernel
theorem dX6_about_40 : decode cX6_about 40 = .ok (.goto 23, 3) := by decide +kernel
theorem dX6_about_43 : decode cX6_about 43 = .ok (.iload_n 2, 1) := by decide +kernel
theorem dX6_about_44 : decode cX6_about 44 = .ok (.iconst 3, 1) := by decide +kernel
theorem dX6_about_45 : decode cX6_about 45 = .ok (.if_icmp .ne 12, 3) := by decide +kernel
theorem dX6_about_48 : decode cX6_about 48 = .ok (.aload_n 0, 1) := by decide +kernel
theorem dX6_about_49 : decode cX6_about 49 = .ok (.iload_n 1, 1) := by decide +kernel
theorem dX6_about_50 : decode cX6_about 50 = .ok (.invokevirtual 180, 3) := by decide +kernel
theorem dX6_about_53 : decode cX6_about 53 = .ok (.i2l, 1) := by decide +kernel
theorem dX6_about_54 : decode cX6_about 54 = .ok (.goto 9, 3) := by decide +kernel
theorem dX6_about_57 : decode cX6_about 57 = .ok (.aload_n 0, 1) := by decide +kernel
theorem dX6_about_58 : decode cX6_about 58 = .ok (.iload_n 1, 1) := by decide +kernel
theorem dX6_about_59 : decode cX6_about 59 = .ok (.invokevirtual 191, 3) := by decide +kernel
theorem dX6_about_62 : decode cX6_about 62 = .ok (.i2l, 1) := by decide +kernel
theorem dX6_about_63 : decode cX6_about 63 = .ok (.lreturn, 1) := by decide +kernel
set_option maxRecDepth 20000 in
theorem ggX6_isLook_X6_isStall : GoodIn wsX6_isLook wsX6_isStall := goodIn_r _ [5, 6, 7, 8, 4, 9, 10, 11, 12, 13, 14, 15, 16, 17, 18, 19, 20, 21, 22, 23, 24, 25, 26, 27, 28, 29, 30, 31, 32, 33, 34, 35, 36, 37, 38] (by decide +kernel) (by decide +kernel)
set_option maxRecDepth 20000 in
theorem gX6_isLook_X6_isStall : GoodIn wsX6_isLook (wsV RX6 158 RX6 yX6_isStall wsX6_isStall) := goodIn_app (goodIn_of _ (by decide +kernel)) ggX6_isLook_X6_isStall
set_option maxRecDepth 20000 in
theorem ggX6_isLook_X6_in : GoodIn wsX6_isLook wsX6_in := goodIn_r _ [9] (by decide +kernel) (by decide +kernel)
set_option maxRecDepth 20000 in
theorem gX6_isLook_X6_in : GoodIn wsX6_isLook (va_wsS RX6 61 yX6_in wsX6_in) := goodIn_app (goodIn_of _ (by decide +kernel)) ggX6_isLook_X6_in
theorem dX6_isLook_0 : decode cX6_isLook 0 = .ok (.iload_n 1, 1) := by decide +kernel
theorem dX6_isLook_1 : decode cX6_isLook 1 = .ok (.iconst (-1), 1) := by decide +kernel
theorem dX6_isLook_2 : decode cX6_isLook 2 = .ok (.if_icmp .eq 11, 3) := by decide +kernel
theorem dX6_isLook_5 : decode cX6_isLook 5 = .ok (.aload_n 0, 1) := by decide +kernel
theorem dX6_isLook_6 : decode cX6_isLook 6 = .ok (.iload_n 1, 1) := by decide +kernel
theorem dX6_isLook_7 : decode cX6_isLook 7 = .ok (.invokevirtual 158, 3) := by decide +kernel
theorem dX6_isLook_10 : decode cX6_isLook 10 = .ok (.ifCond .eq 38, 3) := by decide +kernel
theorem dX6_isLook_13 : decode cX6_isLook 13 = .ok (.iload_n 2, 1) := by decide +kernel
theorem dX6_isLook_14 : decode cX6_isLook 14 = .ok (.iconst 0, 1) := by decide +kernel
theorem dX6_isLook_15 : decode cX6_isLook 15 = .ok (.bipush 11, 2) := by decide +kernel
theorem dX6_isLook_17 : decode cX6_isLook 17 = .ok (.invokestatic 61, 3) := by decide +kernel
theorem dX6_isLook_20 : decode cX6_isLook 20 = .ok (.ifCond .eq 28, 3) := by decide +kernel
theorem dX6_isLook_23 : decode cX6_isLook 23 = .ok (.iload_n 3, 1) := by decide +kernel
theorem dX6_isLook_24 : decode cX6_isLook 24 = .ok (.iconst 0, 1) := by decide +kernel
theorem dX6_isLook_25 : decode cX6_isLook 25 = .ok (.bipush 11, 2) := by decide +kernel
theorem dX6_isLook_27 : decode cX6_isLook 27 = .ok (.invokestatic 61, 3) := by decide +kernel
theorem dX6_isLook_30 : decode cX6_isLook 30 = .ok (.ifCond .eq 18, 3) := by decide +kernel
theorem dX6_isLook_33 : decode cX6_isLook 33 = .ok (.iload 4, 2) := by decide +kernel
theorem dX6_isLook_35 : decode cX6_isLook 35 = .ok (.iconst 0, 1) := by decide +kernel
theorem dX6_isLook_36 : decode cX6_isLook 36 = .ok (.bipush 15, 2) := by decide +kernel
theorem dX6_isLook_38 : decode cX6_isLook 38 = .ok (.invokestatic 61, 3) := by decide +kernel
theorem dX6_isLook_41 : decode cX6_isLook 41 = .ok (.ifCond .eq 7, 3) := by decide +kernel
theorem dX6_isLook_44 : decode cX6_isLook 44 = .ok (.iconst 1, 1) := by decide +kernel
theorem dX6_isLook_45 : decode cX6_isLook 45 = .ok (.goto 4, 3) := by decide +kernel
theorem dX6_isLook_48 : decode cX6_isLook 48 = .ok (.iconst 0, 1) := by decide +kernel
theorem dX6_isLook_49 : decode cX6_isLook 49 = .ok (.ireturn, 1) := by decide +kernel
set_option maxRecDepth 20000 in
theorem ggX6_looked_X6_bag : GoodIn wsX6_looked wsX6_bag := goodIn_r _ [6, 1, 22, 23, 24, 25, 26, 27, 28, 29, 30, 31, 32, 33, 34, 35, 36, 37, 38, 39, 40, 41, 42, 43, 44, 45, 46, 47, 48, 49, 50] (by decide +kernel) (by decide +kernel)
set_option maxRecDepth 20000 in
theorem gX6_looked_X6_bag : GoodIn wsX6_looked (wsV RX6 155 RX6 yX6_bag wsX6_bag) := goodIn_app (goodIn_of _ (by decide +kernel)) ggX6_looked_X6_bag
set_option maxRecDepth 20000 in
theorem ggX6_looked_X6_in : GoodIn wsX6_looked wsX6_in := goodIn_r _ [9] (by decide +kernel) (by decide +kernel)
set_option maxRecDepth 20000 in
theorem gX6_looked_X6_in : GoodIn wsX6_looked (va_wsS RX6 61 yX6_in wsX6_in) := goodIn_app (goodIn_of _ (by decide +kernel)) ggX6_looked_X6_in
set_option maxRecDepth 20000 in
theorem ggX6_looked_X6_stepsOf : GoodIn wsX6_looked wsX6_stepsOf := goodIn_r _ [13, 14, 2, 3, 4, 5, 6, 1, 15, 16, 17, 18, 19, 20, 21, 22, 23, 24, 25, 26, 27, 28, 29, 30, 31, 32, 33, 34, 35, 36, 37, 38, 39, 40, 41, 42, 43, 44, 45, 46, 47, 48, 49, 50] (by decide +kernel) (by decide +kernel)
set_option maxRecDepth 20000 in
theorem gX6_looked_X6_stepsOf : GoodIn wsX6_looked (wsV RX6 191 RX6 yX6_stepsOf wsX6_stepsOf) := goodIn_app (goodIn_of _ (by decide +kernel)) ggX6_looked_X6_stepsOf
theorem dX6_looked_0 : decode cX6_looked 0 = .ok (.iconst 0, 1) := by decide +kernel
theorem dX6_looked_1 : decode cX6_looked 1 = .ok (.istore 7, 2) := by decide +kernel
theorem dX6_looked_3 : decode cX6_looked 3 = .ok (.iconst 0, 1) := by decide +kernel
theorem dX6_looked_4 : decode cX6_looked 4 = .ok (.istore 8, 2) := by decide +kernel
theorem dX6_looked_6 : decode cX6_looked 6 = .ok (.iload 8, 2) := by decide +kernel
theorem dX6_looked_8 : decode cX6_looked 8 = .ok (.aload_n 0, 1) := by decide +kernel
theorem dX6_looked_9 : decode cX6_looked 9 = .ok (.getfield 7, 3) := by decide +kernel
theorem dX6_looked_12 : decode cX6_looked 12 = .ok (.iconst 0, 1) := by decide +kernel
theorem dX6_looked_13 : decode cX6_looked 13 = .ok (.iaload, 1) := by decide +kernel
theorem dX6_looked_14 : decode cX6_looked 14 = .ok (.if_icmp .ge 94, 3) := by decide +kernel
theorem dX6_looked_17 : decode cX6_looked 17 = .ok (.iload_n 1, 1) := by decide +kernel
theorem dX6_looked_18 : decode cX6_looked 18 = .ok (.iconst (-1), 1) := by decide +kernel
theorem dX6_looked_19 : decode cX6_looked 19 = .ok (.if_icmp .eq 14, 3) := by decide +kernel
theorem dX6_looked_22 : decode cX6_looked 22 = .ok (.aload_n 0, 1) := by decide +kernel
theorem dX6_looked_23 : decode cX6_looked 23 = .ok (.iload 8, 2) := by decide +kernel
theorem dX6_looked_25 : decode cX6_looked 25 = .ok (.iconst 0, 1) := by decide +kernel
theorem dX6_looked_26 : decode cX6_looked 26 = .ok (.invokevirtual 155, 3) := by decide +kernel
theorem dX6_looked_29 : decode cX6_looked 29 = .ok (.iload_n 1, 1) := by decide +kernel
theorem dX6_looked_30 : decode cX6_looked 30 = .ok (.if_icmp .ne 38, 3) := by decide +kernel
theorem dX6_looked_33 : decode cX6_looked 33 = .ok (.aload_n 0, 1) := by decide +kernel
theorem dX6_looked_34 : decode cX6_looked 34 = .ok (.iload 8, 2) := by decide +kernel
theorem dX6_looked_36 : decode cX6_looked 36 = .ok (.iconst 1, 1) := by decide +kernel
theorem dX6_looked_37 : decode cX6_looked 37 = .ok (.invokevirtual 155, 3) := by decide +kernel
theorem dX6_looked_40 : decode cX6_looked 40 = .ok (.iload_n 2, 1) := by decide +kernel
theorem dX6_looked_41 : decode cX6_looked 41 = .ok (.iload_n 3, 1) := by decide +kernel
theorem dX6_looked_42 : decode cX6_looked 42 = .ok (.invokestatic 61, 3) := by decide +kernel
theorem dX6_looked_45 : decode cX6_looked 45 = .ok (.ifCond .eq 23, 3) := by decide +kernel
theorem dX6_looked_48 : decode cX6_looked 48 = .ok (.iload 4, 2) := by decide +kernel
theorem dX6_looked_50 : decode cX6_looked 50 = .ok (.aload_n 0, 1) := by decide +kernel
theorem dX6_looked_51 : decode cX6_looked 51 = .ok (.iload 8, 2) := by decide +kernel
theorem dX6_looked_53 : decode cX6_looked 53 = .ok (.iconst 2, 1) := by decide +kernel
theorem dX6_looked_54 : decode cX6_looked 54 = .ok (.invokevirtual 155, 3) := by decide +kernel
theorem dX6_looked_57 : decode cX6_looked 57 = .ok (.ishr, 1) := by decide +kernel
theorem dX6_looked_58 : decode cX6_looked 58 = .ok (.iconst 1, 1) := by decide +kernel
theorem dX6_looked_59 : decode cX6_looked 59 = .ok (.iand, 1) := by decide +kernel
theorem dX6_looked_60 : decode cX6_looked 60 = .ok (.iconst 1, 1) := by decide +kernel
theorem dX6_looked_61 : decode cX6_looked 61 = .ok (.if_icmp .ne 7, 3) := by decide +kernel
theorem dX6_looked_64 : decode cX6_looked 64 = .ok (.iconst 1, 1) := by decide +kernel
theorem dX6_looked_65 : decode cX6_looked 65 = .ok (.goto 4, 3) := by decide +kernel
theorem dX6_looked_68 : decode cX6_looked 68 = .ok (.iconst 0, 1) := by decide +kernel
theorem dX6_looked_69 : decode cX6_looked 69 = .ok (.istore 9, 2) := by decide +kernel
theorem dX6_looked_71 : decode cX6_looked 71 = .ok (.iload 7, 2) := by decide +kernel
theorem dX6_looked_73 : decode cX6_looked 73 = .ok (.iload 9, 2) := by decide +kernel
theorem dX6_looked_75 : decode cX6_looked 75 = .ok (.ifCond .eq 23, 3) := by decide +kernel
theorem dX6_looked_78 : decode cX6_looked 78 = .ok (.iload 6, 2) := by decide +kernel
theorem dX6_looked_80 : decode cX6_looked 80 = .ok (.ifCond .eq 14, 3) := by decide +kernel
theorem dX6_looked_83 : decode cX6_looked 83 = .ok (.aload_n 0, 1) := by decide +kernel
theorem dX6_looked_84 : decode cX6_looked 84 = .ok (.iload 8, 2) := by decide +kernel
theorem dX6_looked_86 : decode cX6_looked 86 = .ok (.invokevirtual 191, 3) := by decide +kernel
theorem dX6_looked_89 : decode cX6_looked 89 = .ok (.iload 5, 2) := by decide +kernel
theorem dX6_looked_91 : decode cX6_looked 91 = .ok (.if_icmp .lt 7, 3) := by decide +kernel
theorem dX6_looked_94 : decode cX6_looked 94 = .ok (.iconst 1, 1) := by decide +kernel
theorem dX6_looked_95 : decode cX6_looked 95 = .ok (.goto 4, 3) := by decide +kernel
theorem dX6_looked_98 : decode cX6_looked 98 = .ok (.iconst 0, 1) := by decide +kernel
theorem dX6_looked_99 : decode cX6_looked 99 = .ok (.iadd, 1) := by decide +kernel
theorem dX6_looked_100 : decode cX6_looked 100 = .ok (.istore 7, 2) := by decide +kernel
theorem dX6_looked_102 : decode cX6_looked 102 = .ok (.iinc 8 1, 3) := by decide +kernel
theorem dX6_looked_105 : decode cX6_looked 105 = .ok (.goto (-99), 3) := by decide +kernel
theorem dX6_looked_108 : decode cX6_looked 108 = .ok (.iload 7, 2) := by decide +kernel
theorem dX6_looked_110 : decode cX6_looked 110 = .ok (.ireturn, 1) := by decide +kernel
set_option maxRecDepth 20000 in
theorem ggX6_look_X6_isLook : GoodIn wsX6_look wsX6_isLook := goodIn_r _ [6, 7, 8, 9, 5, 10, 11, 12, 13, 14, 36, 37, 38, 39, 40, 41, 42, 43, 44, 45, 46, 47, 48, 49, 50, 51, 52, 53, 54, 55, 56, 57, 58, 59, 60, 61, 62, 63, 64] (by decide +kernel) (by decide +kernel)
set_option maxRecDepth 20000 in
theorem gX6_look_X6_isLook : GoodIn wsX6_look (wsV RX6 194 RX6 yX6_isLook wsX6_isLook) := goodIn_app (goodIn_of _ (by decide +kernel)) ggX6_look_X6_isLook
set_option maxRecDepth 20000 in
theorem ggX6_look_X6_in : GoodIn wsX6_look wsX6_in := goodIn_r _ [14] (by decide +kernel) (by decide +kernel)
set_option maxRecDepth 20000 in
theorem gX6_look_X6_in : GoodIn wsX6_look (va_wsS RX6 61 yX6_in wsX6_in) := goodIn_app (goodIn_of _ (by decide +kernel)) ggX6_look_X6_in
set_option maxRecDepth 20000 in
theorem ggX6_look_X6_looked : GoodIn wsX6_look wsX6_looked := goodIn_r _ [18, 19, 20, 21, 22, 5, 23, 12, 13, 14, 24, 25, 26, 27, 28, 29, 30, 31, 32, 33, 34, 35, 36, 37, 38, 39, 40, 41, 42, 43, 44, 45, 46, 47, 48, 49, 50, 51, 52, 53, 54, 55, 56, 57, 58, 59, 60, 61, 62, 63, 64] (by decide +kernel) (by decide +kernel)
set_option maxRecDepth 20000 in
theorem gX6_look_X6_looked : GoodIn wsX6_look (wsV RX6 198 RX6 yX6_looked wsX6_looked) := goodIn_app (goodIn_of _ (by decide +kernel)) ggX6_look_X6_looked
theorem dX6_look_0 : decode cX6_look 0 = .ok (.aload_n 0, 1) := by decide +kernel
theorem dX6_look_1 : decode cX6_look 1 = .ok (.iconst 0, 1) := by decide +kernel
theorem dX6_look_2 : decode cX6_look 2 = .ok (.putfield 54, 3) := by decide +kernel
theorem dX6_look_5 : decode cX6_look 5 = .ok (.aload_n 0, 1) := by decide +kernel
theorem dX6_look_6 : decode cX6_look 6 = .ok (.iload_n 1, 1) := by decide +kernel
theorem dX6_look_7 : decode cX6_look 7 = .ok (.iload_n 2, 1) := by decide +kernel
theorem dX6_look_8 : decode cX6_look 8 = .ok (.iload_n 3, 1) := by decide +kernel
theorem dX6_look_9 : decode cX6_look 9 = .ok (.iload 4, 2) := by decide +kernel
theorem dX6_look_11 : decode cX6_look 11 = .ok (.invokevirtual 194, 3) := by decide +kernel
theorem dX6_look_14 : decode cX6_look 14 = .ok (.ifCond .eq 38, 3) := by decide +kernel
theorem dX6_look_17 : decode cX6_look 17 = .ok (.iload 6, 2) := by decide +kernel
theorem dX6_look_19 : decode cX6_look 19 = .ok (.iconst 0, 1) := by decide +kernel
theorem dX6_look_20 : decode cX6_look 20 = .ok (.iconst 1, 1) := by decide +kernel
theorem dX6_look_21 : decode cX6_look 21 = .ok (.invokestatic 61, 3) := by decide +kernel
theorem dX6_look_24 : decode cX6_look 24 = .ok (.ifCond .eq 28, 3) := by decide +kernel
theorem dX6_look_27 : decode cX6_look 27 = .ok (.aload_n 0, 1) := by decide +kernel
theorem dX6_look_28 : decode cX6_look 28 = .ok (.iload_n 1, 1) := by decide +kernel
theorem dX6_look_29 : decode cX6_look 29 = .ok (.iload_n 2, 1) := by decide +kernel
theorem dX6_look_30 : decode cX6_look 30 = .ok (.iload_n 3, 1) := by decide +kernel
theorem dX6_look_31 : decode cX6_look 31 = .ok (.iload 4, 2) := by decide +kernel
theorem dX6_look_33 : decode cX6_look 33 = .ok (.iload 5, 2) := by decide +kernel
theorem dX6_look_35 : decode cX6_look 35 = .ok (.iload 6, 2) := by decide +kernel
theorem dX6_look_37 : decode cX6_look 37 = .ok (.iconst 1, 1) := by decide +kernel
theorem dX6_look_38 : decode cX6_look 38 = .ok (.if_icmp .ne 7, 3) := by decide +kernel
theorem dX6_look_41 : decode cX6_look 41 = .ok (.iconst 1, 1) := by decide +kernel
theorem dX6_look_42 : decode cX6_look 42 = .ok (.goto 4, 3) := by decide +kernel
theorem dX6_look_45 : decode cX6_look 45 = .ok (.iconst 0, 1) := by decide +kernel
theorem dX6_look_46 : decode cX6_look 46 = .ok (.invokevirtual 198, 3) := by decide +kernel
theorem dX6_look_49 : decode cX6_look 49 = .ok (.goto 4, 3) := by decide +kernel
theorem dX6_look_52 : decode cX6_look 52 = .ok (.iconst (-1), 1) := by decide +kernel
theorem dX6_look_53 : decode cX6_look 53 = .ok (.ireturn, 1) := by decide +kernel
set_option maxRecDepth 20000 in
theorem ggX6_rows_X6_power : GoodIn wsX6_rows wsX6_power := goodIn_r _ [5] (by decide +kernel) (by decide +kernel)
set_option maxRecDepth 20000 in
theorem gX6_rows_X6_power : GoodIn wsX6_rows (va_wsS RX6 202 yX6_power wsX6_power) := goodIn_app (goodIn_of _ (by decide +kernel)) ggX6_rows_X6_power
theorem dX6_rows_0 : decode cX6_rows 0 = .ok (.lconst 0, 1) := by decide +kernel
theorem dX6_rows_1 : decode cX6_rows 1 = .ok (.lstore 4, 2) := by decide +kernel
theorem dX6_rows_3 : decode cX6_rows 3 = .ok (.iload_n 2, 1) := by decide +kernel
theorem dX6_rows_4 : decode cX6_rows 4 = .ok (.istore 6, 2) := by decide +kernel
theorem dX6_rows_6 : decode cX6_rows 6 = .ok (.iload 6, 2) := by decide +kernel
theorem dX6_rows_8 : decode cX6_rows 8 = .ok (.iload_n 1, 1) := by decide +kernel
theorem dX6_rows_9 : decode cX6_rows 9 = .ok (.if_icmp .gt 47, 3) := by decide +kernel
theorem dX6_rows_12 : decode cX6_rows 12 = .ok (.lload 4, 2) := by decide +kernel
theorem dX6_rows_14 : decode cX6_rows 14 = .ok (.aload_n 0, 1) := by decide +kernel
theorem dX6_rows_15 : decode cX6_rows 15 = .ok (.getfield 42, 3) := by decide +kernel
theorem dX6_rows_18 : decode cX6_rows 18 = .ok (.bipush 20, 2) := by decide +kernel
theorem dX6_rows_20 : decode cX6_rows 20 = .ok (.iload_n 1, 1) := by decide +kernel
theorem dX6_rows_21 : decode cX6_rows 21 = .ok (.imul, 1) := by decide +kernel
theorem dX6_rows_22 : decode cX6_rows 22 = .ok (.iload 6, 2) := by decide +kernel
theorem dX6_rows_24 : decode cX6_rows 24 = .ok (.iadd, 1) := by decide +kernel
theorem dX6_rows_25 : decode cX6_rows 25 = .ok (.laload, 1) := by decide +kernel
theorem dX6_rows_26 : decode cX6_rows 26 = .ok (.iload_n 3, 1) := by decide +kernel
theorem dX6_rows_27 : decode cX6_rows 27 = .ok (.i2l, 1) := by decide +kernel
theorem dX6_rows_28 : decode cX6_rows 28 = .ok (.iload 6, 2) := by decide +kernel
theorem dX6_rows_30 : decode cX6_rows 30 = .ok (.invokestatic 202, 3) := by decide +kernel
theorem dX6_rows_33 : decode cX6_rows 33 = .ok (.lmul, 1) := by decide +kernel
theorem dX6_rows_34 : decode cX6_rows 34 = .ok (.bipush 10, 2) := by decide +kernel
theorem dX6_rows_36 : decode cX6_rows 36 = .ok (.iload_n 3, 1) := by decide +kernel
theorem dX6_rows_37 : decode cX6_rows 37 = .ok (.isub, 1) := by decide +kernel
theorem dX6_rows_38 : decode cX6_rows 38 = .ok (.i2l, 1) := by decide +kernel
theorem dX6_rows_39 : decode cX6_rows 39 = .ok (.iload_n 1, 1) := by decide +kernel
theorem dX6_rows_40 : decode cX6_rows 40 = .ok (.iload 6, 2) := by decide +kernel
theorem dX6_rows_42 : decode cX6_rows 42 = .ok (.isub, 1) := by decide +kernel
theorem dX6_rows_43 : decode cX6_rows 43 = .ok (.invokestatic 202, 3) := by decide +kernel
theorem dX6_rows_46 : decode cX6_rows 46 = .ok (.lmul, 1) := by decide +kernel
theorem dX6_rows_47 : decode cX6_rows 47 = .ok (.ladd, 1) := by decide +kernel
theorem dX6_rows_48 : decode cX6_rows 48 = .ok (.lstore 4, 2) := by decide +kernel
theorem dX6_rows_50 : decode cX6_rows 50 = .ok (.iinc 6 1, 3) := by decide +kernel
theorem dX6_rows_53 : decode cX6_rows 53 = .ok (.goto (-47), 3) := by decide +kernel
theorem dX6_rows_56 : decode cX6_rows 56 = .ok (.lload 4, 2) := by decide +kernel
theorem dX6_rows_58 : decode cX6_rows 58 = .ok (.lreturn, 1) := by decide +kernel
set_option maxRecDepth 20000 in
theorem ggX6_seldom_X6_isLook : GoodIn wsX6_seldom wsX6_isLook := goodIn_r _ [12, 13, 14, 15, 11, 16, 17, 18, 19, 20, 49, 50, 51, 52, 53, 54, 55, 56, 57, 58, 59, 60, 61, 62, 63, 64, 65, 66, 67, 68, 69, 70, 71, 72, 73, 74, 75, 76, 77] (by decide +kernel) (by decide +kernel)
set_option maxRecDepth 20000 in
theorem gX6_seldom_X6_isLook : GoodIn wsX6_seldom (wsV RX6 194 RX6 yX6_isLook wsX6_isLook) := goodIn_app (goodIn_of _ (by decide +kernel)) ggX6_seldom_X6_isLook
set_option maxRecDepth 20000 in
theorem ggX6_seldom_X6_looked : GoodIn wsX6_seldom wsX6_looked := goodIn_r _ [24, 7, 25, 26, 27, 11, 28, 18, 19, 20, 29, 30, 31, 32, 33, 34, 35, 36, 37, 38, 39, 40, 49, 50, 51, 52, 53, 54, 55, 56, 57, 58, 59, 60, 61, 62, 63, 64, 65, 66, 67, 68, 69, 70, 71, 72, 73, 74, 75, 76, 77] (by decide +kernel) (by decide +kernel)
set_option maxRecDepth 20000 in
theorem gX6_seldom_X6_looked : GoodIn wsX6_seldom (wsV RX6 198 RX6 yX6_looked wsX6_looked) := goodIn_app (goodIn_of _ (by decide +kernel)) ggX6_seldom_X6_looked
set_option maxRecDepth 20000 in
theorem ggX6_seldom_X6_rows : GoodIn wsX6_seldom wsX6_rows := goodIn_r _ [44, 45, 46, 47, 11, 48, 49, 50, 51, 52, 53, 54, 55, 56, 57, 58, 59, 60, 61, 62, 63, 64, 65, 66, 67, 68, 69, 70, 71, 72, 73, 74, 75, 76, 77] (by decide +kernel) (by decide +kernel)
set_option maxRecDepth 20000 in
theorem gX6_seldom_X6_rows : GoodIn wsX6_seldom (wsV RX6 209 RX6 yX6_rows wsX6_rows) := goodIn_app (goodIn_of _ (by decide +kernel)) ggX6_seldom_X6_rows
set_option maxRecDepth 20000 in
theorem ggX6_seldom_X6_power : GoodIn wsX6_seldom wsX6_power := goodIn_r _ [48] (by decide +kernel) (by decide +kernel)
set_option maxRecDepth 20000 in
theorem gX6_seldom_X6_power : GoodIn wsX6_seldom (va_wsS RX6 202 yX6_power wsX6_power) := goodIn_app (goodIn_of _ (by decide +kernel)) ggX6_seldom_X6_power
theorem dX6_seldom_0 : decode cX6_seldom 0 = .ok (.aload_n 0, 1) := by decide +kernel
theorem dX6_seldom_1 : decode cX6_seldom 1 = .ok (.iconst 0, 1) := by decide +kernel
theorem dX6_seldom_2 : decode cX6_seldom 2 = .ok (.putfield 54, 3) := by decide +kernel
theorem dX6_seldom_5 : decode cX6_seldom 5 = .ok (.aload_n 0, 1) := by decide +kernel
theorem dX6_seldom_6 : decode cX6_seldom 6 = .ok (.iload_n 1, 1) := by decide +kernel
theorem dX6_seldom_7 : decode cX6_seldom 7 = .ok (.iload_n 2, 1) := by decide +kernel
theorem dX6_seldom_8 : decode cX6_seldom 8 = .ok (.iload_n 3, 1) := by decide +kernel
theorem dX6_seldom_9 : decode cX6_seldom 9 = .ok (.iload 4, 2) := by decide +kernel
theorem dX6_seldom_11 : decode cX6_seldom 11 = .ok (.invokevirtual 194, 3) := by decide +kernel
theorem dX6_seldom_14 : decode cX6_seldom 14 = .ok (.ifCond .ne 7, 3) := by decide +kernel
theorem dX6_seldom_17 : decode cX6_seldom 17 = .ok (.ldc2_w 205, 3) := by decide +kernel
theorem dX6_seldom_20 : decode cX6_seldom 20 = .ok (.lreturn, 1) := by decide +kernel
theorem dX6_seldom_21 : decode cX6_seldom 21 = .ok (.aload_n 0, 1) := by decide +kernel
theorem dX6_seldom_22 : decode cX6_seldom 22 = .ok (.iload_n 1, 1) := by decide +kernel
theorem dX6_seldom_23 : decode cX6_seldom 23 = .ok (.iload_n 2, 1) := by decide +kernel
theorem dX6_seldom_24 : decode cX6_seldom 24 = .ok (.iload_n 3, 1) := by decide +kernel
theorem dX6_seldom_25 : decode cX6_seldom 25 = .ok (.iload 4, 2) := by decide +kernel
theorem dX6_seldom_27 : decode cX6_seldom 27 = .ok (.iload 5, 2) := by decide +kernel
theorem dX6_seldom_29 : decode cX6_seldom 29 = .ok (.iconst 0, 1) := by decide +kernel
theorem dX6_seldom_30 : decode cX6_seldom 30 = .ok (.invokevirtual 198, 3) := by decide +kernel
theorem dX6_seldom_33 : decode cX6_seldom 33 = .ok (.istore 6, 2) := by decide +kernel
theorem dX6_seldom_35 : decode cX6_seldom 35 = .ok (.iload 6, 2) := by decide +kernel
theorem dX6_seldom_37 : decode cX6_seldom 37 = .ok (.bipush 18, 2) := by decide +kernel
theorem dX6_seldom_39 : decode cX6_seldom 39 = .ok (.if_icmp .le 7, 3) := by decide +kernel
theorem dX6_seldom_42 : decode cX6_seldom 42 = .ok (.ldc2_w 207, 3) := by decide +kernel
theorem dX6_seldom_45 : decode cX6_seldom 45 = .ok (.lreturn, 1) := by decide +kernel
theorem dX6_seldom_46 : decode cX6_seldom 46 = .ok (.iload 5, 2) := by decide +kernel
theorem dX6_seldom_48 : decode cX6_seldom 48 = .ok (.ifCond .ge 8, 3) := by decide +kernel
theorem dX6_seldom_51 : decode cX6_seldom 51 = .ok (.bipush 10, 2) := by decide +kernel
theorem dX6_seldom_53 : decode cX6_seldom 53 = .ok (.goto 40, 3) := by decide +kernel
theorem dX6_seldom_56 : decode cX6_seldom 56 = .ok (.iload 5, 2) := by decide +kernel
theorem dX6_seldom_58 : decode cX6_seldom 58 = .ok (.ifCond .ne 19, 3) := by decide +kernel
theorem dX6_seldom_61 : decode cX6_seldom 61 = .ok (.aload_n 0, 1) := by decide +kernel
theorem dX6_seldom_62 : decode cX6_seldom 62 = .ok (.getfield 27, 3) := by decide +kernel
theorem dX6_seldom_65 : decode cX6_seldom 65 = .ok (.iconst 1, 1) := by decide +kernel
theorem dX6_seldom_66 : decode cX6_seldom 66 = .ok (.iaload, 1) := by decide +kernel
theorem dX6_seldom_67 : decode cX6_seldom 67 = .ok (.aload_n 0, 1) := by decide +kernel
theorem dX6_seldom_68 : decode cX6_seldom 68 = .ok (.getfield 27, 3) := by decide +kernel
theorem dX6_seldom_71 : decode cX6_seldom 71 = .ok (.iconst 2, 1) := by decide +kernel
theorem dX6_seldom_72 : decode cX6_seldom 72 = .ok (.iaload, 1) := by decide +kernel
theorem dX6_seldom_73 : decode cX6_seldom 73 = .ok (.iadd, 1) := by decide +kernel
theorem dX6_seldom_74 : decode cX6_seldom 74 = .ok (.goto 19, 3) := by decide +kernel
theorem dX6_seldom_77 : decode cX6_seldom 77 = .ok (.iload 5, 2) := by decide +kernel
theorem dX6_seldom_79 : decode cX6_seldom 79 = .ok (.iconst 1, 1) := by decide +kernel
theorem dX6_seldom_80 : decode cX6_seldom 80 = .ok (.if_icmp .ne 12, 3) := by decide +kernel
theorem dX6_seldom_83 : decode cX6_seldom 83 = .ok (.aload_n 0, 1) := by decide +kernel
theorem dX6_seldom_84 : decode cX6_seldom 84 = .ok (.getfield 27, 3) := by decide +kernel
theorem dX6_seldom_87 : decode cX6_seldom 87 = .ok (.iconst 2, 1) := by decide +kernel
theorem dX6_seldom_88 : decode cX6_seldom 88 = .ok (.iaload, 1) := by decide +kernel
theorem dX6_seldom_89 : decode cX6_seldom 89 = .ok (.goto 4, 3) := by decide +kernel
theorem dX6_seldom_92 : decode cX6_seldom 92 = .ok (.iconst 0, 1) := by decide +kernel
theorem dX6_seldom_93 : decode cX6_seldom 93 = .ok (.istore 7, 2) := by decide +kernel
theorem dX6_seldom_95 : decode cX6_seldom 95 = .ok (.aload_n 0, 1) := by decide +kernel
theorem dX6_seldom_96 : decode cX6_seldom 96 = .ok (.getfield 20, 3) := by decide +kernel
theorem dX6_seldom_99 : decode cX6_seldom 99 = .ok (.iconst 0, 1) := by decide +kernel
theorem dX6_seldom_100 : decode cX6_seldom 100 = .ok (.aload_n 0, 1) := by decide +kernel
theorem dX6_seldom_101 : decode cX6_seldom 101 = .ok (.iload 6, 2) := by decide +kernel
theorem dX6_seldom_103 : decode cX6_seldom 103 = .ok (.aload_n 0, 1) := by decide +kernel
theorem dX6_seldom_104 : decode cX6_seldom 104 = .ok (.iload_n 1, 1) := by decide +kernel
theorem dX6_seldom_105 : decode cX6_seldom 105 = .ok (.iload_n 2, 1) := by decide +kernel
theorem dX6_seldom_106 : decode cX6_seldom 106 = .ok (.iload_n 3, 1) := by decide +kernel
theorem dX6_seldom_107 : decode cX6_seldom 107 = .ok (.iload 4, 2) := by decide +kernel
theorem dX6_seldom_109 : decode cX6_seldom 109 = .ok (.iload 5, 2) := by decide +kernel
theorem dX6_seldom_111 : decode cX6_seldom 111 = .ok (.iconst 1, 1) := by decide +kernel
theorem dX6_seldom_112 : decode cX6_seldom 112 = .ok (.invokevirtual 198, 3) := by decide +kernel
theorem dX6_seldom_115 : decode cX6_seldom 115 = .ok (.iload 7, 2) := by decide +kernel
theorem dX6_seldom_117 : decode cX6_seldom 117 = .ok (.invokevirtual 209, 3) := by decide +kernel
theorem dX6_seldom_120 : decode cX6_seldom 120 = .ok (.lastore, 1) := by decide +kernel
theorem dX6_seldom_121 : decode cX6_seldom 121 = .ok (.aload_n 0, 1) := by decide +kernel
theorem dX6_seldom_122 : decode cX6_seldom 122 = .ok (.getfield 20, 3) := by decide +kernel
theorem dX6_seldom_125 : decode cX6_seldom 125 = .ok (.iconst 1, 1) := by decide +kernel
theorem dX6_seldom_126 : decode cX6_seldom 126 = .ok (.ldc2_w 213, 3) := by decide +kernel
theorem dX6_seldom_129 : decode cX6_seldom 129 = .ok (.iload 6, 2) := by decide +kernel
theorem dX6_seldom_131 : decode cX6_seldom 131 = .ok (.invokestatic 202, 3) := by decide +kernel
theorem dX6_seldom_134 : decode cX6_seldom 134 = .ok (.lastore, 1) := by decide +kernel
theorem dX6_seldom_135 : decode cX6_seldom 135 = .ok (.aload_n 0, 1) := by decide +kernel
theorem dX6_seldom_136 : decode cX6_seldom 136 = .ok (.getfield 7, 3) := by decide +kernel
theorem dX6_seldom_139 : decode cX6_seldom 139 = .ok (.sipush 262, 3) := by decide +kernel
theorem dX6_seldom_142 : decode cX6_seldom 142 = .ok (.dup2, 1) := by decide +kernel
theorem dX6_seldom_143 : decode cX6_seldom 143 = .ok (.iaload, 1) := by decide +kernel
theorem dX6_seldom_144 : decode cX6_seldom 144 = .ok (.aload_n 0, 1) := by decide +kernel
theorem dX6_seldom_145 : decode cX6_seldom 145 = .ok (.getfield 7, 3) := by decide +kernel
theorem dX6_seldom_148 : decode cX6_seldom 148 = .ok (.sipush 262, 3) := by decide +kernel
theorem dX6_seldom_151 : decode cX6_seldom 151 = .ok (.iaload, 1) := by decide +kernel
theorem dX6_seldom_152 : decode cX6_seldom 152 = .ok (.sipush 999, 3) := by decide +kernel
theorem dX6_seldom_155 : decode cX6_seldom 155 = .ok (.if_icmp .ge 7, 3) := by decide +kernel
theorem dX6_seldom_158 : decode cX6_seldom 158 = .ok (.iconst 1, 1) := by decide +kernel
theorem dX6_seldom_159 : decode cX6_seldom 159 = .ok (.goto 4, 3) := by decide +kernel
theorem dX6_seldom_162 : decode cX6_seldom 162 = .ok (.iconst 0, 1) := by decide +kernel
theorem dX6_seldom_163 : decode cX6_seldom 163 = .ok (.iadd, 1) := by decide +kernel
theorem dX6_seldom_164 : decode cX6_seldom 164 = .ok (.iastore, 1) := by decide +kernel
theorem dX6_seldom_165 : decode cX6_seldom 165 = .ok (.aload_n 0, 1) := by decide +kernel
theorem dX6_seldom_166 : decode cX6_seldom 166 = .ok (.getfield 20, 3) := by decide +kernel
theorem dX6_seldom_169 : decode cX6_seldom 169 = .ok (.iconst 0, 1) := by decide +kernel
theorem dX6_seldom_170 : decode cX6_seldom 170 = .ok (.laload, 1) := by decide +kernel
theorem dX6_seldom_171 : decode cX6_seldom 171 = .ok (.lreturn, 1) := by decide +kernel
set_option maxRecDepth 20000 in
theorem ggX6_counted_X6_in : GoodIn wsX6_counted wsX6_in := goodIn_r _ [9] (by decide +kernel) (by decide +kernel)
set_option maxRecDepth 20000 in
theorem gX6_counted_X6_in : GoodIn wsX6_counted (va_wsS RX6 61 yX6_in wsX6_in) := goodIn_app (goodIn_of _ (by decide +kernel)) ggX6_counted_X6_in
theorem dX6_counted_0 : decode cX6_counted 0 = .ok (.aload_n 0, 1) := by decide +kernel
theorem dX6_counted_1 : decode cX6_counted 1 = .ok (.iconst 0, 1) := by decide +kernel
theorem dX6_counted_2 : decode cX6_counted 2 = .ok (.putfield 54, 3) := by decide +kernel
theorem dX6_counted_5 : decode cX6_counted 5 = .ok (.iload_n 1, 1) := by decide +kernel
theorem dX6_counted_6 : decode cX6_counted 6 = .ok (.iconst 0, 1) := by decide +kernel
theorem dX6_counted_7 : decode cX6_counted 7 = .ok (.iconst 2, 1) := by decide +kernel
theorem dX6_counted_8 : decode cX6_counted 8 = .ok (.invokestatic 61, 3) := by decide +kernel
theorem dX6_counted_11 : decode cX6_counted 11 = .ok (.ifCond .ne 7, 3) := by decide +kernel
theorem dX6_counted_14 : decode cX6_counted 14 = .ok (.ldc2_w 205, 3) := by decide +kernel
theorem dX6_counted_17 : decode cX6_counted 17 = .ok (.lreturn, 1) := by decide +kernel
theorem dX6_counted_18 : decode cX6_counted 18 = .ok (.aload_n 0, 1) := by decide +kernel
theorem dX6_counted_19 : decode cX6_counted 19 = .ok (.getfield 7, 3) := by decide +kernel
theorem dX6_counted_22 : decode cX6_counted 22 = .ok (.sipush 262, 3) := by decide +kernel
theorem dX6_counted_25 : decode cX6_counted 25 = .ok (.iaload, 1) := by decide +kernel
theorem dX6_counted_26 : decode cX6_counted 26 = .ok (.ifCond .ne 7, 3) := by decide +kernel
theorem dX6_counted_29 : decode cX6_counted 29 = .ok (.ldc2_w 207, 3) := by decide +kernel
theorem dX6_counted_32 : decode cX6_counted 32 = .ok (.lreturn, 1) := by decide +kernel
theorem dX6_counted_33 : decode cX6_counted 33 = .ok (.aload_n 0, 1) := by decide +kernel
theorem dX6_counted_34 : decode cX6_counted 34 = .ok (.getfield 20, 3) := by decide +kernel
theorem dX6_counted_37 : decode cX6_counted 37 = .ok (.iconst 1, 1) := by decide +kernel
theorem dX6_counted_38 : decode cX6_counted 38 = .ok (.laload, 1) := by decide +kernel
theorem dX6_counted_39 : decode cX6_counted 39 = .ok (.aload_n 0, 1) := by decide +kernel
theorem dX6_counted_40 : decode cX6_counted 40 = .ok (.getfield 7, 3) := by decide +kernel
theorem dX6_counted_43 : decode cX6_counted 43 = .ok (.sipush 262, 3) := by decide +kernel
theorem dX6_counted_46 : decode cX6_counted 46 = .ok (.iaload, 1) := by decide +kernel
theorem dX6_counted_47 : decode cX6_counted 47 = .ok (.i2l, 1) := by decide +kernel
theorem dX6_counted_48 : decode cX6_counted 48 = .ok (.ldiv, 1) := by decide +kernel
theorem dX6_counted_49 : decode cX6_counted 49 = .ok (.lstore_n 2, 1) := by decide +kernel
theorem dX6_counted_50 : decode cX6_counted 50 = .ok (.iload_n 1, 1) := by decide +kernel
theorem dX6_counted_51 : decode cX6_counted 51 = .ok (.iconst 2, 1) := by decide +kernel
theorem dX6_counted_52 : decode cX6_counted 52 = .ok (.if_icmp .ne 15, 3) := by decide +kernel
theorem dX6_counted_55 : decode cX6_counted 55 = .ok (.aload_n 0, 1) := by decide +kernel
theorem dX6_counted_56 : decode cX6_counted 56 = .ok (.getfield 7, 3) := by decide +kernel
theorem dX6_counted_59 : decode cX6_counted 59 = .ok (.sipush 262, 3) := by decide +kernel
theorem dX6_counted_62 : decode cX6_counted 62 = .ok (.iaload, 1) := by decide +kernel
theorem dX6_counted_63 : decode cX6_counted 63 = .ok (.i2l, 1) := by decide +kernel
theorem dX6_counted_64 : decode cX6_counted 64 = .ok (.goto 53, 3) := by decide +kernel
theorem dX6_counted_67 : decode cX6_counted 67 = .ok (.iload_n 1, 1) := by decide +kernel
theorem dX6_counted_68 : decode cX6_counted 68 = .ok (.iconst 1, 1) := by decide +kernel
theorem dX6_counted_69 : decode cX6_counted 69 = .ok (.if_icmp .ne 12, 3) := by decide +kernel
theorem dX6_counted_72 : decode cX6_counted 72 = .ok (.aload_n 0, 1) := by decide +kernel
theorem dX6_counted_73 : decode cX6_counted 73 = .ok (.getfield 20, 3) := by decide +kernel
theorem dX6_counted_76 : decode cX6_counted 76 = .ok (.iconst 1, 1) := by decide +kernel
theorem dX6_counted_77 : decode cX6_counted 77 = .ok (.laload, 1) := by decide +kernel
theorem dX6_counted_78 : decode cX6_counted 78 = .ok (.goto 39, 3) := by decide +kernel
theorem dX6_counted_81 : decode cX6_counted 81 = .ok (.aload_n 0, 1) := by decide +kernel
theorem dX6_counted_82 : decode cX6_counted 82 = .ok (.getfield 20, 3) := by decide +kernel
theorem dX6_counted_85 : decode cX6_counted 85 = .ok (.iconst 0, 1) := by decide +kernel
theorem dX6_counted_86 : decode cX6_counted 86 = .ok (.laload, 1) := by decide +kernel
theorem dX6_counted_87 : decode cX6_counted 87 = .ok (.lload_n 2, 1) := by decide +kernel
theorem dX6_counted_88 : decode cX6_counted 88 = .ok (.lcmp, 1) := by decide +kernel
theorem dX6_counted_89 : decode cX6_counted 89 = .ok (.ifCond .le 12, 3) := by decide +kernel
theorem dX6_counted_92 : decode cX6_counted 92 = .ok (.aload_n 0, 1) := by decide +kernel
theorem dX6_counted_93 : decode cX6_counted 93 = .ok (.getfield 20, 3) := by decide +kernel
theorem dX6_counted_96 : decode cX6_counted 96 = .ok (.iconst 1, 1) := by decide +kernel
theorem dX6_counted_97 : decode cX6_counted 97 = .ok (.laload, 1) := by decide +kernel
theorem dX6_counted_98 : decode cX6_counted 98 = .ok (.goto 19, 3) := by decide +kernel
theorem dX6_counted_101 : decode cX6_counted 101 = .ok (.aload_n 0, 1) := by decide +kernel
theorem dX6_counted_102 : decode cX6_counted 102 = .ok (.getfield 20, 3) := by decide +kernel
theorem dX6_counted_105 : decode cX6_counted 105 = .ok (.iconst 0, 1) := by decide +kernel
theorem dX6_counted_106 : decode cX6_counted 106 = .ok (.laload, 1) := by decide +kernel
theorem dX6_counted_107 : decode cX6_counted 107 = .ok (.aload_n 0, 1) := by decide +kernel
theorem dX6_counted_108 : decode cX6_counted 108 = .ok (.getfield 7, 3) := by decide +kernel
theorem dX6_counted_111 : decode cX6_counted 111 = .ok (.sipush 262, 3) := by decide +kernel
theorem dX6_counted_114 : decode cX6_counted 114 = .ok (.iaload, 1) := by decide +kernel
theorem dX6_counted_115 : decode cX6_counted 115 = .ok (.i2l, 1) := by decide +kernel
theorem dX6_counted_116 : decode cX6_counted 116 = .ok (.lmul, 1) := by decide +kernel
theorem dX6_counted_117 : decode cX6_counted 117 = .ok (.lreturn, 1) := by decide +kernel
set_option maxRecDepth 20000 in
theorem ggX6_made_X6_bag : GoodIn wsX6_made wsX6_bag := goodIn_r _ [6, 1, 32, 33, 34, 35, 36, 37, 38, 39, 40, 41, 42, 43, 44, 45, 46, 47, 48, 49, 50, 51, 52, 53, 54, 55, 56, 57, 58, 59, 60] (by decide +kernel) (by decide +kernel)
set_option maxRecDepth 20000 in
theorem gX6_made_X6_bag : GoodIn wsX6_made (wsV RX6 155 RX6 yX6_bag wsX6_bag) := goodIn_app (goodIn_of _ (by decide +kernel)) ggX6_made_X6_bag
set_option maxRecDepth 20000 in
theorem ggX6_made_X6_stepsOf : GoodIn wsX6_made wsX6_stepsOf := goodIn_r _ [10, 11, 2, 3, 4, 5, 6, 1, 12, 13, 14, 15, 16, 17, 18, 32, 33, 34, 35, 36, 37, 38, 39, 40, 41, 42, 43, 44, 45, 46, 47, 48, 49, 50, 51, 52, 53, 54, 55, 56, 57, 58, 59, 60] (by decide +kernel) (by decide +kernel)
set_option maxRecDepth 20000 in
theorem gX6_made_X6_stepsOf : GoodIn wsX6_made (wsV RX6 191 RX6 yX6_stepsOf wsX6_stepsOf) := goodIn_app (goodIn_of _ (by decide +kernel)) ggX6_made_X6_stepsOf
set_option maxRecDepth 20000 in
theorem ggX6_made_X6_oftenOf : GoodIn wsX6_made wsX6_oftenOf := goodIn_r _ [22, 23, 11, 24, 25, 5, 26, 27, 28, 29, 30, 31, 32, 33, 34, 35, 36, 37, 38, 39, 40, 41, 42, 43, 44, 45, 46, 47, 48, 49, 50, 51, 52, 53, 54, 55, 56, 57, 58, 59, 60] (by decide +kernel) (by decide +kernel)
set_option maxRecDepth 20000 in
theorem gX6_made_X6_oftenOf : GoodIn wsX6_made (wsV RX6 176 RX6 yX6_oftenOf wsX6_oftenOf) := goodIn_app (goodIn_of _ (by decide +kernel)) ggX6_made_X6_oftenOf
theorem dX6_made_0 : decode cX6_made 0 = .ok (.lconst 1, 1) := by decide +kernel
theorem dX6_made_1 : decode cX6_made 1 = .ok (.lstore_n 3, 1) := by decide +kernel
theorem dX6_made_2 : decode cX6_made 2 = .ok (.iconst 0, 1) := by decide +kernel
theorem dX6_made_3 : decode cX6_made 3 = .ok (.istore 5, 2) := by decide +kernel
theorem dX6_made_5 : decode cX6_made 5 = .ok (.iload 5, 2) := by decide +kernel
theorem dX6_made_7 : decode cX6_made 7 = .ok (.aload_n 0, 1) := by decide +kernel
theorem dX6_made_8 : decode cX6_made 8 = .ok (.getfield 7, 3) := by decide +kernel
theorem dX6_made_11 : decode cX6_made 11 = .ok (.iconst 0, 1) := by decide +kernel
theorem dX6_made_12 : decode cX6_made 12 = .ok (.iaload, 1) := by decide +kernel
theorem dX6_made_13 : decode cX6_made 13 = .ok (.if_icmp .ge 47, 3) := by decide +kernel
theorem dX6_made_16 : decode cX6_made 16 = .ok (.lload_n 3, 1) := by decide +kernel
theorem dX6_made_17 : decode cX6_made 17 = .ok (.aload_n 0, 1) := by decide +kernel
theorem dX6_made_18 : decode cX6_made 18 = .ok (.iload 5, 2) := by decide +kernel
theorem dX6_made_20 : decode cX6_made 20 = .ok (.iconst 0, 1) := by decide +kernel
theorem dX6_made_21 : decode cX6_made 21 = .ok (.invokevirtual 155, 3) := by decide +kernel
theorem dX6_made_24 : decode cX6_made 24 = .ok (.iload_n 2, 1) := by decide +kernel
theorem dX6_made_25 : decode cX6_made 25 = .ok (.if_icmp .ne 26, 3) := by decide +kernel
theorem dX6_made_28 : decode cX6_made 28 = .ok (.aload_n 0, 1) := by decide +kernel
theorem dX6_made_29 : decode cX6_made 29 = .ok (.iload_n 1, 1) := by decide +kernel
theorem dX6_made_30 : decode cX6_made 30 = .ok (.iload_n 2, 1) := by decide +kernel
theorem dX6_made_31 : decode cX6_made 31 = .ok (.aload_n 0, 1) := by decide +kernel
theorem dX6_made_32 : decode cX6_made 32 = .ok (.iload 5, 2) := by decide +kernel
theorem dX6_made_34 : decode cX6_made 34 = .ok (.iconst 2, 1) := by decide +kernel
theorem dX6_made_35 : decode cX6_made 35 = .ok (.invokevirtual 155, 3) := by decide +kernel
theorem dX6_made_38 : decode cX6_made 38 = .ok (.aload_n 0, 1) := by decide +kernel
theorem dX6_made_39 : decode cX6_made 39 = .ok (.iload 5, 2) := by decide +kernel
theorem dX6_made_41 : decode cX6_made 41 = .ok (.invokevirtual 191, 3) := by decide +kernel
theorem dX6_made_44 : decode cX6_made 44 = .ok (.invokevirtual 176, 3) := by decide +kernel
theorem dX6_made_47 : decode cX6_made 47 = .ok (.i2l, 1) := by decide +kernel
theorem dX6_made_48 : decode cX6_made 48 = .ok (.goto 4, 3) := by decide +kernel
theorem dX6_made_51 : decode cX6_made 51 = .ok (.lconst 1, 1) := by decide +kernel
theorem dX6_made_52 : decode cX6_made 52 = .ok (.lmul, 1) := by decide +kernel
theorem dX6_made_53 : decode cX6_made 53 = .ok (.lstore_n 3, 1) := by decide +kernel
theorem dX6_made_54 : decode cX6_made 54 = .ok (.iinc 5 1, 3) := by decide +kernel
theorem dX6_made_57 : decode cX6_made 57 = .ok (.goto (-52), 3) := by decide +kernel
theorem dX6_made_60 : decode cX6_made 60 = .ok (.lload_n 3, 1) := by decide +kernel
theorem dX6_made_61 : decode cX6_made 61 = .ok (.lreturn, 1) := by decide +kernel
set_option maxRecDepth 20000 in
theorem ggX6_likely_X6_isWay : GoodIn wsX6_likely wsX6_isWay := goodIn_r _ [9, 10, 11, 12, 8, 13, 66, 67, 68, 69, 70, 71, 72, 73, 74, 75, 76, 77, 78, 79, 80, 81, 82, 83, 84, 85, 86, 87, 88, 89, 90, 91, 92, 93, 94] (by decide +kernel) (by decide +kernel)
set_option maxRecDepth 20000 in
theorem gX6_likely_X6_isWay : GoodIn wsX6_likely (wsV RX6 167 RX6 yX6_isWay wsX6_isWay) := goodIn_app (goodIn_of _ (by decide +kernel)) ggX6_likely_X6_isWay
set_option maxRecDepth 20000 in
theorem ggX6_likely_X6_isStall : GoodIn wsX6_likely wsX6_isStall := goodIn_r _ [17, 18, 11, 12, 8, 13, 66, 67, 68, 69, 70, 71, 72, 73, 74, 75, 76, 77, 78, 79, 80, 81, 82, 83, 84, 85, 86, 87, 88, 89, 90, 91, 92, 93, 94] (by decide +kernel) (by decide +kernel)
set_option maxRecDepth 20000 in
theorem gX6_likely_X6_isStall : GoodIn wsX6_likely (wsV RX6 158 RX6 yX6_isStall wsX6_isStall) := goodIn_app (goodIn_of _ (by decide +kernel)) ggX6_likely_X6_isStall
set_option maxRecDepth 20000 in
theorem ggX6_likely_X6_in : GoodIn wsX6_likely wsX6_in := goodIn_r _ [13] (by decide +kernel) (by decide +kernel)
set_option maxRecDepth 20000 in
theorem gX6_likely_X6_in : GoodIn wsX6_likely (va_wsS RX6 61 yX6_in wsX6_in) := goodIn_app (goodIn_of _ (by decide +kernel)) ggX6_likely_X6_in
set_option maxRecDepth 20000 in
theorem ggX6_likely_X6_bagsOf : GoodIn wsX6_likely wsX6_bagsOf := goodIn_r _ [22, 23, 24, 25, 26, 8, 27, 66, 67, 68, 69, 70, 71, 72, 73, 74, 75, 76, 77, 78, 79, 80, 81, 82, 83, 84, 85, 86, 87, 88, 89, 90, 91, 92, 93, 94] (by decide +kernel) (by decide +kernel)
set_option maxRecDepth 20000 in
theorem gX6_likely_X6_bagsOf : GoodIn wsX6_likely (wsV RX6 161 RX6 yX6_bagsOf wsX6_bagsOf) := goodIn_app (goodIn_of _ (by decide +kernel)) ggX6_likely_X6_bagsOf
set_option maxRecDepth 20000 in
theorem ggX6_likely_X6_made : GoodIn wsX6_likely wsX6_made := goodIn_r _ [31, 23, 24, 25, 26, 8, 27, 32, 33, 34, 35, 36, 37, 38, 39, 40, 41, 42, 43, 44, 45, 46, 47, 48, 11, 12, 13, 49, 50, 51, 52, 53, 66, 67, 68, 69, 70, 71, 72, 73, 74, 75, 76, 77, 78, 79, 80, 81, 82, 83, 84, 85, 86, 87, 88, 89, 90, 91, 92, 93, 94] (by decide +kernel) (by decide +kernel)
set_option maxRecDepth 20000 in
theorem gX6_likely_X6_made : GoodIn wsX6_likely (wsV RX6 215 RX6 yX6_made wsX6_made) := goodIn_app (goodIn_of _ (by decide +kernel)) ggX6_likely_X6_made
set_option maxRecDepth 20000 in
theorem ggX6_likely_X6_power : GoodIn wsX6_likely wsX6_power := goodIn_r _ [56] (by decide +kernel) (by decide +kernel)
set_option maxRecDepth 20000 in
theorem gX6_likely_X6_power : GoodIn wsX6_likely (va_wsS RX6 202 yX6_power wsX6_power) := goodIn_app (goodIn_of _ (by decide +kernel)) ggX6_likely_X6_power
set_option maxRecDepth 20000 in
theorem ggX6_likely_X6_part : GoodIn wsX6_likely wsX6_part := goodIn_r _ [59, 60, 61, 8, 62, 63, 64, 65] (by decide +kernel) (by decide +kernel)
set_option maxRecDepth 20000 in
theorem gX6_likely_X6_part : GoodIn wsX6_likely (va_wsS RX6 221 yX6_part wsX6_part) := goodIn_app (goodIn_of _ (by decide +kernel)) ggX6_likely_X6_part
theorem dX6_likely_0 : decode cX6_likely 0 = .ok (.aload_n 0, 1) := by decide +kernel
theorem dX6_likely_1 : decode cX6_likely 1 = .ok (.iconst 0, 1) := by decide +kernel
theorem dX6_likely_2 : decode cX6_likely 2 = .ok (.putfield 54, 3) := by decide +kernel
theorem dX6_likely_5 : decode cX6_likely 5 = .ok (.aload_n 0, 1) := by decide +kernel
theorem dX6_likely_6 : decode cX6_likely 6 = .ok (.iload_n 1, 1) := by decide +kernel
theorem dX6_likely_7 : decode cX6_likely 7 = .ok (.invokevirtual 167, 3) := by decide +kernel
theorem dX6_likely_10 : decode cX6_likely 10 = .ok (.ifCond .eq 20, 3) := by decide +kernel
theorem dX6_likely_13 : decode cX6_likely 13 = .ok (.aload_n 0, 1) := by decide +kernel
theorem dX6_likely_14 : decode cX6_likely 14 = .ok (.iload_n 2, 1) := by decide +kernel
theorem dX6_likely_15 : decode cX6_likely 15 = .ok (.invokevirtual 158, 3) := by decide +kernel
theorem dX6_likely_18 : decode cX6_likely 18 = .ok (.ifCond .eq 12, 3) := by decide +kernel
theorem dX6_likely_21 : decode cX6_likely 21 = .ok (.iload_n 3, 1) := by decide +kernel
theorem dX6_likely_22 : decode cX6_likely 22 = .ok (.iconst 0, 1) := by decide +kernel
theorem dX6_likely_23 : decode cX6_likely 23 = .ok (.iconst 1, 1) := by decide +kernel
theorem dX6_likely_24 : decode cX6_likely 24 = .ok (.invokestatic 61, 3) := by decide +kernel
theorem dX6_likely_27 : decode cX6_likely 27 = .ok (.ifCond .ne 7, 3) := by decide +kernel
theorem dX6_likely_30 : decode cX6_likely 30 = .ok (.ldc2_w 205, 3) := by decide +kernel
theorem dX6_likely_33 : decode cX6_likely 33 = .ok (.lreturn, 1) := by decide +kernel
theorem dX6_likely_34 : decode cX6_likely 34 = .ok (.aload_n 0, 1) := by decide +kernel
theorem dX6_likely_35 : decode cX6_likely 35 = .ok (.iload_n 2, 1) := by decide +kernel
theorem dX6_likely_36 : decode cX6_likely 36 = .ok (.invokevirtual 161, 3) := by decide +kernel
theorem dX6_likely_39 : decode cX6_likely 39 = .ok (.istore 4, 2) := by decide +kernel
theorem dX6_likely_41 : decode cX6_likely 41 = .ok (.iload 4, 2) := by decide +kernel
theorem dX6_likely_43 : decode cX6_likely 43 = .ok (.bipush 6, 2) := by decide +kernel
theorem dX6_likely_45 : decode cX6_likely 45 = .ok (.if_icmp .le 9, 3) := by decide +kernel
theorem dX6_likely_48 : decode cX6_likely 48 = .ok (.ldc2_w 207, 3) := by decide +kernel
theorem dX6_likely_51 : decode cX6_likely 51 = .ok (.goto 21, 3) := by decide +kernel
theorem dX6_likely_54 : decode cX6_likely 54 = .ok (.aload_n 0, 1) := by decide +kernel
theorem dX6_likely_55 : decode cX6_likely 55 = .ok (.iload_n 1, 1) := by decide +kernel
theorem dX6_likely_56 : decode cX6_likely 56 = .ok (.iload_n 2, 1) := by decide +kernel
theorem dX6_likely_57 : decode cX6_likely 57 = .ok (.invokevirtual 215, 3) := by decide +kernel
theorem dX6_likely_60 : decode cX6_likely 60 = .ok (.ldc2_w 219, 3) := by decide +kernel
theorem dX6_likely_63 : decode cX6_likely 63 = .ok (.iload 4, 2) := by decide +kernel
theorem dX6_likely_65 : decode cX6_likely 65 = .ok (.invokestatic 202, 3) := by decide +kernel
theorem dX6_likely_68 : decode cX6_likely 68 = .ok (.iload_n 3, 1) := by decide +kernel
theorem dX6_likely_69 : decode cX6_likely 69 = .ok (.invokestatic 221, 3) := by decide +kernel
theorem dX6_likely_72 : decode cX6_likely 72 = .ok (.lreturn, 1) := by decide +kernel
set_option maxRecDepth 20000 in
theorem ggX6_belief_X6_isWay : GoodIn wsX6_belief wsX6_isWay := goodIn_r _ [7, 8, 9, 10, 6, 11, 12, 13, 14, 15, 16, 17, 18, 19, 20, 21, 22, 23, 24, 25, 26, 27, 28, 29, 30, 31, 32, 33, 34, 35, 36, 37, 38, 39, 40] (by decide +kernel) (by decide +kernel)
set_option maxRecDepth 20000 in
theorem gX6_belief_X6_isWay : GoodIn wsX6_belief (wsV RX6 167 RX6 yX6_isWay wsX6_isWay) := goodIn_app (goodIn_of _ (by decide +kernel)) ggX6_belief_X6_isWay
set_option maxRecDepth 20000 in
theorem ggX6_belief_X6_in : GoodIn wsX6_belief wsX6_in := goodIn_r _ [11] (by decide +kernel) (by decide +kernel)
set_option maxRecDepth 20000 in
theorem gX6_belief_X6_in : GoodIn wsX6_belief (va_wsS RX6 61 yX6_in wsX6_in) := goodIn_app (goodIn_of _ (by decide +kernel)) ggX6_belief_X6_in
theorem dX6_belief_0 : decode cX6_belief 0 = .ok (.aload_n 0, 1) := by decide +kernel
theorem dX6_belief_1 : decode cX6_belief 1 = .ok (.iconst 0, 1) := by decide +kernel
theorem dX6_belief_2 : decode cX6_belief 2 = .ok (.putfield 54, 3) := by decide +kernel
theorem dX6_belief_5 : decode cX6_belief 5 = .ok (.aload_n 0, 1) := by decide +kernel
theorem dX6_belief_6 : decode cX6_belief 6 = .ok (.iload_n 1, 1) := by decide +kernel
theorem dX6_belief_7 : decode cX6_belief 7 = .ok (.invokevirtual 167, 3) := by decide +kernel
theorem dX6_belief_10 : decode cX6_belief 10 = .ok (.ifCond .eq 13, 3) := by decide +kernel
theorem dX6_belief_13 : decode cX6_belief 13 = .ok (.iload_n 2, 1) := by decide +kernel
theorem dX6_belief_14 : decode cX6_belief 14 = .ok (.iconst 0, 1) := by decide +kernel
theorem dX6_belief_15 : decode cX6_belief 15 = .ok (.bipush 9, 2) := by decide +kernel
theorem dX6_belief_17 : decode cX6_belief 17 = .ok (.invokestatic 61, 3) := by decide +kernel
theorem dX6_belief_20 : decode cX6_belief 20 = .ok (.ifCond .ne 5, 3) := by decide +kernel
theorem dX6_belief_23 : decode cX6_belief 23 = .ok (.iconst (-1), 1) := by decide +kernel
theorem dX6_belief_24 : decode cX6_belief 24 = .ok (.ireturn, 1) := by decide +kernel
theorem dX6_belief_25 : decode cX6_belief 25 = .ok (.aload_n 0, 1) := by decide +kernel
theorem dX6_belief_26 : decode cX6_belief 26 = .ok (.getfield 36, 3) := by decide +kernel
theorem dX6_belief_29 : decode cX6_belief 29 = .ok (.iload_n 1, 1) := by decide +kernel
theorem dX6_belief_30 : decode cX6_belief 30 = .ok (.iaload, 1) := by decide +kernel
theorem dX6_belief_31 : decode cX6_belief 31 = .ok (.istore_n 3, 1) := by decide +kernel
theorem dX6_belief_32 : decode cX6_belief 32 = .ok (.aload_n 0, 1) := by decide +kernel
theorem dX6_belief_33 : decode cX6_belief 33 = .ok (.getfield 36, 3) := by decide +kernel
theorem dX6_belief_36 : decode cX6_belief 36 = .ok (.iload_n 1, 1) := by decide +kernel
theorem dX6_belief_37 : decode cX6_belief 37 = .ok (.iload_n 2, 1) := by decide +kernel
theorem dX6_belief_38 : decode cX6_belief 38 = .ok (.iastore, 1) := by decide +kernel
theorem dX6_belief_39 : decode cX6_belief 39 = .ok (.iload_n 3, 1) := by decide +kernel
theorem dX6_belief_40 : decode cX6_belief 40 = .ok (.ireturn, 1) := by decide +kernel
set_option maxRecDepth 20000 in
theorem ggX6_believedAll_X6_made : GoodIn wsX6_believedAll wsX6_made := goodIn_r _ [7, 8, 9, 10, 11, 6, 12, 13, 14, 15, 16, 17, 18, 19, 20, 21, 22, 23, 24, 25, 26, 27, 28, 29, 30, 31, 32, 33, 34, 35, 36, 37, 38, 39, 40, 41, 42, 43, 44, 45, 46, 47, 48, 49, 50, 51, 52, 53, 54, 55, 56, 57, 58, 59, 60, 61, 62, 63, 64, 65, 66] (by decide +kernel) (by decide +kernel)
set_option maxRecDepth 20000 in
theorem gX6_believedAll_X6_made : GoodIn wsX6_believedAll (wsV RX6 215 RX6 yX6_made wsX6_made) := goodIn_app (goodIn_of _ (by decide +kernel)) ggX6_believedAll_X6_made
theorem dX6_believedAll_0 : decode cX6_believedAll 0 = .ok (.lconst 0, 1) := by decide +kernel
theorem dX6_believedAll_1 : decode cX6_believedAll 1 = .ok (.lstore_n 2, 1) := by decide +kernel
theorem dX6_believedAll_2 : decode cX6_believedAll 2 = .ok (.iconst 0, 1) := by decide +kernel
theorem dX6_believedAll_3 : decode cX6_believedAll 3 = .ok (.istore 4, 2) := by decide +kernel
theorem dX6_believedAll_5 : decode cX6_believedAll 5 = .ok (.iload 4, 2) := by decide +kernel
theorem dX6_believedAll_7 : decode cX6_believedAll 7 = .ok (.aload_n 0, 1) := by decide +kernel
theorem dX6_believedAll_8 : decode cX6_believedAll 8 = .ok (.getfield 65, 3) := by decide +kernel
theorem dX6_believedAll_11 : decode cX6_believedAll 11 = .ok (.if_icmp .ge 28, 3) := by decide +kernel
theorem dX6_believedAll_14 : decode cX6_believedAll 14 = .ok (.lload_n 2, 1) := by decide +kernel
theorem dX6_believedAll_15 : decode cX6_believedAll 15 = .ok (.aload_n 0, 1) := by decide +kernel
theorem dX6_believedAll_16 : decode cX6_believedAll 16 = .ok (.getfield 36, 3) := by decide +kernel
theorem dX6_believedAll_19 : decode cX6_believedAll 19 = .ok (.iload 4, 2) := by decide +kernel
theorem dX6_believedAll_21 : decode cX6_believedAll 21 = .ok (.iaload, 1) := by decide +kernel
theorem dX6_believedAll_22 : decode cX6_believedAll 22 = .ok (.i2l, 1) := by decide +kernel
theorem dX6_believedAll_23 : decode cX6_believedAll 23 = .ok (.aload_n 0, 1) := by decide +kernel
theorem dX6_believedAll_24 : decode cX6_believedAll 24 = .ok (.iload 4, 2) := by decide +kernel
theorem dX6_believedAll_26 : decode cX6_believedAll 26 = .ok (.iload_n 1, 1) := by decide +kernel
theorem dX6_believedAll_27 : decode cX6_believedAll 27 = .ok (.invokevirtual 215, 3) := by decide +kernel
theorem dX6_believedAll_30 : decode cX6_believedAll 30 = .ok (.lmul, 1) := by decide +kernel
theorem dX6_believedAll_31 : decode cX6_believedAll 31 = .ok (.ladd, 1) := by decide +kernel
theorem dX6_believedAll_32 : decode cX6_believedAll 32 = .ok (.lstore_n 2, 1) := by decide +kernel
theorem dX6_believedAll_33 : decode cX6_believedAll 33 = .ok (.iinc 4 1, 3) := by decide +kernel
theorem dX6_believedAll_36 : decode cX6_believedAll 36 = .ok (.goto (-31), 3) := by decide +kernel
theorem dX6_believedAll_39 : decode cX6_believedAll 39 = .ok (.lload_n 2, 1) := by decide +kernel
theorem dX6_believedAll_40 : decode cX6_believedAll 40 = .ok (.lreturn, 1) := by decide +kernel
set_option maxRecDepth 20000 in
theorem ggX6_odds_X6_isWay : GoodIn wsX6_odds wsX6_isWay := goodIn_r _ [9, 10, 11, 12, 8, 13, 67, 68, 69, 70, 71, 72, 73, 74, 75, 76, 77, 78, 79, 80, 81, 82, 83, 84, 85, 86, 87, 88, 89, 90, 91, 92, 93, 94, 95] (by decide +kernel) (by decide +kernel)
set_option maxRecDepth 20000 in
theorem gX6_odds_X6_isWay : GoodIn wsX6_odds (wsV RX6 167 RX6 yX6_isWay wsX6_isWay) := goodIn_app (goodIn_of _ (by decide +kernel)) ggX6_odds_X6_isWay
set_option maxRecDepth 20000 in
theorem ggX6_odds_X6_isStall : GoodIn wsX6_odds wsX6_isStall := goodIn_r _ [17, 18, 11, 12, 8, 13, 67, 68, 69, 70, 71, 72, 73, 74, 75, 76, 77, 78, 79, 80, 81, 82, 83, 84, 85, 86, 87, 88, 89, 90, 91, 92, 93, 94, 95] (by decide +kernel) (by decide +kernel)
set_option maxRecDepth 20000 in
theorem gX6_odds_X6_isStall : GoodIn wsX6_odds (wsV RX6 158 RX6 yX6_isStall wsX6_isStall) := goodIn_app (goodIn_of _ (by decide +kernel)) ggX6_odds_X6_isStall
set_option maxRecDepth 20000 in
theorem ggX6_odds_X6_in : GoodIn wsX6_odds wsX6_in := goodIn_r _ [13] (by decide +kernel) (by decide +kernel)
set_option maxRecDepth 20000 in
theorem gX6_odds_X6_in : GoodIn wsX6_odds (va_wsS RX6 61 yX6_in wsX6_in) := goodIn_app (goodIn_of _ (by decide +kernel)) ggX6_odds_X6_in
set_option maxRecDepth 20000 in
theorem ggX6_odds_X6_bagsOf : GoodIn wsX6_odds wsX6_bagsOf := goodIn_r _ [22, 23, 24, 25, 26, 8, 27, 67, 68, 69, 70, 71, 72, 73, 74, 75, 76, 77, 78, 79, 80, 81, 82, 83, 84, 85, 86, 87, 88, 89, 90, 91, 92, 93, 94, 95] (by decide +kernel) (by decide +kernel)
set_option maxRecDepth 20000 in
theorem gX6_odds_X6_bagsOf : GoodIn wsX6_odds (wsV RX6 161 RX6 yX6_bagsOf wsX6_bagsOf) := goodIn_app (goodIn_of _ (by decide +kernel)) ggX6_odds_X6_bagsOf
set_option maxRecDepth 20000 in
theorem ggX6_odds_X6_believedAll : GoodIn wsX6_odds wsX6_believedAll := goodIn_r _ [31, 10, 4, 32, 33, 34, 8, 35, 23, 24, 25, 26, 27, 36, 37, 38, 39, 40, 41, 42, 43, 44, 45, 46, 47, 48, 49, 50, 51, 52, 11, 12, 13, 53, 54, 55, 56, 57, 67, 68, 69, 70, 71, 72, 73, 74, 75, 76, 77, 78, 79, 80, 81, 82, 83, 84, 85, 86, 87, 88, 89, 90, 91, 92, 93, 94, 95] (by decide +kernel) (by decide +kernel)
set_option maxRecDepth 20000 in
theorem gX6_odds_X6_believedAll : GoodIn wsX6_odds (wsV RX6 225 RX6 yX6_believedAll wsX6_believedAll) := goodIn_app (goodIn_of _ (by decide +kernel)) ggX6_odds_X6_believedAll
set_option maxRecDepth 20000 in
theorem ggX6_odds_X6_made : GoodIn wsX6_odds wsX6_made := goodIn_r _ [35, 23, 24, 25, 26, 8, 27, 36, 37, 38, 39, 40, 41, 42, 43, 44, 45, 46, 47, 48, 49, 50, 51, 52, 11, 12, 13, 53, 54, 55, 56, 57, 67, 68, 69, 70, 71, 72, 73, 74, 75, 76, 77, 78, 79, 80, 81, 82, 83, 84, 85, 86, 87, 88, 89, 90, 91, 92, 93, 94, 95] (by decide +kernel) (by decide +kernel)
set_option maxRecDepth 20000 in
theorem gX6_odds_X6_made : GoodIn wsX6_odds (wsV RX6 215 RX6 yX6_made wsX6_made) := goodIn_app (goodIn_of _ (by decide +kernel)) ggX6_odds_X6_made
set_option maxRecDepth 20000 in
theorem ggX6_odds_X6_part : GoodIn wsX6_odds wsX6_part := goodIn_r _ [60, 61, 62, 8, 63, 64, 65, 66] (by decide +kernel) (by decide +kernel)
set_option maxRecDepth 20000 in
theorem gX6_odds_X6_part : GoodIn wsX6_odds (va_wsS RX6 221 yX6_part wsX6_part) := goodIn_app (goodIn_of _ (by decide +kernel)) ggX6_odds_X6_part
theorem dX6_odds_0 : decode cX6_odds 0 = .ok (.aload_n 0, 1) := by decide +kernel
theorem dX6_odds_1 : decode cX6_odds 1 = .ok (.iconst 0, 1) := by decide +kernel
theorem dX6_odds_2 : decode cX6_odds 2 = .ok (.putfield 54, 3) := by decide +kernel
theorem dX6_odds_5 : decode cX6_odds 5 = .ok (.aload_n 0, 1) := by decide +kernel
theorem dX6_odds_6 : decode cX6_odds 6 = .ok (.iload_n 1, 1) := by decide +kernel
theorem dX6_odds_7 : decode cX6_odds 7 = .ok (.invokevirtual 167, 3) := by decide +kernel
theorem dX6_odds_10 : decode cX6_odds 10 = .ok (.ifCond .eq 20, 3) := by decide +kernel
theorem dX6_odds_13 : decode cX6_odds 13 = .ok (.aload_n 0, 1) := by decide +kernel
theorem dX6_odds_14 : decode cX6_odds 14 = .ok (.iload_n 2, 1) := by decide +kernel
theorem dX6_odds_15 : decode cX6_odds 15 = .ok (.invokevirtual 158, 3) := by decide +kernel
theorem dX6_odds_18 : decode cX6_odds 18 = .ok (.ifCond .eq 12, 3) := by decide +kernel
theorem dX6_odds_21 : decode cX6_odds 21 = .ok (.iload_n 3, 1) := by decide +kernel
theorem dX6_odds_22 : decode cX6_odds 22 = .ok (.iconst 0, 1) := by decide +kernel
theorem dX6_odds_23 : decode cX6_odds 23 = .ok (.iconst 1, 1) := by decide +kernel
theorem dX6_odds_24 : decode cX6_odds 24 = .ok (.invokestatic 61, 3) := by decide +kernel
theorem dX6_odds_27 : decode cX6_odds 27 = .ok (.ifCond .ne 7, 3) := by decide +kernel
theorem dX6_odds_30 : decode cX6_odds 30 = .ok (.ldc2_w 205, 3) := by decide +kernel
theorem dX6_odds_33 : decode cX6_odds 33 = .ok (.lreturn, 1) := by decide +kernel
theorem dX6_odds_34 : decode cX6_odds 34 = .ok (.aload_n 0, 1) := by decide +kernel
theorem dX6_odds_35 : decode cX6_odds 35 = .ok (.iload_n 2, 1) := by decide +kernel
theorem dX6_odds_36 : decode cX6_odds 36 = .ok (.invokevirtual 161, 3) := by decide +kernel
theorem dX6_odds_39 : decode cX6_odds 39 = .ok (.bipush 6, 2) := by decide +kernel
theorem dX6_odds_41 : decode cX6_odds 41 = .ok (.if_icmp .gt 13, 3) := by decide +kernel
theorem dX6_odds_44 : decode cX6_odds 44 = .ok (.aload_n 0, 1) := by decide +kernel
theorem dX6_odds_45 : decode cX6_odds 45 = .ok (.iload_n 2, 1) := by decide +kernel
theorem dX6_odds_46 : decode cX6_odds 46 = .ok (.invokevirtual 225, 3) := by decide +kernel
theorem dX6_odds_49 : decode cX6_odds 49 = .ok (.lconst 0, 1) := by decide +kernel
theorem dX6_odds_50 : decode cX6_odds 50 = .ok (.lcmp, 1) := by decide +kernel
theorem dX6_odds_51 : decode cX6_odds 51 = .ok (.ifCond .ne 7, 3) := by decide +kernel
theorem dX6_odds_54 : decode cX6_odds 54 = .ok (.ldc2_w 207, 3) := by decide +kernel
theorem dX6_odds_57 : decode cX6_odds 57 = .ok (.lreturn, 1) := by decide +kernel
theorem dX6_odds_58 : decode cX6_odds 58 = .ok (.aload_n 0, 1) := by decide +kernel
theorem dX6_odds_59 : decode cX6_odds 59 = .ok (.getfield 36, 3) := by decide +kernel
theorem dX6_odds_62 : decode cX6_odds 62 = .ok (.iload_n 1, 1) := by decide +kernel
theorem dX6_odds_63 : decode cX6_odds 63 = .ok (.iaload, 1) := by decide +kernel
theorem dX6_odds_64 : decode cX6_odds 64 = .ok (.i2l, 1) := by decide +kernel
theorem dX6_odds_65 : decode cX6_odds 65 = .ok (.aload_n 0, 1) := by decide +kernel
theorem dX6_odds_66 : decode cX6_odds 66 = .ok (.iload_n 1, 1) := by decide +kernel
theorem dX6_odds_67 : decode cX6_odds 67 = .ok (.iload_n 2, 1) := by decide +kernel
theorem dX6_odds_68 : decode cX6_odds 68 = .ok (.invokevirtual 215, 3) := by decide +kernel
theorem dX6_odds_71 : decode cX6_odds 71 = .ok (.lmul, 1) := by decide +kernel
theorem dX6_odds_72 : decode cX6_odds 72 = .ok (.aload_n 0, 1) := by decide +kernel
theorem dX6_odds_73 : decode cX6_odds 73 = .ok (.iload_n 2, 1) := by decide +kernel
theorem dX6_odds_74 : decode cX6_odds 74 = .ok (.invokevirtual 225, 3) := by decide +kernel
theorem dX6_odds_77 : decode cX6_odds 77 = .ok (.iload_n 3, 1) := by decide +kernel
theorem dX6_odds_78 : decode cX6_odds 78 = .ok (.invokestatic 221, 3) := by decide +kernel
theorem dX6_odds_81 : decode cX6_odds 81 = .ok (.lreturn, 1) := by decide +kernel
set_option maxRecDepth 20000 in
theorem ggX6_judged_X6_isStall : GoodIn wsX6_judged wsX6_isStall := goodIn_r _ [8, 9, 10, 11, 7, 12, 52, 53, 54, 55, 56, 57, 58, 59, 60, 61, 62, 63, 64, 65, 66, 67, 68, 69, 70, 71, 72, 73, 74, 75, 76, 77, 78, 79, 80] (by decide +kernel) (by decide +kernel)
set_option maxRecDepth 20000 in
theorem gX6_judged_X6_isStall : GoodIn wsX6_judged (wsV RX6 158 RX6 yX6_isStall wsX6_isStall) := goodIn_app (goodIn_of _ (by decide +kernel)) ggX6_judged_X6_isStall
set_option maxRecDepth 20000 in
theorem ggX6_judged_X6_bagsOf : GoodIn wsX6_judged wsX6_bagsOf := goodIn_r _ [16, 17, 18, 19, 20, 7, 21, 52, 53, 54, 55, 56, 57, 58, 59, 60, 61, 62, 63, 64, 65, 66, 67, 68, 69, 70, 71, 72, 73, 74, 75, 76, 77, 78, 79, 80] (by decide +kernel) (by decide +kernel)
set_option maxRecDepth 20000 in
theorem gX6_judged_X6_bagsOf : GoodIn wsX6_judged (wsV RX6 161 RX6 yX6_bagsOf wsX6_bagsOf) := goodIn_app (goodIn_of _ (by decide +kernel)) ggX6_judged_X6_bagsOf
set_option maxRecDepth 20000 in
theorem ggX6_judged_X6_believedAll : GoodIn wsX6_judged wsX6_believedAll := goodIn_r _ [25, 2, 3, 26, 27, 28, 7, 29, 17, 18, 19, 20, 21, 30, 31, 32, 33, 34, 35, 36, 37, 38, 39, 40, 41, 42, 43, 44, 45, 46, 10, 11, 12, 47, 48, 49, 50, 51, 52, 53, 54, 55, 56, 57, 58, 59, 60, 61, 62, 63, 64, 65, 66, 67, 68, 69, 70, 71, 72, 73, 74, 75, 76, 77, 78, 79, 80] (by decide +kernel) (by decide +kernel)
set_option maxRecDepth 20000 in
theorem gX6_judged_X6_believedAll : GoodIn wsX6_judged (wsV RX6 225 RX6 yX6_believedAll wsX6_believedAll) := goodIn_app (goodIn_of _ (by decide +kernel)) ggX6_judged_X6_believedAll
set_option maxRecDepth 20000 in
theorem ggX6_judged_X6_made : GoodIn wsX6_judged wsX6_made := goodIn_r _ [29, 17, 18, 19, 20, 7, 21, 30, 31, 32, 33, 34, 35, 36, 37, 38, 39, 40, 41, 42, 43, 44, 45, 46, 10, 11, 12, 47, 48, 49, 50, 51, 52, 53, 54, 55, 56, 57, 58, 59, 60, 61, 62, 63, 64, 65, 66, 67, 68, 69, 70, 71, 72, 73, 74, 75, 76, 77, 78, 79, 80] (by decide +kernel) (by decide +kernel)
set_option maxRecDepth 20000 in
theorem gX6_judged_X6_made : GoodIn wsX6_judged (wsV RX6 215 RX6 yX6_made wsX6_made) := goodIn_app (goodIn_of _ (by decide +kernel)) ggX6_judged_X6_made
theorem dX6_judged_0 : decode cX6_judged 0 = .ok (.aload_n 0, 1) := by decide +kernel
theorem dX6_judged_1 : decode cX6_judged 1 = .ok (.iconst 0, 1) := by decide +kernel
theorem dX6_judged_2 : decode cX6_judged 2 = .ok (.putfield 54, 3) := by decide +kernel
theorem dX6_judged_5 : decode cX6_judged 5 = .ok (.aload_n 0, 1) := by decide +kernel
theorem dX6_judged_6 : decode cX6_judged 6 = .ok (.iload_n 1, 1) := by decide +kernel
theorem dX6_judged_7 : decode cX6_judged 7 = .ok (.invokevirtual 158, 3) := by decide +kernel
theorem dX6_judged_10 : decode cX6_judged 10 = .ok (.ifCond .ne 5, 3) := by decide +kernel
theorem dX6_judged_13 : decode cX6_judged 13 = .ok (.iconst (-1), 1) := by decide +kernel
theorem dX6_judged_14 : decode cX6_judged 14 = .ok (.ireturn, 1) := by decide +kernel
theorem dX6_judged_15 : decode cX6_judged 15 = .ok (.aload_n 0, 1) := by decide +kernel
theorem dX6_judged_16 : decode cX6_judged 16 = .ok (.iload_n 1, 1) := by decide +kernel
theorem dX6_judged_17 : decode cX6_judged 17 = .ok (.invokevirtual 161, 3) := by decide +kernel
theorem dX6_judged_20 : decode cX6_judged 20 = .ok (.bipush 6, 2) := by decide +kernel
theorem dX6_judged_22 : decode cX6_judged 22 = .ok (.if_icmp .gt 13, 3) := by decide +kernel
theorem dX6_judged_25 : decode cX6_judged 25 = .ok (.aload_n 0, 1) := by decide +kernel
theorem dX6_judged_26 : decode cX6_judged 26 = .ok (.iload_n 1, 1) := by decide +kernel
theorem dX6_judged_27 : decode cX6_judged 27 = .ok (.invokevirtual 225, 3) := by decide +kernel
theorem dX6_judged_30 : decode cX6_judged 30 = .ok (.lconst 0, 1) := by decide +kernel
theorem dX6_judged_31 : decode cX6_judged 31 = .ok (.lcmp, 1) := by decide +kernel
theorem dX6_judged_32 : decode cX6_judged 32 = .ok (.ifCond .ne 6, 3) := by decide +kernel
theorem dX6_judged_35 : decode cX6_judged 35 = .ok (.bipush (-2), 2) := by decide +kernel
theorem dX6_judged_37 : decode cX6_judged 37 = .ok (.ireturn, 1) := by decide +kernel
theorem dX6_judged_38 : decode cX6_judged 38 = .ok (.iconst 0, 1) := by decide +kernel
theorem dX6_judged_39 : decode cX6_judged 39 = .ok (.istore_n 2, 1) := by decide +kernel
theorem dX6_judged_40 : decode cX6_judged 40 = .ok (.iconst 1, 1) := by decide +kernel
theorem dX6_judged_41 : decode cX6_judged 41 = .ok (.istore_n 3, 1) := by decide +kernel
theorem dX6_judged_42 : decode cX6_judged 42 = .ok (.iload_n 3, 1) := by decide +kernel
theorem dX6_judged_43 : decode cX6_judged 43 = .ok (.aload_n 0, 1) := by decide +kernel
theorem dX6_judged_44 : decode cX6_judged 44 = .ok (.getfield 65, 3) := by decide +kernel
theorem dX6_judged_47 : decode cX6_judged 47 = .ok (.if_icmp .ge 47, 3) := by decide +kernel
theorem dX6_judged_50 : decode cX6_judged 50 = .ok (.aload_n 0, 1) := by decide +kernel
theorem dX6_judged_51 : decode cX6_judged 51 = .ok (.getfield 36, 3) := by decide +kernel
theorem dX6_judged_54 : decode cX6_judged 54 = .ok (.iload_n 3, 1) := by decide +kernel
theorem dX6_judged_55 : decode cX6_judged 55 = .ok (.iaload, 1) := by decide +kernel
theorem dX6_judged_56 : decode cX6_judged 56 = .ok (.i2l, 1) := by decide +kernel
theorem dX6_judged_57 : decode cX6_judged 57 = .ok (.aload_n 0, 1) := by decide +kernel
theorem dX6_judged_58 : decode cX6_judged 58 = .ok (.iload_n 3, 1) := by decide +kernel
theorem dX6_judged_59 : decode cX6_judged 59 = .ok (.iload_n 1, 1) := by decide +kernel
theorem dX6_judged_60 : decode cX6_judged 60 = .ok (.invokevirtual 215, 3) := by decide +kernel
theorem dX6_judged_63 : decode cX6_judged 63 = .ok (.lmul, 1) := by decide +kernel
theorem dX6_judged_64 : decode cX6_judged 64 = .ok (.aload_n 0, 1) := by decide +kernel
theorem dX6_judged_65 : decode cX6_judged 65 = .ok (.getfield 36, 3) := by decide +kernel
theorem dX6_judged_68 : decode cX6_judged 68 = .ok (.iload_n 2, 1) := by decide +kernel
theorem dX6_judged_69 : decode cX6_judged 69 = .ok (.iaload, 1) := by decide +kernel
theorem dX6_judged_70 : decode cX6_judged 70 = .ok (.i2l, 1) := by decide +kernel
theorem dX6_judged_71 : decode cX6_judged 71 = .ok (.aload_n 0, 1) := by decide +kernel
theorem dX6_judged_72 : decode cX6_judged 72 = .ok (.iload_n 2, 1) := by decide +kernel
theorem dX6_judged_73 : decode cX6_judged 73 = .ok (.iload_n 1, 1) := by decide +kernel
theorem dX6_judged_74 : decode cX6_judged 74 = .ok (.invokevirtual 215, 3) := by decide +kernel
theorem dX6_judged_77 : decode cX6_judged 77 = .ok (.lmul, 1) := by decide +kernel
theorem dX6_judged_78 : decode cX6_judged 78 = .ok (.lcmp, 1) := by decide +kernel
theorem dX6_judged_79 : decode cX6_judged 79 = .ok (.ifCond .le 7, 3) := by decide +kernel
theorem dX6_judged_82 : decode cX6_judged 82 = .ok (.iload_n 3, 1) := by decide +kernel
theorem dX6_judged_83 : decode cX6_judged 83 = .ok (.goto 4, 3) := by decide +kernel
theorem dX6_judged_86 : decode cX6_judged 86 = .ok (.iload_n 2, 1) := by decide +kernel
theorem dX6_judged_87 : decode cX6_judged 87 = .ok (.istore_n 2, 1) := by decide +kernel
theorem dX6_judged_88 : decode cX6_judged 88 = .ok (.iinc 3 1, 3) := by decide +kernel
theorem dX6_judged_91 : decode cX6_judged 91 = .ok (.goto (-49), 3) := by decide +kernel
theorem dX6_judged_94 : decode cX6_judged 94 = .ok (.iload_n 2, 1) := by decide +kernel
theorem dX6_judged_95 : decode cX6_judged 95 = .ok (.ireturn, 1) := by decide +kernel
set_option maxRecDepth 20000 in
theorem ggX6_apartOf_X6_oftenOf : GoodIn wsX6_apartOf wsX6_oftenOf := goodIn_r _ [5, 6, 7, 8, 9, 4, 10, 11, 12, 13, 14, 15, 19, 20, 21, 22, 23, 24, 25, 26, 27, 28, 29, 30, 31, 32, 33, 34, 35, 36, 37, 38, 39, 40, 41, 42, 43, 44, 45, 46, 47] (by decide +kernel) (by decide +kernel)
set_option maxRecDepth 20000 in
theorem gX6_apartOf_X6_oftenOf : GoodIn wsX6_apartOf (wsV RX6 176 RX6 yX6_oftenOf wsX6_oftenOf) := goodIn_app (goodIn_of _ (by decide +kernel)) ggX6_apartOf_X6_oftenOf
set_option maxRecDepth 20000 in
theorem ggX6_apartOf_X6_size : GoodIn wsX6_apartOf wsX6_size := goodIn_r _ [18] (by decide +kernel) (by decide +kernel)
set_option maxRecDepth 20000 in
theorem gX6_apartOf_X6_size : GoodIn wsX6_apartOf (va_wsS RX6 68 yX6_size wsX6_size) := goodIn_app (goodIn_of _ (by decide +kernel)) ggX6_apartOf_X6_size
theorem dX6_apartOf_0 : decode cX6_apartOf 0 = .ok (.iconst 0, 1) := by decide +kernel
theorem dX6_apartOf_1 : decode cX6_apartOf 1 = .ok (.istore 5, 2) := by decide +kernel
theorem dX6_apartOf_3 : decode cX6_apartOf 3 = .ok (.iconst (-1), 1) := by decide +kernel
theorem dX6_apartOf_4 : decode cX6_apartOf 4 = .ok (.istore 6, 2) := by decide +kernel
theorem dX6_apartOf_6 : decode cX6_apartOf 6 = .ok (.iload 6, 2) := by decide +kernel
theorem dX6_apartOf_8 : decode cX6_apartOf 8 = .ok (.bipush 101, 2) := by decide +kernel
theorem dX6_apartOf_10 : decode cX6_apartOf 10 = .ok (.if_icmp .ge 40, 3) := by decide +kernel
theorem dX6_apartOf_13 : decode cX6_apartOf 13 = .ok (.iload 5, 2) := by decide +kernel
theorem dX6_apartOf_15 : decode cX6_apartOf 15 = .ok (.aload_n 0, 1) := by decide +kernel
theorem dX6_apartOf_16 : decode cX6_apartOf 16 = .ok (.iload_n 1, 1) := by decide +kernel
theorem dX6_apartOf_17 : decode cX6_apartOf 17 = .ok (.iload_n 3, 1) := by decide +kernel
theorem dX6_apartOf_18 : decode cX6_apartOf 18 = .ok (.iload 4, 2) := by decide +kernel
theorem dX6_apartOf_20 : decode cX6_apartOf 20 = .ok (.iload 6, 2) := by decide +kernel
theorem dX6_apartOf_22 : decode cX6_apartOf 22 = .ok (.invokevirtual 176, 3) := by decide +kernel
theorem dX6_apartOf_25 : decode cX6_apartOf 25 = .ok (.aload_n 0, 1) := by decide +kernel
theorem dX6_apartOf_26 : decode cX6_apartOf 26 = .ok (.iload_n 2, 1) := by decide +kernel
theorem dX6_apartOf_27 : decode cX6_apartOf 27 = .ok (.iload_n 3, 1) := by decide +kernel
theorem dX6_apartOf_28 : decode cX6_apartOf 28 = .ok (.iload 4, 2) := by decide +kernel
theorem dX6_apartOf_30 : decode cX6_apartOf 30 = .ok (.iload 6, 2) := by decide +kernel
theorem dX6_apartOf_32 : decode cX6_apartOf 32 = .ok (.invokevirtual 176, 3) := by decide +kernel
theorem dX6_apartOf_35 : decode cX6_apartOf 35 = .ok (.isub, 1) := by decide +kernel
theorem dX6_apartOf_36 : decode cX6_apartOf 36 = .ok (.i2l, 1) := by decide +kernel
theorem dX6_apartOf_37 : decode cX6_apartOf 37 = .ok (.invokestatic 68, 3) := by decide +kernel
theorem dX6_apartOf_40 : decode cX6_apartOf 40 = .ok (.l2i, 1) := by decide +kernel
theorem dX6_apartOf_41 : decode cX6_apartOf 41 = .ok (.iadd, 1) := by decide +kernel
theorem dX6_apartOf_42 : decode cX6_apartOf 42 = .ok (.istore 5, 2) := by decide +kernel
theorem dX6_apartOf_44 : decode cX6_apartOf 44 = .ok (.iinc 6 1, 3) := by decide +kernel
theorem dX6_apartOf_47 : decode cX6_apartOf 47 = .ok (.goto (-41), 3) := by decide +kernel
theorem dX6_apartOf_50 : decode cX6_apartOf 50 = .ok (.iload 5, 2) := by decide +kernel
theorem dX6_apartOf_52 : decode cX6_apartOf 52 = .ok (.ireturn, 1) := by decide +kernel
set_option maxRecDepth 20000 in
theorem ggX6_apart_X6_isWay : GoodIn wsX6_apart wsX6_isWay := goodIn_r _ [6, 7, 8, 9, 5, 10, 37, 38, 39, 40, 41, 42, 43, 44, 45, 46, 47, 48, 49, 50, 51, 52, 53, 54, 55, 56, 57, 58, 59, 60, 61, 62, 63, 64, 65] (by decide +kernel) (by decide +kernel)
set_option maxRecDepth 20000 in
theorem gX6_apart_X6_isWay : GoodIn wsX6_apart (wsV RX6 167 RX6 yX6_isWay wsX6_isWay) := goodIn_app (goodIn_of _ (by decide +kernel)) ggX6_apart_X6_isWay
set_option maxRecDepth 20000 in
theorem ggX6_apart_X6_isStall : GoodIn wsX6_apart wsX6_isStall := goodIn_r _ [14, 15, 8, 9, 5, 10, 37, 38, 39, 40, 41, 42, 43, 44, 45, 46, 47, 48, 49, 50, 51, 52, 53, 54, 55, 56, 57, 58, 59, 60, 61, 62, 63, 64, 65] (by decide +kernel) (by decide +kernel)
set_option maxRecDepth 20000 in
theorem gX6_apart_X6_isStall : GoodIn wsX6_apart (wsV RX6 158 RX6 yX6_isStall wsX6_isStall) := goodIn_app (goodIn_of _ (by decide +kernel)) ggX6_apart_X6_isStall
set_option maxRecDepth 20000 in
theorem ggX6_apart_X6_isSort : GoodIn wsX6_apart wsX6_isSort := goodIn_r _ [18, 8, 9, 5, 10] (by decide +kernel) (by decide +kernel)
set_option maxRecDepth 20000 in
theorem gX6_apart_X6_isSort : GoodIn wsX6_apart (va_wsS RX6 173 yX6_isSort wsX6_isSort) := goodIn_app (goodIn_of _ (by decide +kernel)) ggX6_apart_X6_isSort
set_option maxRecDepth 20000 in
theorem ggX6_apart_X6_apartOf : GoodIn wsX6_apart wsX6_apartOf := goodIn_r _ [22, 23, 24, 25, 5, 26, 27, 28, 8, 9, 10, 29, 30, 31, 32, 33, 34, 35, 36, 37, 38, 39, 40, 41, 42, 43, 44, 45, 46, 47, 48, 49, 50, 51, 52, 53, 54, 55, 56, 57, 58, 59, 60, 61, 62, 63, 64, 65] (by decide +kernel) (by decide +kernel)
set_option maxRecDepth 20000 in
theorem gX6_apart_X6_apartOf : GoodIn wsX6_apart (wsV RX6 229 RX6 yX6_apartOf wsX6_apartOf) := goodIn_app (goodIn_of _ (by decide +kernel)) ggX6_apart_X6_apartOf
theorem dX6_apart_0 : decode cX6_apart 0 = .ok (.aload_n 0, 1) := by decide +kernel
theorem dX6_apart_1 : decode cX6_apart 1 = .ok (.iconst 0, 1) := by decide +kernel
theorem dX6_apart_2 : decode cX6_apart 2 = .ok (.putfield 54, 3) := by decide +kernel
theorem dX6_apart_5 : decode cX6_apart 5 = .ok (.aload_n 0, 1) := by decide +kernel
theorem dX6_apart_6 : decode cX6_apart 6 = .ok (.iload_n 1, 1) := by decide +kernel
theorem dX6_apart_7 : decode cX6_apart 7 = .ok (.invokevirtual 167, 3) := by decide +kernel
theorem dX6_apart_10 : decode cX6_apart 10 = .ok (.ifCond .eq 39, 3) := by decide +kernel
theorem dX6_apart_13 : decode cX6_apart 13 = .ok (.aload_n 0, 1) := by decide +kernel
theorem dX6_apart_14 : decode cX6_apart 14 = .ok (.iload_n 2, 1) := by decide +kernel
theorem dX6_apart_15 : decode cX6_apart 15 = .ok (.invokevirtual 167, 3) := by decide +kernel
theorem dX6_apart_18 : decode cX6_apart 18 = .ok (.ifCond .eq 31, 3) := by decide +kernel
theorem dX6_apart_21 : decode cX6_apart 21 = .ok (.aload_n 0, 1) := by decide +kernel
theorem dX6_apart_22 : decode cX6_apart 22 = .ok (.iload_n 3, 1) := by decide +kernel
theorem dX6_apart_23 : decode cX6_apart 23 = .ok (.invokevirtual 158, 3) := by decide +kernel
theorem dX6_apart_26 : decode cX6_apart 26 = .ok (.ifCond .eq 23, 3) := by decide +kernel
theorem dX6_apart_29 : decode cX6_apart 29 = .ok (.iload 4, 2) := by decide +kernel
theorem dX6_apart_31 : decode cX6_apart 31 = .ok (.invokestatic 173, 3) := by decide +kernel
theorem dX6_apart_34 : decode cX6_apart 34 = .ok (.ifCond .eq 15, 3) := by decide +kernel
theorem dX6_apart_37 : decode cX6_apart 37 = .ok (.aload_n 0, 1) := by decide +kernel
theorem dX6_apart_38 : decode cX6_apart 38 = .ok (.iload_n 1, 1) := by decide +kernel
theorem dX6_apart_39 : decode cX6_apart 39 = .ok (.iload_n 2, 1) := by decide +kernel
theorem dX6_apart_40 : decode cX6_apart 40 = .ok (.iload_n 3, 1) := by decide +kernel
theorem dX6_apart_41 : decode cX6_apart 41 = .ok (.iload 4, 2) := by decide +kernel
theorem dX6_apart_43 : decode cX6_apart 43 = .ok (.invokevirtual 229, 3) := by decide +kernel
theorem dX6_apart_46 : decode cX6_apart 46 = .ok (.goto 4, 3) := by decide +kernel
theorem dX6_apart_49 : decode cX6_apart 49 = .ok (.iconst (-1), 1) := by decide +kernel
theorem dX6_apart_50 : decode cX6_apart 50 = .ok (.ireturn, 1) := by decide +kernel
set_option maxRecDepth 20000 in
theorem ggX6_follow_X6_isWay : GoodIn wsX6_follow wsX6_isWay := goodIn_r _ [6, 7, 8, 9, 5, 10, 34, 35, 36, 37, 38, 39, 40, 41, 42, 43, 44, 45, 46, 47, 48, 49, 50, 51, 52, 53, 54, 55, 56, 57, 58, 59, 60, 61, 62] (by decide +kernel) (by decide +kernel)
set_option maxRecDepth 20000 in
theorem gX6_follow_X6_isWay : GoodIn wsX6_follow (wsV RX6 167 RX6 yX6_isWay wsX6_isWay) := goodIn_app (goodIn_of _ (by decide +kernel)) ggX6_follow_X6_isWay
set_option maxRecDepth 20000 in
theorem ggX6_follow_X6_isStall : GoodIn wsX6_follow wsX6_isStall := goodIn_r _ [14, 15, 8, 9, 5, 10, 34, 35, 36, 37, 38, 39, 40, 41, 42, 43, 44, 45, 46, 47, 48, 49, 50, 51, 52, 53, 54, 55, 56, 57, 58, 59, 60, 61, 62] (by decide +kernel) (by decide +kernel)
set_option maxRecDepth 20000 in
theorem gX6_follow_X6_isStall : GoodIn wsX6_follow (wsV RX6 158 RX6 yX6_isStall wsX6_isStall) := goodIn_app (goodIn_of _ (by decide +kernel)) ggX6_follow_X6_isStall
set_option maxRecDepth 20000 in
theorem ggX6_follow_X6_apartOf : GoodIn wsX6_follow wsX6_apartOf := goodIn_r _ [19, 20, 21, 22, 5, 23, 24, 25, 8, 9, 10, 26, 27, 28, 29, 30, 31, 32, 33, 34, 35, 36, 37, 38, 39, 40, 41, 42, 43, 44, 45, 46, 47, 48, 49, 50, 51, 52, 53, 54, 55, 56, 57, 58, 59, 60, 61, 62] (by decide +kernel) (by decide +kernel)
set_option maxRecDepth 20000 in
theorem gX6_follow_X6_apartOf : GoodIn wsX6_follow (wsV RX6 229 RX6 yX6_apartOf wsX6_apartOf) := goodIn_app (goodIn_of _ (by decide +kernel)) ggX6_follow_X6_apartOf
theorem dX6_follow_0 : decode cX6_follow 0 = .ok (.aload_n 0, 1) := by decide +kernel
theorem dX6_follow_1 : decode cX6_follow 1 = .ok (.iconst 0, 1) := by decide +kernel
theorem dX6_follow_2 : decode cX6_follow 2 = .ok (.putfield 54, 3) := by decide +kernel
theorem dX6_follow_5 : decode cX6_follow 5 = .ok (.aload_n 0, 1) := by decide +kernel
theorem dX6_follow_6 : decode cX6_follow 6 = .ok (.iload_n 1, 1) := by decide +kernel
theorem dX6_follow_7 : decode cX6_follow 7 = .ok (.invokevirtual 167, 3) := by decide +kernel
theorem dX6_follow_10 : decode cX6_follow 10 = .ok (.ifCond .eq 19, 3) := by decide +kernel
theorem dX6_follow_13 : decode cX6_follow 13 = .ok (.aload_n 0, 1) := by decide +kernel
theorem dX6_follow_14 : decode cX6_follow 14 = .ok (.iload_n 2, 1) := by decide +kernel
theorem dX6_follow_15 : decode cX6_follow 15 = .ok (.invokevirtual 167, 3) := by decide +kernel
theorem dX6_follow_18 : decode cX6_follow 18 = .ok (.ifCond .eq 11, 3) := by decide +kernel
theorem dX6_follow_21 : decode cX6_follow 21 = .ok (.aload_n 0, 1) := by decide +kernel
theorem dX6_follow_22 : decode cX6_follow 22 = .ok (.iload_n 3, 1) := by decide +kernel
theorem dX6_follow_23 : decode cX6_follow 23 = .ok (.invokevirtual 158, 3) := by decide +kernel
theorem dX6_follow_26 : decode cX6_follow 26 = .ok (.ifCond .ne 5, 3) := by decide +kernel
theorem dX6_follow_29 : decode cX6_follow 29 = .ok (.iconst (-1), 1) := by decide +kernel
theorem dX6_follow_30 : decode cX6_follow 30 = .ok (.ireturn, 1) := by decide +kernel
theorem dX6_follow_31 : decode cX6_follow 31 = .ok (.bipush (-9), 2) := by decide +kernel
theorem dX6_follow_33 : decode cX6_follow 33 = .ok (.istore 4, 2) := by decide +kernel
theorem dX6_follow_35 : decode cX6_follow 35 = .ok (.iconst 0, 1) := by decide +kernel
theorem dX6_follow_36 : decode cX6_follow 36 = .ok (.istore 5, 2) := by decide +kernel
theorem dX6_follow_38 : decode cX6_follow 38 = .ok (.iconst 0, 1) := by decide +kernel
theorem dX6_follow_39 : decode cX6_follow 39 = .ok (.istore 6, 2) := by decide +kernel
theorem dX6_follow_41 : decode cX6_follow 41 = .ok (.iload 6, 2) := by decide +kernel
theorem dX6_follow_43 : decode cX6_follow 43 = .ok (.iconst 4, 1) := by decide +kernel
theorem dX6_follow_44 : decode cX6_follow 44 = .ok (.if_icmp .ge 52, 3) := by decide +kernel
theorem dX6_follow_47 : decode cX6_follow 47 = .ok (.aload_n 0, 1) := by decide +kernel
theorem dX6_follow_48 : decode cX6_follow 48 = .ok (.iload_n 1, 1) := by decide +kernel
theorem dX6_follow_49 : decode cX6_follow 49 = .ok (.iload_n 2, 1) := by decide +kernel
theorem dX6_follow_50 : decode cX6_follow 50 = .ok (.iload_n 3, 1) := by decide +kernel
theorem dX6_follow_51 : decode cX6_follow 51 = .ok (.iload 6, 2) := by decide +kernel
theorem dX6_follow_53 : decode cX6_follow 53 = .ok (.invokevirtual 229, 3) := by decide +kernel
theorem dX6_follow_56 : decode cX6_follow 56 = .ok (.istore 7, 2) := by decide +kernel
theorem dX6_follow_58 : decode cX6_follow 58 = .ok (.iload 7, 2) := by decide +kernel
theorem dX6_follow_60 : decode cX6_follow 60 = .ok (.iload 5, 2) := by decide +kernel
theorem dX6_follow_62 : decode cX6_follow 62 = .ok (.if_icmp .le 8, 3) := by decide +kernel
theorem dX6_follow_65 : decode cX6_follow 65 = .ok (.iload 6, 2) := by decide +kernel
theorem dX6_follow_67 : decode cX6_follow 67 = .ok (.goto 5, 3) := by decide +kernel
theorem dX6_follow_70 : decode cX6_follow 70 = .ok (.iload 4, 2) := by decide +kernel
theorem dX6_follow_72 : decode cX6_follow 72 = .ok (.istore 4, 2) := by decide +kernel
theorem dX6_follow_74 : decode cX6_follow 74 = .ok (.iload 7, 2) := by decide +kernel
theorem dX6_follow_76 : decode cX6_follow 76 = .ok (.iload 5, 2) := by decide +kernel
theorem dX6_follow_78 : decode cX6_follow 78 = .ok (.if_icmp .le 8, 3) := by decide +kernel
theorem dX6_follow_81 : decode cX6_follow 81 = .ok (.iload 7, 2) := by decide +kernel
theorem dX6_follow_83 : decode cX6_follow 83 = .ok (.goto 5, 3) := by decide +kernel
theorem dX6_follow_86 : decode cX6_follow 86 = .ok (.iload 5, 2) := by decide +kernel
theorem dX6_follow_88 : decode cX6_follow 88 = .ok (.istore 5, 2) := by decide +kernel
theorem dX6_follow_90 : decode cX6_follow 90 = .ok (.iinc 6 1, 3) := by decide +kernel
theorem dX6_follow_93 : decode cX6_follow 93 = .ok (.goto (-52), 3) := by decide +kernel
theorem dX6_follow_96 : decode cX6_follow 96 = .ok (.iload 4, 2) := by decide +kernel
theorem dX6_follow_98 : decode cX6_follow 98 = .ok (.ireturn, 1) := by decide +kernel
set_option maxRecDepth 20000 in
theorem ggX6_bar_X6_in : GoodIn wsX6_bar wsX6_in := goodIn_r _ [6] (by decide +kernel) (by decide +kernel)
set_option maxRecDepth 20000 in
theorem gX6_bar_X6_in : GoodIn wsX6_bar (va_wsS RX6 61 yX6_in wsX6_in) := goodIn_app (goodIn_of _ (by decide +kernel)) ggX6_bar_X6_in
theorem dX6_bar_0 : decode cX6_bar 0 = .ok (.aload_n 0, 1) := by decide +kernel
theorem dX6_bar_1 : decode cX6_bar 1 = .ok (.iconst 0, 1) := by decide +kernel
theorem dX6_bar_2 : decode cX6_bar 2 = .ok (.putfield 54, 3) := by decide +kernel
theorem dX6_bar_5 : decode cX6_bar 5 = .ok (.iload_n 1, 1) := by decide +kernel
theorem dX6_bar_6 : decode cX6_bar 6 = .ok (.iconst 0, 1) := by decide +kernel
theorem dX6_bar_7 : decode cX6_bar 7 = .ok (.bipush 7, 2) := by decide +kernel
theorem dX6_bar_9 : decode cX6_bar 9 = .ok (.invokestatic 61, 3) := by decide +kernel
theorem dX6_bar_12 : decode cX6_bar 12 = .ok (.ifCond .ne 5, 3) := by decide +kernel
theorem dX6_bar_15 : decode cX6_bar 15 = .ok (.iconst (-1), 1) := by decide +kernel
theorem dX6_bar_16 : decode cX6_bar 16 = .ok (.ireturn, 1) := by decide +kernel
theorem dX6_bar_17 : decode cX6_bar 17 = .ok (.iload_n 1, 1) := by decide +kernel
theorem dX6_bar_18 : decode cX6_bar 18 = .ok (.iconst 2, 1) := by decide +kernel
theorem dX6_bar_19 : decode cX6_bar 19 = .ok (.if_icmp .eq 14, 3) := by decide +kernel
theorem dX6_bar_22 : decode cX6_bar 22 = .ok (.iload_n 1, 1) := by decide +kernel
theorem dX6_bar_23 : decode cX6_bar 23 = .ok (.iconst 3, 1) := by decide +kernel
theorem dX6_bar_24 : decode cX6_bar 24 = .ok (.if_icmp .eq 9, 3) := by decide +kernel
theorem dX6_bar_27 : decode cX6_bar 27 = .ok (.iload_n 1, 1) := by decide +kernel
theorem dX6_bar_28 : decode cX6_bar 28 = .ok (.bipush 7, 2) := by decide +kernel
theorem dX6_bar_30 : decode cX6_bar 30 = .ok (.if_icmp .ne 7, 3) := by decide +kernel
theorem dX6_bar_33 : decode cX6_bar 33 = .ok (.iconst 1, 1) := by decide +kernel
theorem dX6_bar_34 : decode cX6_bar 34 = .ok (.goto 4, 3) := by decide +kernel
theorem dX6_bar_37 : decode cX6_bar 37 = .ok (.iconst 0, 1) := by decide +kernel
theorem dX6_bar_38 : decode cX6_bar 38 = .ok (.istore_n 3, 1) := by decide +kernel
theorem dX6_bar_39 : decode cX6_bar 39 = .ok (.iload_n 1, 1) := by decide +kernel
theorem dX6_bar_40 : decode cX6_bar 40 = .ok (.iconst 2, 1) := by decide +kernel
theorem dX6_bar_41 : decode cX6_bar 41 = .ok (.if_icmp .ge 8, 3) := by decide +kernel
theorem dX6_bar_44 : decode cX6_bar 44 = .ok (.bipush 10, 2) := by decide +kernel
theorem dX6_bar_46 : decode cX6_bar 46 = .ok (.goto 38, 3) := by decide +kernel
theorem dX6_bar_49 : decode cX6_bar 49 = .ok (.iload_n 1, 1) := by decide +kernel
theorem dX6_bar_50 : decode cX6_bar 50 = .ok (.iconst 4, 1) := by decide +kernel
theorem dX6_bar_51 : decode cX6_bar 51 = .ok (.if_icmp .ge 8, 3) := by decide +kernel
theorem dX6_bar_54 : decode cX6_bar 54 = .ok (.bipush 9, 2) := by decide +kernel
theorem dX6_bar_56 : decode cX6_bar 56 = .ok (.goto 28, 3) := by decide +kernel
theorem dX6_bar_59 : decode cX6_bar 59 = .ok (.iload_n 1, 1) := by decide +kernel
theorem dX6_bar_60 : decode cX6_bar 60 = .ok (.bipush 6, 2) := by decide +kernel
theorem dX6_bar_62 : decode cX6_bar 62 = .ok (.if_icmp .ge 9, 3) := by decide +kernel
theorem dX6_bar_65 : decode cX6_bar 65 = .ok (.sipush 999, 3) := by decide +kernel
theorem dX6_bar_68 : decode cX6_bar 68 = .ok (.goto 16, 3) := by decide +kernel
theorem dX6_bar_71 : decode cX6_bar 71 = .ok (.iload_n 1, 1) := by decide +kernel
theorem dX6_bar_72 : decode cX6_bar 72 = .ok (.bipush 6, 2) := by decide +kernel
theorem dX6_bar_74 : decode cX6_bar 74 = .ok (.if_icmp .ne 8, 3) := by decide +kernel
theorem dX6_bar_77 : decode cX6_bar 77 = .ok (.bipush 99, 2) := by decide +kernel
theorem dX6_bar_79 : decode cX6_bar 79 = .ok (.goto 5, 3) := by decide +kernel
theorem dX6_bar_82 : decode cX6_bar 82 = .ok (.bipush 8, 2) := by decide +kernel
theorem dX6_bar_84 : decode cX6_bar 84 = .ok (.istore 4, 2) := by decide +kernel
theorem dX6_bar_86 : decode cX6_bar 86 = .ok (.iload_n 2, 1) := by decide +kernel
theorem dX6_bar_87 : decode cX6_bar 87 = .ok (.iload_n 3, 1) := by decide +kernel
theorem dX6_bar_88 : decode cX6_bar 88 = .ok (.iload 4, 2) := by decide +kernel
theorem dX6_bar_90 : decode cX6_bar 90 = .ok (.invokestatic 61, 3) := by decide +kernel
theorem dX6_bar_93 : decode cX6_bar 93 = .ok (.ifCond .ne 5, 3) := by decide +kernel
theorem dX6_bar_96 : decode cX6_bar 96 = .ok (.iconst (-1), 1) := by decide +kernel
theorem dX6_bar_97 : decode cX6_bar 97 = .ok (.ireturn, 1) := by decide +kernel
theorem dX6_bar_98 : decode cX6_bar 98 = .ok (.aload_n 0, 1) := by decide +kernel
theorem dX6_bar_99 : decode cX6_bar 99 = .ok (.getfield 39, 3) := by decide +kernel
theorem dX6_bar_102 : decode cX6_bar 102 = .ok (.iload_n 1, 1) := by decide +kernel
theorem dX6_bar_103 : decode cX6_bar 103 = .ok (.iaload, 1) := by decide +kernel
theorem dX6_bar_104 : decode cX6_bar 104 = .ok (.istore 5, 2) := by decide +kernel
theorem dX6_bar_106 : decode cX6_bar 106 = .ok (.aload_n 0, 1) := by decide +kernel
theorem dX6_bar_107 : decode cX6_bar 107 = .ok (.getfield 39, 3) := by decide +kernel
theorem dX6_bar_110 : decode cX6_bar 110 = .ok (.iload_n 1, 1) := by decide +kernel
theorem dX6_bar_111 : decode cX6_bar 111 = .ok (.iload_n 2, 1) := by decide +kernel
theorem dX6_bar_112 : decode cX6_bar 112 = .ok (.iastore, 1) := by decide +kernel
theorem dX6_bar_113 : decode cX6_bar 113 = .ok (.iload 5, 2) := by decide +kernel
theorem dX6_bar_115 : decode cX6_bar 115 = .ok (.ireturn, 1) := by decide +kernel
set_option maxRecDepth 20000 in
theorem ggX6_weighsAll_X6_power : GoodIn wsX6_weighsAll wsX6_power := goodIn_r _ [8] (by decide +kernel) (by decide +kernel)
set_option maxRecDepth 20000 in
theorem gX6_weighsAll_X6_power : GoodIn wsX6_weighsAll (va_wsS RX6 202 yX6_power wsX6_power) := goodIn_app (goodIn_of _ (by decide +kernel)) ggX6_weighsAll_X6_power
theorem dX6_weighsAll_0 : decode cX6_weighsAll 0 = .ok (.aload_n 0, 1) := by decide +kernel
theorem dX6_weighsAll_1 : decode cX6_weighsAll 1 = .ok (.getfield 39, 3) := by decide +kernel
theorem dX6_weighsAll_4 : decode cX6_weighsAll 4 = .ok (.bipush 7, 2) := by decide +kernel
theorem dX6_weighsAll_6 : decode cX6_weighsAll 6 = .ok (.iaload, 1) := by decide +kernel
theorem dX6_weighsAll_7 : decode cX6_weighsAll 7 = .ok (.istore_n 1, 1) := by decide +kernel
theorem dX6_weighsAll_8 : decode cX6_weighsAll 8 = .ok (.iload_n 1, 1) := by decide +kernel
theorem dX6_weighsAll_9 : decode cX6_weighsAll 9 = .ok (.istore_n 2, 1) := by decide +kernel
theorem dX6_weighsAll_10 : decode cX6_weighsAll 10 = .ok (.iload_n 2, 1) := by decide +kernel
theorem dX6_weighsAll_11 : decode cX6_weighsAll 11 = .ok (.ifCond .lt 276, 3) := by decide +kernel
theorem dX6_weighsAll_14 : decode cX6_weighsAll 14 = .ok (.ldc2_w 213, 3) := by decide +kernel
theorem dX6_weighsAll_17 : decode cX6_weighsAll 17 = .ok (.iload_n 1, 1) := by decide +kernel
theorem dX6_weighsAll_18 : decode cX6_weighsAll 18 = .ok (.iload_n 2, 1) := by decide +kernel
theorem dX6_weighsAll_19 : decode cX6_weighsAll 19 = .ok (.isub, 1) := by decide +kernel
theorem dX6_weighsAll_20 : decode cX6_weighsAll 20 = .ok (.invokestatic 202, 3) := by decide +kernel
theorem dX6_weighsAll_23 : decode cX6_weighsAll 23 = .ok (.lstore_n 3, 1) := by decide +kernel
theorem dX6_weighsAll_24 : decode cX6_weighsAll 24 = .ok (.iconst 0, 1) := by decide +kernel
theorem dX6_weighsAll_25 : decode cX6_weighsAll 25 = .ok (.istore 5, 2) := by decide +kernel
theorem dX6_weighsAll_27 : decode cX6_weighsAll 27 = .ok (.iload 5, 2) := by decide +kernel
theorem dX6_weighsAll_29 : decode cX6_weighsAll 29 = .ok (.iload_n 2, 1) := by decide +kernel
theorem dX6_weighsAll_30 : decode cX6_weighsAll 30 = .ok (.if_icmp .gt 251, 3) := by decide +kernel
theorem dX6_weighsAll_33 : decode cX6_weighsAll 33 = .ok (.aload_n 0, 1) := by decide +kernel
theorem dX6_weighsAll_34 : decode cX6_weighsAll 34 = .ok (.getfield 39, 3) := by decide +kernel
theorem dX6_weighsAll_37 : decode cX6_weighsAll 37 = .ok (.iconst 2, 1) := by decide +kernel
theorem dX6_weighsAll_38 : decode cX6_weighsAll 38 = .ok (.iaload, 1) := by decide +kernel
theorem dX6_weighsAll_39 : decode cX6_weighsAll 39 = .ok (.i2l, 1) := by decide +kernel
theorem dX6_weighsAll_40 : decode cX6_weighsAll 40 = .ok (.aload_n 0, 1) := by decide +kernel
theorem dX6_weighsAll_41 : decode cX6_weighsAll 41 = .ok (.getfield 39, 3) := by decide +kernel
theorem dX6_weighsAll_44 : decode cX6_weighsAll 44 = .ok (.iconst 0, 1) := by decide +kernel
theorem dX6_weighsAll_45 : decode cX6_weighsAll 45 = .ok (.iaload, 1) := by decide +kernel
theorem dX6_weighsAll_46 : decode cX6_weighsAll 46 = .ok (.i2l, 1) := by decide +kernel
theorem dX6_weighsAll_47 : decode cX6_weighsAll 47 = .ok (.iload 5, 2) := by decide +kernel
theorem dX6_weighsAll_49 : decode cX6_weighsAll 49 = .ok (.invokestatic 202, 3) := by decide +kernel
theorem dX6_weighsAll_52 : decode cX6_weighsAll 52 = .ok (.lmul, 1) := by decide +kernel
theorem dX6_weighsAll_53 : decode cX6_weighsAll 53 = .ok (.bipush 10, 2) := by decide +kernel
theorem dX6_weighsAll_55 : decode cX6_weighsAll 55 = .ok (.aload_n 0, 1) := by decide +kernel
theorem dX6_weighsAll_56 : decode cX6_weighsAll 56 = .ok (.getfield 39, 3) := by decide +kernel
theorem dX6_weighsAll_59 : decode cX6_weighsAll 59 = .ok (.iconst 0, 1) := by decide +kernel
theorem dX6_weighsAll_60 : decode cX6_weighsAll 60 = .ok (.iaload, 1) := by decide +kernel
theorem dX6_weighsAll_61 : decode cX6_weighsAll 61 = .ok (.isub, 1) := by decide +kernel
theorem dX6_weighsAll_62 : decode cX6_weighsAll 62 = .ok (.i2l, 1) := by decide +kernel
theorem dX6_weighsAll_63 : decode cX6_weighsAll 63 = .ok (.iload_n 2, 1) := by decide +kernel
theorem dX6_weighsAll_64 : decode cX6_weighsAll 64 = .ok (.iload 5, 2) := by decide +kernel
theorem dX6_weighsAll_66 : decode cX6_weighsAll 66 = .ok (.isub, 1) := by decide +kernel
theorem dX6_weighsAll_67 : decode cX6_weighsAll 67 = .ok (.invokestatic 202, 3) := by decide +kernel
theorem dX6_weighsAll_70 : decode cX6_weighsAll 70 = .ok (.lmul, 1) := by decide +kernel
theorem dX6_weighsAll_71 : decode cX6_weighsAll 71 = .ok (.lstore 6, 2) := by decide +kernel
theorem dX6_weighsAll_73 : decode cX6_weighsAll 73 = .ok (.aload_n 0, 1) := by decide +kernel
theorem dX6_weighsAll_74 : decode cX6_weighsAll 74 = .ok (.getfield 39, 3) := by decide +kernel
theorem dX6_weighsAll_77 : decode cX6_weighsAll 77 = .ok (.iconst 3, 1) := by decide +kernel
theorem dX6_weighsAll_78 : decode cX6_weighsAll 78 = .ok (.iaload, 1) := by decide +kernel
theorem dX6_weighsAll_79 : decode cX6_weighsAll 79 = .ok (.i2l, 1) := by decide +kernel
theorem dX6_weighsAll_80 : decode cX6_weighsAll 80 = .ok (.aload_n 0, 1) := by decide +kernel
theorem dX6_weighsAll_81 : decode cX6_weighsAll 81 = .ok (.getfield 39, 3) := by decide +kernel
theorem dX6_weighsAll_84 : decode cX6_weighsAll 84 = .ok (.iconst 1, 1) := by decide +kernel
theorem dX6_weighsAll_85 : decode cX6_weighsAll 85 = .ok (.iaload, 1) := by decide +kernel
theorem dX6_weighsAll_86 : decode cX6_weighsAll 86 = .ok (.i2l, 1) := by decide +kernel
theorem dX6_weighsAll_87 : decode cX6_weighsAll 87 = .ok (.iload 5, 2) := by decide +kernel
theorem dX6_weighsAll_89 : decode cX6_weighsAll 89 = .ok (.invokestatic 202, 3) := by decide +kernel
theorem dX6_weighsAll_92 : decode cX6_weighsAll 92 = .ok (.lmul, 1) := by decide +kernel
theorem dX6_weighsAll_93 : decode cX6_weighsAll 93 = .ok (.bipush 10, 2) := by decide +kernel
theorem dX6_weighsAll_95 : decode cX6_weighsAll 95 = .ok (.aload_n 0, 1) := by decide +kernel
theorem dX6_weighsAll_96 : decode cX6_weighsAll 96 = .ok (.getfield 39, 3) := by decide +kernel
theorem dX6_weighsAll_99 : decode cX6_weighsAll 99 = .ok (.iconst 1, 1) := by decide +kernel
theorem dX6_weighsAll_100 : decode cX6_weighsAll 100 = .ok (.iaload, 1) := by decide +kernel
theorem dX6_weighsAll_101 : decode cX6_weighsAll 101 = .ok (.isub, 1) := by decide +kernel
theorem dX6_weighsAll_102 : decode cX6_weighsAll 102 = .ok (.i2l, 1) := by decide +kernel
theorem dX6_weighsAll_103 : decode cX6_weighsAll 103 = .ok (.iload_n 2, 1) := by decide +kernel
theorem dX6_weighsAll_104 : decode cX6_weighsAll 104 = .ok (.iload 5, 2) := by decide +kernel
theorem dX6_weighsAll_106 : decode cX6_weighsAll 106 = .ok (.isub, 1) := by decide +kernel
theorem dX6_weighsAll_107 : decode cX6_weighsAll 107 = .ok (.invokestatic 202, 3) := by decide +kernel
theorem dX6_weighsAll_110 : decode cX6_weighsAll 110 = .ok (.lmul, 1) := by decide +kernel
theorem dX6_weighsAll_111 : decode cX6_weighsAll 111 = .ok (.lstore 8, 2) := by decide +kernel
theorem dX6_weighsAll_113 : decode cX6_weighsAll 113 = .ok (.aload_n 0, 1) := by decide +kernel
theorem dX6_weighsAll_114 : decode cX6_weighsAll 114 = .ok (.getfield 39, 3) := by decide +kernel
theorem dX6_weighsAll_117 : decode cX6_weighsAll 117 = .ok (.iconst 4, 1) := by decide +kernel
theorem dX6_weighsAll_118 : decode cX6_weighsAll 118 = .ok (.iaload, 1) := by decide +kernel
theorem dX6_weighsAll_119 : decode cX6_weighsAll 119 = .ok (.i2l, 1) := by decide +kernel
theorem dX6_weighsAll_120 : decode cX6_weighsAll 120 = .ok (.lload 6, 2) := by decide +kernel
theorem dX6_weighsAll_122 : decode cX6_weighsAll 122 = .ok (.lmul, 1) := by decide +kernel
theorem dX6_weighsAll_123 : decode cX6_weighsAll 123 = .ok (.lload_n 3, 1) := by decide +kernel
theorem dX6_weighsAll_124 : decode cX6_weighsAll 124 = .ok (.lmul, 1) := by decide +kernel
theorem dX6_weighsAll_125 : decode cX6_weighsAll 125 = .ok (.lstore 10, 2) := by decide +kernel
theorem dX6_weighsAll_127 : decode cX6_weighsAll 127 = .ok (.iconst 0, 1) := by decide +kernel
theorem dX6_weighsAll_128 : decode cX6_weighsAll 128 = .ok (.istore 12, 2) := by decide +kernel
theorem dX6_weighsAll_130 : decode cX6_weighsAll 130 = .ok (.aload_n 0, 1) := by decide +kernel
theorem dX6_weighsAll_131 : decode cX6_weighsAll 131 = .ok (.getfield 39, 3) := by decide +kernel
theorem dX6_weighsAll_134 : decode cX6_weighsAll 134 = .ok (.iconst 5, 1) := by decide +kernel
theorem dX6_weighsAll_135 : decode cX6_weighsAll 135 = .ok (.iaload, 1) := by decide +kernel
theorem dX6_weighsAll_136 : decode cX6_weighsAll 136 = .ok (.i2l, 1) := by decide +kernel
theorem dX6_weighsAll_137 : decode cX6_weighsAll 137 = .ok (.lload 8, 2) := by decide +kernel
theorem dX6_weighsAll_139 : decode cX6_weighsAll 139 = .ok (.lmul, 1) := by decide +kernel
theorem dX6_weighsAll_140 : decode cX6_weighsAll 140 = .ok (.lload_n 3, 1) := by decide +kernel
theorem dX6_weighsAll_141 : decode cX6_weighsAll 141 = .ok (.lmul, 1) := by decide +kernel
theorem dX6_weighsAll_142 : decode cX6_weighsAll 142 = .ok (.lstore 13, 2) := by decide +kernel
theorem dX6_weighsAll_144 : decode cX6_weighsAll 144 = .ok (.lload 13, 2) := by decide +kernel
theorem dX6_weighsAll_146 : decode cX6_weighsAll 146 = .ok (.lload 10, 2) := by decide +kernel
theorem dX6_weighsAll_148 : decode cX6_weighsAll 148 = .ok (.lcmp, 1) := by decide +kernel
theorem dX6_weighsAll_149 : decode cX6_weighsAll 149 = .ok (.ifCond .ge 10, 3) := by decide +kernel
theorem dX6_weighsAll_152 : decode cX6_weighsAll 152 = .ok (.lload 13, 2) := by decide +kernel
theorem dX6_weighsAll_154 : decode cX6_weighsAll 154 = .ok (.lstore 10, 2) := by decide +kernel
theorem dX6_weighsAll_156 : decode cX6_weighsAll 156 = .ok (.iconst 1, 1) := by decide +kernel
theorem dX6_weighsAll_157 : decode cX6_weighsAll 157 = .ok (.istore 12, 2) := by decide +kernel
theorem dX6_weighsAll_159 : decode cX6_weighsAll 159 = .ok (.iload_n 2, 1) := by decide +kernel
theorem dX6_weighsAll_160 : decode cX6_weighsAll 160 = .ok (.iload_n 1, 1) := by decide +kernel
theorem dX6_weighsAll_161 : decode cX6_weighsAll 161 = .ok (.if_icmp .ge 86, 3) := by decide +kernel
theorem dX6_weighsAll_164 : decode cX6_weighsAll 164 = .ok (.aload_n 0, 1) := by decide +kernel
theorem dX6_weighsAll_165 : decode cX6_weighsAll 165 = .ok (.getfield 39, 3) := by decide +kernel
theorem dX6_weighsAll_168 : decode cX6_weighsAll 168 = .ok (.bipush 6, 2) := by decide +kernel
theorem dX6_weighsAll_170 : decode cX6_weighsAll 170 = .ok (.iaload, 1) := by decide +kernel
theorem dX6_weighsAll_171 : decode cX6_weighsAll 171 = .ok (.i2l, 1) := by decide +kernel
theorem dX6_weighsAll_172 : decode cX6_weighsAll 172 = .ok (.lload 6, 2) := by decide +kernel
theorem dX6_weighsAll_174 : decode cX6_weighsAll 174 = .ok (.lload 8, 2) := by decide +kernel
theorem dX6_weighsAll_176 : decode cX6_weighsAll 176 = .ok (.ladd, 1) := by decide +kernel
theorem dX6_weighsAll_177 : decode cX6_weighsAll 177 = .ok (.lmul, 1) := by decide +kernel
theorem dX6_weighsAll_178 : decode cX6_weighsAll 178 = .ok (.lload_n 3, 1) := by decide +kernel
theorem dX6_weighsAll_179 : decode cX6_weighsAll 179 = .ok (.lmul, 1) := by decide +kernel
theorem dX6_weighsAll_180 : decode cX6_weighsAll 180 = .ok (.aload_n 0, 1) := by decide +kernel
theorem dX6_weighsAll_181 : decode cX6_weighsAll 181 = .ok (.getfield 45, 3) := by decide +kernel
theorem dX6_weighsAll_184 : decode cX6_weighsAll 184 = .ok (.bipush 10, 2) := by decide +kernel
theorem dX6_weighsAll_186 : decode cX6_weighsAll 186 = .ok (.iload_n 2, 1) := by decide +kernel
theorem dX6_weighsAll_187 : decode cX6_weighsAll 187 = .ok (.iconst 1, 1) := by decide +kernel
theorem dX6_weighsAll_188 : decode cX6_weighsAll 188 = .ok (.iadd, 1) := by decide +kernel
theorem dX6_weighsAll_189 : decode cX6_weighsAll 189 = .ok (.imul, 1) := by decide +kernel
theorem dX6_weighsAll_190 : decode cX6_weighsAll 190 = .ok (.iload 5, 2) := by decide +kernel
theorem dX6_weighsAll_192 : decode cX6_weighsAll 192 = .ok (.iadd, 1) := by decide +kernel
theorem dX6_weighsAll_193 : decode cX6_weighsAll 193 = .ok (.iconst 1, 1) := by decide +kernel
theorem dX6_weighsAll_194 : decode cX6_weighsAll 194 = .ok (.iadd, 1) := by decide +kernel
theorem dX6_weighsAll_195 : decode cX6_weighsAll 195 = .ok (.laload, 1) := by decide +kernel
theorem dX6_weighsAll_196 : decode cX6_weighsAll 196 = .ok (.ladd, 1) := by decide +kernel
theorem dX6_weighsAll_197 : decode cX6_weighsAll 197 = .ok (.aload_n 0, 1) := by decide +kernel
theorem dX6_weighsAll_198 : decode cX6_weighsAll 198 = .ok (.getfield 45, 3) := by decide +kernel
theorem dX6_weighsAll_201 : decode cX6_weighsAll 201 = .ok (.bipush 10, 2) := by decide +kernel
theorem dX6_weighsAll_203 : decode cX6_weighsAll 203 = .ok (.iload_n 2, 1) := by decide +kernel
theorem dX6_weighsAll_204 : decode cX6_weighsAll 204 = .ok (.iconst 1, 1) := by decide +kernel
theorem dX6_weighsAll_205 : decode cX6_weighsAll 205 = .ok (.iadd, 1) := by decide +kernel
theorem dX6_weighsAll_206 : decode cX6_weighsAll 206 = .ok (.imul, 1) := by decide +kernel
theorem dX6_weighsAll_207 : decode cX6_weighsAll 207 = .ok (.iload 5, 2) := by decide +kernel
theorem dX6_weighsAll_209 : decode cX6_weighsAll 209 = .ok (.iadd, 1) := by decide +kernel
theorem dX6_weighsAll_210 : decode cX6_weighsAll 210 = .ok (.laload, 1) := by decide +kernel
theorem dX6_weighsAll_211 : decode cX6_weighsAll 211 = .ok (.ladd, 1) := by decide +kernel
theorem dX6_weighsAll_212 : decode cX6_weighsAll 212 = .ok (.lstore 15, 2) := by decide +kernel
theorem dX6_weighsAll_214 : decode cX6_weighsAll 214 = .ok (.lload 15, 2) := by decide +kernel
theorem dX6_weighsAll_216 : decode cX6_weighsAll 216 = .ok (.lload 10, 2) := by decide +kernel
theorem dX6_weighsAll_218 : decode cX6_weighsAll 218 = .ok (.lcmp, 1) := by decide +kernel
theorem dX6_weighsAll_219 : decode cX6_weighsAll 219 = .ok (.ifCond .ge 7, 3) := by decide +kernel
theorem dX6_weighsAll_222 : decode cX6_weighsAll 222 = .ok (.iconst 2, 1) := by decide +kernel
theorem dX6_weighsAll_223 : decode cX6_weighsAll 223 = .ok (.goto 5, 3) := by decide +kernel
theorem dX6_weighsAll_226 : decode cX6_weighsAll 226 = .ok (.iload 12, 2) := by decide +kernel
theorem dX6_weighsAll_228 : decode cX6_weighsAll 228 = .ok (.istore 12, 2) := by decide +kernel
theorem dX6_weighsAll_230 : decode cX6_weighsAll 230 = .ok (.lload 15, 2) := by decide +kernel
theorem dX6_weighsAll_232 : decode cX6_weighsAll 232 = .ok (.lload 10, 2) := by decide +kernel
theorem dX6_weighsAll_234 : decode cX6_weighsAll 234 = .ok (.lcmp, 1) := by decide +kernel
theorem dX6_weighsAll_235 : decode cX6_weighsAll 235 = .ok (.ifCond .ge 8, 3) := by decide +kernel
theorem dX6_weighsAll_238 : decode cX6_weighsAll 238 = .ok (.lload 15, 2) := by decide +kernel
theorem dX6_weighsAll_240 : decode cX6_weighsAll 240 = .ok (.goto 5, 3) := by decide +kernel
theorem dX6_weighsAll_243 : decode cX6_weighsAll 243 = .ok (.lload 10, 2) := by decide +kernel
theorem dX6_weighsAll_245 : decode cX6_weighsAll 245 = .ok (.lstore 10, 2) := by decide +kernel
theorem dX6_weighsAll_247 : decode cX6_weighsAll 247 = .ok (.aload_n 0, 1) := by decide +kernel
theorem dX6_weighsAll_248 : decode cX6_weighsAll 248 = .ok (.getfield 45, 3) := by decide +kernel
theorem dX6_weighsAll_251 : decode cX6_weighsAll 251 = .ok (.bipush 10, 2) := by decide +kernel
theorem dX6_weighsAll_253 : decode cX6_weighsAll 253 = .ok (.iload_n 2, 1) := by decide +kernel
theorem dX6_weighsAll_254 : decode cX6_weighsAll 254 = .ok (.imul, 1) := by decide +kernel
theorem dX6_weighsAll_255 : decode cX6_weighsAll 255 = .ok (.iload 5, 2) := by decide +kernel
theorem dX6_weighsAll_257 : decode cX6_weighsAll 257 = .ok (.iadd, 1) := by decide +kernel
theorem dX6_weighsAll_258 : decode cX6_weighsAll 258 = .ok (.lload 10, 2) := by decide +kernel
theorem dX6_weighsAll_260 : decode cX6_weighsAll 260 = .ok (.lastore, 1) := by decide +kernel
theorem dX6_weighsAll_261 : decode cX6_weighsAll 261 = .ok (.aload_n 0, 1) := by decide +kernel
theorem dX6_weighsAll_262 : decode cX6_weighsAll 262 = .ok (.getfield 48, 3) := by decide +kernel
theorem dX6_weighsAll_265 : decode cX6_weighsAll 265 = .ok (.bipush 10, 2) := by decide +kernel
theorem dX6_weighsAll_267 : decode cX6_weighsAll 267 = .ok (.iload_n 2, 1) := by decide +kernel
theorem dX6_weighsAll_268 : decode cX6_weighsAll 268 = .ok (.imul, 1) := by decide +kernel
theorem dX6_weighsAll_269 : decode cX6_weighsAll 269 = .ok (.iload 5, 2) := by decide +kernel
theorem dX6_weighsAll_271 : decode cX6_weighsAll 271 = .ok (.iadd, 1) := by decide +kernel
theorem dX6_weighsAll_272 : decode cX6_weighsAll 272 = .ok (.iload 12, 2) := by decide +kernel
theorem dX6_weighsAll_274 : decode cX6_weighsAll 274 = .ok (.iastore, 1) := by decide +kernel
theorem dX6_weighsAll_275 : decode cX6_weighsAll 275 = .ok (.iinc 5 1, 3) := by decide +kernel
theorem dX6_weighsAll_278 : decode cX6_weighsAll 278 = .ok (.goto (-251), 3) := by decide +kernel
theorem dX6_weighsAll_281 : decode cX6_weighsAll 281 = .ok (.iinc 2 (-1), 3) := by decide +kernel
theorem dX6_weighsAll_284 : decode cX6_weighsAll 284 = .ok (.goto (-274), 3) := by decide +kernel
theorem dX6_weighsAll_287 : decode cX6_weighsAll 287 = .ok (.return_, 1) := by decide +kernel
set_option maxRecDepth 20000 in
theorem ggX6_isBehind_X6_in : GoodIn wsX6_isBehind wsX6_in := goodIn_r _ [5] (by decide +kernel) (by decide +kernel)
set_option maxRecDepth 20000 in
theorem gX6_isBehind_X6_in : GoodIn wsX6_isBehind (va_wsS RX6 61 yX6_in wsX6_in) := goodIn_app (goodIn_of _ (by decide +kernel)) ggX6_isBehind_X6_in
theorem dX6_isBehind_0 : decode cX6_isBehind 0 = .ok (.iload_n 1, 1) := by decide +kernel
theorem dX6_isBehind_1 : decode cX6_isBehind 1 = .ok (.iconst 0, 1) := by decide +kernel
theorem dX6_isBehind_2 : decode cX6_isBehind 2 = .ok (.aload_n 0, 1) := by decide +kernel
theorem dX6_isBehind_3 : decode cX6_isBehind 3 = .ok (.getfield 39, 3) := by decide +kernel
theorem dX6_isBehind_6 : decode cX6_isBehind 6 = .ok (.bipush 7, 2) := by decide +kernel
theorem dX6_isBehind_8 : decode cX6_isBehind 8 = .ok (.iaload, 1) := by decide +kernel
theorem dX6_isBehind_9 : decode cX6_isBehind 9 = .ok (.invokestatic 61, 3) := by decide +kernel
theorem dX6_isBehind_12 : decode cX6_isBehind 12 = .ok (.ifCond .eq 16, 3) := by decide +kernel
theorem dX6_isBehind_15 : decode cX6_isBehind 15 = .ok (.iload_n 2, 1) := by decide +kernel
theorem dX6_isBehind_16 : decode cX6_isBehind 16 = .ok (.iconst 0, 1) := by decide +kernel
theorem dX6_isBehind_17 : decode cX6_isBehind 17 = .ok (.iload_n 1, 1) := by decide +kernel
theorem dX6_isBehind_18 : decode cX6_isBehind 18 = .ok (.invokestatic 61, 3) := by decide +kernel
theorem dX6_isBehind_21 : decode cX6_isBehind 21 = .ok (.ifCond .eq 7, 3) := by decide +kernel
theorem dX6_isBehind_24 : decode cX6_isBehind 24 = .ok (.iconst 1, 1) := by decide +kernel
theorem dX6_isBehind_25 : decode cX6_isBehind 25 = .ok (.goto 4, 3) := by decide +kernel
theorem dX6_isBehind_28 : decode cX6_isBehind 28 = .ok (.iconst 0, 1) := by decide +kernel
theorem dX6_isBehind_29 : decode cX6_isBehind 29 = .ok (.ireturn, 1) := by decide +kernel
set_option maxRecDepth 20000 in
theorem ggX6_done_X6_isBehind : GoodIn wsX6_done wsX6_isBehind := goodIn_r _ [7, 8, 9, 10, 6, 11, 21, 22, 23, 24, 25, 26, 27, 28, 29, 30, 31, 32, 33, 34, 35, 36, 37, 38, 39, 40, 41, 42, 43, 44, 45, 46, 47, 48, 49] (by decide +kernel) (by decide +kernel)
set_option maxRecDepth 20000 in
theorem gX6_done_X6_isBehind : GoodIn wsX6_done (wsV RX6 232 RX6 yX6_isBehind wsX6_isBehind) := goodIn_app (goodIn_of _ (by decide +kernel)) ggX6_done_X6_isBehind
set_option maxRecDepth 20000 in
theorem ggX6_done_X6_weighsAll : GoodIn wsX6_done wsX6_weighsAll := goodIn_r _ [15, 8, 16, 17, 2, 18, 19, 6, 20, 21, 22, 23, 24, 25, 26, 27, 28, 29, 30, 31, 32, 33, 34, 35, 36, 37, 38, 39, 40, 41, 42, 43, 44, 45, 46, 47, 48, 49] (by decide +kernel) (by decide +kernel)
set_option maxRecDepth 20000 in
theorem gX6_done_X6_weighsAll : GoodIn wsX6_done (wsV RX6 236 RX6 yX6_weighsAll wsX6_weighsAll) := goodIn_app (goodIn_of _ (by decide +kernel)) ggX6_done_X6_weighsAll
theorem dX6_done_0 : decode cX6_done 0 = .ok (.aload_n 0, 1) := by decide +kernel
theorem dX6_done_1 : decode cX6_done 1 = .ok (.iconst 0, 1) := by decide +kernel
theorem dX6_done_2 : decode cX6_done 2 = .ok (.putfield 54, 3) := by decide +kernel
theorem dX6_done_5 : decode cX6_done 5 = .ok (.aload_n 0, 1) := by decide +kernel
theorem dX6_done_6 : decode cX6_done 6 = .ok (.iload_n 1, 1) := by decide +kernel
theorem dX6_done_7 : decode cX6_done 7 = .ok (.iload_n 2, 1) := by decide +kernel
theorem dX6_done_8 : decode cX6_done 8 = .ok (.invokevirtual 232, 3) := by decide +kernel
theorem dX6_done_11 : decode cX6_done 11 = .ok (.ifCond .ne 5, 3) := by decide +kernel
theorem dX6_done_14 : decode cX6_done 14 = .ok (.iconst (-1), 1) := by decide +kernel
theorem dX6_done_15 : decode cX6_done 15 = .ok (.ireturn, 1) := by decide +kernel
theorem dX6_done_16 : decode cX6_done 16 = .ok (.aload_n 0, 1) := by decide +kernel
theorem dX6_done_17 : decode cX6_done 17 = .ok (.invokevirtual 236, 3) := by decide +kernel
theorem dX6_done_20 : decode cX6_done 20 = .ok (.aload_n 0, 1) := by decide +kernel
theorem dX6_done_21 : decode cX6_done 21 = .ok (.getfield 48, 3) := by decide +kernel
theorem dX6_done_24 : decode cX6_done 24 = .ok (.bipush 10, 2) := by decide +kernel
theorem dX6_done_26 : decode cX6_done 26 = .ok (.iload_n 1, 1) := by decide +kernel
theorem dX6_done_27 : decode cX6_done 27 = .ok (.imul, 1) := by decide +kernel
theorem dX6_done_28 : decode cX6_done 28 = .ok (.iload_n 2, 1) := by decide +kernel
theorem dX6_done_29 : decode cX6_done 29 = .ok (.iadd, 1) := by decide +kernel
theorem dX6_done_30 : decode cX6_done 30 = .ok (.iaload, 1) := by decide +kernel
theorem dX6_done_31 : decode cX6_done 31 = .ok (.ireturn, 1) := by decide +kernel
set_option maxRecDepth 20000 in
theorem ggX6_cost_X6_isBehind : GoodIn wsX6_cost wsX6_isBehind := goodIn_r _ [8, 9, 10, 11, 7, 12, 22, 23, 24, 25, 26, 27, 28, 29, 30, 31, 32, 33, 34, 35, 36, 37, 38, 39, 40, 41, 42, 43, 44, 45, 46, 47, 48, 49, 50] (by decide +kernel) (by decide +kernel)
set_option maxRecDepth 20000 in
theorem gX6_cost_X6_isBehind : GoodIn wsX6_cost (wsV RX6 232 RX6 yX6_isBehind wsX6_isBehind) := goodIn_app (goodIn_of _ (by decide +kernel)) ggX6_cost_X6_isBehind
set_option maxRecDepth 20000 in
theorem ggX6_cost_X6_weighsAll : GoodIn wsX6_cost wsX6_weighsAll := goodIn_r _ [16, 9, 17, 3, 18, 19, 20, 7, 21, 22, 23, 24, 25, 26, 27, 28, 29, 30, 31, 32, 33, 34, 35, 36, 37, 38, 39, 40, 41, 42, 43, 44, 45, 46, 47, 48, 49, 50] (by decide +kernel) (by decide +kernel)
set_option maxRecDepth 20000 in
theorem gX6_cost_X6_weighsAll : GoodIn wsX6_cost (wsV RX6 236 RX6 yX6_weighsAll wsX6_weighsAll) := goodIn_app (goodIn_of _ (by decide +kernel)) ggX6_cost_X6_weighsAll
theorem dX6_cost_0 : decode cX6_cost 0 = .ok (.aload_n 0, 1) := by decide +kernel
theorem dX6_cost_1 : decode cX6_cost 1 = .ok (.iconst 0, 1) := by decide +kernel
theorem dX6_cost_2 : decode cX6_cost 2 = .ok (.putfield 54, 3) := by decide +kernel
theorem dX6_cost_5 : decode cX6_cost 5 = .ok (.aload_n 0, 1) := by decide +kernel
theorem dX6_cost_6 : decode cX6_cost 6 = .ok (.iload_n 1, 1) := by decide +kernel
theorem dX6_cost_7 : decode cX6_cost 7 = .ok (.iload_n 2, 1) := by decide +kernel
theorem dX6_cost_8 : decode cX6_cost 8 = .ok (.invokevirtual 232, 3) := by decide +kernel
theorem dX6_cost_11 : decode cX6_cost 11 = .ok (.ifCond .ne 7, 3) := by decide +kernel
theorem dX6_cost_14 : decode cX6_cost 14 = .ok (.ldc2_w 189, 3) := by decide +kernel
theorem dX6_cost_17 : decode cX6_cost 17 = .ok (.lreturn, 1) := by decide +kernel
theorem dX6_cost_18 : decode cX6_cost 18 = .ok (.aload_n 0, 1) := by decide +kernel
theorem dX6_cost_19 : decode cX6_cost 19 = .ok (.invokevirtual 236, 3) := by decide +kernel
theorem dX6_cost_22 : decode cX6_cost 22 = .ok (.aload_n 0, 1) := by decide +kernel
theorem dX6_cost_23 : decode cX6_cost 23 = .ok (.getfield 45, 3) := by decide +kernel
theorem dX6_cost_26 : decode cX6_cost 26 = .ok (.bipush 10, 2) := by decide +kernel
theorem dX6_cost_28 : decode cX6_cost 28 = .ok (.iload_n 1, 1) := by decide +kernel
theorem dX6_cost_29 : decode cX6_cost 29 = .ok (.imul, 1) := by decide +kernel
theorem dX6_cost_30 : decode cX6_cost 30 = .ok (.iload_n 2, 1) := by decide +kernel
theorem dX6_cost_31 : decode cX6_cost 31 = .ok (.iadd, 1) := by decide +kernel
theorem dX6_cost_32 : decode cX6_cost 32 = .ok (.laload, 1) := by decide +kernel
theorem dX6_cost_33 : decode cX6_cost 33 = .ok (.lreturn, 1) := by decide +kernel
set_option maxRecDepth 20000 in
theorem ggX6_enough_X6_in : GoodIn wsX6_enough wsX6_in := goodIn_r _ [7] (by decide +kernel) (by decide +kernel)
set_option maxRecDepth 20000 in
theorem gX6_enough_X6_in : GoodIn wsX6_enough (va_wsS RX6 61 yX6_in wsX6_in) := goodIn_app (goodIn_of _ (by decide +kernel)) ggX6_enough_X6_in
set_option maxRecDepth 20000 in
theorem ggX6_enough_X6_weighsAll : GoodIn wsX6_enough wsX6_weighsAll := goodIn_r _ [11, 2, 12, 13, 3, 14, 15, 6, 16, 17, 18, 19, 20, 21, 22, 23, 24, 25, 26, 27, 28, 29, 30, 31, 32, 33, 34, 35, 36, 37, 38, 39, 40, 41, 42, 43, 44, 45] (by decide +kernel) (by decide +kernel)
set_option maxRecDepth 20000 in
theorem gX6_enough_X6_weighsAll : GoodIn wsX6_enough (wsV RX6 236 RX6 yX6_weighsAll wsX6_weighsAll) := goodIn_app (goodIn_of _ (by decide +kernel)) ggX6_enough_X6_weighsAll
theorem dX6_enough_0 : decode cX6_enough 0 = .ok (.aload_n 0, 1) := by decide +kernel
theorem dX6_enough_1 : decode cX6_enough 1 = .ok (.iconst 0, 1) := by decide +kernel
theorem dX6_enough_2 : decode cX6_enough 2 = .ok (.putfield 54, 3) := by decide +kernel
theorem dX6_enough_5 : decode cX6_enough 5 = .ok (.iload_n 1, 1) := by decide +kernel
theorem dX6_enough_6 : decode cX6_enough 6 = .ok (.iconst (-1), 1) := by decide +kernel
theorem dX6_enough_7 : decode cX6_enough 7 = .ok (.aload_n 0, 1) := by decide +kernel
theorem dX6_enough_8 : decode cX6_enough 8 = .ok (.getfield 39, 3) := by decide +kernel
theorem dX6_enough_11 : decode cX6_enough 11 = .ok (.bipush 7, 2) := by decide +kernel
theorem dX6_enough_13 : decode cX6_enough 13 = .ok (.iaload, 1) := by decide +kernel
theorem dX6_enough_14 : decode cX6_enough 14 = .ok (.invokestatic 61, 3) := by decide +kernel
theorem dX6_enough_17 : decode cX6_enough 17 = .ok (.ifCond .ne 5, 3) := by decide +kernel
theorem dX6_enough_20 : decode cX6_enough 20 = .ok (.iconst (-1), 1) := by decide +kernel
theorem dX6_enough_21 : decode cX6_enough 21 = .ok (.ireturn, 1) := by decide +kernel
theorem dX6_enough_22 : decode cX6_enough 22 = .ok (.aload_n 0, 1) := by decide +kernel
theorem dX6_enough_23 : decode cX6_enough 23 = .ok (.invokevirtual 236, 3) := by decide +kernel
theorem dX6_enough_26 : decode cX6_enough 26 = .ok (.bipush (-9), 2) := by decide +kernel
theorem dX6_enough_28 : decode cX6_enough 28 = .ok (.istore_n 2, 1) := by decide +kernel
theorem dX6_enough_29 : decode cX6_enough 29 = .ok (.bipush (-9), 2) := by decide +kernel
theorem dX6_enough_31 : decode cX6_enough 31 = .ok (.istore_n 3, 1) := by decide +kernel
theorem dX6_enough_32 : decode cX6_enough 32 = .ok (.iconst 0, 1) := by decide +kernel
theorem dX6_enough_33 : decode cX6_enough 33 = .ok (.istore 4, 2) := by decide +kernel
theorem dX6_enough_35 : decode cX6_enough 35 = .ok (.iload 4, 2) := by decide +kernel
theorem dX6_enough_37 : decode cX6_enough 37 = .ok (.aload_n 0, 1) := by decide +kernel
theorem dX6_enough_38 : decode cX6_enough 38 = .ok (.getfield 39, 3) := by decide +kernel
theorem dX6_enough_41 : decode cX6_enough 41 = .ok (.bipush 7, 2) := by decide +kernel
theorem dX6_enough_43 : decode cX6_enough 43 = .ok (.iaload, 1) := by decide +kernel
theorem dX6_enough_44 : decode cX6_enough 44 = .ok (.if_icmp .gt 77, 3) := by decide +kernel
theorem dX6_enough_47 : decode cX6_enough 47 = .ok (.iload 4, 2) := by decide +kernel
theorem dX6_enough_49 : decode cX6_enough 49 = .ok (.istore 5, 2) := by decide +kernel
theorem dX6_enough_51 : decode cX6_enough 51 = .ok (.iload 5, 2) := by decide +kernel
theorem dX6_enough_53 : decode cX6_enough 53 = .ok (.ifCond .lt 62, 3) := by decide +kernel
theorem dX6_enough_56 : decode cX6_enough 56 = .ok (.aload_n 0, 1) := by decide +kernel
theorem dX6_enough_57 : decode cX6_enough 57 = .ok (.getfield 48, 3) := by decide +kernel
theorem dX6_enough_60 : decode cX6_enough 60 = .ok (.bipush 10, 2) := by decide +kernel
theorem dX6_enough_62 : decode cX6_enough 62 = .ok (.iload 4, 2) := by decide +kernel
theorem dX6_enough_64 : decode cX6_enough 64 = .ok (.imul, 1) := by decide +kernel
theorem dX6_enough_65 : decode cX6_enough 65 = .ok (.iload 5, 2) := by decide +kernel
theorem dX6_enough_67 : decode cX6_enough 67 = .ok (.iadd, 1) := by decide +kernel
theorem dX6_enough_68 : decode cX6_enough 68 = .ok (.iaload, 1) := by decide +kernel
theorem dX6_enough_69 : decode cX6_enough 69 = .ok (.iconst 2, 1) := by decide +kernel
theorem dX6_enough_70 : decode cX6_enough 70 = .ok (.if_icmp .ne 8, 3) := by decide +kernel
theorem dX6_enough_73 : decode cX6_enough 73 = .ok (.iload 4, 2) := by decide +kernel
theorem dX6_enough_75 : decode cX6_enough 75 = .ok (.goto 4, 3) := by decide +kernel
theorem dX6_enough_78 : decode cX6_enough 78 = .ok (.iload_n 2, 1) := by decide +kernel
theorem dX6_enough_79 : decode cX6_enough 79 = .ok (.istore_n 2, 1) := by decide +kernel
theorem dX6_enough_80 : decode cX6_enough 80 = .ok (.iload 4, 2) := by decide +kernel
theorem dX6_enough_82 : decode cX6_enough 82 = .ok (.iload_n 1, 1) := by decide +kernel
theorem dX6_enough_83 : decode cX6_enough 83 = .ok (.if_icmp .ne 24, 3) := by decide +kernel
theorem dX6_enough_86 : decode cX6_enough 86 = .ok (.aload_n 0, 1) := by decide +kernel
theorem dX6_enough_87 : decode cX6_enough 87 = .ok (.getfield 48, 3) := by decide +kernel
theorem dX6_enough_90 : decode cX6_enough 90 = .ok (.bipush 10, 2) := by decide +kernel
theorem dX6_enough_92 : decode cX6_enough 92 = .ok (.iload 4, 2) := by decide +kernel
theorem dX6_enough_94 : decode cX6_enough 94 = .ok (.imul, 1) := by decide +kernel
theorem dX6_enough_95 : decode cX6_enough 95 = .ok (.iload 5, 2) := by decide +kernel
theorem dX6_enough_97 : decode cX6_enough 97 = .ok (.iadd, 1) := by decide +kernel
theorem dX6_enough_98 : decode cX6_enough 98 = .ok (.iaload, 1) := by decide +kernel
theorem dX6_enough_99 : decode cX6_enough 99 = .ok (.ifCond .ne 8, 3) := by decide +kernel
theorem dX6_enough_102 : decode cX6_enough 102 = .ok (.iload 5, 2) := by decide +kernel
theorem dX6_enough_104 : decode cX6_enough 104 = .ok (.goto 4, 3) := by decide +kernel
theorem dX6_enough_107 : decode cX6_enough 107 = .ok (.iload_n 3, 1) := by decide +kernel
theorem dX6_enough_108 : decode cX6_enough 108 = .ok (.istore_n 3, 1) := by decide +kernel
theorem dX6_enough_109 : decode cX6_enough 109 = .ok (.iinc 5 (-1), 3) := by decide +kernel
theorem dX6_enough_112 : decode cX6_enough 112 = .ok (.goto (-61), 3) := by decide +kernel
theorem dX6_enough_115 : decode cX6_enough 115 = .ok (.iinc 4 1, 3) := by decide +kernel
theorem dX6_enough_118 : decode cX6_enough 118 = .ok (.goto (-83), 3) := by decide +kernel
theorem dX6_enough_121 : decode cX6_enough 121 = .ok (.iload_n 1, 1) := by decide +kernel
theorem dX6_enough_122 : decode cX6_enough 122 = .ok (.iconst (-1), 1) := by decide +kernel
theorem dX6_enough_123 : decode cX6_enough 123 = .ok (.if_icmp .ne 7, 3) := by decide +kernel
theorem dX6_enough_126 : decode cX6_enough 126 = .ok (.iload_n 2, 1) := by decide +kernel
theorem dX6_enough_127 : decode cX6_enough 127 = .ok (.goto 4, 3) := by decide +kernel
theorem dX6_enough_130 : decode cX6_enough 130 = .ok (.iload_n 3, 1) := by decide +kernel
theorem dX6_enough_131 : decode cX6_enough 131 = .ok (.ireturn, 1) := by decide +kernel
set_option maxRecDepth 20000 in
theorem ggX6_year_X6_isStall : GoodIn wsX6_year wsX6_isStall := goodIn_r _ [10, 11, 12, 13, 9, 14, 36, 37, 38, 39, 40, 41, 42, 43, 44, 45, 46, 47, 48, 49, 50, 51, 52, 53, 54, 55, 56, 57, 58, 59, 60, 61, 62, 63, 64] (by decide +kernel) (by decide +kernel)
set_option maxRecDepth 20000 in
theorem gX6_year_X6_isStall : GoodIn wsX6_year (wsV RX6 158 RX6 yX6_isStall wsX6_isStall) := goodIn_app (goodIn_of _ (by decide +kernel)) ggX6_year_X6_isStall
set_option maxRecDepth 20000 in
theorem ggX6_year_X6_in : GoodIn wsX6_year wsX6_in := goodIn_r _ [14] (by decide +kernel) (by decide +kernel)
set_option maxRecDepth 20000 in
theorem gX6_year_X6_in : GoodIn wsX6_year (va_wsS RX6 61 yX6_in wsX6_in) := goodIn_app (goodIn_of _ (by decide +kernel)) ggX6_year_X6_in
set_option maxRecDepth 20000 in
theorem ggX6_year_X6_bagsOf : GoodIn wsX6_year wsX6_bagsOf := goodIn_r _ [18, 3, 19, 20, 21, 9, 22, 36, 37, 38, 39, 40, 41, 42, 43, 44, 45, 46, 47, 48, 49, 50, 51, 52, 53, 54, 55, 56, 57, 58, 59, 60, 61, 62, 63, 64] (by decide +kernel) (by decide +kernel)
set_option maxRecDepth 20000 in
theorem gX6_year_X6_bagsOf : GoodIn wsX6_year (wsV RX6 161 RX6 yX6_bagsOf wsX6_bagsOf) := goodIn_app (goodIn_of _ (by decide +kernel)) ggX6_year_X6_bagsOf
set_option maxRecDepth 20000 in
theorem ggX6_year_X6_shortOf : GoodIn wsX6_year wsX6_shortOf := goodIn_r _ [26, 4, 19, 20, 21, 9, 22, 3, 36, 37, 38, 39, 40, 41, 42, 43, 44, 45, 46, 47, 48, 49, 50, 51, 52, 53, 54, 55, 56, 57, 58, 59, 60, 61, 62, 63, 64] (by decide +kernel) (by decide +kernel)
set_option maxRecDepth 20000 in
theorem gX6_year_X6_shortOf : GoodIn wsX6_year (wsV RX6 180 RX6 yX6_shortOf wsX6_shortOf) := goodIn_app (goodIn_of _ (by decide +kernel)) ggX6_year_X6_shortOf
set_option maxRecDepth 20000 in
theorem ggX6_year_X6_bag : GoodIn wsX6_year wsX6_bag := goodIn_r _ [22, 3, 36, 37, 38, 39, 40, 41, 42, 43, 44, 45, 46, 47, 48, 49, 50, 51, 52, 53, 54, 55, 56, 57, 58, 59, 60, 61, 62, 63, 64] (by decide +kernel) (by decide +kernel)
set_option maxRecDepth 20000 in
theorem gX6_year_X6_bag : GoodIn wsX6_year (wsV RX6 155 RX6 yX6_bag wsX6_bag) := goodIn_app (goodIn_of _ (by decide +kernel)) ggX6_year_X6_bag
set_option maxRecDepth 20000 in
theorem ggX6_year_X6_part : GoodIn wsX6_year wsX6_part := goodIn_r _ [29, 30, 31, 9, 32, 33, 34, 35] (by decide +kernel) (by decide +kernel)
set_option maxRecDepth 20000 in
theorem gX6_year_X6_part : GoodIn wsX6_year (va_wsS RX6 221 yX6_part wsX6_part) := goodIn_app (goodIn_of _ (by decide +kernel)) ggX6_year_X6_part
theorem dX6_year_0 : decode cX6_year 0 = .ok (.aload_n 0, 1) := by decide +kernel
theorem dX6_year_1 : decode cX6_year 1 = .ok (.iconst 0, 1) := by decide +kernel
theorem dX6_year_2 : decode cX6_year 2 = .ok (.putfield 54, 3) := by decide +kernel
theorem dX6_year_5 : decode cX6_year 5 = .ok (.aload_n 0, 1) := by decide +kernel
theorem dX6_year_6 : decode cX6_year 6 = .ok (.iload_n 1, 1) := by decide +kernel
theorem dX6_year_7 : decode cX6_year 7 = .ok (.invokevirtual 158, 3) := by decide +kernel
theorem dX6_year_10 : decode cX6_year 10 = .ok (.ifCond .eq 31, 3) := by decide +kernel
theorem dX6_year_13 : decode cX6_year 13 = .ok (.iload_n 2, 1) := by decide +kernel
theorem dX6_year_14 : decode cX6_year 14 = .ok (.iconst 0, 1) := by decide +kernel
theorem dX6_year_15 : decode cX6_year 15 = .ok (.sipush 9999, 3) := by decide +kernel
theorem dX6_year_18 : decode cX6_year 18 = .ok (.invokestatic 61, 3) := by decide +kernel
theorem dX6_year_21 : decode cX6_year 21 = .ok (.ifCond .eq 20, 3) := by decide +kernel
theorem dX6_year_24 : decode cX6_year 24 = .ok (.iload_n 3, 1) := by decide +kernel
theorem dX6_year_25 : decode cX6_year 25 = .ok (.iconst 0, 1) := by decide +kernel
theorem dX6_year_26 : decode cX6_year 26 = .ok (.iconst 1, 1) := by decide +kernel
theorem dX6_year_27 : decode cX6_year 27 = .ok (.invokestatic 61, 3) := by decide +kernel
theorem dX6_year_30 : decode cX6_year 30 = .ok (.ifCond .eq 11, 3) := by decide +kernel
theorem dX6_year_33 : decode cX6_year 33 = .ok (.aload_n 0, 1) := by decide +kernel
theorem dX6_year_34 : decode cX6_year 34 = .ok (.iload_n 1, 1) := by decide +kernel
theorem dX6_year_35 : decode cX6_year 35 = .ok (.invokevirtual 161, 3) := by decide +kernel
theorem dX6_year_38 : decode cX6_year 38 = .ok (.ifCond .ne 7, 3) := by decide +kernel
theorem dX6_year_41 : decode cX6_year 41 = .ok (.ldc2_w 189, 3) := by decide +kernel
theorem dX6_year_44 : decode cX6_year 44 = .ok (.lreturn, 1) := by decide +kernel
theorem dX6_year_45 : decode cX6_year 45 = .ok (.lconst 0, 1) := by decide +kernel
theorem dX6_year_46 : decode cX6_year 46 = .ok (.lstore 4, 2) := by decide +kernel
theorem dX6_year_48 : decode cX6_year 48 = .ok (.iconst 0, 1) := by decide +kernel
theorem dX6_year_49 : decode cX6_year 49 = .ok (.istore 6, 2) := by decide +kernel
theorem dX6_year_51 : decode cX6_year 51 = .ok (.iload 6, 2) := by decide +kernel
theorem dX6_year_53 : decode cX6_year 53 = .ok (.aload_n 0, 1) := by decide +kernel
theorem dX6_year_54 : decode cX6_year 54 = .ok (.getfield 7, 3) := by decide +kernel
theorem dX6_year_57 : decode cX6_year 57 = .ok (.iconst 0, 1) := by decide +kernel
theorem dX6_year_58 : decode cX6_year 58 = .ok (.iaload, 1) := by decide +kernel
theorem dX6_year_59 : decode cX6_year 59 = .ok (.if_icmp .ge 45, 3) := by decide +kernel
theorem dX6_year_62 : decode cX6_year 62 = .ok (.aload_n 0, 1) := by decide +kernel
theorem dX6_year_63 : decode cX6_year 63 = .ok (.iload 6, 2) := by decide +kernel
theorem dX6_year_65 : decode cX6_year 65 = .ok (.invokevirtual 180, 3) := by decide +kernel
theorem dX6_year_68 : decode cX6_year 68 = .ok (.istore 7, 2) := by decide +kernel
theorem dX6_year_70 : decode cX6_year 70 = .ok (.lload 4, 2) := by decide +kernel
theorem dX6_year_72 : decode cX6_year 72 = .ok (.aload_n 0, 1) := by decide +kernel
theorem dX6_year_73 : decode cX6_year 73 = .ok (.iload 6, 2) := by decide +kernel
theorem dX6_year_75 : decode cX6_year 75 = .ok (.iconst 0, 1) := by decide +kernel
theorem dX6_year_76 : decode cX6_year 76 = .ok (.invokevirtual 155, 3) := by decide +kernel
theorem dX6_year_79 : decode cX6_year 79 = .ok (.iload_n 1, 1) := by decide +kernel
theorem dX6_year_80 : decode cX6_year 80 = .ok (.if_icmp .ne 14, 3) := by decide +kernel
theorem dX6_year_83 : decode cX6_year 83 = .ok (.iload 7, 2) := by decide +kernel
theorem dX6_year_85 : decode cX6_year 85 = .ok (.ifCond .le 9, 3) := by decide +kernel
theorem dX6_year_88 : decode cX6_year 88 = .ok (.iload 7, 2) := by decide +kernel
theorem dX6_year_90 : decode cX6_year 90 = .ok (.i2l, 1) := by decide +kernel
theorem dX6_year_91 : decode cX6_year 91 = .ok (.goto 4, 3) := by decide +kernel
theorem dX6_year_94 : decode cX6_year 94 = .ok (.lconst 0, 1) := by decide +kernel
theorem dX6_year_95 : decode cX6_year 95 = .ok (.ladd, 1) := by decide +kernel
theorem dX6_year_96 : decode cX6_year 96 = .ok (.lstore 4, 2) := by decide +kernel
theorem dX6_year_98 : decode cX6_year 98 = .ok (.iinc 6 1, 3) := by decide +kernel
theorem dX6_year_101 : decode cX6_year 101 = .ok (.goto (-50), 3) := by decide +kernel
theorem dX6_year_104 : decode cX6_year 104 = .ok (.lload 4, 2) := by decide +kernel
theorem dX6_year_106 : decode cX6_year 106 = .ok (.aload_n 0, 1) := by decide +kernel
theorem dX6_year_107 : decode cX6_year 107 = .ok (.getfield 30, 3) := by decide +kernel
theorem dX6_year_110 : decode cX6_year 110 = .ok (.iconst 3, 1) := by decide +kernel
theorem dX6_year_111 : decode cX6_year 111 = .ok (.iload_n 1, 1) := by decide +kernel
theorem dX6_year_112 : decode cX6_year 112 = .ok (.imul, 1) := by decide +kernel
theorem dX6_year_113 : decode cX6_year 113 = .ok (.iconst 2, 1) := by decide +kernel
theorem dX6_year_114 : decode cX6_year 114 = .ok (.iadd, 1) := by decide +kernel
theorem dX6_year_115 : decode cX6_year 115 = .ok (.iaload, 1) := by decide +kernel
theorem dX6_year_116 : decode cX6_year 116 = .ok (.i2l, 1) := by decide +kernel
theorem dX6_year_117 : decode cX6_year 117 = .ok (.lmul, 1) := by decide +kernel
theorem dX6_year_118 : decode cX6_year 118 = .ok (.iload_n 2, 1) := by decide +kernel
theorem dX6_year_119 : decode cX6_year 119 = .ok (.i2l, 1) := by decide +kernel
theorem dX6_year_120 : decode cX6_year 120 = .ok (.lmul, 1) := by decide +kernel
theorem dX6_year_121 : decode cX6_year 121 = .ok (.ldc2_w 239, 3) := by decide +kernel
theorem dX6_year_124 : decode cX6_year 124 = .ok (.aload_n 0, 1) := by decide +kernel
theorem dX6_year_125 : decode cX6_year 125 = .ok (.iload_n 1, 1) := by decide +kernel
theorem dX6_year_126 : decode cX6_year 126 = .ok (.invokevirtual 161, 3) := by decide +kernel
theorem dX6_year_129 : decode cX6_year 129 = .ok (.i2l, 1) := by decide +kernel
theorem dX6_year_130 : decode cX6_year 130 = .ok (.lmul, 1) := by decide +kernel
theorem dX6_year_131 : decode cX6_year 131 = .ok (.iload_n 3, 1) := by decide +kernel
theorem dX6_year_132 : decode cX6_year 132 = .ok (.invokestatic 221, 3) := by decide +kernel
theorem dX6_year_135 : decode cX6_year 135 = .ok (.lreturn, 1) := by decide +kernel
set_option maxRecDepth 20000 in
theorem ggX6_isTrue_X6_bag : GoodIn wsX6_isTrue wsX6_bag := goodIn_r _ [9, 3, 18, 19, 20, 21, 22, 23, 24, 25, 26, 27, 28, 29, 30, 31, 32, 33, 34, 35, 36, 37, 38, 39, 40, 41, 42, 43, 44, 45, 46] (by decide +kernel) (by decide +kernel)
set_option maxRecDepth 20000 in
theorem gX6_isTrue_X6_bag : GoodIn wsX6_isTrue (wsV RX6 155 RX6 yX6_bag wsX6_bag) := goodIn_app (goodIn_of _ (by decide +kernel)) ggX6_isTrue_X6_bag
set_option maxRecDepth 20000 in
theorem ggX6_isTrue_X6_shortOf : GoodIn wsX6_isTrue wsX6_shortOf := goodIn_r _ [13, 4, 5, 6, 7, 8, 9, 3, 18, 19, 20, 21, 22, 23, 24, 25, 26, 27, 28, 29, 30, 31, 32, 33, 34, 35, 36, 37, 38, 39, 40, 41, 42, 43, 44, 45, 46] (by decide +kernel) (by decide +kernel)
set_option maxRecDepth 20000 in
theorem gX6_isTrue_X6_shortOf : GoodIn wsX6_isTrue (wsV RX6 180 RX6 yX6_shortOf wsX6_shortOf) := goodIn_app (goodIn_of _ (by decide +kernel)) ggX6_isTrue_X6_shortOf
set_option maxRecDepth 20000 in
theorem ggX6_isTrue_X6_bagsOf : GoodIn wsX6_isTrue wsX6_bagsOf := goodIn_r _ [17, 3, 5, 6, 7, 8, 9, 18, 19, 20, 21, 22, 23, 24, 25, 26, 27, 28, 29, 30, 31, 32, 33, 34, 35, 36, 37, 38, 39, 40, 41, 42, 43, 44, 45, 46] (by decide +kernel) (by decide +kernel)
set_option maxRecDepth 20000 in
theorem gX6_isTrue_X6_bagsOf : GoodIn wsX6_isTrue (wsV RX6 161 RX6 yX6_bagsOf wsX6_bagsOf) := goodIn_app (goodIn_of _ (by decide +kernel)) ggX6_isTrue_X6_bagsOf
theorem dX6_isTrue_0 : decode cX6_isTrue 0 = .ok (.aload_n 0, 1) := by decide +kernel
theorem dX6_isTrue_1 : decode cX6_isTrue 1 = .ok (.lconst 0, 1) := by decide +kernel
theorem dX6_isTrue_2 : decode cX6_isTrue 2 = .ok (.putfield 241, 3) := by decide +kernel
theorem dX6_isTrue_5 : decode cX6_isTrue 5 = .ok (.aload_n 0, 1) := by decide +kernel
theorem dX6_isTrue_6 : decode cX6_isTrue 6 = .ok (.lconst 0, 1) := by decide +kernel
theorem dX6_isTrue_7 : decode cX6_isTrue 7 = .ok (.putfield 245, 3) := by decide +kernel
theorem dX6_isTrue_10 : decode cX6_isTrue 10 = .ok (.iconst 0, 1) := by decide +kernel
theorem dX6_isTrue_11 : decode cX6_isTrue 11 = .ok (.istore_n 2, 1) := by decide +kernel
theorem dX6_isTrue_12 : decode cX6_isTrue 12 = .ok (.iload_n 2, 1) := by decide +kernel
theorem dX6_isTrue_13 : decode cX6_isTrue 13 = .ok (.aload_n 0, 1) := by decide +kernel
theorem dX6_isTrue_14 : decode cX6_isTrue 14 = .ok (.getfield 7, 3) := by decide +kernel
theorem dX6_isTrue_17 : decode cX6_isTrue 17 = .ok (.iconst 0, 1) := by decide +kernel
theorem dX6_isTrue_18 : decode cX6_isTrue 18 = .ok (.iaload, 1) := by decide +kernel
theorem dX6_isTrue_19 : decode cX6_isTrue 19 = .ok (.if_icmp .ge 57, 3) := by decide +kernel
theorem dX6_isTrue_22 : decode cX6_isTrue 22 = .ok (.aload_n 0, 1) := by decide +kernel
theorem dX6_isTrue_23 : decode cX6_isTrue 23 = .ok (.iload_n 2, 1) := by decide +kernel
theorem dX6_isTrue_24 : decode cX6_isTrue 24 = .ok (.iconst 0, 1) := by decide +kernel
theorem dX6_isTrue_25 : decode cX6_isTrue 25 = .ok (.invokevirtual 155, 3) := by decide +kernel
theorem dX6_isTrue_28 : decode cX6_isTrue 28 = .ok (.iload_n 1, 1) := by decide +kernel
theorem dX6_isTrue_29 : decode cX6_isTrue 29 = .ok (.if_icmp .ne 41, 3) := by decide +kernel
theorem dX6_isTrue_32 : decode cX6_isTrue 32 = .ok (.aload_n 0, 1) := by decide +kernel
theorem dX6_isTrue_33 : decode cX6_isTrue 33 = .ok (.dup, 1) := by decide +kernel
theorem dX6_isTrue_34 : decode cX6_isTrue 34 = .ok (.getfield 241, 3) := by decide +kernel
theorem dX6_isTrue_37 : decode cX6_isTrue 37 = .ok (.aload_n 0, 1) := by decide +kernel
theorem dX6_isTrue_38 : decode cX6_isTrue 38 = .ok (.iload_n 2, 1) := by decide +kernel
theorem dX6_isTrue_39 : decode cX6_isTrue 39 = .ok (.iconst 3, 1) := by decide +kernel
theorem dX6_isTrue_40 : decode cX6_isTrue 40 = .ok (.invokevirtual 155, 3) := by decide +kernel
theorem dX6_isTrue_43 : decode cX6_isTrue 43 = .ok (.i2l, 1) := by decide +kernel
theorem dX6_isTrue_44 : decode cX6_isTrue 44 = .ok (.ladd, 1) := by decide +kernel
theorem dX6_isTrue_45 : decode cX6_isTrue 45 = .ok (.putfield 241, 3) := by decide +kernel
theorem dX6_isTrue_48 : decode cX6_isTrue 48 = .ok (.aload_n 0, 1) := by decide +kernel
theorem dX6_isTrue_49 : decode cX6_isTrue 49 = .ok (.dup, 1) := by decide +kernel
theorem dX6_isTrue_50 : decode cX6_isTrue 50 = .ok (.getfield 245, 3) := by decide +kernel
theorem dX6_isTrue_53 : decode cX6_isTrue 53 = .ok (.aload_n 0, 1) := by decide +kernel
theorem dX6_isTrue_54 : decode cX6_isTrue 54 = .ok (.iload_n 2, 1) := by decide +kernel
theorem dX6_isTrue_55 : decode cX6_isTrue 55 = .ok (.iconst 3, 1) := by decide +kernel
theorem dX6_isTrue_56 : decode cX6_isTrue 56 = .ok (.invokevirtual 155, 3) := by decide +kernel
theorem dX6_isTrue_59 : decode cX6_isTrue 59 = .ok (.aload_n 0, 1) := by decide +kernel
theorem dX6_isTrue_60 : decode cX6_isTrue 60 = .ok (.iload_n 2, 1) := by decide +kernel
theorem dX6_isTrue_61 : decode cX6_isTrue 61 = .ok (.invokevirtual 180, 3) := by decide +kernel
theorem dX6_isTrue_64 : decode cX6_isTrue 64 = .ok (.isub, 1) := by decide +kernel
theorem dX6_isTrue_65 : decode cX6_isTrue 65 = .ok (.i2l, 1) := by decide +kernel
theorem dX6_isTrue_66 : decode cX6_isTrue 66 = .ok (.ladd, 1) := by decide +kernel
theorem dX6_isTrue_67 : decode cX6_isTrue 67 = .ok (.putfield 245, 3) := by decide +kernel
theorem dX6_isTrue_70 : decode cX6_isTrue 70 = .ok (.iinc 2 1, 3) := by decide +kernel
theorem dX6_isTrue_73 : decode cX6_isTrue 73 = .ok (.goto (-61), 3) := by decide +kernel
theorem dX6_isTrue_76 : decode cX6_isTrue 76 = .ok (.aload_n 0, 1) := by decide +kernel
theorem dX6_isTrue_77 : decode cX6_isTrue 77 = .ok (.dup, 1) := by decide +kernel
theorem dX6_isTrue_78 : decode cX6_isTrue 78 = .ok (.getfield 241, 3) := by decide +kernel
theorem dX6_isTrue_81 : decode cX6_isTrue 81 = .ok (.aload_n 0, 1) := by decide +kernel
theorem dX6_isTrue_82 : decode cX6_isTrue 82 = .ok (.getfield 30, 3) := by decide +kernel
theorem dX6_isTrue_85 : decode cX6_isTrue 85 = .ok (.iconst 3, 1) := by decide +kernel
theorem dX6_isTrue_86 : decode cX6_isTrue 86 = .ok (.iload_n 1, 1) := by decide +kernel
theorem dX6_isTrue_87 : decode cX6_isTrue 87 = .ok (.imul, 1) := by decide +kernel
theorem dX6_isTrue_88 : decode cX6_isTrue 88 = .ok (.iconst 2, 1) := by decide +kernel
theorem dX6_isTrue_89 : decode cX6_isTrue 89 = .ok (.iadd, 1) := by decide +kernel
theorem dX6_isTrue_90 : decode cX6_isTrue 90 = .ok (.iaload, 1) := by decide +kernel
theorem dX6_isTrue_91 : decode cX6_isTrue 91 = .ok (.i2l, 1) := by decide +kernel
theorem dX6_isTrue_92 : decode cX6_isTrue 92 = .ok (.lmul, 1) := by decide +kernel
theorem dX6_isTrue_93 : decode cX6_isTrue 93 = .ok (.putfield 241, 3) := by decide +kernel
theorem dX6_isTrue_96 : decode cX6_isTrue 96 = .ok (.aload_n 0, 1) := by decide +kernel
theorem dX6_isTrue_97 : decode cX6_isTrue 97 = .ok (.iload_n 1, 1) := by decide +kernel
theorem dX6_isTrue_98 : decode cX6_isTrue 98 = .ok (.invokevirtual 161, 3) := by decide +kernel
theorem dX6_isTrue_101 : decode cX6_isTrue 101 = .ok (.ifCond .le 16, 3) := by decide +kernel
theorem dX6_isTrue_104 : decode cX6_isTrue 104 = .ok (.aload_n 0, 1) := by decide +kernel
theorem dX6_isTrue_105 : decode cX6_isTrue 105 = .ok (.getfield 245, 3) := by decide +kernel
theorem dX6_isTrue_108 : decode cX6_isTrue 108 = .ok (.lconst 0, 1) := by decide +kernel
theorem dX6_isTrue_109 : decode cX6_isTrue 109 = .ok (.lcmp, 1) := by decide +kernel
theorem dX6_isTrue_110 : decode cX6_isTrue 110 = .ok (.ifCond .le 7, 3) := by decide +kernel
theorem dX6_isTrue_113 : decode cX6_isTrue 113 = .ok (.iconst 1, 1) := by decide +kernel
theorem dX6_isTrue_114 : decode cX6_isTrue 114 = .ok (.goto 4, 3) := by decide +kernel
theorem dX6_isTrue_117 : decode cX6_isTrue 117 = .ok (.iconst 0, 1) := by decide +kernel
theorem dX6_isTrue_118 : decode cX6_isTrue 118 = .ok (.ireturn, 1) := by decide +kernel
set_option maxRecDepth 20000 in
theorem ggX6_truly_X6_isStall : GoodIn wsX6_truly wsX6_isStall := goodIn_r _ [9, 10, 11, 12, 8, 13, 41, 42, 43, 44, 45, 46, 47, 48, 49, 50, 51, 52, 53, 54, 55, 56, 57, 58, 59, 60, 61, 62, 63, 64, 65, 66, 67, 68, 69] (by decide +kernel) (by decide +kernel)
set_option maxRecDepth 20000 in
theorem gX6_truly_X6_isStall : GoodIn wsX6_truly (wsV RX6 158 RX6 yX6_isStall wsX6_isStall) := goodIn_app (goodIn_of _ (by decide +kernel)) ggX6_truly_X6_isStall
set_option maxRecDepth 20000 in
theorem ggX6_truly_X6_in : GoodIn wsX6_truly wsX6_in := goodIn_r _ [13] (by decide +kernel) (by decide +kernel)
set_option maxRecDepth 20000 in
theorem gX6_truly_X6_in : GoodIn wsX6_truly (va_wsS RX6 61 yX6_in wsX6_in) := goodIn_app (goodIn_of _ (by decide +kernel)) ggX6_truly_X6_in
set_option maxRecDepth 20000 in
theorem ggX6_truly_X6_isTrue : GoodIn wsX6_truly wsX6_isTrue := goodIn_r _ [17, 2, 3, 18, 19, 20, 21, 22, 8, 23, 24, 25, 26, 27, 28, 29, 30, 31, 41, 42, 43, 44, 45, 46, 47, 48, 49, 50, 51, 52, 53, 54, 55, 56, 57, 58, 59, 60, 61, 62, 63, 64, 65, 66, 67, 68, 69] (by decide +kernel) (by decide +kernel)
set_option maxRecDepth 20000 in
theorem gX6_truly_X6_isTrue : GoodIn wsX6_truly (wsV RX6 248 RX6 yX6_isTrue wsX6_isTrue) := goodIn_app (goodIn_of _ (by decide +kernel)) ggX6_truly_X6_isTrue
set_option maxRecDepth 20000 in
theorem ggX6_truly_X6_part : GoodIn wsX6_truly wsX6_part := goodIn_r _ [34, 35, 36, 8, 37, 38, 39, 40] (by decide +kernel) (by decide +kernel)
set_option maxRecDepth 20000 in
theorem gX6_truly_X6_part : GoodIn wsX6_truly (va_wsS RX6 221 yX6_part wsX6_part) := goodIn_app (goodIn_of _ (by decide +kernel)) ggX6_truly_X6_part
theorem dX6_truly_0 : decode cX6_truly 0 = .ok (.aload_n 0, 1) := by decide +kernel
theorem dX6_truly_1 : decode cX6_truly 1 = .ok (.iconst 0, 1) := by decide +kernel
theorem dX6_truly_2 : decode cX6_truly 2 = .ok (.putfield 54, 3) := by decide +kernel
theorem dX6_truly_5 : decode cX6_truly 5 = .ok (.aload_n 0, 1) := by decide +kernel
theorem dX6_truly_6 : decode cX6_truly 6 = .ok (.iload_n 1, 1) := by decide +kernel
theorem dX6_truly_7 : decode cX6_truly 7 = .ok (.invokevirtual 158, 3) := by decide +kernel
theorem dX6_truly_10 : decode cX6_truly 10 = .ok (.ifCond .eq 35, 3) := by decide +kernel
theorem dX6_truly_13 : decode cX6_truly 13 = .ok (.iload_n 2, 1) := by decide +kernel
theorem dX6_truly_14 : decode cX6_truly 14 = .ok (.iconst 0, 1) := by decide +kernel
theorem dX6_truly_15 : decode cX6_truly 15 = .ok (.iconst 1, 1) := by decide +kernel
theorem dX6_truly_16 : decode cX6_truly 16 = .ok (.invokestatic 61, 3) := by decide +kernel
theorem dX6_truly_19 : decode cX6_truly 19 = .ok (.ifCond .eq 26, 3) := by decide +kernel
theorem dX6_truly_22 : decode cX6_truly 22 = .ok (.aload_n 0, 1) := by decide +kernel
theorem dX6_truly_23 : decode cX6_truly 23 = .ok (.iload_n 1, 1) := by decide +kernel
theorem dX6_truly_24 : decode cX6_truly 24 = .ok (.invokevirtual 248, 3) := by decide +kernel
theorem dX6_truly_27 : decode cX6_truly 27 = .ok (.ifCond .eq 18, 3) := by decide +kernel
theorem dX6_truly_30 : decode cX6_truly 30 = .ok (.aload_n 0, 1) := by decide +kernel
theorem dX6_truly_31 : decode cX6_truly 31 = .ok (.getfield 241, 3) := by decide +kernel
theorem dX6_truly_34 : decode cX6_truly 34 = .ok (.aload_n 0, 1) := by decide +kernel
theorem dX6_truly_35 : decode cX6_truly 35 = .ok (.getfield 245, 3) := by decide +kernel
theorem dX6_truly_38 : decode cX6_truly 38 = .ok (.iload_n 2, 1) := by decide +kernel
theorem dX6_truly_39 : decode cX6_truly 39 = .ok (.invokestatic 221, 3) := by decide +kernel
theorem dX6_truly_42 : decode cX6_truly 42 = .ok (.goto 6, 3) := by decide +kernel
theorem dX6_truly_45 : decode cX6_truly 45 = .ok (.ldc2_w 189, 3) := by decide +kernel
theorem dX6_truly_48 : decode cX6_truly 48 = .ok (.lreturn, 1) := by decide +kernel
set_option maxRecDepth 20000 in
theorem ggX6_cheap_X6_isTrue : GoodIn wsX6_cheap wsX6_isTrue := goodIn_r _ [9, 3, 4, 10, 11, 12, 13, 14, 8, 15, 16, 17, 18, 19, 20, 21, 22, 23, 24, 25, 26, 27, 28, 29, 30, 31, 32, 33, 34, 35, 36, 37, 38, 39, 40, 41, 42, 43, 44, 45, 46, 47, 48, 49, 50, 51, 52] (by decide +kernel) (by decide +kernel)
set_option maxRecDepth 20000 in
theorem gX6_cheap_X6_isTrue : GoodIn wsX6_cheap (wsV RX6 248 RX6 yX6_isTrue wsX6_isTrue) := goodIn_app (goodIn_of _ (by decide +kernel)) ggX6_cheap_X6_isTrue
theorem dX6_cheap_0 : decode cX6_cheap 0 = .ok (.aload_n 0, 1) := by decide +kernel
theorem dX6_cheap_1 : decode cX6_cheap 1 = .ok (.iconst 0, 1) := by decide +kernel
theorem dX6_cheap_2 : decode cX6_cheap 2 = .ok (.putfield 54, 3) := by decide +kernel
theorem dX6_cheap_5 : decode cX6_cheap 5 = .ok (.bipush (-9), 2) := by decide +kernel
theorem dX6_cheap_7 : decode cX6_cheap 7 = .ok (.istore_n 1, 1) := by decide +kernel
theorem dX6_cheap_8 : decode cX6_cheap 8 = .ok (.lconst 0, 1) := by decide +kernel
theorem dX6_cheap_9 : decode cX6_cheap 9 = .ok (.lstore_n 2, 1) := by decide +kernel
theorem dX6_cheap_10 : decode cX6_cheap 10 = .ok (.lconst 1, 1) := by decide +kernel
theorem dX6_cheap_11 : decode cX6_cheap 11 = .ok (.lstore 4, 2) := by decide +kernel
theorem dX6_cheap_13 : decode cX6_cheap 13 = .ok (.iconst 0, 1) := by decide +kernel
theorem dX6_cheap_14 : decode cX6_cheap 14 = .ok (.istore 6, 2) := by decide +kernel
theorem dX6_cheap_16 : decode cX6_cheap 16 = .ok (.iload 6, 2) := by decide +kernel
theorem dX6_cheap_18 : decode cX6_cheap 18 = .ok (.aload_n 0, 1) := by decide +kernel
theorem dX6_cheap_19 : decode cX6_cheap 19 = .ok (.getfield 58, 3) := by decide +kernel
theorem dX6_cheap_22 : decode cX6_cheap 22 = .ok (.if_icmp .ge 55, 3) := by decide +kernel
theorem dX6_cheap_25 : decode cX6_cheap 25 = .ok (.aload_n 0, 1) := by decide +kernel
theorem dX6_cheap_26 : decode cX6_cheap 26 = .ok (.iload 6, 2) := by decide +kernel
theorem dX6_cheap_28 : decode cX6_cheap 28 = .ok (.invokevirtual 248, 3) := by decide +kernel
theorem dX6_cheap_31 : decode cX6_cheap 31 = .ok (.ifCond .eq 40, 3) := by decide +kernel
theorem dX6_cheap_34 : decode cX6_cheap 34 = .ok (.iload_n 1, 1) := by decide +kernel
theorem dX6_cheap_35 : decode cX6_cheap 35 = .ok (.bipush (-9), 2) := by decide +kernel
theorem dX6_cheap_37 : decode cX6_cheap 37 = .ok (.if_icmp .eq 20, 3) := by decide +kernel
theorem dX6_cheap_40 : decode cX6_cheap 40 = .ok (.aload_n 0, 1) := by decide +kernel
theorem dX6_cheap_41 : decode cX6_cheap 41 = .ok (.getfield 241, 3) := by decide +kernel
theorem dX6_cheap_44 : decode cX6_cheap 44 = .ok (.lload 4, 2) := by decide +kernel
theorem dX6_cheap_46 : decode cX6_cheap 46 = .ok (.lmul, 1) := by decide +kernel
theorem dX6_cheap_47 : decode cX6_cheap 47 = .ok (.lload_n 2, 1) := by decide +kernel
theorem dX6_cheap_48 : decode cX6_cheap 48 = .ok (.aload_n 0, 1) := by decide +kernel
theorem dX6_cheap_49 : decode cX6_cheap 49 = .ok (.getfield 245, 3) := by decide +kernel
theorem dX6_cheap_52 : decode cX6_cheap 52 = .ok (.lmul, 1) := by decide +kernel
theorem dX6_cheap_53 : decode cX6_cheap 53 = .ok (.lcmp, 1) := by decide +kernel
theorem dX6_cheap_54 : decode cX6_cheap 54 = .ok (.ifCond .ge 17, 3) := by decide +kernel
theorem dX6_cheap_57 : decode cX6_cheap 57 = .ok (.iload 6, 2) := by decide +kernel
theorem dX6_cheap_59 : decode cX6_cheap 59 = .ok (.istore_n 1, 1) := by decide +kernel
theorem dX6_cheap_60 : decode cX6_cheap 60 = .ok (.aload_n 0, 1) := by decide +kernel
theorem dX6_cheap_61 : decode cX6_cheap 61 = .ok (.getfield 241, 3) := by decide +kernel
theorem dX6_cheap_64 : decode cX6_cheap 64 = .ok (.lstore_n 2, 1) := by decide +kernel
theorem dX6_cheap_65 : decode cX6_cheap 65 = .ok (.aload_n 0, 1) := by decide +kernel
theorem dX6_cheap_66 : decode cX6_cheap 66 = .ok (.getfield 245, 3) := by decide +kernel
theorem dX6_cheap_69 : decode cX6_cheap 69 = .ok (.lstore 4, 2) := by decide +kernel
theorem dX6_cheap_71 : decode cX6_cheap 71 = .ok (.iinc 6 1, 3) := by decide +kernel
theorem dX6_cheap_74 : decode cX6_cheap 74 = .ok (.goto (-58), 3) := by decide +kernel
theorem dX6_cheap_77 : decode cX6_cheap 77 = .ok (.iload_n 1, 1) := by decide +kernel
theorem dX6_cheap_78 : decode cX6_cheap 78 = .ok (.ireturn, 1) := by decide +kernel
set_option maxRecDepth 20000 in
theorem ggX6_favoured_X6_isStall : GoodIn wsX6_favoured wsX6_isStall := goodIn_r _ [7, 8, 9, 10, 6, 11, 21, 22, 23, 24, 25, 26, 27, 28, 29, 30, 31, 32, 33, 34, 35, 36, 37, 38, 39, 40, 41, 42, 43, 44, 45, 46, 47, 48, 49] (by decide +kernel) (by decide +kernel)
set_option maxRecDepth 20000 in
theorem gX6_favoured_X6_isStall : GoodIn wsX6_favoured (wsV RX6 158 RX6 yX6_isStall wsX6_isStall) := goodIn_app (goodIn_of _ (by decide +kernel)) ggX6_favoured_X6_isStall
set_option maxRecDepth 20000 in
theorem ggX6_favoured_X6_bag : GoodIn wsX6_favoured wsX6_bag := goodIn_r _ [15, 2, 21, 22, 23, 24, 25, 26, 27, 28, 29, 30, 31, 32, 33, 34, 35, 36, 37, 38, 39, 40, 41, 42, 43, 44, 45, 46, 47, 48, 49] (by decide +kernel) (by decide +kernel)
set_option maxRecDepth 20000 in
theorem gX6_favoured_X6_bag : GoodIn wsX6_favoured (wsV RX6 155 RX6 yX6_bag wsX6_bag) := goodIn_app (goodIn_of _ (by decide +kernel)) ggX6_favoured_X6_bag
set_option maxRecDepth 20000 in
theorem ggX6_favoured_X6_shortOf : GoodIn wsX6_favoured wsX6_shortOf := goodIn_r _ [19, 20, 12, 13, 14, 6, 15, 2, 21, 22, 23, 24, 25, 26, 27, 28, 29, 30, 31, 32, 33, 34, 35, 36, 37, 38, 39, 40, 41, 42, 43, 44, 45, 46, 47, 48, 49] (by decide +kernel) (by decide +kernel)
set_option maxRecDepth 20000 in
theorem gX6_favoured_X6_shortOf : GoodIn wsX6_favoured (wsV RX6 180 RX6 yX6_shortOf wsX6_shortOf) := goodIn_app (goodIn_of _ (by decide +kernel)) ggX6_favoured_X6_shortOf
theorem dX6_favoured_0 : decode cX6_favoured 0 = .ok (.aload_n 0, 1) := by decide +kernel
theorem dX6_favoured_1 : decode cX6_favoured 1 = .ok (.iconst 0, 1) := by decide +kernel
theorem dX6_favoured_2 : decode cX6_favoured 2 = .ok (.putfield 54, 3) := by decide +kernel
theorem dX6_favoured_5 : decode cX6_favoured 5 = .ok (.aload_n 0, 1) := by decide +kernel
theorem dX6_favoured_6 : decode cX6_favoured 6 = .ok (.iload_n 1, 1) := by decide +kernel
theorem dX6_favoured_7 : decode cX6_favoured 7 = .ok (.invokevirtual 158, 3) := by decide +kernel
theorem dX6_favoured_10 : decode cX6_favoured 10 = .ok (.ifCond .ne 5, 3) := by decide +kernel
theorem dX6_favoured_13 : decode cX6_favoured 13 = .ok (.iconst (-1), 1) := by decide +kernel
theorem dX6_favoured_14 : decode cX6_favoured 14 = .ok (.ireturn, 1) := by decide +kernel
theorem dX6_favoured_15 : decode cX6_favoured 15 = .ok (.bipush (-9), 2) := by decide +kernel
theorem dX6_favoured_17 : decode cX6_favoured 17 = .ok (.istore_n 2, 1) := by decide +kernel
theorem dX6_favoured_18 : decode cX6_favoured 18 = .ok (.lconst 0, 1) := by decide +kernel
theorem dX6_favoured_19 : decode cX6_favoured 19 = .ok (.lstore_n 3, 1) := by decide +kernel
theorem dX6_favoured_20 : decode cX6_favoured 20 = .ok (.lconst 1, 1) := by decide +kernel
theorem dX6_favoured_21 : decode cX6_favoured 21 = .ok (.lstore 5, 2) := by decide +kernel
theorem dX6_favoured_23 : decode cX6_favoured 23 = .ok (.iconst 0, 1) := by decide +kernel
theorem dX6_favoured_24 : decode cX6_favoured 24 = .ok (.istore 7, 2) := by decide +kernel
theorem dX6_favoured_26 : decode cX6_favoured 26 = .ok (.iload 7, 2) := by decide +kernel
theorem dX6_favoured_28 : decode cX6_favoured 28 = .ok (.iconst 4, 1) := by decide +kernel
theorem dX6_favoured_29 : decode cX6_favoured 29 = .ok (.if_icmp .ge 137, 3) := by decide +kernel
theorem dX6_favoured_32 : decode cX6_favoured 32 = .ok (.lconst 0, 1) := by decide +kernel
theorem dX6_favoured_33 : decode cX6_favoured 33 = .ok (.lstore 8, 2) := by decide +kernel
theorem dX6_favoured_35 : decode cX6_favoured 35 = .ok (.lconst 0, 1) := by decide +kernel
theorem dX6_favoured_36 : decode cX6_favoured 36 = .ok (.lstore 10, 2) := by decide +kernel
theorem dX6_favoured_38 : decode cX6_favoured 38 = .ok (.iconst 0, 1) := by decide +kernel
theorem dX6_favoured_39 : decode cX6_favoured 39 = .ok (.istore 12, 2) := by decide +kernel
theorem dX6_favoured_41 : decode cX6_favoured 41 = .ok (.iload 12, 2) := by decide +kernel
theorem dX6_favoured_43 : decode cX6_favoured 43 = .ok (.aload_n 0, 1) := by decide +kernel
theorem dX6_favoured_44 : decode cX6_favoured 44 = .ok (.getfield 7, 3) := by decide +kernel
theorem dX6_favoured_47 : decode cX6_favoured 47 = .ok (.iconst 0, 1) := by decide +kernel
theorem dX6_favoured_48 : decode cX6_favoured 48 = .ok (.iaload, 1) := by decide +kernel
theorem dX6_favoured_49 : decode cX6_favoured 49 = .ok (.if_icmp .ge 75, 3) := by decide +kernel
theorem dX6_favoured_52 : decode cX6_favoured 52 = .ok (.aload_n 0, 1) := by decide +kernel
theorem dX6_favoured_53 : decode cX6_favoured 53 = .ok (.iload 12, 2) := by decide +kernel
theorem dX6_favoured_55 : decode cX6_favoured 55 = .ok (.iconst 0, 1) := by decide +kernel
theorem dX6_favoured_56 : decode cX6_favoured 56 = .ok (.invokevirtual 155, 3) := by decide +kernel
theorem dX6_favoured_59 : decode cX6_favoured 59 = .ok (.iload_n 1, 1) := by decide +kernel
theorem dX6_favoured_60 : decode cX6_favoured 60 = .ok (.if_icmp .ne 19, 3) := by decide +kernel
theorem dX6_favoured_63 : decode cX6_favoured 63 = .ok (.aload_n 0, 1) := by decide +kernel
theorem dX6_favoured_64 : decode cX6_favoured 64 = .ok (.iload 12, 2) := by decide +kernel
theorem dX6_favoured_66 : decode cX6_favoured 66 = .ok (.iconst 2, 1) := by decide +kernel
theorem dX6_favoured_67 : decode cX6_favoured 67 = .ok (.invokevirtual 155, 3) := by decide +kernel
theorem dX6_favoured_70 : decode cX6_favoured 70 = .ok (.iload 7, 2) := by decide +kernel
theorem dX6_favoured_72 : decode cX6_favoured 72 = .ok (.if_icmp .ne 7, 3) := by decide +kernel
theorem dX6_favoured_75 : decode cX6_favoured 75 = .ok (.iconst 1, 1) := by decide +kernel
theorem dX6_favoured_76 : decode cX6_favoured 76 = .ok (.goto 4, 3) := by decide +kernel
theorem dX6_favoured_79 : decode cX6_favoured 79 = .ok (.iconst 0, 1) := by decide +kernel
theorem dX6_favoured_80 : decode cX6_favoured 80 = .ok (.istore 13, 2) := by decide +kernel
theorem dX6_favoured_82 : decode cX6_favoured 82 = .ok (.lload 8, 2) := by decide +kernel
theorem dX6_favoured_84 : decode cX6_favoured 84 = .ok (.iload 13, 2) := by decide +kernel
theorem dX6_favoured_86 : decode cX6_favoured 86 = .ok (.ifCond .eq 13, 3) := by decide +kernel
theorem dX6_favoured_89 : decode cX6_favoured 89 = .ok (.aload_n 0, 1) := by decide +kernel
theorem dX6_favoured_90 : decode cX6_favoured 90 = .ok (.iload 12, 2) := by decide +kernel
theorem dX6_favoured_92 : decode cX6_favoured 92 = .ok (.invokevirtual 180, 3) := by decide +kernel
theorem dX6_favoured_95 : decode cX6_favoured 95 = .ok (.i2l, 1) := by decide +kernel
theorem dX6_favoured_96 : decode cX6_favoured 96 = .ok (.goto 4, 3) := by decide +kernel
theorem dX6_favoured_99 : decode cX6_favoured 99 = .ok (.lconst 0, 1) := by decide +kernel
theorem dX6_favoured_100 : decode cX6_favoured 100 = .ok (.ladd, 1) := by decide +kernel
theorem dX6_favoured_101 : decode cX6_favoured 101 = .ok (.lstore 8, 2) := by decide +kernel
theorem dX6_favoured_103 : decode cX6_favoured 103 = .ok (.lload 10, 2) := by decide +kernel
theorem dX6_favoured_105 : decode cX6_favoured 105 = .ok (.iload 13, 2) := by decide +kernel
theorem dX6_favoured_107 : decode cX6_favoured 107 = .ok (.ifCond .eq 7, 3) := by decide +kernel
theorem dX6_favoured_110 : decode cX6_favoured 110 = .ok (.lconst 1, 1) := by decide +kernel
theorem dX6_favoured_111 : decode cX6_favoured 111 = .ok (.goto 4, 3) := by decide +kernel
theorem dX6_favoured_114 : decode cX6_favoured 114 = .ok (.lconst 0, 1) := by decide +kernel
theorem dX6_favoured_115 : decode cX6_favoured 115 = .ok (.ladd, 1) := by decide +kernel
theorem dX6_favoured_116 : decode cX6_favoured 116 = .ok (.lstore 10, 2) := by decide +kernel
theorem dX6_favoured_118 : decode cX6_favoured 118 = .ok (.iinc 12 1, 3) := by decide +kernel
theorem dX6_favoured_121 : decode cX6_favoured 121 = .ok (.goto (-80), 3) := by decide +kernel
theorem dX6_favoured_124 : decode cX6_favoured 124 = .ok (.lload 10, 2) := by decide +kernel
theorem dX6_favoured_126 : decode cX6_favoured 126 = .ok (.lconst 0, 1) := by decide +kernel
theorem dX6_favoured_127 : decode cX6_favoured 127 = .ok (.lcmp, 1) := by decide +kernel
theorem dX6_favoured_128 : decode cX6_favoured 128 = .ok (.ifCond .le 32, 3) := by decide +kernel
theorem dX6_favoured_131 : decode cX6_favoured 131 = .ok (.iload_n 2, 1) := by decide +kernel
theorem dX6_favoured_132 : decode cX6_favoured 132 = .ok (.bipush (-9), 2) := by decide +kernel
theorem dX6_favoured_134 : decode cX6_favoured 134 = .ok (.if_icmp .eq 16, 3) := by decide +kernel
theorem dX6_favoured_137 : decode cX6_favoured 137 = .ok (.lload 8, 2) := by decide +kernel
theorem dX6_favoured_139 : decode cX6_favoured 139 = .ok (.lload 5, 2) := by decide +kernel
theorem dX6_favoured_141 : decode cX6_favoured 141 = .ok (.lmul, 1) := by decide +kernel
theorem dX6_favoured_142 : decode cX6_favoured 142 = .ok (.lload_n 3, 1) := by decide +kernel
theorem dX6_favoured_143 : decode cX6_favoured 143 = .ok (.lload 10, 2) := by decide +kernel
theorem dX6_favoured_145 : decode cX6_favoured 145 = .ok (.lmul, 1) := by decide +kernel
theorem dX6_favoured_146 : decode cX6_favoured 146 = .ok (.lcmp, 1) := by decide +kernel
theorem dX6_favoured_147 : decode cX6_favoured 147 = .ok (.ifCond .ge 13, 3) := by decide +kernel
theorem dX6_favoured_150 : decode cX6_favoured 150 = .ok (.iload 7, 2) := by decide +kernel
theorem dX6_favoured_152 : decode cX6_favoured 152 = .ok (.istore_n 2, 1) := by decide +kernel
theorem dX6_favoured_153 : decode cX6_favoured 153 = .ok (.lload 8, 2) := by decide +kernel
theorem dX6_favoured_155 : decode cX6_favoured 155 = .ok (.lstore_n 3, 1) := by decide +kernel
theorem dX6_favoured_156 : decode cX6_favoured 156 = .ok (.lload 10, 2) := by decide +kernel
theorem dX6_favoured_158 : decode cX6_favoured 158 = .ok (.lstore 5, 2) := by decide +kernel
theorem dX6_favoured_160 : decode cX6_favoured 160 = .ok (.iinc 7 1, 3) := by decide +kernel
theorem dX6_favoured_163 : decode cX6_favoured 163 = .ok (.goto (-137), 3) := by decide +kernel
theorem dX6_favoured_166 : decode cX6_favoured 166 = .ok (.iload_n 2, 1) := by decide +kernel
theorem dX6_favoured_167 : decode cX6_favoured 167 = .ok (.ireturn, 1) := by decide +kernel
set_option maxRecDepth 20000 in
theorem ggX6_even_X6_isStall : GoodIn wsX6_even wsX6_isStall := goodIn_r _ [11, 12, 13, 14, 10, 15, 44, 45, 46, 47, 48, 49, 50, 51, 52, 53, 54, 55, 56, 57, 58, 59, 60, 61, 62, 63, 64, 65, 66, 67, 68, 69, 70, 71, 72] (by decide +kernel) (by decide +kernel)
set_option maxRecDepth 20000 in
theorem gX6_even_X6_isStall : GoodIn wsX6_even (wsV RX6 158 RX6 yX6_isStall wsX6_isStall) := goodIn_app (goodIn_of _ (by decide +kernel)) ggX6_even_X6_isStall
set_option maxRecDepth 20000 in
theorem ggX6_even_X6_in : GoodIn wsX6_even wsX6_in := goodIn_r _ [15] (by decide +kernel) (by decide +kernel)
set_option maxRecDepth 20000 in
theorem gX6_even_X6_in : GoodIn wsX6_even (va_wsS RX6 61 yX6_in wsX6_in) := goodIn_app (goodIn_of _ (by decide +kernel)) ggX6_even_X6_in
set_option maxRecDepth 20000 in
theorem ggX6_even_X6_bagsOf : GoodIn wsX6_even wsX6_bagsOf := goodIn_r _ [19, 4, 20, 21, 22, 10, 23, 44, 45, 46, 47, 48, 49, 50, 51, 52, 53, 54, 55, 56, 57, 58, 59, 60, 61, 62, 63, 64, 65, 66, 67, 68, 69, 70, 71, 72] (by decide +kernel) (by decide +kernel)
set_option maxRecDepth 20000 in
theorem gX6_even_X6_bagsOf : GoodIn wsX6_even (wsV RX6 161 RX6 yX6_bagsOf wsX6_bagsOf) := goodIn_app (goodIn_of _ (by decide +kernel)) ggX6_even_X6_bagsOf
set_option maxRecDepth 20000 in
theorem ggX6_even_X6_bag : GoodIn wsX6_even wsX6_bag := goodIn_r _ [23, 4, 44, 45, 46, 47, 48, 49, 50, 51, 52, 53, 54, 55, 56, 57, 58, 59, 60, 61, 62, 63, 64, 65, 66, 67, 68, 69, 70, 71, 72] (by decide +kernel) (by decide +kernel)
set_option maxRecDepth 20000 in
theorem gX6_even_X6_bag : GoodIn wsX6_even (wsV RX6 155 RX6 yX6_bag wsX6_bag) := goodIn_app (goodIn_of _ (by decide +kernel)) ggX6_even_X6_bag
set_option maxRecDepth 20000 in
theorem ggX6_even_X6_stepsOf : GoodIn wsX6_even wsX6_stepsOf := goodIn_r _ [27, 28, 20, 21, 22, 10, 23, 4, 29, 30, 31, 32, 33, 34, 35, 44, 45, 46, 47, 48, 49, 50, 51, 52, 53, 54, 55, 56, 57, 58, 59, 60, 61, 62, 63, 64, 65, 66, 67, 68, 69, 70, 71, 72] (by decide +kernel) (by decide +kernel)
set_option maxRecDepth 20000 in
theorem gX6_even_X6_stepsOf : GoodIn wsX6_even (wsV RX6 191 RX6 yX6_stepsOf wsX6_stepsOf) := goodIn_app (goodIn_of _ (by decide +kernel)) ggX6_even_X6_stepsOf
set_option maxRecDepth 20000 in
theorem ggX6_even_X6_rows : GoodIn wsX6_even wsX6_rows := goodIn_r _ [39, 40, 41, 42, 10, 43, 44, 45, 46, 47, 48, 49, 50, 51, 52, 53, 54, 55, 56, 57, 58, 59, 60, 61, 62, 63, 64, 65, 66, 67, 68, 69, 70, 71, 72] (by decide +kernel) (by decide +kernel)
set_option maxRecDepth 20000 in
theorem gX6_even_X6_rows : GoodIn wsX6_even (wsV RX6 209 RX6 yX6_rows wsX6_rows) := goodIn_app (goodIn_of _ (by decide +kernel)) ggX6_even_X6_rows
set_option maxRecDepth 20000 in
theorem ggX6_even_X6_power : GoodIn wsX6_even wsX6_power := goodIn_r _ [43] (by decide +kernel) (by decide +kernel)
set_option maxRecDepth 20000 in
theorem gX6_even_X6_power : GoodIn wsX6_even (va_wsS RX6 202 yX6_power wsX6_power) := goodIn_app (goodIn_of _ (by decide +kernel)) ggX6_even_X6_power
theorem dX6_even_0 : decode cX6_even 0 = .ok (.aload_n 0, 1) := by decide +kernel
theorem dX6_even_1 : decode cX6_even 1 = .ok (.iconst 0, 1) := by decide +kernel
theorem dX6_even_2 : decode cX6_even 2 = .ok (.putfield 54, 3) := by decide +kernel
theorem dX6_even_5 : decode cX6_even 5 = .ok (.aload_n 0, 1) := by decide +kernel
theorem dX6_even_6 : decode cX6_even 6 = .ok (.iload_n 1, 1) := by decide +kernel
theorem dX6_even_7 : decode cX6_even 7 = .ok (.invokevirtual 158, 3) := by decide +kernel
theorem dX6_even_10 : decode cX6_even 10 = .ok (.ifCond .eq 12, 3) := by decide +kernel
theorem dX6_even_13 : decode cX6_even 13 = .ok (.iload_n 2, 1) := by decide +kernel
theorem dX6_even_14 : decode cX6_even 14 = .ok (.iconst 0, 1) := by decide +kernel
theorem dX6_even_15 : decode cX6_even 15 = .ok (.iconst 2, 1) := by decide +kernel
theorem dX6_even_16 : decode cX6_even 16 = .ok (.invokestatic 61, 3) := by decide +kernel
theorem dX6_even_19 : decode cX6_even 19 = .ok (.ifCond .ne 7, 3) := by decide +kernel
theorem dX6_even_22 : decode cX6_even 22 = .ok (.ldc2_w 205, 3) := by decide +kernel
theorem dX6_even_25 : decode cX6_even 25 = .ok (.lreturn, 1) := by decide +kernel
theorem dX6_even_26 : decode cX6_even 26 = .ok (.aload_n 0, 1) := by decide +kernel
theorem dX6_even_27 : decode cX6_even 27 = .ok (.iload_n 1, 1) := by decide +kernel
theorem dX6_even_28 : decode cX6_even 28 = .ok (.invokevirtual 161, 3) := by decide +kernel
theorem dX6_even_31 : decode cX6_even 31 = .ok (.istore_n 3, 1) := by decide +kernel
theorem dX6_even_32 : decode cX6_even 32 = .ok (.iload_n 3, 1) := by decide +kernel
theorem dX6_even_33 : decode cX6_even 33 = .ok (.bipush 18, 2) := by decide +kernel
theorem dX6_even_35 : decode cX6_even 35 = .ok (.if_icmp .le 7, 3) := by decide +kernel
theorem dX6_even_38 : decode cX6_even 38 = .ok (.ldc2_w 207, 3) := by decide +kernel
theorem dX6_even_41 : decode cX6_even 41 = .ok (.lreturn, 1) := by decide +kernel
theorem dX6_even_42 : decode cX6_even 42 = .ok (.iconst 0, 1) := by decide +kernel
theorem dX6_even_43 : decode cX6_even 43 = .ok (.istore 4, 2) := by decide +kernel
theorem dX6_even_45 : decode cX6_even 45 = .ok (.iconst 0, 1) := by decide +kernel
theorem dX6_even_46 : decode cX6_even 46 = .ok (.istore 5, 2) := by decide +kernel
theorem dX6_even_48 : decode cX6_even 48 = .ok (.iload 5, 2) := by decide +kernel
theorem dX6_even_50 : decode cX6_even 50 = .ok (.aload_n 0, 1) := by decide +kernel
theorem dX6_even_51 : decode cX6_even 51 = .ok (.getfield 7, 3) := by decide +kernel
theorem dX6_even_54 : decode cX6_even 54 = .ok (.iconst 0, 1) := by decide +kernel
theorem dX6_even_55 : decode cX6_even 55 = .ok (.iaload, 1) := by decide +kernel
theorem dX6_even_56 : decode cX6_even 56 = .ok (.if_icmp .ge 39, 3) := by decide +kernel
theorem dX6_even_59 : decode cX6_even 59 = .ok (.iload 4, 2) := by decide +kernel
theorem dX6_even_61 : decode cX6_even 61 = .ok (.aload_n 0, 1) := by decide +kernel
theorem dX6_even_62 : decode cX6_even 62 = .ok (.iload 5, 2) := by decide +kernel
theorem dX6_even_64 : decode cX6_even 64 = .ok (.iconst 0, 1) := by decide +kernel
theorem dX6_even_65 : decode cX6_even 65 = .ok (.invokevirtual 155, 3) := by decide +kernel
theorem dX6_even_68 : decode cX6_even 68 = .ok (.iload_n 1, 1) := by decide +kernel
theorem dX6_even_69 : decode cX6_even 69 = .ok (.if_icmp .ne 16, 3) := by decide +kernel
theorem dX6_even_72 : decode cX6_even 72 = .ok (.aload_n 0, 1) := by decide +kernel
theorem dX6_even_73 : decode cX6_even 73 = .ok (.iload 5, 2) := by decide +kernel
theorem dX6_even_75 : decode cX6_even 75 = .ok (.invokevirtual 191, 3) := by decide +kernel
theorem dX6_even_78 : decode cX6_even 78 = .ok (.ifCond .ne 7, 3) := by decide +kernel
theorem dX6_even_81 : decode cX6_even 81 = .ok (.iconst 1, 1) := by decide +kernel
theorem dX6_even_82 : decode cX6_even 82 = .ok (.goto 4, 3) := by decide +kernel
theorem dX6_even_85 : decode cX6_even 85 = .ok (.iconst 0, 1) := by decide +kernel
theorem dX6_even_86 : decode cX6_even 86 = .ok (.iadd, 1) := by decide +kernel
theorem dX6_even_87 : decode cX6_even 87 = .ok (.istore 4, 2) := by decide +kernel
theorem dX6_even_89 : decode cX6_even 89 = .ok (.iinc 5 1, 3) := by decide +kernel
theorem dX6_even_92 : decode cX6_even 92 = .ok (.goto (-44), 3) := by decide +kernel
theorem dX6_even_95 : decode cX6_even 95 = .ok (.iload_n 2, 1) := by decide +kernel
theorem dX6_even_96 : decode cX6_even 96 = .ok (.ifCond .ne 19, 3) := by decide +kernel
theorem dX6_even_99 : decode cX6_even 99 = .ok (.aload_n 0, 1) := by decide +kernel
theorem dX6_even_100 : decode cX6_even 100 = .ok (.iload_n 3, 1) := by decide +kernel
theorem dX6_even_101 : decode cX6_even 101 = .ok (.iload 4, 2) := by decide +kernel
theorem dX6_even_103 : decode cX6_even 103 = .ok (.aload_n 0, 1) := by decide +kernel
theorem dX6_even_104 : decode cX6_even 104 = .ok (.getfield 27, 3) := by decide +kernel
theorem dX6_even_107 : decode cX6_even 107 = .ok (.iconst 1, 1) := by decide +kernel
theorem dX6_even_108 : decode cX6_even 108 = .ok (.iaload, 1) := by decide +kernel
theorem dX6_even_109 : decode cX6_even 109 = .ok (.invokevirtual 209, 3) := by decide +kernel
theorem dX6_even_112 : decode cX6_even 112 = .ok (.goto 21, 3) := by decide +kernel
theorem dX6_even_115 : decode cX6_even 115 = .ok (.iload_n 2, 1) := by decide +kernel
theorem dX6_even_116 : decode cX6_even 116 = .ok (.iconst 1, 1) := by decide +kernel
theorem dX6_even_117 : decode cX6_even 117 = .ok (.if_icmp .ne 13, 3) := by decide +kernel
theorem dX6_even_120 : decode cX6_even 120 = .ok (.ldc2_w 213, 3) := by decide +kernel
theorem dX6_even_123 : decode cX6_even 123 = .ok (.iload_n 3, 1) := by decide +kernel
theorem dX6_even_124 : decode cX6_even 124 = .ok (.invokestatic 202, 3) := by decide +kernel
theorem dX6_even_127 : decode cX6_even 127 = .ok (.goto 6, 3) := by decide +kernel
theorem dX6_even_130 : decode cX6_even 130 = .ok (.iload 4, 2) := by decide +kernel
theorem dX6_even_132 : decode cX6_even 132 = .ok (.i2l, 1) := by decide +kernel
theorem dX6_even_133 : decode cX6_even 133 = .ok (.lreturn, 1) := by decide +kernel
set_option maxRecDepth 20000 in
theorem ggX6_trial_X6_isStall : GoodIn wsX6_trial wsX6_isStall := goodIn_r _ [7, 8, 9, 10, 6, 11, 16, 17, 18, 19, 20, 21, 22, 23, 24, 25, 26, 27, 28, 29, 30, 31, 32, 33, 34, 35, 36, 37, 38, 39, 40, 41, 42, 43, 44] (by decide +kernel) (by decide +kernel)
set_option maxRecDepth 20000 in
theorem gX6_trial_X6_isStall : GoodIn wsX6_trial (wsV RX6 158 RX6 yX6_isStall wsX6_isStall) := goodIn_app (goodIn_of _ (by decide +kernel)) ggX6_trial_X6_isStall
set_option maxRecDepth 20000 in
theorem ggX6_trial_X6_in : GoodIn wsX6_trial wsX6_in := goodIn_r _ [11] (by decide +kernel) (by decide +kernel)
set_option maxRecDepth 20000 in
theorem gX6_trial_X6_in : GoodIn wsX6_trial (va_wsS RX6 61 yX6_in wsX6_in) := goodIn_app (goodIn_of _ (by decide +kernel)) ggX6_trial_X6_in
set_option maxRecDepth 20000 in
theorem ggX6_trial_X6_trialsOf : GoodIn wsX6_trial wsX6_trialsOf := goodIn_r _ [15, 2, 16, 17, 18, 19, 20, 21, 22, 23, 24, 25, 26, 27, 28, 29, 30, 31, 32, 33, 34, 35, 36, 37, 38, 39, 40, 41, 42, 43, 44] (by decide +kernel) (by decide +kernel)
set_option maxRecDepth 20000 in
theorem gX6_trial_X6_trialsOf : GoodIn wsX6_trial (wsV RX6 164 RX6 yX6_trialsOf wsX6_trialsOf) := goodIn_app (goodIn_of _ (by decide +kernel)) ggX6_trial_X6_trialsOf
theorem dX6_trial_0 : decode cX6_trial 0 = .ok (.aload_n 0, 1) := by decide +kernel
theorem dX6_trial_1 : decode cX6_trial 1 = .ok (.iconst 0, 1) := by decide +kernel
theorem dX6_trial_2 : decode cX6_trial 2 = .ok (.putfield 54, 3) := by decide +kernel
theorem dX6_trial_5 : decode cX6_trial 5 = .ok (.aload_n 0, 1) := by decide +kernel
theorem dX6_trial_6 : decode cX6_trial 6 = .ok (.iload_n 1, 1) := by decide +kernel
theorem dX6_trial_7 : decode cX6_trial 7 = .ok (.invokevirtual 158, 3) := by decide +kernel
theorem dX6_trial_10 : decode cX6_trial 10 = .ok (.ifCond .eq 37, 3) := by decide +kernel
theorem dX6_trial_13 : decode cX6_trial 13 = .ok (.iload_n 2, 1) := by decide +kernel
theorem dX6_trial_14 : decode cX6_trial 14 = .ok (.iconst 0, 1) := by decide +kernel
theorem dX6_trial_15 : decode cX6_trial 15 = .ok (.sipush 365, 3) := by decide +kernel
theorem dX6_trial_18 : decode cX6_trial 18 = .ok (.invokestatic 61, 3) := by decide +kernel
theorem dX6_trial_21 : decode cX6_trial 21 = .ok (.ifCond .eq 26, 3) := by decide +kernel
theorem dX6_trial_24 : decode cX6_trial 24 = .ok (.iload_n 3, 1) := by decide +kernel
theorem dX6_trial_25 : decode cX6_trial 25 = .ok (.iconst 1, 1) := by decide +kernel
theorem dX6_trial_26 : decode cX6_trial 26 = .ok (.sipush 999, 3) := by decide +kernel
theorem dX6_trial_29 : decode cX6_trial 29 = .ok (.invokestatic 61, 3) := by decide +kernel
theorem dX6_trial_32 : decode cX6_trial 32 = .ok (.ifCond .eq 15, 3) := by decide +kernel
theorem dX6_trial_35 : decode cX6_trial 35 = .ok (.iload 4, 2) := by decide +kernel
theorem dX6_trial_37 : decode cX6_trial 37 = .ok (.iconst 0, 1) := by decide +kernel
theorem dX6_trial_38 : decode cX6_trial 38 = .ok (.sipush 999, 3) := by decide +kernel
theorem dX6_trial_41 : decode cX6_trial 41 = .ok (.invokestatic 61, 3) := by decide +kernel
theorem dX6_trial_44 : decode cX6_trial 44 = .ok (.ifCond .ne 5, 3) := by decide +kernel
theorem dX6_trial_47 : decode cX6_trial 47 = .ok (.iconst (-1), 1) := by decide +kernel
theorem dX6_trial_48 : decode cX6_trial 48 = .ok (.ireturn, 1) := by decide +kernel
theorem dX6_trial_49 : decode cX6_trial 49 = .ok (.aload_n 0, 1) := by decide +kernel
theorem dX6_trial_50 : decode cX6_trial 50 = .ok (.getfield 7, 3) := by decide +kernel
theorem dX6_trial_53 : decode cX6_trial 53 = .ok (.sipush 181, 3) := by decide +kernel
theorem dX6_trial_56 : decode cX6_trial 56 = .ok (.iaload, 1) := by decide +kernel
theorem dX6_trial_57 : decode cX6_trial 57 = .ok (.bipush 20, 2) := by decide +kernel
theorem dX6_trial_59 : decode cX6_trial 59 = .ok (.if_icmp .ne 6, 3) := by decide +kernel
theorem dX6_trial_62 : decode cX6_trial 62 = .ok (.bipush (-3), 2) := by decide +kernel
theorem dX6_trial_64 : decode cX6_trial 64 = .ok (.ireturn, 1) := by decide +kernel
theorem dX6_trial_65 : decode cX6_trial 65 = .ok (.sipush 182, 3) := by decide +kernel
theorem dX6_trial_68 : decode cX6_trial 68 = .ok (.iconst 4, 1) := by decide +kernel
theorem dX6_trial_69 : decode cX6_trial 69 = .ok (.aload_n 0, 1) := by decide +kernel
theorem dX6_trial_70 : decode cX6_trial 70 = .ok (.getfield 7, 3) := by decide +kernel
theorem dX6_trial_73 : decode cX6_trial 73 = .ok (.sipush 181, 3) := by decide +kernel
theorem dX6_trial_76 : decode cX6_trial 76 = .ok (.iaload, 1) := by decide +kernel
theorem dX6_trial_77 : decode cX6_trial 77 = .ok (.imul, 1) := by decide +kernel
theorem dX6_trial_78 : decode cX6_trial 78 = .ok (.iadd, 1) := by decide +kernel
theorem dX6_trial_79 : decode cX6_trial 79 = .ok (.istore 5, 2) := by decide +kernel
theorem dX6_trial_81 : decode cX6_trial 81 = .ok (.aload_n 0, 1) := by decide +kernel
theorem dX6_trial_82 : decode cX6_trial 82 = .ok (.getfield 7, 3) := by decide +kernel
theorem dX6_trial_85 : decode cX6_trial 85 = .ok (.iload 5, 2) := by decide +kernel
theorem dX6_trial_87 : decode cX6_trial 87 = .ok (.iload_n 1, 1) := by decide +kernel
theorem dX6_trial_88 : decode cX6_trial 88 = .ok (.iastore, 1) := by decide +kernel
theorem dX6_trial_89 : decode cX6_trial 89 = .ok (.aload_n 0, 1) := by decide +kernel
theorem dX6_trial_90 : decode cX6_trial 90 = .ok (.getfield 7, 3) := by decide +kernel
theorem dX6_trial_93 : decode cX6_trial 93 = .ok (.iload 5, 2) := by decide +kernel
theorem dX6_trial_95 : decode cX6_trial 95 = .ok (.iconst 1, 1) := by decide +kernel
theorem dX6_trial_96 : decode cX6_trial 96 = .ok (.iadd, 1) := by decide +kernel
theorem dX6_trial_97 : decode cX6_trial 97 = .ok (.iload_n 2, 1) := by decide +kernel
theorem dX6_trial_98 : decode cX6_trial 98 = .ok (.iastore, 1) := by decide +kernel
theorem dX6_trial_99 : decode cX6_trial 99 = .ok (.aload_n 0, 1) := by decide +kernel
theorem dX6_trial_100 : decode cX6_trial 100 = .ok (.getfield 7, 3) := by decide +kernel
theorem dX6_trial_103 : decode cX6_trial 103 = .ok (.iload 5, 2) := by decide +kernel
theorem dX6_trial_105 : decode cX6_trial 105 = .ok (.iconst 2, 1) := by decide +kernel
theorem dX6_trial_106 : decode cX6_trial 106 = .ok (.iadd, 1) := by decide +kernel
theorem dX6_trial_107 : decode cX6_trial 107 = .ok (.iload_n 3, 1) := by decide +kernel
theorem dX6_trial_108 : decode cX6_trial 108 = .ok (.iastore, 1) := by decide +kernel
theorem dX6_trial_109 : decode cX6_trial 109 = .ok (.aload_n 0, 1) := by decide +kernel
theorem dX6_trial_110 : decode cX6_trial 110 = .ok (.getfield 7, 3) := by decide +kernel
theorem dX6_trial_113 : decode cX6_trial 113 = .ok (.iload 5, 2) := by decide +kernel
theorem dX6_trial_115 : decode cX6_trial 115 = .ok (.iconst 3, 1) := by decide +kernel
theorem dX6_trial_116 : decode cX6_trial 116 = .ok (.iadd, 1) := by decide +kernel
theorem dX6_trial_117 : decode cX6_trial 117 = .ok (.iload 4, 2) := by decide +kernel
theorem dX6_trial_119 : decode cX6_trial 119 = .ok (.iastore, 1) := by decide +kernel
theorem dX6_trial_120 : decode cX6_trial 120 = .ok (.aload_n 0, 1) := by decide +kernel
theorem dX6_trial_121 : decode cX6_trial 121 = .ok (.getfield 7, 3) := by decide +kernel
theorem dX6_trial_124 : decode cX6_trial 124 = .ok (.sipush 181, 3) := by decide +kernel
theorem dX6_trial_127 : decode cX6_trial 127 = .ok (.dup2, 1) := by decide +kernel
theorem dX6_trial_128 : decode cX6_trial 128 = .ok (.iaload, 1) := by decide +kernel
theorem dX6_trial_129 : decode cX6_trial 129 = .ok (.iconst 1, 1) := by decide +kernel
theorem dX6_trial_130 : decode cX6_trial 130 = .ok (.iadd, 1) := by decide +kernel
theorem dX6_trial_131 : decode cX6_trial 131 = .ok (.iastore, 1) := by decide +kernel
theorem dX6_trial_132 : decode cX6_trial 132 = .ok (.aload_n 0, 1) := by decide +kernel
theorem dX6_trial_133 : decode cX6_trial 133 = .ok (.iload_n 1, 1) := by decide +kernel
theorem dX6_trial_134 : decode cX6_trial 134 = .ok (.invokevirtual 164, 3) := by decide +kernel
theorem dX6_trial_137 : decode cX6_trial 137 = .ok (.ireturn, 1) := by decide +kernel
theorem dX6_offOf_0 : decode cX6_offOf 0 = .ok (.aload_n 0, 1) := by decide +kernel
theorem dX6_offOf_1 : decode cX6_offOf 1 = .ok (.getfield 7, 3) := by decide +kernel
theorem dX6_offOf_4 : decode cX6_offOf 4 = .ok (.sipush 182, 3) := by decide +kernel
theorem dX6_offOf_7 : decode cX6_offOf 7 = .ok (.iconst 4, 1) := by decide +kernel
theorem dX6_offOf_8 : decode cX6_offOf 8 = .ok (.iload_n 1, 1) := by decide +kernel
theorem dX6_offOf_9 : decode cX6_offOf 9 = .ok (.imul, 1) := by decide +kernel
theorem dX6_offOf_10 : decode cX6_offOf 10 = .ok (.iadd, 1) := by decide +kernel
theorem dX6_offOf_11 : decode cX6_offOf 11 = .ok (.iconst 3, 1) := by decide +kernel
theorem dX6_offOf_12 : decode cX6_offOf 12 = .ok (.iadd, 1) := by decide +kernel
theorem dX6_offOf_13 : decode cX6_offOf 13 = .ok (.iaload, 1) := by decide +kernel
theorem dX6_offOf_14 : decode cX6_offOf 14 = .ok (.aload_n 0, 1) := by decide +kernel
theorem dX6_offOf_15 : decode cX6_offOf 15 = .ok (.getfield 7, 3) := by decide +kernel
theorem dX6_offOf_18 : decode cX6_offOf 18 = .ok (.sipush 182, 3) := by decide +kernel
theorem dX6_offOf_21 : decode cX6_offOf 21 = .ok (.iconst 4, 1) := by decide +kernel
theorem dX6_offOf_22 : decode cX6_offOf 22 = .ok (.iload_n 1, 1) := by decide +kernel
theorem dX6_offOf_23 : decode cX6_offOf 23 = .ok (.imul, 1) := by decide +kernel
theorem dX6_offOf_24 : decode cX6_offOf 24 = .ok (.iadd, 1) := by decide +kernel
theorem dX6_offOf_25 : decode cX6_offOf 25 = .ok (.iconst 2, 1) := by decide +kernel
theorem dX6_offOf_26 : decode cX6_offOf 26 = .ok (.iadd, 1) := by decide +kernel
theorem dX6_offOf_27 : decode cX6_offOf 27 = .ok (.iaload, 1) := by decide +kernel
theorem dX6_offOf_28 : decode cX6_offOf 28 = .ok (.isub, 1) := by decide +kernel
theorem dX6_offOf_29 : decode cX6_offOf 29 = .ok (.ireturn, 1) := by decide +kernel
set_option maxRecDepth 20000 in
theorem ggX6_middle_X6_isStall : GoodIn wsX6_middle wsX6_isStall := goodIn_r _ [9, 10, 11, 12, 8, 13, 22, 23, 24, 25, 26, 27, 28, 29, 30, 31, 32, 33, 34, 35, 36, 37, 38, 39, 40, 41, 42, 43, 44, 45, 46, 47, 48, 49, 50] (by decide +kernel) (by decide +kernel)
set_option maxRecDepth 20000 in
theorem gX6_middle_X6_isStall : GoodIn wsX6_middle (wsV RX6 158 RX6 yX6_isStall wsX6_isStall) := goodIn_app (goodIn_of _ (by decide +kernel)) ggX6_middle_X6_isStall
set_option maxRecDepth 20000 in
theorem ggX6_middle_X6_trialsOf : GoodIn wsX6_middle wsX6_trialsOf := goodIn_r _ [17, 3, 22, 23, 24, 25, 26, 27, 28, 29, 30, 31, 32, 33, 34, 35, 36, 37, 38, 39, 40, 41, 42, 43, 44, 45, 46, 47, 48, 49, 50] (by decide +kernel) (by decide +kernel)
set_option maxRecDepth 20000 in
theorem gX6_middle_X6_trialsOf : GoodIn wsX6_middle (wsV RX6 164 RX6 yX6_trialsOf wsX6_trialsOf) := goodIn_app (goodIn_of _ (by decide +kernel)) ggX6_middle_X6_trialsOf
set_option maxRecDepth 20000 in
theorem ggX6_middle_X6_offOf : GoodIn wsX6_middle wsX6_offOf := goodIn_r _ [21, 3, 22, 23, 24, 25, 26, 27, 28, 29, 30, 31, 32, 33, 34, 35, 36, 37, 38, 39, 40, 41, 42, 43, 44, 45, 46, 47, 48, 49, 50] (by decide +kernel) (by decide +kernel)
set_option maxRecDepth 20000 in
theorem gX6_middle_X6_offOf : GoodIn wsX6_middle (wsV RX6 251 RX6 yX6_offOf wsX6_offOf) := goodIn_app (goodIn_of _ (by decide +kernel)) ggX6_middle_X6_offOf
theorem dX6_middle_0 : decode cX6_middle 0 = .ok (.aload_n 0, 1) := by decide +kernel
theorem dX6_middle_1 : decode cX6_middle 1 = .ok (.iconst 0, 1) := by decide +kernel
theorem dX6_middle_2 : decode cX6_middle 2 = .ok (.putfield 54, 3) := by decide +kernel
theorem dX6_middle_5 : decode cX6_middle 5 = .ok (.aload_n 0, 1) := by decide +kernel
theorem dX6_middle_6 : decode cX6_middle 6 = .ok (.iload_n 1, 1) := by decide +kernel
theorem dX6_middle_7 : decode cX6_middle 7 = .ok (.invokevirtual 158, 3) := by decide +kernel
theorem dX6_middle_10 : decode cX6_middle 10 = .ok (.ifCond .eq 11, 3) := by decide +kernel
theorem dX6_middle_13 : decode cX6_middle 13 = .ok (.aload_n 0, 1) := by decide +kernel
theorem dX6_middle_14 : decode cX6_middle 14 = .ok (.iload_n 1, 1) := by decide +kernel
theorem dX6_middle_15 : decode cX6_middle 15 = .ok (.invokevirtual 164, 3) := by decide +kernel
theorem dX6_middle_18 : decode cX6_middle 18 = .ok (.ifCond .ne 7, 3) := by decide +kernel
theorem dX6_middle_21 : decode cX6_middle 21 = .ok (.ldc2_w 189, 3) := by decide +kernel
theorem dX6_middle_24 : decode cX6_middle 24 = .ok (.lreturn, 1) := by decide +kernel
theorem dX6_middle_25 : decode cX6_middle 25 = .ok (.iconst 0, 1) := by decide +kernel
theorem dX6_middle_26 : decode cX6_middle 26 = .ok (.istore_n 2, 1) := by decide +kernel
theorem dX6_middle_27 : decode cX6_middle 27 = .ok (.iconst 0, 1) := by decide +kernel
theorem dX6_middle_28 : decode cX6_middle 28 = .ok (.istore_n 3, 1) := by decide +kernel
theorem dX6_middle_29 : decode cX6_middle 29 = .ok (.iload_n 3, 1) := by decide +kernel
theorem dX6_middle_30 : decode cX6_middle 30 = .ok (.aload_n 0, 1) := by decide +kernel
theorem dX6_middle_31 : decode cX6_middle 31 = .ok (.getfield 7, 3) := by decide +kernel
theorem dX6_middle_34 : decode cX6_middle 34 = .ok (.sipush 181, 3) := by decide +kernel
theorem dX6_middle_37 : decode cX6_middle 37 = .ok (.iaload, 1) := by decide +kernel
theorem dX6_middle_38 : decode cX6_middle 38 = .ok (.if_icmp .ge 88, 3) := by decide +kernel
theorem dX6_middle_41 : decode cX6_middle 41 = .ok (.aload_n 0, 1) := by decide +kernel
theorem dX6_middle_42 : decode cX6_middle 42 = .ok (.getfield 7, 3) := by decide +kernel
theorem dX6_middle_45 : decode cX6_middle 45 = .ok (.sipush 182, 3) := by decide +kernel
theorem dX6_middle_48 : decode cX6_middle 48 = .ok (.iconst 4, 1) := by decide +kernel
theorem dX6_middle_49 : decode cX6_middle 49 = .ok (.iload_n 3, 1) := by decide +kernel
theorem dX6_middle_50 : decode cX6_middle 50 = .ok (.imul, 1) := by decide +kernel
theorem dX6_middle_51 : decode cX6_middle 51 = .ok (.iadd, 1) := by decide +kernel
theorem dX6_middle_52 : decode cX6_middle 52 = .ok (.iaload, 1) := by decide +kernel
theorem dX6_middle_53 : decode cX6_middle 53 = .ok (.iload_n 1, 1) := by decide +kernel
theorem dX6_middle_54 : decode cX6_middle 54 = .ok (.if_icmp .ne 66, 3) := by decide +kernel
theorem dX6_middle_57 : decode cX6_middle 57 = .ok (.aload_n 0, 1) := by decide +kernel
theorem dX6_middle_58 : decode cX6_middle 58 = .ok (.iload_n 3, 1) := by decide +kernel
theorem dX6_middle_59 : decode cX6_middle 59 = .ok (.invokevirtual 251, 3) := by decide +kernel
theorem dX6_middle_62 : decode cX6_middle 62 = .ok (.istore 4, 2) := by decide +kernel
theorem dX6_middle_64 : decode cX6_middle 64 = .ok (.iload_n 2, 1) := by decide +kernel
theorem dX6_middle_65 : decode cX6_middle 65 = .ok (.istore 5, 2) := by decide +kernel
theorem dX6_middle_67 : decode cX6_middle 67 = .ok (.iload 5, 2) := by decide +kernel
theorem dX6_middle_69 : decode cX6_middle 69 = .ok (.ifCond .le 39, 3) := by decide +kernel
theorem dX6_middle_72 : decode cX6_middle 72 = .ok (.aload_n 0, 1) := by decide +kernel
theorem dX6_middle_73 : decode cX6_middle 73 = .ok (.getfield 51, 3) := by decide +kernel
theorem dX6_middle_76 : decode cX6_middle 76 = .ok (.iload 5, 2) := by decide +kernel
theorem dX6_middle_78 : decode cX6_middle 78 = .ok (.iconst 1, 1) := by decide +kernel
theorem dX6_middle_79 : decode cX6_middle 79 = .ok (.isub, 1) := by decide +kernel
theorem dX6_middle_80 : decode cX6_middle 80 = .ok (.iaload, 1) := by decide +kernel
theorem dX6_middle_81 : decode cX6_middle 81 = .ok (.iload 4, 2) := by decide +kernel
theorem dX6_middle_83 : decode cX6_middle 83 = .ok (.if_icmp .le 25, 3) := by decide +kernel
theorem dX6_middle_86 : decode cX6_middle 86 = .ok (.aload_n 0, 1) := by decide +kernel
theorem dX6_middle_87 : decode cX6_middle 87 = .ok (.getfield 51, 3) := by decide +kernel
theorem dX6_middle_90 : decode cX6_middle 90 = .ok (.iload 5, 2) := by decide +kernel
theorem dX6_middle_92 : decode cX6_middle 92 = .ok (.aload_n 0, 1) := by decide +kernel
theorem dX6_middle_93 : decode cX6_middle 93 = .ok (.getfield 51, 3) := by decide +kernel
theorem dX6_middle_96 : decode cX6_middle 96 = .ok (.iload 5, 2) := by decide +kernel
theorem dX6_middle_98 : decode cX6_middle 98 = .ok (.iconst 1, 1) := by decide +kernel
theorem dX6_middle_99 : decode cX6_middle 99 = .ok (.isub, 1) := by decide +kernel
theorem dX6_middle_100 : decode cX6_middle 100 = .ok (.iaload, 1) := by decide +kernel
theorem dX6_middle_101 : decode cX6_middle 101 = .ok (.iastore, 1) := by decide +kernel
theorem dX6_middle_102 : decode cX6_middle 102 = .ok (.iinc 5 (-1), 3) := by decide +kernel
theorem dX6_middle_105 : decode cX6_middle 105 = .ok (.goto (-38), 3) := by decide +kernel
theorem dX6_middle_108 : decode cX6_middle 108 = .ok (.aload_n 0, 1) := by decide +kernel
theorem dX6_middle_109 : decode cX6_middle 109 = .ok (.getfield 51, 3) := by decide +kernel
theorem dX6_middle_112 : decode cX6_middle 112 = .ok (.iload 5, 2) := by decide +kernel
theorem dX6_middle_114 : decode cX6_middle 114 = .ok (.iload 4, 2) := by decide +kernel
theorem dX6_middle_116 : decode cX6_middle 116 = .ok (.iastore, 1) := by decide +kernel
theorem dX6_middle_117 : decode cX6_middle 117 = .ok (.iinc 2 1, 3) := by decide +kernel
theorem dX6_middle_120 : decode cX6_middle 120 = .ok (.iinc 3 1, 3) := by decide +kernel
theorem dX6_middle_123 : decode cX6_middle 123 = .ok (.goto (-94), 3) := by decide +kernel
theorem dX6_middle_126 : decode cX6_middle 126 = .ok (.aload_n 0, 1) := by decide +kernel
theorem dX6_middle_127 : decode cX6_middle 127 = .ok (.getfield 51, 3) := by decide +kernel
theorem dX6_middle_130 : decode cX6_middle 130 = .ok (.iload_n 2, 1) := by decide +kernel
theorem dX6_middle_131 : decode cX6_middle 131 = .ok (.iconst 1, 1) := by decide +kernel
theorem dX6_middle_132 : decode cX6_middle 132 = .ok (.isub, 1) := by decide +kernel
theorem dX6_middle_133 : decode cX6_middle 133 = .ok (.iconst 2, 1) := by decide +kernel
theorem dX6_middle_134 : decode cX6_middle 134 = .ok (.idiv, 1) := by decide +kernel
theorem dX6_middle_135 : decode cX6_middle 135 = .ok (.iaload, 1) := by decide +kernel
theorem dX6_middle_136 : decode cX6_middle 136 = .ok (.i2l, 1) := by decide +kernel
theorem dX6_middle_137 : decode cX6_middle 137 = .ok (.lreturn, 1) := by decide +kernel
set_option maxRecDepth 20000 in
theorem ggX6_drift_X6_isStall : GoodIn wsX6_drift wsX6_isStall := goodIn_r _ [8, 9, 10, 11, 7, 12, 26, 27, 28, 29, 30, 31, 32, 33, 34, 35, 36, 37, 38, 39, 40, 41, 42, 43, 44, 45, 46, 47, 48, 49, 50, 51, 52, 53, 54] (by decide +kernel) (by decide +kernel)
set_option maxRecDepth 20000 in
theorem gX6_drift_X6_isStall : GoodIn wsX6_drift (wsV RX6 158 RX6 yX6_isStall wsX6_isStall) := goodIn_app (goodIn_of _ (by decide +kernel)) ggX6_drift_X6_isStall
set_option maxRecDepth 20000 in
theorem ggX6_drift_X6_in : GoodIn wsX6_drift wsX6_in := goodIn_r _ [12] (by decide +kernel) (by decide +kernel)
set_option maxRecDepth 20000 in
theorem gX6_drift_X6_in : GoodIn wsX6_drift (va_wsS RX6 61 yX6_in wsX6_in) := goodIn_app (goodIn_of _ (by decide +kernel)) ggX6_drift_X6_in
set_option maxRecDepth 20000 in
theorem ggX6_drift_X6_offOf : GoodIn wsX6_drift wsX6_offOf := goodIn_r _ [16, 3, 26, 27, 28, 29, 30, 31, 32, 33, 34, 35, 36, 37, 38, 39, 40, 41, 42, 43, 44, 45, 46, 47, 48, 49, 50, 51, 52, 53, 54] (by decide +kernel) (by decide +kernel)
set_option maxRecDepth 20000 in
theorem gX6_drift_X6_offOf : GoodIn wsX6_drift (wsV RX6 251 RX6 yX6_offOf wsX6_offOf) := goodIn_app (goodIn_of _ (by decide +kernel)) ggX6_drift_X6_offOf
set_option maxRecDepth 20000 in
theorem ggX6_drift_X6_part : GoodIn wsX6_drift wsX6_part := goodIn_r _ [19, 20, 21, 7, 22, 23, 24, 25] (by decide +kernel) (by decide +kernel)
set_option maxRecDepth 20000 in
theorem gX6_drift_X6_part : GoodIn wsX6_drift (va_wsS RX6 221 yX6_part wsX6_part) := goodIn_app (goodIn_of _ (by decide +kernel)) ggX6_drift_X6_part
theorem dX6_drift_0 : decode cX6_drift 0 = .ok (.aload_n 0, 1) := by decide +kernel
theorem dX6_drift_1 : decode cX6_drift 1 = .ok (.iconst 0, 1) := by decide +kernel
theorem dX6_drift_2 : decode cX6_drift 2 = .ok (.putfield 54, 3) := by decide +kernel
theorem dX6_drift_5 : decode cX6_drift 5 = .ok (.aload_n 0, 1) := by decide +kernel
theorem dX6_drift_6 : decode cX6_drift 6 = .ok (.iload_n 1, 1) := by decide +kernel
theorem dX6_drift_7 : decode cX6_drift 7 = .ok (.invokevirtual 158, 3) := by decide +kernel
theorem dX6_drift_10 : decode cX6_drift 10 = .ok (.ifCond .eq 12, 3) := by decide +kernel
theorem dX6_drift_13 : decode cX6_drift 13 = .ok (.iload_n 2, 1) := by decide +kernel
theorem dX6_drift_14 : decode cX6_drift 14 = .ok (.iconst 0, 1) := by decide +kernel
theorem dX6_drift_15 : decode cX6_drift 15 = .ok (.iconst 1, 1) := by decide +kernel
theorem dX6_drift_16 : decode cX6_drift 16 = .ok (.invokestatic 61, 3) := by decide +kernel
theorem dX6_drift_19 : decode cX6_drift 19 = .ok (.ifCond .ne 7, 3) := by decide +kernel
theorem dX6_drift_22 : decode cX6_drift 22 = .ok (.ldc2_w 189, 3) := by decide +kernel
theorem dX6_drift_25 : decode cX6_drift 25 = .ok (.lreturn, 1) := by decide +kernel
theorem dX6_drift_26 : decode cX6_drift 26 = .ok (.lconst 0, 1) := by decide +kernel
theorem dX6_drift_27 : decode cX6_drift 27 = .ok (.lstore_n 3, 1) := by decide +kernel
theorem dX6_drift_28 : decode cX6_drift 28 = .ok (.lconst 0, 1) := by decide +kernel
theorem dX6_drift_29 : decode cX6_drift 29 = .ok (.lstore 5, 2) := by decide +kernel
theorem dX6_drift_31 : decode cX6_drift 31 = .ok (.lconst 0, 1) := by decide +kernel
theorem dX6_drift_32 : decode cX6_drift 32 = .ok (.lstore 7, 2) := by decide +kernel
theorem dX6_drift_34 : decode cX6_drift 34 = .ok (.lconst 0, 1) := by decide +kernel
theorem dX6_drift_35 : decode cX6_drift 35 = .ok (.lstore 9, 2) := by decide +kernel
theorem dX6_drift_37 : decode cX6_drift 37 = .ok (.lconst 0, 1) := by decide +kernel
theorem dX6_drift_38 : decode cX6_drift 38 = .ok (.lstore 11, 2) := by decide +kernel
theorem dX6_drift_40 : decode cX6_drift 40 = .ok (.iconst 0, 1) := by decide +kernel
theorem dX6_drift_41 : decode cX6_drift 41 = .ok (.istore 13, 2) := by decide +kernel
theorem dX6_drift_43 : decode cX6_drift 43 = .ok (.iload 13, 2) := by decide +kernel
theorem dX6_drift_45 : decode cX6_drift 45 = .ok (.aload_n 0, 1) := by decide +kernel
theorem dX6_drift_46 : decode cX6_drift 46 = .ok (.getfield 7, 3) := by decide +kernel
theorem dX6_drift_49 : decode cX6_drift 49 = .ok (.sipush 181, 3) := by decide +kernel
theorem dX6_drift_52 : decode cX6_drift 52 = .ok (.iaload, 1) := by decide +kernel
theorem dX6_drift_53 : decode cX6_drift 53 = .ok (.if_icmp .ge 92, 3) := by decide +kernel
theorem dX6_drift_56 : decode cX6_drift 56 = .ok (.aload_n 0, 1) := by decide +kernel
theorem dX6_drift_57 : decode cX6_drift 57 = .ok (.getfield 7, 3) := by decide +kernel
theorem dX6_drift_60 : decode cX6_drift 60 = .ok (.sipush 182, 3) := by decide +kernel
theorem dX6_drift_63 : decode cX6_drift 63 = .ok (.iconst 4, 1) := by decide +kernel
theorem dX6_drift_64 : decode cX6_drift 64 = .ok (.iload 13, 2) := by decide +kernel
theorem dX6_drift_66 : decode cX6_drift 66 = .ok (.imul, 1) := by decide +kernel
theorem dX6_drift_67 : decode cX6_drift 67 = .ok (.iadd, 1) := by decide +kernel
theorem dX6_drift_68 : decode cX6_drift 68 = .ok (.iaload, 1) := by decide +kernel
theorem dX6_drift_69 : decode cX6_drift 69 = .ok (.iload_n 1, 1) := by decide +kernel
theorem dX6_drift_70 : decode cX6_drift 70 = .ok (.if_icmp .ne 69, 3) := by decide +kernel
theorem dX6_drift_73 : decode cX6_drift 73 = .ok (.aload_n 0, 1) := by decide +kernel
theorem dX6_drift_74 : decode cX6_drift 74 = .ok (.getfield 7, 3) := by decide +kernel
theorem dX6_drift_77 : decode cX6_drift 77 = .ok (.sipush 182, 3) := by decide +kernel
theorem dX6_drift_80 : decode cX6_drift 80 = .ok (.iconst 4, 1) := by decide +kernel
theorem dX6_drift_81 : decode cX6_drift 81 = .ok (.iload 13, 2) := by decide +kernel
theorem dX6_drift_83 : decode cX6_drift 83 = .ok (.imul, 1) := by decide +kernel
theorem dX6_drift_84 : decode cX6_drift 84 = .ok (.iadd, 1) := by decide +kernel
theorem dX6_drift_85 : decode cX6_drift 85 = .ok (.iconst 1, 1) := by decide +kernel
theorem dX6_drift_86 : decode cX6_drift 86 = .ok (.iadd, 1) := by decide +kernel
theorem dX6_drift_87 : decode cX6_drift 87 = .ok (.iaload, 1) := by decide +kernel
theorem dX6_drift_88 : decode cX6_drift 88 = .ok (.i2l, 1) := by decide +kernel
theorem dX6_drift_89 : decode cX6_drift 89 = .ok (.lstore 14, 2) := by decide +kernel
theorem dX6_drift_91 : decode cX6_drift 91 = .ok (.lload_n 3, 1) := by decide +kernel
theorem dX6_drift_92 : decode cX6_drift 92 = .ok (.lconst 1, 1) := by decide +kernel
theorem dX6_drift_93 : decode cX6_drift 93 = .ok (.ladd, 1) := by decide +kernel
theorem dX6_drift_94 : decode cX6_drift 94 = .ok (.lstore_n 3, 1) := by decide +kernel
theorem dX6_drift_95 : decode cX6_drift 95 = .ok (.lload 5, 2) := by decide +kernel
theorem dX6_drift_97 : decode cX6_drift 97 = .ok (.lload 14, 2) := by decide +kernel
theorem dX6_drift_99 : decode cX6_drift 99 = .ok (.ladd, 1) := by decide +kernel
theorem dX6_drift_100 : decode cX6_drift 100 = .ok (.lstore 5, 2) := by decide +kernel
theorem dX6_drift_102 : decode cX6_drift 102 = .ok (.lload 7, 2) := by decide +kernel
theorem dX6_drift_104 : decode cX6_drift 104 = .ok (.aload_n 0, 1) := by decide +kernel
theorem dX6_drift_105 : decode cX6_drift 105 = .ok (.iload 13, 2) := by decide +kernel
theorem dX6_drift_107 : decode cX6_drift 107 = .ok (.invokevirtual 251, 3) := by decide +kernel
theorem dX6_drift_110 : decode cX6_drift 110 = .ok (.i2l, 1) := by decide +kernel
theorem dX6_drift_111 : decode cX6_drift 111 = .ok (.ladd, 1) := by decide +kernel
theorem dX6_drift_112 : decode cX6_drift 112 = .ok (.lstore 7, 2) := by decide +kernel
theorem dX6_drift_114 : decode cX6_drift 114 = .ok (.lload 9, 2) := by decide +kernel
theorem dX6_drift_116 : decode cX6_drift 116 = .ok (.lload 14, 2) := by decide +kernel
theorem dX6_drift_118 : decode cX6_drift 118 = .ok (.lload 14, 2) := by decide +kernel
theorem dX6_drift_120 : decode cX6_drift 120 = .ok (.lmul, 1) := by decide +kernel
theorem dX6_drift_121 : decode cX6_drift 121 = .ok (.ladd, 1) := by decide +kernel
theorem dX6_drift_122 : decode cX6_drift 122 = .ok (.lstore 9, 2) := by decide +kernel
theorem dX6_drift_124 : decode cX6_drift 124 = .ok (.lload 11, 2) := by decide +kernel
theorem dX6_drift_126 : decode cX6_drift 126 = .ok (.lload 14, 2) := by decide +kernel
theorem dX6_drift_128 : decode cX6_drift 128 = .ok (.aload_n 0, 1) := by decide +kernel
theorem dX6_drift_129 : decode cX6_drift 129 = .ok (.iload 13, 2) := by decide +kernel
theorem dX6_drift_131 : decode cX6_drift 131 = .ok (.invokevirtual 251, 3) := by decide +kernel
theorem dX6_drift_134 : decode cX6_drift 134 = .ok (.i2l, 1) := by decide +kernel
theorem dX6_drift_135 : decode cX6_drift 135 = .ok (.lmul, 1) := by decide +kernel
theorem dX6_drift_136 : decode cX6_drift 136 = .ok (.ladd, 1) := by decide +kernel
theorem dX6_drift_137 : decode cX6_drift 137 = .ok (.lstore 11, 2) := by decide +kernel
theorem dX6_drift_139 : decode cX6_drift 139 = .ok (.iinc 13 1, 3) := by decide +kernel
theorem dX6_drift_142 : decode cX6_drift 142 = .ok (.goto (-99), 3) := by decide +kernel
theorem dX6_drift_145 : decode cX6_drift 145 = .ok (.lload_n 3, 1) := by decide +kernel
theorem dX6_drift_146 : decode cX6_drift 146 = .ok (.lload 9, 2) := by decide +kernel
theorem dX6_drift_148 : decode cX6_drift 148 = .ok (.lmul, 1) := by decide +kernel
theorem dX6_drift_149 : decode cX6_drift 149 = .ok (.lload 5, 2) := by decide +kernel
theorem dX6_drift_151 : decode cX6_drift 151 = .ok (.lload 5, 2) := by decide +kernel
theorem dX6_drift_153 : decode cX6_drift 153 = .ok (.lmul, 1) := by decide +kernel
theorem dX6_drift_154 : decode cX6_drift 154 = .ok (.lsub, 1) := by decide +kernel
theorem dX6_drift_155 : decode cX6_drift 155 = .ok (.lstore 13, 2) := by decide +kernel
theorem dX6_drift_157 : decode cX6_drift 157 = .ok (.lload 13, 2) := by decide +kernel
theorem dX6_drift_159 : decode cX6_drift 159 = .ok (.lconst 0, 1) := by decide +kernel
theorem dX6_drift_160 : decode cX6_drift 160 = .ok (.lcmp, 1) := by decide +kernel
theorem dX6_drift_161 : decode cX6_drift 161 = .ok (.ifCond .ne 9, 3) := by decide +kernel
theorem dX6_drift_164 : decode cX6_drift 164 = .ok (.ldc2_w 189, 3) := by decide +kernel
theorem dX6_drift_167 : decode cX6_drift 167 = .ok (.goto 19, 3) := by decide +kernel
theorem dX6_drift_170 : decode cX6_drift 170 = .ok (.lload_n 3, 1) := by decide +kernel
theorem dX6_drift_171 : decode cX6_drift 171 = .ok (.lload 11, 2) := by decide +kernel
theorem dX6_drift_173 : decode cX6_drift 173 = .ok (.lmul, 1) := by decide +kernel
theorem dX6_drift_174 : decode cX6_drift 174 = .ok (.lload 5, 2) := by decide +kernel
theorem dX6_drift_176 : decode cX6_drift 176 = .ok (.lload 7, 2) := by decide +kernel
theorem dX6_drift_178 : decode cX6_drift 178 = .ok (.lmul, 1) := by decide +kernel
theorem dX6_drift_179 : decode cX6_drift 179 = .ok (.lsub, 1) := by decide +kernel
theorem dX6_drift_180 : decode cX6_drift 180 = .ok (.lload 13, 2) := by decide +kernel
theorem dX6_drift_182 : decode cX6_drift 182 = .ok (.iload_n 2, 1) := by decide +kernel
theorem dX6_drift_183 : decode cX6_drift 183 = .ok (.invokestatic 221, 3) := by decide +kernel
theorem dX6_drift_186 : decode cX6_drift 186 = .ok (.lreturn, 1) := by decide +kernel
theorem dX6_lot_0 : decode cX6_lot 0 = .ok (.aload_n 0, 1) := by decide +kernel
theorem dX6_lot_1 : decode cX6_lot 1 = .ok (.iconst 0, 1) := by decide +kernel
theorem dX6_lot_2 : decode cX6_lot 2 = .ok (.putfield 54, 3) := by decide +kernel
theorem dX6_lot_5 : decode cX6_lot 5 = .ok (.aload_n 0, 1) := by decide +kernel
theorem dX6_lot_6 : decode cX6_lot 6 = .ok (.getfield 7, 3) := by decide +kernel
theorem dX6_lot_9 : decode cX6_lot 9 = .ok (.sipush 263, 3) := by decide +kernel
theorem dX6_lot_12 : decode cX6_lot 12 = .ok (.iaload, 1) := by decide +kernel
theorem dX6_lot_13 : decode cX6_lot 13 = .ok (.istore_n 2, 1) := by decide +kernel
theorem dX6_lot_14 : decode cX6_lot 14 = .ok (.aload_n 0, 1) := by decide +kernel
theorem dX6_lot_15 : decode cX6_lot 15 = .ok (.getfield 7, 3) := by decide +kernel
theorem dX6_lot_18 : decode cX6_lot 18 = .ok (.sipush 263, 3) := by decide +kernel
theorem dX6_lot_21 : decode cX6_lot 21 = .ok (.iload_n 1, 1) := by decide +kernel
theorem dX6_lot_22 : decode cX6_lot 22 = .ok (.iastore, 1) := by decide +kernel
theorem dX6_lot_23 : decode cX6_lot 23 = .ok (.iload_n 2, 1) := by decide +kernel
theorem dX6_lot_24 : decode cX6_lot 24 = .ok (.ireturn, 1) := by decide +kernel
set_option maxRecDepth 20000 in
theorem ggX6_sales_X6_isWay : GoodIn wsX6_sales wsX6_isWay := goodIn_r _ [10, 11, 12, 13, 9, 14, 34, 35, 36, 37, 38, 39, 40, 41, 42, 43, 44, 45, 46, 47, 48, 49, 50, 51, 52, 53, 54, 55, 56, 57, 58, 59, 60, 61, 62] (by decide +kernel) (by decide +kernel)
set_option maxRecDepth 20000 in
theorem gX6_sales_X6_isWay : GoodIn wsX6_sales (wsV RX6 167 RX6 yX6_isWay wsX6_isWay) := goodIn_app (goodIn_of _ (by decide +kernel)) ggX6_sales_X6_isWay
set_option maxRecDepth 20000 in
theorem ggX6_sales_X6_isStall : GoodIn wsX6_sales wsX6_isStall := goodIn_r _ [18, 19, 12, 13, 9, 14, 34, 35, 36, 37, 38, 39, 40, 41, 42, 43, 44, 45, 46, 47, 48, 49, 50, 51, 52, 53, 54, 55, 56, 57, 58, 59, 60, 61, 62] (by decide +kernel) (by decide +kernel)
set_option maxRecDepth 20000 in
theorem gX6_sales_X6_isStall : GoodIn wsX6_sales (wsV RX6 158 RX6 yX6_isStall wsX6_isStall) := goodIn_app (goodIn_of _ (by decide +kernel)) ggX6_sales_X6_isStall
set_option maxRecDepth 20000 in
theorem ggX6_sales_X6_isSort : GoodIn wsX6_sales wsX6_isSort := goodIn_r _ [22, 12, 13, 9, 14] (by decide +kernel) (by decide +kernel)
set_option maxRecDepth 20000 in
theorem gX6_sales_X6_isSort : GoodIn wsX6_sales (va_wsS RX6 173 yX6_isSort wsX6_isSort) := goodIn_app (goodIn_of _ (by decide +kernel)) ggX6_sales_X6_isSort
set_option maxRecDepth 20000 in
theorem ggX6_sales_X6_in : GoodIn wsX6_sales wsX6_in := goodIn_r _ [14] (by decide +kernel) (by decide +kernel)
set_option maxRecDepth 20000 in
theorem gX6_sales_X6_in : GoodIn wsX6_sales (va_wsS RX6 61 yX6_in wsX6_in) := goodIn_app (goodIn_of _ (by decide +kernel)) ggX6_sales_X6_in
set_option maxRecDepth 20000 in
theorem ggX6_sales_X6_oftenOf : GoodIn wsX6_sales wsX6_oftenOf := goodIn_r _ [26, 27, 28, 12, 13, 9, 14, 29, 30, 31, 32, 33, 34, 35, 36, 37, 38, 39, 40, 41, 42, 43, 44, 45, 46, 47, 48, 49, 50, 51, 52, 53, 54, 55, 56, 57, 58, 59, 60, 61, 62] (by decide +kernel) (by decide +kernel)
set_option maxRecDepth 20000 in
theorem gX6_sales_X6_oftenOf : GoodIn wsX6_sales (wsV RX6 176 RX6 yX6_oftenOf wsX6_oftenOf) := goodIn_app (goodIn_of _ (by decide +kernel)) ggX6_sales_X6_oftenOf
theorem dX6_sales_0 : decode cX6_sales 0 = .ok (.aload_n 0, 1) := by decide +kernel
theorem dX6_sales_1 : decode cX6_sales 1 = .ok (.iconst 0, 1) := by decide +kernel
theorem dX6_sales_2 : decode cX6_sales 2 = .ok (.putfield 54, 3) := by decide +kernel
theorem dX6_sales_5 : decode cX6_sales 5 = .ok (.aload_n 0, 1) := by decide +kernel
theorem dX6_sales_6 : decode cX6_sales 6 = .ok (.iload_n 1, 1) := by decide +kernel
theorem dX6_sales_7 : decode cX6_sales 7 = .ok (.invokevirtual 167, 3) := by decide +kernel
theorem dX6_sales_10 : decode cX6_sales 10 = .ok (.ifCond .eq 30, 3) := by decide +kernel
theorem dX6_sales_13 : decode cX6_sales 13 = .ok (.aload_n 0, 1) := by decide +kernel
theorem dX6_sales_14 : decode cX6_sales 14 = .ok (.iload_n 2, 1) := by decide +kernel
theorem dX6_sales_15 : decode cX6_sales 15 = .ok (.invokevirtual 158, 3) := by decide +kernel
theorem dX6_sales_18 : decode cX6_sales 18 = .ok (.ifCond .eq 22, 3) := by decide +kernel
theorem dX6_sales_21 : decode cX6_sales 21 = .ok (.iload_n 3, 1) := by decide +kernel
theorem dX6_sales_22 : decode cX6_sales 22 = .ok (.invokestatic 173, 3) := by decide +kernel
theorem dX6_sales_25 : decode cX6_sales 25 = .ok (.ifCond .eq 15, 3) := by decide +kernel
theorem dX6_sales_28 : decode cX6_sales 28 = .ok (.iload 4, 2) := by decide +kernel
theorem dX6_sales_30 : decode cX6_sales 30 = .ok (.iconst 1, 1) := by decide +kernel
theorem dX6_sales_31 : decode cX6_sales 31 = .ok (.sipush 200, 3) := by decide +kernel
theorem dX6_sales_34 : decode cX6_sales 34 = .ok (.invokestatic 61, 3) := by decide +kernel
theorem dX6_sales_37 : decode cX6_sales 37 = .ok (.ifCond .ne 5, 3) := by decide +kernel
theorem dX6_sales_40 : decode cX6_sales 40 = .ok (.iconst (-1), 1) := by decide +kernel
theorem dX6_sales_41 : decode cX6_sales 41 = .ok (.ireturn, 1) := by decide +kernel
theorem dX6_sales_42 : decode cX6_sales 42 = .ok (.iconst 0, 1) := by decide +kernel
theorem dX6_sales_43 : decode cX6_sales 43 = .ok (.istore 5, 2) := by decide +kernel
theorem dX6_sales_45 : decode cX6_sales 45 = .ok (.aload_n 0, 1) := by decide +kernel
theorem dX6_sales_46 : decode cX6_sales 46 = .ok (.iconst 0, 1) := by decide +kernel
theorem dX6_sales_47 : decode cX6_sales 47 = .ok (.putfield 254, 3) := by decide +kernel
theorem dX6_sales_50 : decode cX6_sales 50 = .ok (.iconst 0, 1) := by decide +kernel
theorem dX6_sales_51 : decode cX6_sales 51 = .ok (.istore 6, 2) := by decide +kernel
theorem dX6_sales_53 : decode cX6_sales 53 = .ok (.iload 6, 2) := by decide +kernel
theorem dX6_sales_55 : decode cX6_sales 55 = .ok (.iload 4, 2) := by decide +kernel
theorem dX6_sales_57 : decode cX6_sales 57 = .ok (.if_icmp .ge 117, 3) := by decide +kernel
theorem dX6_sales_60 : decode cX6_sales 60 = .ok (.aload_n 0, 1) := by decide +kernel
theorem dX6_sales_61 : decode cX6_sales 61 = .ok (.getfield 7, 3) := by decide +kernel
theorem dX6_sales_64 : decode cX6_sales 64 = .ok (.sipush 263, 3) := by decide +kernel
theorem dX6_sales_67 : decode cX6_sales 67 = .ok (.aload_n 0, 1) := by decide +kernel
theorem dX6_sales_68 : decode cX6_sales 68 = .ok (.getfield 7, 3) := by decide +kernel
theorem dX6_sales_71 : decode cX6_sales 71 = .ok (.sipush 263, 3) := by decide +kernel
theorem dX6_sales_74 : decode cX6_sales 74 = .ok (.iaload, 1) := by decide +kernel
theorem dX6_sales_75 : decode cX6_sales 75 = .ok (.ldc_w 257, 3) := by decide +kernel
theorem dX6_sales_78 : decode cX6_sales 78 = .ok (.imul, 1) := by decide +kernel
theorem dX6_sales_79 : decode cX6_sales 79 = .ok (.sipush 12345, 3) := by decide +kernel
theorem dX6_sales_82 : decode cX6_sales 82 = .ok (.iadd, 1) := by decide +kernel
theorem dX6_sales_83 : decode cX6_sales 83 = .ok (.iastore, 1) := by decide +kernel
theorem dX6_sales_84 : decode cX6_sales 84 = .ok (.aload_n 0, 1) := by decide +kernel
theorem dX6_sales_85 : decode cX6_sales 85 = .ok (.getfield 7, 3) := by decide +kernel
theorem dX6_sales_88 : decode cX6_sales 88 = .ok (.sipush 263, 3) := by decide +kernel
theorem dX6_sales_91 : decode cX6_sales 91 = .ok (.iaload, 1) := by decide +kernel
theorem dX6_sales_92 : decode cX6_sales 92 = .ok (.bipush 16, 2) := by decide +kernel
theorem dX6_sales_94 : decode cX6_sales 94 = .ok (.ishr, 1) := by decide +kernel
theorem dX6_sales_95 : decode cX6_sales 95 = .ok (.ldc_w 258, 3) := by decide +kernel
theorem dX6_sales_98 : decode cX6_sales 98 = .ok (.iand, 1) := by decide +kernel
theorem dX6_sales_99 : decode cX6_sales 99 = .ok (.sipush 600, 3) := by decide +kernel
theorem dX6_sales_102 : decode cX6_sales 102 = .ok (.irem, 1) := by decide +kernel
theorem dX6_sales_103 : decode cX6_sales 103 = .ok (.istore 7, 2) := by decide +kernel
theorem dX6_sales_105 : decode cX6_sales 105 = .ok (.iconst (-1), 1) := by decide +kernel
theorem dX6_sales_106 : decode cX6_sales 106 = .ok (.istore 8, 2) := by decide +kernel
theorem dX6_sales_108 : decode cX6_sales 108 = .ok (.iload 7, 2) := by decide +kernel
theorem dX6_sales_110 : decode cX6_sales 110 = .ok (.aload_n 0, 1) := by decide +kernel
theorem dX6_sales_111 : decode cX6_sales 111 = .ok (.iload_n 1, 1) := by decide +kernel
theorem dX6_sales_112 : decode cX6_sales 112 = .ok (.iload_n 2, 1) := by decide +kernel
theorem dX6_sales_113 : decode cX6_sales 113 = .ok (.iload_n 3, 1) := by decide +kernel
theorem dX6_sales_114 : decode cX6_sales 114 = .ok (.iload 8, 2) := by decide +kernel
theorem dX6_sales_116 : decode cX6_sales 116 = .ok (.invokevirtual 176, 3) := by decide +kernel
theorem dX6_sales_119 : decode cX6_sales 119 = .ok (.if_icmp .lt 23, 3) := by decide +kernel
theorem dX6_sales_122 : decode cX6_sales 122 = .ok (.iload 7, 2) := by decide +kernel
theorem dX6_sales_124 : decode cX6_sales 124 = .ok (.aload_n 0, 1) := by decide +kernel
theorem dX6_sales_125 : decode cX6_sales 125 = .ok (.iload_n 1, 1) := by decide +kernel
theorem dX6_sales_126 : decode cX6_sales 126 = .ok (.iload_n 2, 1) := by decide +kernel
theorem dX6_sales_127 : decode cX6_sales 127 = .ok (.iload_n 3, 1) := by decide +kernel
theorem dX6_sales_128 : decode cX6_sales 128 = .ok (.iload 8, 2) := by decide +kernel
theorem dX6_sales_130 : decode cX6_sales 130 = .ok (.invokevirtual 176, 3) := by decide +kernel
theorem dX6_sales_133 : decode cX6_sales 133 = .ok (.isub, 1) := by decide +kernel
theorem dX6_sales_134 : decode cX6_sales 134 = .ok (.istore 7, 2) := by decide +kernel
theorem dX6_sales_136 : decode cX6_sales 136 = .ok (.iinc 8 1, 3) := by decide +kernel
theorem dX6_sales_139 : decode cX6_sales 139 = .ok (.goto (-31), 3) := by decide +kernel
theorem dX6_sales_142 : decode cX6_sales 142 = .ok (.iload 5, 2) := by decide +kernel
theorem dX6_sales_144 : decode cX6_sales 144 = .ok (.iload 8, 2) := by decide +kernel
theorem dX6_sales_146 : decode cX6_sales 146 = .ok (.ifCond .le 7, 3) := by decide +kernel
theorem dX6_sales_149 : decode cX6_sales 149 = .ok (.iconst 1, 1) := by decide +kernel
theorem dX6_sales_150 : decode cX6_sales 150 = .ok (.goto 4, 3) := by decide +kernel
theorem dX6_sales_153 : decode cX6_sales 153 = .ok (.iconst 0, 1) := by decide +kernel
theorem dX6_sales_154 : decode cX6_sales 154 = .ok (.iadd, 1) := by decide +kernel
theorem dX6_sales_155 : decode cX6_sales 155 = .ok (.istore 5, 2) := by decide +kernel
theorem dX6_sales_157 : decode cX6_sales 157 = .ok (.aload_n 0, 1) := by decide +kernel
theorem dX6_sales_158 : decode cX6_sales 158 = .ok (.dup, 1) := by decide +kernel
theorem dX6_sales_159 : decode cX6_sales 159 = .ok (.getfield 254, 3) := by decide +kernel
theorem dX6_sales_162 : decode cX6_sales 162 = .ok (.iload 8, 2) := by decide +kernel
theorem dX6_sales_164 : decode cX6_sales 164 = .ok (.iadd, 1) := by decide +kernel
theorem dX6_sales_165 : decode cX6_sales 165 = .ok (.putfield 254, 3) := by decide +kernel
theorem dX6_sales_168 : decode cX6_sales 168 = .ok (.iinc 6 1, 3) := by decide +kernel
theorem dX6_sales_171 : decode cX6_sales 171 = .ok (.goto (-118), 3) := by decide +kernel
theorem dX6_sales_174 : decode cX6_sales 174 = .ok (.iload 5, 2) := by decide +kernel
theorem dX6_sales_176 : decode cX6_sales 176 = .ok (.ireturn, 1) := by decide +kernel
theorem dX6_steps_0 : decode cX6_steps 0 = .ok (.aload_n 0, 1) := by decide +kernel
theorem dX6_steps_1 : decode cX6_steps 1 = .ok (.iconst 0, 1) := by decide +kernel
theorem dX6_steps_2 : decode cX6_steps 2 = .ok (.putfield 54, 3) := by decide +kernel
theorem dX6_steps_5 : decode cX6_steps 5 = .ok (.aload_n 0, 1) := by decide +kernel
theorem dX6_steps_6 : decode cX6_steps 6 = .ok (.getfield 254, 3) := by decide +kernel
theorem dX6_steps_9 : decode cX6_steps 9 = .ok (.ireturn, 1) := by decide +kernel
set_option maxRecDepth 20000 in
theorem ggX6_score_X6_in : GoodIn wsX6_score wsX6_in := goodIn_r _ [14] (by decide +kernel) (by decide +kernel)
set_option maxRecDepth 20000 in
theorem gX6_score_X6_in : GoodIn wsX6_score (va_wsS RX6 61 yX6_in wsX6_in) := goodIn_app (goodIn_of _ (by decide +kernel)) ggX6_score_X6_in
set_option maxRecDepth 20000 in
theorem ggX6_score_X6_isBag : GoodIn wsX6_score wsX6_isBag := goodIn_r _ [18, 19, 11, 12, 13, 14, 35, 36, 37, 38, 39, 40, 41, 42, 43, 44, 45, 46, 47, 48, 49, 50, 51, 52, 53, 54, 55, 56, 57, 58, 59, 60, 61, 62, 63] (by decide +kernel) (by decide +kernel)
set_option maxRecDepth 20000 in
theorem gX6_score_X6_isBag : GoodIn wsX6_score (wsV RX6 186 RX6 yX6_isBag wsX6_isBag) := goodIn_app (goodIn_of _ (by decide +kernel)) ggX6_score_X6_isBag
set_option maxRecDepth 20000 in
theorem ggX6_score_X6_shortOf : GoodIn wsX6_score wsX6_shortOf := goodIn_r _ [23, 10, 24, 25, 26, 13, 27, 19, 35, 36, 37, 38, 39, 40, 41, 42, 43, 44, 45, 46, 47, 48, 49, 50, 51, 52, 53, 54, 55, 56, 57, 58, 59, 60, 61, 62, 63] (by decide +kernel) (by decide +kernel)
set_option maxRecDepth 20000 in
theorem gX6_score_X6_shortOf : GoodIn wsX6_score (wsV RX6 180 RX6 yX6_shortOf wsX6_shortOf) := goodIn_app (goodIn_of _ (by decide +kernel)) ggX6_score_X6_shortOf
set_option maxRecDepth 20000 in
theorem ggX6_score_X6_bag : GoodIn wsX6_score wsX6_bag := goodIn_r _ [27, 19, 35, 36, 37, 38, 39, 40, 41, 42, 43, 44, 45, 46, 47, 48, 49, 50, 51, 52, 53, 54, 55, 56, 57, 58, 59, 60, 61, 62, 63] (by decide +kernel) (by decide +kernel)
set_option maxRecDepth 20000 in
theorem gX6_score_X6_bag : GoodIn wsX6_score (wsV RX6 155 RX6 yX6_bag wsX6_bag) := goodIn_app (goodIn_of _ (by decide +kernel)) ggX6_score_X6_bag
set_option maxRecDepth 20000 in
theorem ggX6_score_X6_stepsOf : GoodIn wsX6_score wsX6_stepsOf := goodIn_r _ [31, 10, 24, 25, 26, 13, 27, 19, 20, 21, 22, 23, 32, 33, 34, 35, 36, 37, 38, 39, 40, 41, 42, 43, 44, 45, 46, 47, 48, 49, 50, 51, 52, 53, 54, 55, 56, 57, 58, 59, 60, 61, 62, 63] (by decide +kernel) (by decide +kernel)
set_option maxRecDepth 20000 in
theorem gX6_score_X6_stepsOf : GoodIn wsX6_score (wsV RX6 191 RX6 yX6_stepsOf wsX6_stepsOf) := goodIn_app (goodIn_of _ (by decide +kernel)) ggX6_score_X6_stepsOf
theorem dX6_score_0 : decode cX6_score 0 = .ok (.aload_n 0, 1) := by decide +kernel
theorem dX6_score_1 : decode cX6_score 1 = .ok (.iconst 0, 1) := by decide +kernel
theorem dX6_score_2 : decode cX6_score 2 = .ok (.putfield 54, 3) := by decide +kernel
theorem dX6_score_5 : decode cX6_score 5 = .ok (.iload_n 1, 1) := by decide +kernel
theorem dX6_score_6 : decode cX6_score 6 = .ok (.iconst 0, 1) := by decide +kernel
theorem dX6_score_7 : decode cX6_score 7 = .ok (.bipush 6, 2) := by decide +kernel
theorem dX6_score_9 : decode cX6_score 9 = .ok (.invokestatic 61, 3) := by decide +kernel
theorem dX6_score_12 : decode cX6_score 12 = .ok (.ifCond .eq 11, 3) := by decide +kernel
theorem dX6_score_15 : decode cX6_score 15 = .ok (.aload_n 0, 1) := by decide +kernel
theorem dX6_score_16 : decode cX6_score 16 = .ok (.iload_n 2, 1) := by decide +kernel
theorem dX6_score_17 : decode cX6_score 17 = .ok (.invokevirtual 186, 3) := by decide +kernel
theorem dX6_score_20 : decode cX6_score 20 = .ok (.ifCond .ne 7, 3) := by decide +kernel
theorem dX6_score_23 : decode cX6_score 23 = .ok (.ldc2_w 189, 3) := by decide +kernel
theorem dX6_score_26 : decode cX6_score 26 = .ok (.lreturn, 1) := by decide +kernel
theorem dX6_score_27 : decode cX6_score 27 = .ok (.aload_n 0, 1) := by decide +kernel
theorem dX6_score_28 : decode cX6_score 28 = .ok (.iload_n 2, 1) := by decide +kernel
theorem dX6_score_29 : decode cX6_score 29 = .ok (.invokevirtual 180, 3) := by decide +kernel
theorem dX6_score_32 : decode cX6_score 32 = .ok (.istore_n 3, 1) := by decide +kernel
theorem dX6_score_33 : decode cX6_score 33 = .ok (.aload_n 0, 1) := by decide +kernel
theorem dX6_score_34 : decode cX6_score 34 = .ok (.dup, 1) := by decide +kernel
theorem dX6_score_35 : decode cX6_score 35 = .ok (.getfield 259, 3) := by decide +kernel
theorem dX6_score_38 : decode cX6_score 38 = .ok (.iload_n 1, 1) := by decide +kernel
theorem dX6_score_39 : decode cX6_score 39 = .ok (.ifCond .ne 7, 3) := by decide +kernel
theorem dX6_score_42 : decode cX6_score 42 = .ok (.lconst 1, 1) := by decide +kernel
theorem dX6_score_43 : decode cX6_score 43 = .ok (.goto 61, 3) := by decide +kernel
theorem dX6_score_46 : decode cX6_score 46 = .ok (.iload_n 1, 1) := by decide +kernel
theorem dX6_score_47 : decode cX6_score 47 = .ok (.iconst 1, 1) := by decide +kernel
theorem dX6_score_48 : decode cX6_score 48 = .ok (.if_icmp .ne 9, 3) := by decide +kernel
theorem dX6_score_51 : decode cX6_score 51 = .ok (.ldc2_w 262, 3) := by decide +kernel
theorem dX6_score_54 : decode cX6_score 54 = .ok (.goto 50, 3) := by decide +kernel
theorem dX6_score_57 : decode cX6_score 57 = .ok (.iload_n 1, 1) := by decide +kernel
theorem dX6_score_58 : decode cX6_score 58 = .ok (.iconst 2, 1) := by decide +kernel
theorem dX6_score_59 : decode cX6_score 59 = .ok (.if_icmp .ne 9, 3) := by decide +kernel
theorem dX6_score_62 : decode cX6_score 62 = .ok (.ldc2_w 91, 3) := by decide +kernel
theorem dX6_score_65 : decode cX6_score 65 = .ok (.goto 39, 3) := by decide +kernel
theorem dX6_score_68 : decode cX6_score 68 = .ok (.iload_n 1, 1) := by decide +kernel
theorem dX6_score_69 : decode cX6_score 69 = .ok (.iconst 3, 1) := by decide +kernel
theorem dX6_score_70 : decode cX6_score 70 = .ok (.if_icmp .ne 9, 3) := by decide +kernel
theorem dX6_score_73 : decode cX6_score 73 = .ok (.ldc2_w 264, 3) := by decide +kernel
theorem dX6_score_76 : decode cX6_score 76 = .ok (.goto 28, 3) := by decide +kernel
theorem dX6_score_79 : decode cX6_score 79 = .ok (.iload_n 1, 1) := by decide +kernel
theorem dX6_score_80 : decode cX6_score 80 = .ok (.iconst 4, 1) := by decide +kernel
theorem dX6_score_81 : decode cX6_score 81 = .ok (.if_icmp .ne 9, 3) := by decide +kernel
theorem dX6_score_84 : decode cX6_score 84 = .ok (.ldc2_w 266, 3) := by decide +kernel
theorem dX6_score_87 : decode cX6_score 87 = .ok (.goto 17, 3) := by decide +kernel
theorem dX6_score_90 : decode cX6_score 90 = .ok (.iload_n 1, 1) := by decide +kernel
theorem dX6_score_91 : decode cX6_score 91 = .ok (.iconst 5, 1) := by decide +kernel
theorem dX6_score_92 : decode cX6_score 92 = .ok (.if_icmp .ne 9, 3) := by decide +kernel
theorem dX6_score_95 : decode cX6_score 95 = .ok (.ldc2_w 268, 3) := by decide +kernel
theorem dX6_score_98 : decode cX6_score 98 = .ok (.goto 6, 3) := by decide +kernel
theorem dX6_score_101 : decode cX6_score 101 = .ok (.ldc2_w 270, 3) := by decide +kernel
theorem dX6_score_104 : decode cX6_score 104 = .ok (.ladd, 1) := by decide +kernel
theorem dX6_score_105 : decode cX6_score 105 = .ok (.putfield 259, 3) := by decide +kernel
theorem dX6_score_108 : decode cX6_score 108 = .ok (.iload_n 1, 1) := by decide +kernel
theorem dX6_score_109 : decode cX6_score 109 = .ok (.ifCond .ne 8, 3) := by decide +kernel
theorem dX6_score_112 : decode cX6_score 112 = .ok (.iload_n 3, 1) := by decide +kernel
theorem dX6_score_113 : decode cX6_score 113 = .ok (.i2l, 1) := by decide +kernel
theorem dX6_score_114 : decode cX6_score 114 = .ok (.goto 101, 3) := by decide +kernel
theorem dX6_score_117 : decode cX6_score 117 = .ok (.iload_n 1, 1) := by decide +kernel
theorem dX6_score_118 : decode cX6_score 118 = .ok (.iconst 1, 1) := by decide +kernel
theorem dX6_score_119 : decode cX6_score 119 = .ok (.if_icmp .ne 10, 3) := by decide +kernel
theorem dX6_score_122 : decode cX6_score 122 = .ok (.iload_n 3, 1) := by decide +kernel
theorem dX6_score_123 : decode cX6_score 123 = .ok (.iconst 2, 1) := by decide +kernel
theorem dX6_score_124 : decode cX6_score 124 = .ok (.idiv, 1) := by decide +kernel
theorem dX6_score_125 : decode cX6_score 125 = .ok (.i2l, 1) := by decide +kernel
theorem dX6_score_126 : decode cX6_score 126 = .ok (.goto 89, 3) := by decide +kernel
theorem dX6_score_129 : decode cX6_score 129 = .ok (.iload_n 1, 1) := by decide +kernel
theorem dX6_score_130 : decode cX6_score 130 = .ok (.iconst 2, 1) := by decide +kernel
theorem dX6_score_131 : decode cX6_score 131 = .ok (.if_icmp .ne 22, 3) := by decide +kernel
theorem dX6_score_134 : decode cX6_score 134 = .ok (.iload_n 3, 1) := by decide +kernel
theorem dX6_score_135 : decode cX6_score 135 = .ok (.aload_n 0, 1) := by decide +kernel
theorem dX6_score_136 : decode cX6_score 136 = .ok (.getfield 30, 3) := by decide +kernel
theorem dX6_score_139 : decode cX6_score 139 = .ok (.iconst 3, 1) := by decide +kernel
theorem dX6_score_140 : decode cX6_score 140 = .ok (.aload_n 0, 1) := by decide +kernel
theorem dX6_score_141 : decode cX6_score 141 = .ok (.iload_n 2, 1) := by decide +kernel
theorem dX6_score_142 : decode cX6_score 142 = .ok (.iconst 0, 1) := by decide +kernel
theorem dX6_score_143 : decode cX6_score 143 = .ok (.invokevirtual 155, 3) := by decide +kernel
theorem dX6_score_146 : decode cX6_score 146 = .ok (.imul, 1) := by decide +kernel
theorem dX6_score_147 : decode cX6_score 147 = .ok (.iaload, 1) := by decide +kernel
theorem dX6_score_148 : decode cX6_score 148 = .ok (.isub, 1) := by decide +kernel
theorem dX6_score_149 : decode cX6_score 149 = .ok (.i2l, 1) := by decide +kernel
theorem dX6_score_150 : decode cX6_score 150 = .ok (.goto 65, 3) := by decide +kernel
theorem dX6_score_153 : decode cX6_score 153 = .ok (.iload_n 1, 1) := by decide +kernel
theorem dX6_score_154 : decode cX6_score 154 = .ok (.iconst 3, 1) := by decide +kernel
theorem dX6_score_155 : decode cX6_score 155 = .ok (.if_icmp .ne 10, 3) := by decide +kernel
theorem dX6_score_158 : decode cX6_score 158 = .ok (.iconst 2, 1) := by decide +kernel
theorem dX6_score_159 : decode cX6_score 159 = .ok (.iload_n 3, 1) := by decide +kernel
theorem dX6_score_160 : decode cX6_score 160 = .ok (.imul, 1) := by decide +kernel
theorem dX6_score_161 : decode cX6_score 161 = .ok (.i2l, 1) := by decide +kernel
theorem dX6_score_162 : decode cX6_score 162 = .ok (.goto 53, 3) := by decide +kernel
theorem dX6_score_165 : decode cX6_score 165 = .ok (.iload_n 1, 1) := by decide +kernel
theorem dX6_score_166 : decode cX6_score 166 = .ok (.iconst 4, 1) := by decide +kernel
theorem dX6_score_167 : decode cX6_score 167 = .ok (.if_icmp .ne 17, 3) := by decide +kernel
theorem dX6_score_170 : decode cX6_score 170 = .ok (.iconst 2, 1) := by decide +kernel
theorem dX6_score_171 : decode cX6_score 171 = .ok (.iload_n 3, 1) := by decide +kernel
theorem dX6_score_172 : decode cX6_score 172 = .ok (.imul, 1) := by decide +kernel
theorem dX6_score_173 : decode cX6_score 173 = .ok (.aload_n 0, 1) := by decide +kernel
theorem dX6_score_174 : decode cX6_score 174 = .ok (.iload_n 2, 1) := by decide +kernel
theorem dX6_score_175 : decode cX6_score 175 = .ok (.iconst 2, 1) := by decide +kernel
theorem dX6_score_176 : decode cX6_score 176 = .ok (.invokevirtual 155, 3) := by decide +kernel
theorem dX6_score_179 : decode cX6_score 179 = .ok (.iadd, 1) := by decide +kernel
theorem dX6_score_180 : decode cX6_score 180 = .ok (.i2l, 1) := by decide +kernel
theorem dX6_score_181 : decode cX6_score 181 = .ok (.goto 34, 3) := by decide +kernel
theorem dX6_score_184 : decode cX6_score 184 = .ok (.iload_n 1, 1) := by decide +kernel
theorem dX6_score_185 : decode cX6_score 185 = .ok (.iconst 5, 1) := by decide +kernel
theorem dX6_score_186 : decode cX6_score 186 = .ok (.if_icmp .ne 14, 3) := by decide +kernel
theorem dX6_score_189 : decode cX6_score 189 = .ok (.iload_n 3, 1) := by decide +kernel
theorem dX6_score_190 : decode cX6_score 190 = .ok (.aload_n 0, 1) := by decide +kernel
theorem dX6_score_191 : decode cX6_score 191 = .ok (.iload_n 2, 1) := by decide +kernel
theorem dX6_score_192 : decode cX6_score 192 = .ok (.invokevirtual 191, 3) := by decide +kernel
theorem dX6_score_195 : decode cX6_score 195 = .ok (.iadd, 1) := by decide +kernel
theorem dX6_score_196 : decode cX6_score 196 = .ok (.i2l, 1) := by decide +kernel
theorem dX6_score_197 : decode cX6_score 197 = .ok (.goto 18, 3) := by decide +kernel
theorem dX6_score_200 : decode cX6_score 200 = .ok (.iload_n 3, 1) := by decide +kernel
theorem dX6_score_201 : decode cX6_score 201 = .ok (.aload_n 0, 1) := by decide +kernel
theorem dX6_score_202 : decode cX6_score 202 = .ok (.iload_n 2, 1) := by decide +kernel
theorem dX6_score_203 : decode cX6_score 203 = .ok (.invokevirtual 191, 3) := by decide +kernel
theorem dX6_score_206 : decode cX6_score 206 = .ok (.iadd, 1) := by decide +kernel
theorem dX6_score_207 : decode cX6_score 207 = .ok (.aload_n 0, 1) := by decide +kernel
theorem dX6_score_208 : decode cX6_score 208 = .ok (.iload_n 2, 1) := by decide +kernel
theorem dX6_score_209 : decode cX6_score 209 = .ok (.iconst 1, 1) := by decide +kernel
theorem dX6_score_210 : decode cX6_score 210 = .ok (.invokevirtual 155, 3) := by decide +kernel
theorem dX6_score_213 : decode cX6_score 213 = .ok (.isub, 1) := by decide +kernel
theorem dX6_score_214 : decode cX6_score 214 = .ok (.i2l, 1) := by decide +kernel
theorem dX6_score_215 : decode cX6_score 215 = .ok (.lreturn, 1) := by decide +kernel
set_option maxRecDepth 20000 in
theorem ggX6_keep_X6_in : GoodIn wsX6_keep wsX6_in := goodIn_r _ [9] (by decide +kernel) (by decide +kernel)
set_option maxRecDepth 20000 in
theorem gX6_keep_X6_in : GoodIn wsX6_keep (va_wsS RX6 61 yX6_in wsX6_in) := goodIn_app (goodIn_of _ (by decide +kernel)) ggX6_keep_X6_in
theorem dX6_keep_0 : decode cX6_keep 0 = .ok (.aload_n 0, 1) := by decide +kernel
theorem dX6_keep_1 : decode cX6_keep 1 = .ok (.iconst 0, 1) := by decide +kernel
theorem dX6_keep_2 : decode cX6_keep 2 = .ok (.putfield 54, 3) := by decide +kernel
theorem dX6_keep_5 : decode cX6_keep 5 = .ok (.iload_n 1, 1) := by decide +kernel
theorem dX6_keep_6 : decode cX6_keep 6 = .ok (.iconst 0, 1) := by decide +kernel
theorem dX6_keep_7 : decode cX6_keep 7 = .ok (.iconst 1, 1) := by decide +kernel
theorem dX6_keep_8 : decode cX6_keep 8 = .ok (.invokestatic 61, 3) := by decide +kernel
theorem dX6_keep_11 : decode cX6_keep 11 = .ok (.ifCond .ne 5, 3) := by decide +kernel
theorem dX6_keep_14 : decode cX6_keep 14 = .ok (.iconst (-1), 1) := by decide +kernel
theorem dX6_keep_15 : decode cX6_keep 15 = .ok (.ireturn, 1) := by decide +kernel
theorem dX6_keep_16 : decode cX6_keep 16 = .ok (.iconst 0, 1) := by decide +kernel
theorem dX6_keep_17 : decode cX6_keep 17 = .ok (.istore_n 2, 1) := by decide +kernel
theorem dX6_keep_18 : decode cX6_keep 18 = .ok (.iload_n 2, 1) := by decide +kernel
theorem dX6_keep_19 : decode cX6_keep 19 = .ok (.sipush 264, 3) := by decide +kernel
theorem dX6_keep_22 : decode cX6_keep 22 = .ok (.if_icmp .ge 27, 3) := by decide +kernel
theorem dX6_keep_25 : decode cX6_keep 25 = .ok (.aload_n 0, 1) := by decide +kernel
theorem dX6_keep_26 : decode cX6_keep 26 = .ok (.getfield 13, 3) := by decide +kernel
theorem dX6_keep_29 : decode cX6_keep 29 = .ok (.sipush 264, 3) := by decide +kernel
theorem dX6_keep_32 : decode cX6_keep 32 = .ok (.iload_n 1, 1) := by decide +kernel
theorem dX6_keep_33 : decode cX6_keep 33 = .ok (.imul, 1) := by decide +kernel
theorem dX6_keep_34 : decode cX6_keep 34 = .ok (.iload_n 2, 1) := by decide +kernel
theorem dX6_keep_35 : decode cX6_keep 35 = .ok (.iadd, 1) := by decide +kernel
theorem dX6_keep_36 : decode cX6_keep 36 = .ok (.aload_n 0, 1) := by decide +kernel
theorem dX6_keep_37 : decode cX6_keep 37 = .ok (.getfield 7, 3) := by decide +kernel
theorem dX6_keep_40 : decode cX6_keep 40 = .ok (.iload_n 2, 1) := by decide +kernel
theorem dX6_keep_41 : decode cX6_keep 41 = .ok (.iaload, 1) := by decide +kernel
theorem dX6_keep_42 : decode cX6_keep 42 = .ok (.iastore, 1) := by decide +kernel
theorem dX6_keep_43 : decode cX6_keep 43 = .ok (.iinc 2 1, 3) := by decide +kernel
theorem dX6_keep_46 : decode cX6_keep 46 = .ok (.goto (-28), 3) := by decide +kernel
theorem dX6_keep_49 : decode cX6_keep 49 = .ok (.aload_n 0, 1) := by decide +kernel
theorem dX6_keep_50 : decode cX6_keep 50 = .ok (.getfield 20, 3) := by decide +kernel
theorem dX6_keep_53 : decode cX6_keep 53 = .ok (.iconst 2, 1) := by decide +kernel
theorem dX6_keep_54 : decode cX6_keep 54 = .ok (.iconst 2, 1) := by decide +kernel
theorem dX6_keep_55 : decode cX6_keep 55 = .ok (.iload_n 1, 1) := by decide +kernel
theorem dX6_keep_56 : decode cX6_keep 56 = .ok (.imul, 1) := by decide +kernel
theorem dX6_keep_57 : decode cX6_keep 57 = .ok (.iadd, 1) := by decide +kernel
theorem dX6_keep_58 : decode cX6_keep 58 = .ok (.aload_n 0, 1) := by decide +kernel
theorem dX6_keep_59 : decode cX6_keep 59 = .ok (.getfield 20, 3) := by decide +kernel
theorem dX6_keep_62 : decode cX6_keep 62 = .ok (.iconst 0, 1) := by decide +kernel
theorem dX6_keep_63 : decode cX6_keep 63 = .ok (.laload, 1) := by decide +kernel
theorem dX6_keep_64 : decode cX6_keep 64 = .ok (.lastore, 1) := by decide +kernel
theorem dX6_keep_65 : decode cX6_keep 65 = .ok (.aload_n 0, 1) := by decide +kernel
theorem dX6_keep_66 : decode cX6_keep 66 = .ok (.getfield 20, 3) := by decide +kernel
theorem dX6_keep_69 : decode cX6_keep 69 = .ok (.iconst 3, 1) := by decide +kernel
theorem dX6_keep_70 : decode cX6_keep 70 = .ok (.iconst 2, 1) := by decide +kernel
theorem dX6_keep_71 : decode cX6_keep 71 = .ok (.iload_n 1, 1) := by decide +kernel
theorem dX6_keep_72 : decode cX6_keep 72 = .ok (.imul, 1) := by decide +kernel
theorem dX6_keep_73 : decode cX6_keep 73 = .ok (.iadd, 1) := by decide +kernel
theorem dX6_keep_74 : decode cX6_keep 74 = .ok (.aload_n 0, 1) := by decide +kernel
theorem dX6_keep_75 : decode cX6_keep 75 = .ok (.getfield 20, 3) := by decide +kernel
theorem dX6_keep_78 : decode cX6_keep 78 = .ok (.iconst 1, 1) := by decide +kernel
theorem dX6_keep_79 : decode cX6_keep 79 = .ok (.laload, 1) := by decide +kernel
theorem dX6_keep_80 : decode cX6_keep 80 = .ok (.lastore, 1) := by decide +kernel
theorem dX6_keep_81 : decode cX6_keep 81 = .ok (.aload_n 0, 1) := by decide +kernel
theorem dX6_keep_82 : decode cX6_keep 82 = .ok (.getfield 16, 3) := by decide +kernel
theorem dX6_keep_85 : decode cX6_keep 85 = .ok (.iload_n 1, 1) := by decide +kernel
theorem dX6_keep_86 : decode cX6_keep 86 = .ok (.iconst 1, 1) := by decide +kernel
theorem dX6_keep_87 : decode cX6_keep 87 = .ok (.bastore, 1) := by decide +kernel
theorem dX6_keep_88 : decode cX6_keep 88 = .ok (.aload_n 0, 1) := by decide +kernel
theorem dX6_keep_89 : decode cX6_keep 89 = .ok (.getfield 7, 3) := by decide +kernel
theorem dX6_keep_92 : decode cX6_keep 92 = .ok (.iconst 0, 1) := by decide +kernel
theorem dX6_keep_93 : decode cX6_keep 93 = .ok (.iaload, 1) := by decide +kernel
theorem dX6_keep_94 : decode cX6_keep 94 = .ok (.ireturn, 1) := by decide +kernel
set_option maxRecDepth 20000 in
theorem ggX6_back_X6_in : GoodIn wsX6_back wsX6_in := goodIn_r _ [9] (by decide +kernel) (by decide +kernel)
set_option maxRecDepth 20000 in
theorem gX6_back_X6_in : GoodIn wsX6_back (va_wsS RX6 61 yX6_in wsX6_in) := goodIn_app (goodIn_of _ (by decide +kernel)) ggX6_back_X6_in
theorem dX6_back_0 : decode cX6_back 0 = .ok (.aload_n 0, 1) := by decide +kernel
theorem dX6_back_1 : decode cX6_back 1 = .ok (.iconst 0, 1) := by decide +kernel
theorem dX6_back_2 : decode cX6_back 2 = .ok (.putfield 54, 3) := by decide +kernel
theorem dX6_back_5 : decode cX6_back 5 = .ok (.iload_n 1, 1) := by decide +kernel
theorem dX6_back_6 : decode cX6_back 6 = .ok (.iconst 0, 1) := by decide +kernel
theorem dX6_back_7 : decode cX6_back 7 = .ok (.iconst 1, 1) := by decide +kernel
theorem dX6_back_8 : decode cX6_back 8 = .ok (.invokestatic 61, 3) := by decide +kernel
theorem dX6_back_11 : decode cX6_back 11 = .ok (.ifCond .ne 5, 3) := by decide +kernel
theorem dX6_back_14 : decode cX6_back 14 = .ok (.iconst (-1), 1) := by decide +kernel
theorem dX6_back_15 : decode cX6_back 15 = .ok (.ireturn, 1) := by decide +kernel
theorem dX6_back_16 : decode cX6_back 16 = .ok (.aload_n 0, 1) := by decide +kernel
theorem dX6_back_17 : decode cX6_back 17 = .ok (.getfield 16, 3) := by decide +kernel
theorem dX6_back_20 : decode cX6_back 20 = .ok (.iload_n 1, 1) := by decide +kernel
theorem dX6_back_21 : decode cX6_back 21 = .ok (.baload, 1) := by decide +kernel
theorem dX6_back_22 : decode cX6_back 22 = .ok (.ifCond .ne 6, 3) := by decide +kernel
theorem dX6_back_25 : decode cX6_back 25 = .ok (.bipush (-2), 2) := by decide +kernel
theorem dX6_back_27 : decode cX6_back 27 = .ok (.ireturn, 1) := by decide +kernel
theorem dX6_back_28 : decode cX6_back 28 = .ok (.iconst 0, 1) := by decide +kernel
theorem dX6_back_29 : decode cX6_back 29 = .ok (.istore_n 2, 1) := by decide +kernel
theorem dX6_back_30 : decode cX6_back 30 = .ok (.iload_n 2, 1) := by decide +kernel
theorem dX6_back_31 : decode cX6_back 31 = .ok (.sipush 264, 3) := by decide +kernel
theorem dX6_back_34 : decode cX6_back 34 = .ok (.if_icmp .ge 27, 3) := by decide +kernel
theorem dX6_back_37 : decode cX6_back 37 = .ok (.aload_n 0, 1) := by decide +kernel
theorem dX6_back_38 : decode cX6_back 38 = .ok (.getfield 7, 3) := by decide +kernel
theorem dX6_back_41 : decode cX6_back 41 = .ok (.iload_n 2, 1) := by decide +kernel
theorem dX6_back_42 : decode cX6_back 42 = .ok (.aload_n 0, 1) := by decide +kernel
theorem dX6_back_43 : decode cX6_back 43 = .ok (.getfield 13, 3) := by decide +kernel
theorem dX6_back_46 : decode cX6_back 46 = .ok (.sipush 264, 3) := by decide +kernel
theorem dX6_back_49 : decode cX6_back 49 = .ok (.iload_n 1, 1) := by decide +kernel
theorem dX6_back_50 : decode cX6_back 50 = .ok (.imul, 1) := by decide +kernel
theorem dX6_back_51 : decode cX6_back 51 = .ok (.iload_n 2, 1) := by decide +kernel
theorem dX6_back_52 : decode cX6_back 52 = .ok (.iadd, 1) := by decide +kernel
theorem dX6_back_53 : decode cX6_back 53 = .ok (.iaload, 1) := by decide +kernel
theorem dX6_back_54 : decode cX6_back 54 = .ok (.iastore, 1) := by decide +kernel
theorem dX6_back_55 : decode cX6_back 55 = .ok (.iinc 2 1, 3) := by decide +kernel
theorem dX6_back_58 : decode cX6_back 58 = .ok (.goto (-28), 3) := by decide +kernel
theorem dX6_back_61 : decode cX6_back 61 = .ok (.aload_n 0, 1) := by decide +kernel
theorem dX6_back_62 : decode cX6_back 62 = .ok (.getfield 20, 3) := by decide +kernel
theorem dX6_back_65 : decode cX6_back 65 = .ok (.iconst 0, 1) := by decide +kernel
theorem dX6_back_66 : decode cX6_back 66 = .ok (.aload_n 0, 1) := by decide +kernel
theorem dX6_back_67 : decode cX6_back 67 = .ok (.getfield 20, 3) := by decide +kernel
theorem dX6_back_70 : decode cX6_back 70 = .ok (.iconst 2, 1) := by decide +kernel
theorem dX6_back_71 : decode cX6_back 71 = .ok (.iconst 2, 1) := by decide +kernel
theorem dX6_back_72 : decode cX6_back 72 = .ok (.iload_n 1, 1) := by decide +kernel
theorem dX6_back_73 : decode cX6_back 73 = .ok (.imul, 1) := by decide +kernel
theorem dX6_back_74 : decode cX6_back 74 = .ok (.iadd, 1) := by decide +kernel
theorem dX6_back_75 : decode cX6_back 75 = .ok (.laload, 1) := by decide +kernel
theorem dX6_back_76 : decode cX6_back 76 = .ok (.lastore, 1) := by decide +kernel
theorem dX6_back_77 : decode cX6_back 77 = .ok (.aload_n 0, 1) := by decide +kernel
theorem dX6_back_78 : decode cX6_back 78 = .ok (.getfield 20, 3) := by decide +kernel
theorem dX6_back_81 : decode cX6_back 81 = .ok (.iconst 1, 1) := by decide +kernel
theorem dX6_back_82 : decode cX6_back 82 = .ok (.aload_n 0, 1) := by decide +kernel
theorem dX6_back_83 : decode cX6_back 83 = .ok (.getfield 20, 3) := by decide +kernel
theorem dX6_back_86 : decode cX6_back 86 = .ok (.iconst 3, 1) := by decide +kernel
theorem dX6_back_87 : decode cX6_back 87 = .ok (.iconst 2, 1) := by decide +kernel
theorem dX6_back_88 : decode cX6_back 88 = .ok (.iload_n 1, 1) := by decide +kernel
theorem dX6_back_89 : decode cX6_back 89 = .ok (.imul, 1) := by decide +kernel
theorem dX6_back_90 : decode cX6_back 90 = .ok (.iadd, 1) := by decide +kernel
theorem dX6_back_91 : decode cX6_back 91 = .ok (.laload, 1) := by decide +kernel
theorem dX6_back_92 : decode cX6_back 92 = .ok (.lastore, 1) := by decide +kernel
theorem dX6_back_93 : decode cX6_back 93 = .ok (.aload_n 0, 1) := by decide +kernel
theorem dX6_back_94 : decode cX6_back 94 = .ok (.getfield 7, 3) := by decide +kernel
theorem dX6_back_97 : decode cX6_back 97 = .ok (.iconst 0, 1) := by decide +kernel
theorem dX6_back_98 : decode cX6_back 98 = .ok (.iaload, 1) := by decide +kernel
theorem dX6_back_99 : decode cX6_back 99 = .ok (.ireturn, 1) := by decide +kernel
set_option maxRecDepth 20000 in
theorem ggX6_count_X6_in : GoodIn wsX6_count wsX6_in := goodIn_r _ [10] (by decide +kernel) (by decide +kernel)
set_option maxRecDepth 20000 in
theorem gX6_count_X6_in : GoodIn wsX6_count (va_wsS RX6 61 yX6_in wsX6_in) := goodIn_app (goodIn_of _ (by decide +kernel)) ggX6_count_X6_in
theorem dX6_count_0 : decode cX6_count 0 = .ok (.aload_n 0, 1) := by decide +kernel
theorem dX6_count_1 : decode cX6_count 1 = .ok (.iconst 0, 1) := by decide +kernel
theorem dX6_count_2 : decode cX6_count 2 = .ok (.putfield 54, 3) := by decide +kernel
theorem dX6_count_5 : decode cX6_count 5 = .ok (.iload_n 1, 1) := by decide +kernel
theorem dX6_count_6 : decode cX6_count 6 = .ok (.ifCond .ne 10, 3) := by decide +kernel
theorem dX6_count_9 : decode cX6_count 9 = .ok (.aload_n 0, 1) := by decide +kernel
theorem dX6_count_10 : decode cX6_count 10 = .ok (.getfield 58, 3) := by decide +kernel
theorem dX6_count_13 : decode cX6_count 13 = .ok (.goto 79, 3) := by decide +kernel
theorem dX6_count_16 : decode cX6_count 16 = .ok (.iload_n 1, 1) := by decide +kernel
theorem dX6_count_17 : decode cX6_count 17 = .ok (.iconst 1, 1) := by decide +kernel
theorem dX6_count_18 : decode cX6_count 18 = .ok (.if_icmp .ne 10, 3) := by decide +kernel
theorem dX6_count_21 : decode cX6_count 21 = .ok (.aload_n 0, 1) := by decide +kernel
theorem dX6_count_22 : decode cX6_count 22 = .ok (.getfield 65, 3) := by decide +kernel
theorem dX6_count_25 : decode cX6_count 25 = .ok (.goto 67, 3) := by decide +kernel
theorem dX6_count_28 : decode cX6_count 28 = .ok (.iload_n 1, 1) := by decide +kernel
theorem dX6_count_29 : decode cX6_count 29 = .ok (.iconst 2, 1) := by decide +kernel
theorem dX6_count_30 : decode cX6_count 30 = .ok (.if_icmp .ne 12, 3) := by decide +kernel
theorem dX6_count_33 : decode cX6_count 33 = .ok (.aload_n 0, 1) := by decide +kernel
theorem dX6_count_34 : decode cX6_count 34 = .ok (.getfield 7, 3) := by decide +kernel
theorem dX6_count_37 : decode cX6_count 37 = .ok (.iconst 0, 1) := by decide +kernel
theorem dX6_count_38 : decode cX6_count 38 = .ok (.iaload, 1) := by decide +kernel
theorem dX6_count_39 : decode cX6_count 39 = .ok (.goto 53, 3) := by decide +kernel
theorem dX6_count_42 : decode cX6_count 42 = .ok (.iload_n 1, 1) := by decide +kernel
theorem dX6_count_43 : decode cX6_count 43 = .ok (.iconst 3, 1) := by decide +kernel
theorem dX6_count_44 : decode cX6_count 44 = .ok (.if_icmp .ne 14, 3) := by decide +kernel
theorem dX6_count_47 : decode cX6_count 47 = .ok (.aload_n 0, 1) := by decide +kernel
theorem dX6_count_48 : decode cX6_count 48 = .ok (.getfield 7, 3) := by decide +kernel
theorem dX6_count_51 : decode cX6_count 51 = .ok (.sipush 181, 3) := by decide +kernel
theorem dX6_count_54 : decode cX6_count 54 = .ok (.iaload, 1) := by decide +kernel
theorem dX6_count_55 : decode cX6_count 55 = .ok (.goto 37, 3) := by decide +kernel
theorem dX6_count_58 : decode cX6_count 58 = .ok (.iload_n 1, 1) := by decide +kernel
theorem dX6_count_59 : decode cX6_count 59 = .ok (.iconst 4, 1) := by decide +kernel
theorem dX6_count_60 : decode cX6_count 60 = .ok (.if_icmp .ne 10, 3) := by decide +kernel
theorem dX6_count_63 : decode cX6_count 63 = .ok (.aload_n 0, 1) := by decide +kernel
theorem dX6_count_64 : decode cX6_count 64 = .ok (.getfield 76, 3) := by decide +kernel
theorem dX6_count_67 : decode cX6_count 67 = .ok (.goto 25, 3) := by decide +kernel
theorem dX6_count_70 : decode cX6_count 70 = .ok (.iload_n 1, 1) := by decide +kernel
theorem dX6_count_71 : decode cX6_count 71 = .ok (.iconst 5, 1) := by decide +kernel
theorem dX6_count_72 : decode cX6_count 72 = .ok (.bipush 7, 2) := by decide +kernel
theorem dX6_count_74 : decode cX6_count 74 = .ok (.invokestatic 61, 3) := by decide +kernel
theorem dX6_count_77 : decode cX6_count 77 = .ok (.ifCond .eq 14, 3) := by decide +kernel
theorem dX6_count_80 : decode cX6_count 80 = .ok (.aload_n 0, 1) := by decide +kernel
theorem dX6_count_81 : decode cX6_count 81 = .ok (.getfield 27, 3) := by decide +kernel
theorem dX6_count_84 : decode cX6_count 84 = .ok (.iload_n 1, 1) := by decide +kernel
theorem dX6_count_85 : decode cX6_count 85 = .ok (.iconst 5, 1) := by decide +kernel
theorem dX6_count_86 : decode cX6_count 86 = .ok (.isub, 1) := by decide +kernel
theorem dX6_count_87 : decode cX6_count 87 = .ok (.iaload, 1) := by decide +kernel
theorem dX6_count_88 : decode cX6_count 88 = .ok (.goto 4, 3) := by decide +kernel
theorem dX6_count_91 : decode cX6_count 91 = .ok (.iconst (-1), 1) := by decide +kernel
theorem dX6_count_92 : decode cX6_count 92 = .ok (.ireturn, 1) := by decide +kernel
theorem dX6_trace_0 : decode cX6_trace 0 = .ok (.aload_n 0, 1) := by decide +kernel
theorem dX6_trace_1 : decode cX6_trace 1 = .ok (.iconst 0, 1) := by decide +kernel
theorem dX6_trace_2 : decode cX6_trace 2 = .ok (.putfield 54, 3) := by decide +kernel
theorem dX6_trace_5 : decode cX6_trace 5 = .ok (.aload_n 0, 1) := by decide +kernel
theorem dX6_trace_6 : decode cX6_trace 6 = .ok (.getfield 259, 3) := by decide +kernel
theorem dX6_trace_9 : decode cX6_trace 9 = .ok (.lreturn, 1) := by decide +kernel
