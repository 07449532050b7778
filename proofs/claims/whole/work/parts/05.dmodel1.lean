theorem dX6_init_0 : decode cX6_init 0 = .ok (.aload_n 0, 1) := by decide +kernel
theorem dX6_init_1 : decode cX6_init 1 = .ok (.invokespecial 1, 3) := by decide +kernel
theorem dX6_init_4 : decode cX6_init 4 = .ok (.aload_n 0, 1) := by decide +kernel
theorem dX6_init_5 : decode cX6_init 5 = .ok (.sipush 264, 3) := by decide +kernel
theorem dX6_init_8 : decode cX6_init 8 = .ok (.newarray .int, 2) := by decide +kernel
theorem dX6_init_10 : decode cX6_init 10 = .ok (.putfield 7, 3) := by decide +kernel
theorem dX6_init_13 : decode cX6_init 13 = .ok (.aload_n 0, 1) := by decide +kernel
theorem dX6_init_14 : decode cX6_init 14 = .ok (.sipush 528, 3) := by decide +kernel
theorem dX6_init_17 : decode cX6_init 17 = .ok (.newarray .int, 2) := by decide +kernel
theorem dX6_init_19 : decode cX6_init 19 = .ok (.putfield 13, 3) := by decide +kernel
theorem dX6_init_22 : decode cX6_init 22 = .ok (.aload_n 0, 1) := by decide +kernel
theorem dX6_init_23 : decode cX6_init 23 = .ok (.iconst 2, 1) := by decide +kernel
theorem dX6_init_24 : decode cX6_init 24 = .ok (.newarray .boolean, 2) := by decide +kernel
theorem dX6_init_26 : decode cX6_init 26 = .ok (.putfield 16, 3) := by decide +kernel
theorem dX6_init_29 : decode cX6_init 29 = .ok (.aload_n 0, 1) := by decide +kernel
theorem dX6_init_30 : decode cX6_init 30 = .ok (.bipush 6, 2) := by decide +kernel
theorem dX6_init_32 : decode cX6_init 32 = .ok (.newarray .long, 2) := by decide +kernel
theorem dX6_init_34 : decode cX6_init 34 = .ok (.putfield 20, 3) := by decide +kernel
theorem dX6_init_37 : decode cX6_init 37 = .ok (.aload_n 0, 1) := by decide +kernel
theorem dX6_init_38 : decode cX6_init 38 = .ok (.sipush 400, 3) := by decide +kernel
theorem dX6_init_41 : decode cX6_init 41 = .ok (.newarray .int, 2) := by decide +kernel
theorem dX6_init_43 : decode cX6_init 43 = .ok (.putfield 24, 3) := by decide +kernel
theorem dX6_init_46 : decode cX6_init 46 = .ok (.aload_n 0, 1) := by decide +kernel
theorem dX6_init_47 : decode cX6_init 47 = .ok (.bipush 6, 2) := by decide +kernel
theorem dX6_init_49 : decode cX6_init 49 = .ok (.newarray .int, 2) := by decide +kernel
theorem dX6_init_51 : decode cX6_init 51 = .ok (.putfield 27, 3) := by decide +kernel
theorem dX6_init_54 : decode cX6_init 54 = .ok (.aload_n 0, 1) := by decide +kernel
theorem dX6_init_55 : decode cX6_init 55 = .ok (.bipush 36, 2) := by decide +kernel
theorem dX6_init_57 : decode cX6_init 57 = .ok (.newarray .int, 2) := by decide +kernel
theorem dX6_init_59 : decode cX6_init 59 = .ok (.putfield 30, 3) := by decide +kernel
theorem dX6_init_62 : decode cX6_init 62 = .ok (.aload_n 0, 1) := by decide +kernel
theorem dX6_init_63 : decode cX6_init 63 = .ok (.bipush 48, 2) := by decide +kernel
theorem dX6_init_65 : decode cX6_init 65 = .ok (.newarray .int, 2) := by decide +kernel
theorem dX6_init_67 : decode cX6_init 67 = .ok (.putfield 33, 3) := by decide +kernel
theorem dX6_init_70 : decode cX6_init 70 = .ok (.aload_n 0, 1) := by decide +kernel
theorem dX6_init_71 : decode cX6_init 71 = .ok (.bipush 6, 2) := by decide +kernel
theorem dX6_init_73 : decode cX6_init 73 = .ok (.newarray .int, 2) := by decide +kernel
theorem dX6_init_75 : decode cX6_init 75 = .ok (.putfield 36, 3) := by decide +kernel
theorem dX6_init_78 : decode cX6_init 78 = .ok (.aload_n 0, 1) := by decide +kernel
theorem dX6_init_79 : decode cX6_init 79 = .ok (.bipush 8, 2) := by decide +kernel
theorem dX6_init_81 : decode cX6_init 81 = .ok (.newarray .int, 2) := by decide +kernel
theorem dX6_init_83 : decode cX6_init 83 = .ok (.putfield 39, 3) := by decide +kernel
theorem dX6_init_86 : decode cX6_init 86 = .ok (.aload_n 0, 1) := by decide +kernel
theorem dX6_init_87 : decode cX6_init 87 = .ok (.sipush 400, 3) := by decide +kernel
theorem dX6_init_90 : decode cX6_init 90 = .ok (.newarray .long, 2) := by decide +kernel
theorem dX6_init_92 : decode cX6_init 92 = .ok (.putfield 42, 3) := by decide +kernel
theorem dX6_init_95 : decode cX6_init 95 = .ok (.aload_n 0, 1) := by decide +kernel
theorem dX6_init_96 : decode cX6_init 96 = .ok (.bipush 100, 2) := by decide +kernel
theorem dX6_init_98 : decode cX6_init 98 = .ok (.newarray .long, 2) := by decide +kernel
theorem dX6_init_100 : decode cX6_init 100 = .ok (.putfield 45, 3) := by decide +kernel
theorem dX6_init_103 : decode cX6_init 103 = .ok (.aload_n 0, 1) := by decide +kernel
theorem dX6_init_104 : decode cX6_init 104 = .ok (.bipush 100, 2) := by decide +kernel
theorem dX6_init_106 : decode cX6_init 106 = .ok (.newarray .int, 2) := by decide +kernel
theorem dX6_init_108 : decode cX6_init 108 = .ok (.putfield 48, 3) := by decide +kernel
theorem dX6_init_111 : decode cX6_init 111 = .ok (.aload_n 0, 1) := by decide +kernel
theorem dX6_init_112 : decode cX6_init 112 = .ok (.bipush 20, 2) := by decide +kernel
theorem dX6_init_114 : decode cX6_init 114 = .ok (.newarray .int, 2) := by decide +kernel
theorem dX6_init_116 : decode cX6_init 116 = .ok (.putfield 51, 3) := by decide +kernel
theorem dX6_init_119 : decode cX6_init 119 = .ok (.aload_n 0, 1) := by decide +kernel
theorem dX6_init_120 : decode cX6_init 120 = .ok (.getfield 27, 3) := by decide +kernel
theorem dX6_init_123 : decode cX6_init 123 = .ok (.iconst 0, 1) := by decide +kernel
theorem dX6_init_124 : decode cX6_init 124 = .ok (.iconst 2, 1) := by decide +kernel
theorem dX6_init_125 : decode cX6_init 125 = .ok (.iastore, 1) := by decide +kernel
theorem dX6_init_126 : decode cX6_init 126 = .ok (.aload_n 0, 1) := by decide +kernel
theorem dX6_init_127 : decode cX6_init 127 = .ok (.getfield 27, 3) := by decide +kernel
theorem dX6_init_130 : decode cX6_init 130 = .ok (.iconst 1, 1) := by decide +kernel
theorem dX6_init_131 : decode cX6_init 131 = .ok (.bipush 6, 2) := by decide +kernel
theorem dX6_init_133 : decode cX6_init 133 = .ok (.iastore, 1) := by decide +kernel
theorem dX6_init_134 : decode cX6_init 134 = .ok (.aload_n 0, 1) := by decide +kernel
theorem dX6_init_135 : decode cX6_init 135 = .ok (.getfield 27, 3) := by decide +kernel
theorem dX6_init_138 : decode cX6_init 138 = .ok (.iconst 2, 1) := by decide +kernel
theorem dX6_init_139 : decode cX6_init 139 = .ok (.iconst 2, 1) := by decide +kernel
theorem dX6_init_140 : decode cX6_init 140 = .ok (.iastore, 1) := by decide +kernel
theorem dX6_init_141 : decode cX6_init 141 = .ok (.aload_n 0, 1) := by decide +kernel
theorem dX6_init_142 : decode cX6_init 142 = .ok (.getfield 39, 3) := by decide +kernel
theorem dX6_init_145 : decode cX6_init 145 = .ok (.iconst 0, 1) := by decide +kernel
theorem dX6_init_146 : decode cX6_init 146 = .ok (.iconst 2, 1) := by decide +kernel
theorem dX6_init_147 : decode cX6_init 147 = .ok (.iastore, 1) := by decide +kernel
theorem dX6_init_148 : decode cX6_init 148 = .ok (.aload_n 0, 1) := by decide +kernel
theorem dX6_init_149 : decode cX6_init 149 = .ok (.getfield 39, 3) := by decide +kernel
theorem dX6_init_152 : decode cX6_init 152 = .ok (.iconst 1, 1) := by decide +kernel
theorem dX6_init_153 : decode cX6_init 153 = .ok (.bipush 6, 2) := by decide +kernel
theorem dX6_init_155 : decode cX6_init 155 = .ok (.iastore, 1) := by decide +kernel
theorem dX6_init_156 : decode cX6_init 156 = .ok (.aload_n 0, 1) := by decide +kernel
theorem dX6_init_157 : decode cX6_init 157 = .ok (.getfield 39, 3) := by decide +kernel
theorem dX6_init_160 : decode cX6_init 160 = .ok (.iconst 2, 1) := by decide +kernel
theorem dX6_init_161 : decode cX6_init 161 = .ok (.iconst 5, 1) := by decide +kernel
theorem dX6_init_162 : decode cX6_init 162 = .ok (.iastore, 1) := by decide +kernel
theorem dX6_init_163 : decode cX6_init 163 = .ok (.aload_n 0, 1) := by decide +kernel
theorem dX6_init_164 : decode cX6_init 164 = .ok (.getfield 39, 3) := by decide +kernel
theorem dX6_init_167 : decode cX6_init 167 = .ok (.iconst 3, 1) := by decide +kernel
theorem dX6_init_168 : decode cX6_init 168 = .ok (.iconst 1, 1) := by decide +kernel
theorem dX6_init_169 : decode cX6_init 169 = .ok (.iastore, 1) := by decide +kernel
theorem dX6_init_170 : decode cX6_init 170 = .ok (.aload_n 0, 1) := by decide +kernel
theorem dX6_init_171 : decode cX6_init 171 = .ok (.getfield 39, 3) := by decide +kernel
theorem dX6_init_174 : decode cX6_init 174 = .ok (.iconst 4, 1) := by decide +kernel
theorem dX6_init_175 : decode cX6_init 175 = .ok (.bipush 100, 2) := by decide +kernel
theorem dX6_init_177 : decode cX6_init 177 = .ok (.iastore, 1) := by decide +kernel
theorem dX6_init_178 : decode cX6_init 178 = .ok (.aload_n 0, 1) := by decide +kernel
theorem dX6_init_179 : decode cX6_init 179 = .ok (.getfield 39, 3) := by decide +kernel
theorem dX6_init_182 : decode cX6_init 182 = .ok (.iconst 5, 1) := by decide +kernel
theorem dX6_init_183 : decode cX6_init 183 = .ok (.bipush 20, 2) := by decide +kernel
theorem dX6_init_185 : decode cX6_init 185 = .ok (.iastore, 1) := by decide +kernel
theorem dX6_init_186 : decode cX6_init 186 = .ok (.aload_n 0, 1) := by decide +kernel
theorem dX6_init_187 : decode cX6_init 187 = .ok (.getfield 39, 3) := by decide +kernel
theorem dX6_init_190 : decode cX6_init 190 = .ok (.bipush 6, 2) := by decide +kernel
theorem dX6_init_192 : decode cX6_init 192 = .ok (.iconst 1, 1) := by decide +kernel
theorem dX6_init_193 : decode cX6_init 193 = .ok (.iastore, 1) := by decide +kernel
theorem dX6_init_194 : decode cX6_init 194 = .ok (.aload_n 0, 1) := by decide +kernel
theorem dX6_init_195 : decode cX6_init 195 = .ok (.getfield 39, 3) := by decide +kernel
theorem dX6_init_198 : decode cX6_init 198 = .ok (.bipush 7, 2) := by decide +kernel
theorem dX6_init_200 : decode cX6_init 200 = .ok (.bipush 6, 2) := by decide +kernel
theorem dX6_init_202 : decode cX6_init 202 = .ok (.iastore, 1) := by decide +kernel
theorem dX6_init_203 : decode cX6_init 203 = .ok (.aload_n 0, 1) := by decide +kernel
theorem dX6_init_204 : decode cX6_init 204 = .ok (.getfield 7, 3) := by decide +kernel
theorem dX6_init_207 : decode cX6_init 207 = .ok (.sipush 263, 3) := by decide +kernel
theorem dX6_init_210 : decode cX6_init 210 = .ok (.iconst 1, 1) := by decide +kernel
theorem dX6_init_211 : decode cX6_init 211 = .ok (.iastore, 1) := by decide +kernel
theorem dX6_init_212 : decode cX6_init 212 = .ok (.iconst 0, 1) := by decide +kernel
theorem dX6_init_213 : decode cX6_init 213 = .ok (.istore_n 1, 1) := by decide +kernel
theorem dX6_init_214 : decode cX6_init 214 = .ok (.iload_n 1, 1) := by decide +kernel
theorem dX6_init_215 : decode cX6_init 215 = .ok (.bipush 20, 2) := by decide +kernel
theorem dX6_init_217 : decode cX6_init 217 = .ok (.if_icmp .ge 81, 3) := by decide +kernel
theorem dX6_init_220 : decode cX6_init 220 = .ok (.aload_n 0, 1) := by decide +kernel
theorem dX6_init_221 : decode cX6_init 221 = .ok (.getfield 42, 3) := by decide +kernel
theorem dX6_init_224 : decode cX6_init 224 = .ok (.bipush 20, 2) := by decide +kernel
theorem dX6_init_226 : decode cX6_init 226 = .ok (.iload_n 1, 1) := by decide +kernel
theorem dX6_init_227 : decode cX6_init 227 = .ok (.imul, 1) := by decide +kernel
theorem dX6_init_228 : decode cX6_init 228 = .ok (.lconst 1, 1) := by decide +kernel
theorem dX6_init_229 : decode cX6_init 229 = .ok (.lastore, 1) := by decide +kernel
theorem dX6_init_230 : decode cX6_init 230 = .ok (.iconst 1, 1) := by decide +kernel
theorem dX6_init_231 : decode cX6_init 231 = .ok (.istore_n 2, 1) := by decide +kernel
theorem dX6_init_232 : decode cX6_init 232 = .ok (.iload_n 2, 1) := by decide +kernel
theorem dX6_init_233 : decode cX6_init 233 = .ok (.iload_n 1, 1) := by decide +kernel
theorem dX6_init_234 : decode cX6_init 234 = .ok (.if_icmp .gt 58, 3) := by decide +kernel
theorem dX6_init_237 : decode cX6_init 237 = .ok (.aload_n 0, 1) := by decide +kernel
theorem dX6_init_238 : decode cX6_init 238 = .ok (.getfield 42, 3) := by decide +kernel
theorem dX6_init_241 : decode cX6_init 241 = .ok (.bipush 20, 2) := by decide +kernel
theorem dX6_init_243 : decode cX6_init 243 = .ok (.iload_n 1, 1) := by decide +kernel
theorem dX6_init_244 : decode cX6_init 244 = .ok (.imul, 1) := by decide +kernel
theorem dX6_init_245 : decode cX6_init 245 = .ok (.iload_n 2, 1) := by decide +kernel
theorem dX6_init_246 : decode cX6_init 246 = .ok (.iadd, 1) := by decide +kernel
theorem dX6_init_247 : decode cX6_init 247 = .ok (.aload_n 0, 1) := by decide +kernel
theorem dX6_init_248 : decode cX6_init 248 = .ok (.getfield 42, 3) := by decide +kernel
theorem dX6_init_251 : decode cX6_init 251 = .ok (.bipush 20, 2) := by decide +kernel
theorem dX6_init_253 : decode cX6_init 253 = .ok (.iload_n 1, 1) := by decide +kernel
theorem dX6_init_254 : decode cX6_init 254 = .ok (.iconst 1, 1) := by decide +kernel
theorem dX6_init_255 : decode cX6_init 255 = .ok (.isub, 1) := by decide +kernel
theorem dX6_init_256 : decode cX6_init 256 = .ok (.imul, 1) := by decide +kernel
theorem dX6_init_257 : decode cX6_init 257 = .ok (.iload_n 2, 1) := by decide +kernel
theorem dX6_init_258 : decode cX6_init 258 = .ok (.iadd, 1) := by decide +kernel
theorem dX6_init_259 : decode cX6_init 259 = .ok (.iconst 1, 1) := by decide +kernel
theorem dX6_init_260 : decode cX6_init 260 = .ok (.isub, 1) := by decide +kernel
theorem dX6_init_261 : decode cX6_init 261 = .ok (.laload, 1) := by decide +kernel
theorem dX6_init_262 : decode cX6_init 262 = .ok (.iload_n 2, 1) := by decide +kernel
theorem dX6_init_263 : decode cX6_init 263 = .ok (.iload_n 1, 1) := by decide +kernel
theorem dX6_init_264 : decode cX6_init 264 = .ok (.if_icmp .ge 19, 3) := by decide +kernel
theorem dX6_init_267 : decode cX6_init 267 = .ok (.aload_n 0, 1) := by decide +kernel
theorem dX6_init_268 : decode cX6_init 268 = .ok (.getfield 42, 3) := by decide +kernel
theorem dX6_init_271 : decode cX6_init 271 = .ok (.bipush 20, 2) := by decide +kernel
theorem dX6_init_273 : decode cX6_init 273 = .ok (.iload_n 1, 1) := by decide +kernel
theorem dX6_init_274 : decode cX6_init 274 = .ok (.iconst 1, 1) := by decide +kernel
theorem dX6_init_275 : decode cX6_init 275 = .ok (.isub, 1) := by decide +kernel
theorem dX6_init_276 : decode cX6_init 276 = .ok (.imul, 1) := by decide +kernel
theorem dX6_init_277 : decode cX6_init 277 = .ok (.iload_n 2, 1) := by decide +kernel
theorem dX6_init_278 : decode cX6_init 278 = .ok (.iadd, 1) := by decide +kernel
theorem dX6_init_279 : decode cX6_init 279 = .ok (.laload, 1) := by decide +kernel
theorem dX6_init_280 : decode cX6_init 280 = .ok (.goto 4, 3) := by decide +kernel
theorem dX6_init_283 : decode cX6_init 283 = .ok (.lconst 0, 1) := by decide +kernel
theorem dX6_init_284 : decode cX6_init 284 = .ok (.ladd, 1) := by decide +kernel
theorem dX6_init_285 : decode cX6_init 285 = .ok (.lastore, 1) := by decide +kernel
theorem dX6_init_286 : decode cX6_init 286 = .ok (.iinc 2 1, 3) := by decide +kernel
theorem dX6_init_289 : decode cX6_init 289 = .ok (.goto (-57), 3) := by decide +kernel
theorem dX6_init_292 : decode cX6_init 292 = .ok (.iinc 1 1, 3) := by decide +kernel
theorem dX6_init_295 : decode cX6_init 295 = .ok (.goto (-81), 3) := by decide +kernel
theorem dX6_init_298 : decode cX6_init 298 = .ok (.iconst 0, 1) := by decide +kernel
theorem dX6_init_299 : decode cX6_init 299 = .ok (.istore_n 1, 1) := by decide +kernel
theorem dX6_init_300 : decode cX6_init 300 = .ok (.iload_n 1, 1) := by decide +kernel
theorem dX6_init_301 : decode cX6_init 301 = .ok (.bipush 6, 2) := by decide +kernel
theorem dX6_init_303 : decode cX6_init 303 = .ok (.if_icmp .ge 16, 3) := by decide +kernel
theorem dX6_init_306 : decode cX6_init 306 = .ok (.aload_n 0, 1) := by decide +kernel
theorem dX6_init_307 : decode cX6_init 307 = .ok (.getfield 36, 3) := by decide +kernel
theorem dX6_init_310 : decode cX6_init 310 = .ok (.iload_n 1, 1) := by decide +kernel
theorem dX6_init_311 : decode cX6_init 311 = .ok (.iconst 1, 1) := by decide +kernel
theorem dX6_init_312 : decode cX6_init 312 = .ok (.iastore, 1) := by decide +kernel
theorem dX6_init_313 : decode cX6_init 313 = .ok (.iinc 1 1, 3) := by decide +kernel
theorem dX6_init_316 : decode cX6_init 316 = .ok (.goto (-16), 3) := by decide +kernel
theorem dX6_init_319 : decode cX6_init 319 = .ok (.return_, 1) := by decide +kernel
theorem dX6_in_0 : decode cX6_in 0 = .ok (.iload_n 0, 1) := by decide +kernel
theorem dX6_in_1 : decode cX6_in 1 = .ok (.iload_n 1, 1) := by decide +kernel
theorem dX6_in_2 : decode cX6_in 2 = .ok (.if_icmp .lt 12, 3) := by decide +kernel
theorem dX6_in_5 : decode cX6_in 5 = .ok (.iload_n 0, 1) := by decide +kernel
theorem dX6_in_6 : decode cX6_in 6 = .ok (.iload_n 2, 1) := by decide +kernel
theorem dX6_in_7 : decode cX6_in 7 = .ok (.if_icmp .gt 7, 3) := by decide +kernel
theorem dX6_in_10 : decode cX6_in 10 = .ok (.iconst 1, 1) := by decide +kernel
theorem dX6_in_11 : decode cX6_in 11 = .ok (.goto 4, 3) := by decide +kernel
theorem dX6_in_14 : decode cX6_in 14 = .ok (.iconst 0, 1) := by decide +kernel
theorem dX6_in_15 : decode cX6_in 15 = .ok (.ireturn, 1) := by decide +kernel
set_option maxRecDepth 20000 in
theorem ggX6_isStall_X6_in : GoodIn wsX6_isStall wsX6_in := goodIn_r _ [5] (by decide +kernel) (by decide +kernel)
set_option maxRecDepth 20000 in
theorem gX6_isStall_X6_in : GoodIn wsX6_isStall (va_wsS RX6 61 yX6_in wsX6_in) := goodIn_app (goodIn_of _ (by decide +kernel)) ggX6_isStall_X6_in
theorem dX6_isStall_0 : decode cX6_isStall 0 = .ok (.iload_n 1, 1) := by decide +kernel
theorem dX6_isStall_1 : decode cX6_isStall 1 = .ok (.iconst 0, 1) := by decide +kernel
theorem dX6_isStall_2 : decode cX6_isStall 2 = .ok (.aload_n 0, 1) := by decide +kernel
theorem dX6_isStall_3 : decode cX6_isStall 3 = .ok (.getfield 58, 3) := by decide +kernel
theorem dX6_isStall_6 : decode cX6_isStall 6 = .ok (.iconst 1, 1) := by decide +kernel
theorem dX6_isStall_7 : decode cX6_isStall 7 = .ok (.isub, 1) := by decide +kernel
theorem dX6_isStall_8 : decode cX6_isStall 8 = .ok (.invokestatic 61, 3) := by decide +kernel
theorem dX6_isStall_11 : decode cX6_isStall 11 = .ok (.ireturn, 1) := by decide +kernel
set_option maxRecDepth 20000 in
theorem ggX6_isWay_X6_in : GoodIn wsX6_isWay wsX6_in := goodIn_r _ [5] (by decide +kernel) (by decide +kernel)
set_option maxRecDepth 20000 in
theorem gX6_isWay_X6_in : GoodIn wsX6_isWay (va_wsS RX6 61 yX6_in wsX6_in) := goodIn_app (goodIn_of _ (by decide +kernel)) ggX6_isWay_X6_in
theorem dX6_isWay_0 : decode cX6_isWay 0 = .ok (.iload_n 1, 1) := by decide +kernel
theorem dX6_isWay_1 : decode cX6_isWay 1 = .ok (.iconst 0, 1) := by decide +kernel
theorem dX6_isWay_2 : decode cX6_isWay 2 = .ok (.aload_n 0, 1) := by decide +kernel
theorem dX6_isWay_3 : decode cX6_isWay 3 = .ok (.getfield 65, 3) := by decide +kernel
theorem dX6_isWay_6 : decode cX6_isWay 6 = .ok (.iconst 1, 1) := by decide +kernel
theorem dX6_isWay_7 : decode cX6_isWay 7 = .ok (.isub, 1) := by decide +kernel
theorem dX6_isWay_8 : decode cX6_isWay 8 = .ok (.invokestatic 61, 3) := by decide +kernel
theorem dX6_isWay_11 : decode cX6_isWay 11 = .ok (.ireturn, 1) := by decide +kernel
set_option maxRecDepth 20000 in
theorem ggX6_isSort_X6_in : GoodIn wsX6_isSort wsX6_in := goodIn_r _ [4] (by decide +kernel) (by decide +kernel)
set_option maxRecDepth 20000 in
theorem gX6_isSort_X6_in : GoodIn wsX6_isSort (va_wsS RX6 61 yX6_in wsX6_in) := goodIn_app (goodIn_of _ (by decide +kernel)) ggX6_isSort_X6_in
theorem dX6_isSort_0 : decode cX6_isSort 0 = .ok (.iload_n 0, 1) := by decide +kernel
theorem dX6_isSort_1 : decode cX6_isSort 1 = .ok (.iconst 0, 1) := by decide +kernel
theorem dX6_isSort_2 : decode cX6_isSort 2 = .ok (.iconst 3, 1) := by decide +kernel
theorem dX6_isSort_3 : decode cX6_isSort 3 = .ok (.invokestatic 61, 3) := by decide +kernel
theorem dX6_isSort_6 : decode cX6_isSort 6 = .ok (.ireturn, 1) := by decide +kernel
theorem dX6_floor_0 : decode cX6_floor 0 = .ok (.iload_n 0, 1) := by decide +kernel
theorem dX6_floor_1 : decode cX6_floor 1 = .ok (.iload_n 1, 1) := by decide +kernel
theorem dX6_floor_2 : decode cX6_floor 2 = .ok (.idiv, 1) := by decide +kernel
theorem dX6_floor_3 : decode cX6_floor 3 = .ok (.istore_n 2, 1) := by decide +kernel
theorem dX6_floor_4 : decode cX6_floor 4 = .ok (.iload_n 0, 1) := by decide +kernel
theorem dX6_floor_5 : decode cX6_floor 5 = .ok (.iload_n 1, 1) := by decide +kernel
theorem dX6_floor_6 : decode cX6_floor 6 = .ok (.irem, 1) := by decide +kernel
theorem dX6_floor_7 : decode cX6_floor 7 = .ok (.ifCond .ge 9, 3) := by decide +kernel
theorem dX6_floor_10 : decode cX6_floor 10 = .ok (.iload_n 2, 1) := by decide +kernel
theorem dX6_floor_11 : decode cX6_floor 11 = .ok (.iconst 1, 1) := by decide +kernel
theorem dX6_floor_12 : decode cX6_floor 12 = .ok (.isub, 1) := by decide +kernel
theorem dX6_floor_13 : decode cX6_floor 13 = .ok (.goto 4, 3) := by decide +kernel
theorem dX6_floor_16 : decode cX6_floor 16 = .ok (.iload_n 2, 1) := by decide +kernel
theorem dX6_floor_17 : decode cX6_floor 17 = .ok (.ireturn, 1) := by decide +kernel
theorem dX6_size_0 : decode cX6_size 0 = .ok (.lload_n 0, 1) := by decide +kernel
theorem dX6_size_1 : decode cX6_size 1 = .ok (.lconst 0, 1) := by decide +kernel
theorem dX6_size_2 : decode cX6_size 2 = .ok (.lcmp, 1) := by decide +kernel
theorem dX6_size_3 : decode cX6_size 3 = .ok (.ifCond .ge 8, 3) := by decide +kernel
theorem dX6_size_6 : decode cX6_size 6 = .ok (.lload_n 0, 1) := by decide +kernel
theorem dX6_size_7 : decode cX6_size 7 = .ok (.lneg, 1) := by decide +kernel
theorem dX6_size_8 : decode cX6_size 8 = .ok (.goto 4, 3) := by decide +kernel
theorem dX6_size_11 : decode cX6_size 11 = .ok (.lload_n 0, 1) := by decide +kernel
theorem dX6_size_12 : decode cX6_size 12 = .ok (.lreturn, 1) := by decide +kernel
set_option maxRecDepth 20000 in
theorem ggX6_gcd_X6_size : GoodIn wsX6_gcd wsX6_size := goodIn_r _ [4] (by decide +kernel) (by decide +kernel)
set_option maxRecDepth 20000 in
theorem gX6_gcd_X6_size : GoodIn wsX6_gcd (va_wsS RX6 68 yX6_size wsX6_size) := goodIn_app (goodIn_of _ (by decide +kernel)) ggX6_gcd_X6_size
theorem dX6_gcd_0 : decode cX6_gcd 0 = .ok (.lload_n 0, 1) := by decide +kernel
theorem dX6_gcd_1 : decode cX6_gcd 1 = .ok (.invokestatic 68, 3) := by decide +kernel
theorem dX6_gcd_4 : decode cX6_gcd 4 = .ok (.lstore 4, 2) := by decide +kernel
theorem dX6_gcd_6 : decode cX6_gcd 6 = .ok (.lload_n 2, 1) := by decide +kernel
theorem dX6_gcd_7 : decode cX6_gcd 7 = .ok (.lstore 6, 2) := by decide +kernel
theorem dX6_gcd_9 : decode cX6_gcd 9 = .ok (.lload 6, 2) := by decide +kernel
theorem dX6_gcd_11 : decode cX6_gcd 11 = .ok (.lconst 0, 1) := by decide +kernel
theorem dX6_gcd_12 : decode cX6_gcd 12 = .ok (.lcmp, 1) := by decide +kernel
theorem dX6_gcd_13 : decode cX6_gcd 13 = .ok (.ifCond .eq 21, 3) := by decide +kernel
theorem dX6_gcd_16 : decode cX6_gcd 16 = .ok (.lload 4, 2) := by decide +kernel
theorem dX6_gcd_18 : decode cX6_gcd 18 = .ok (.lload 6, 2) := by decide +kernel
theorem dX6_gcd_20 : decode cX6_gcd 20 = .ok (.lrem, 1) := by decide +kernel
theorem dX6_gcd_21 : decode cX6_gcd 21 = .ok (.lstore 8, 2) := by decide +kernel
theorem dX6_gcd_23 : decode cX6_gcd 23 = .ok (.lload 6, 2) := by decide +kernel
theorem dX6_gcd_25 : decode cX6_gcd 25 = .ok (.lstore 4, 2) := by decide +kernel
theorem dX6_gcd_27 : decode cX6_gcd 27 = .ok (.lload 8, 2) := by decide +kernel
theorem dX6_gcd_29 : decode cX6_gcd 29 = .ok (.lstore 6, 2) := by decide +kernel
theorem dX6_gcd_31 : decode cX6_gcd 31 = .ok (.goto (-22), 3) := by decide +kernel
theorem dX6_gcd_34 : decode cX6_gcd 34 = .ok (.lload 4, 2) := by decide +kernel
theorem dX6_gcd_36 : decode cX6_gcd 36 = .ok (.lreturn, 1) := by decide +kernel
set_option maxRecDepth 20000 in
theorem ggX6_part_X6_gcd : GoodIn wsX6_part wsX6_gcd := goodIn_r _ [4, 5, 6, 3, 7] (by decide +kernel) (by decide +kernel)
set_option maxRecDepth 20000 in
theorem gX6_part_X6_gcd : GoodIn wsX6_part (va_wsS RX6 72 yX6_gcd wsX6_gcd) := goodIn_app (goodIn_of _ (by decide +kernel)) ggX6_part_X6_gcd
theorem dX6_part_0 : decode cX6_part 0 = .ok (.lload_n 0, 1) := by decide +kernel
theorem dX6_part_1 : decode cX6_part 1 = .ok (.lload_n 2, 1) := by decide +kernel
theorem dX6_part_2 : decode cX6_part 2 = .ok (.invokestatic 72, 3) := by decide +kernel
theorem dX6_part_5 : decode cX6_part 5 = .ok (.lstore 5, 2) := by decide +kernel
theorem dX6_part_7 : decode cX6_part 7 = .ok (.iload 4, 2) := by decide +kernel
theorem dX6_part_9 : decode cX6_part 9 = .ok (.ifCond .ne 10, 3) := by decide +kernel
theorem dX6_part_12 : decode cX6_part 12 = .ok (.lload_n 0, 1) := by decide +kernel
theorem dX6_part_13 : decode cX6_part 13 = .ok (.lload 5, 2) := by decide +kernel
theorem dX6_part_15 : decode cX6_part 15 = .ok (.ldiv, 1) := by decide +kernel
theorem dX6_part_16 : decode cX6_part 16 = .ok (.goto 7, 3) := by decide +kernel
theorem dX6_part_19 : decode cX6_part 19 = .ok (.lload_n 2, 1) := by decide +kernel
theorem dX6_part_20 : decode cX6_part 20 = .ok (.lload 5, 2) := by decide +kernel
theorem dX6_part_22 : decode cX6_part 22 = .ok (.ldiv, 1) := by decide +kernel
theorem dX6_part_23 : decode cX6_part 23 = .ok (.lreturn, 1) := by decide +kernel
theorem dX6_power_0 : decode cX6_power 0 = .ok (.lconst 1, 1) := by decide +kernel
theorem dX6_power_1 : decode cX6_power 1 = .ok (.lstore_n 3, 1) := by decide +kernel
theorem dX6_power_2 : decode cX6_power 2 = .ok (.iconst 0, 1) := by decide +kernel
theorem dX6_power_3 : decode cX6_power 3 = .ok (.istore 5, 2) := by decide +kernel
theorem dX6_power_5 : decode cX6_power 5 = .ok (.iload 5, 2) := by decide +kernel
theorem dX6_power_7 : decode cX6_power 7 = .ok (.iload_n 2, 1) := by decide +kernel
theorem dX6_power_8 : decode cX6_power 8 = .ok (.if_icmp .ge 13, 3) := by decide +kernel
theorem dX6_power_11 : decode cX6_power 11 = .ok (.lload_n 3, 1) := by decide +kernel
theorem dX6_power_12 : decode cX6_power 12 = .ok (.lload_n 0, 1) := by decide +kernel
theorem dX6_power_13 : decode cX6_power 13 = .ok (.lmul, 1) := by decide +kernel
theorem dX6_power_14 : decode cX6_power 14 = .ok (.lstore_n 3, 1) := by decide +kernel
theorem dX6_power_15 : decode cX6_power 15 = .ok (.iinc 5 1, 3) := by decide +kernel
theorem dX6_power_18 : decode cX6_power 18 = .ok (.goto (-13), 3) := by decide +kernel
theorem dX6_power_21 : decode cX6_power 21 = .ok (.lload_n 3, 1) := by decide +kernel
theorem dX6_power_22 : decode cX6_power 22 = .ok (.lreturn, 1) := by decide +kernel
set_option maxRecDepth 20000 in
theorem ggX6_type_X6_in : GoodIn wsX6_type wsX6_in := goodIn_r _ [8] (by decide +kernel) (by decide +kernel)
set_option maxRecDepth 20000 in
theorem gX6_type_X6_in : GoodIn wsX6_type (va_wsS RX6 61 yX6_in wsX6_in) := goodIn_app (goodIn_of _ (by decide +kernel)) ggX6_type_X6_in
theorem dX6_type_0 : decode cX6_type 0 = .ok (.aload_n 0, 1) := by decide +kernel
theorem dX6_type_1 : decode cX6_type 1 = .ok (.iconst 0, 1) := by decide +kernel
theorem dX6_type_2 : decode cX6_type 2 = .ok (.putfield 54, 3) := by decide +kernel
theorem dX6_type_5 : decode cX6_type 5 = .ok (.iload_n 3, 1) := by decide +kernel
theorem dX6_type_6 : decode cX6_type 6 = .ok (.iconst 1, 1) := by decide +kernel
theorem dX6_type_7 : decode cX6_type 7 = .ok (.bipush 8, 2) := by decide +kernel
theorem dX6_type_9 : decode cX6_type 9 = .ok (.invokestatic 61, 3) := by decide +kernel
theorem dX6_type_12 : decode cX6_type 12 = .ok (.ifCond .ne 5, 3) := by decide +kernel
theorem dX6_type_15 : decode cX6_type 15 = .ok (.iconst (-1), 1) := by decide +kernel
theorem dX6_type_16 : decode cX6_type 16 = .ok (.ireturn, 1) := by decide +kernel
theorem dX6_type_17 : decode cX6_type 17 = .ok (.aload_n 0, 1) := by decide +kernel
theorem dX6_type_18 : decode cX6_type 18 = .ok (.getfield 76, 3) := by decide +kernel
theorem dX6_type_21 : decode cX6_type 21 = .ok (.iload_n 3, 1) := by decide +kernel
theorem dX6_type_22 : decode cX6_type 22 = .ok (.iadd, 1) := by decide +kernel
theorem dX6_type_23 : decode cX6_type 23 = .ok (.sipush 400, 3) := by decide +kernel
theorem dX6_type_26 : decode cX6_type 26 = .ok (.if_icmp .le 6, 3) := by decide +kernel
theorem dX6_type_29 : decode cX6_type 29 = .ok (.bipush (-3), 2) := by decide +kernel
theorem dX6_type_31 : decode cX6_type 31 = .ok (.ireturn, 1) := by decide +kernel
theorem dX6_type_32 : decode cX6_type 32 = .ok (.iload_n 3, 1) := by decide +kernel
theorem dX6_type_33 : decode cX6_type 33 = .ok (.iconst 1, 1) := by decide +kernel
theorem dX6_type_34 : decode cX6_type 34 = .ok (.isub, 1) := by decide +kernel
theorem dX6_type_35 : decode cX6_type 35 = .ok (.istore 4, 2) := by decide +kernel
theorem dX6_type_37 : decode cX6_type 37 = .ok (.iload 4, 2) := by decide +kernel
theorem dX6_type_39 : decode cX6_type 39 = .ok (.ifCond .lt 40, 3) := by decide +kernel
theorem dX6_type_42 : decode cX6_type 42 = .ok (.aload_n 0, 1) := by decide +kernel
theorem dX6_type_43 : decode cX6_type 43 = .ok (.getfield 24, 3) := by decide +kernel
theorem dX6_type_46 : decode cX6_type 46 = .ok (.aload_n 0, 1) := by decide +kernel
theorem dX6_type_47 : decode cX6_type 47 = .ok (.getfield 76, 3) := by decide +kernel
theorem dX6_type_50 : decode cX6_type 50 = .ok (.lload_n 1, 1) := by decide +kernel
theorem dX6_type_51 : decode cX6_type 51 = .ok (.bipush 8, 2) := by decide +kernel
theorem dX6_type_53 : decode cX6_type 53 = .ok (.iload 4, 2) := by decide +kernel
theorem dX6_type_55 : decode cX6_type 55 = .ok (.imul, 1) := by decide +kernel
theorem dX6_type_56 : decode cX6_type 56 = .ok (.lshr, 1) := by decide +kernel
theorem dX6_type_57 : decode cX6_type 57 = .ok (.ldc2_w 79, 3) := by decide +kernel
theorem dX6_type_60 : decode cX6_type 60 = .ok (.land, 1) := by decide +kernel
theorem dX6_type_61 : decode cX6_type 61 = .ok (.l2i, 1) := by decide +kernel
theorem dX6_type_62 : decode cX6_type 62 = .ok (.iastore, 1) := by decide +kernel
theorem dX6_type_63 : decode cX6_type 63 = .ok (.aload_n 0, 1) := by decide +kernel
theorem dX6_type_64 : decode cX6_type 64 = .ok (.dup, 1) := by decide +kernel
theorem dX6_type_65 : decode cX6_type 65 = .ok (.getfield 76, 3) := by decide +kernel
theorem dX6_type_68 : decode cX6_type 68 = .ok (.iconst 1, 1) := by decide +kernel
theorem dX6_type_69 : decode cX6_type 69 = .ok (.iadd, 1) := by decide +kernel
theorem dX6_type_70 : decode cX6_type 70 = .ok (.putfield 76, 3) := by decide +kernel
theorem dX6_type_73 : decode cX6_type 73 = .ok (.iinc 4 (-1), 3) := by decide +kernel
theorem dX6_type_76 : decode cX6_type 76 = .ok (.goto (-39), 3) := by decide +kernel
theorem dX6_type_79 : decode cX6_type 79 = .ok (.aload_n 0, 1) := by decide +kernel
theorem dX6_type_80 : decode cX6_type 80 = .ok (.getfield 76, 3) := by decide +kernel
theorem dX6_type_83 : decode cX6_type 83 = .ok (.ireturn, 1) := by decide +kernel
theorem dX6_clear_0 : decode cX6_clear 0 = .ok (.aload_n 0, 1) := by decide +kernel
theorem dX6_clear_1 : decode cX6_clear 1 = .ok (.iconst 0, 1) := by decide +kernel
theorem dX6_clear_2 : decode cX6_clear 2 = .ok (.putfield 54, 3) := by decide +kernel
theorem dX6_clear_5 : decode cX6_clear 5 = .ok (.aload_n 0, 1) := by decide +kernel
theorem dX6_clear_6 : decode cX6_clear 6 = .ok (.getfield 76, 3) := by decide +kernel
theorem dX6_clear_9 : decode cX6_clear 9 = .ok (.istore_n 1, 1) := by decide +kernel
theorem dX6_clear_10 : decode cX6_clear 10 = .ok (.aload_n 0, 1) := by decide +kernel
theorem dX6_clear_11 : decode cX6_clear 11 = .ok (.iconst 0, 1) := by decide +kernel
theorem dX6_clear_12 : decode cX6_clear 12 = .ok (.putfield 76, 3) := by decide +kernel
theorem dX6_clear_15 : decode cX6_clear 15 = .ok (.iload_n 1, 1) := by decide +kernel
theorem dX6_clear_16 : decode cX6_clear 16 = .ok (.ireturn, 1) := by decide +kernel
theorem dX6_byteAt_0 : decode cX6_byteAt 0 = .ok (.iload_n 1, 1) := by decide +kernel
theorem dX6_byteAt_1 : decode cX6_byteAt 1 = .ok (.aload_n 0, 1) := by decide +kernel
theorem dX6_byteAt_2 : decode cX6_byteAt 2 = .ok (.getfield 76, 3) := by decide +kernel
theorem dX6_byteAt_5 : decode cX6_byteAt 5 = .ok (.if_icmp .ge 12, 3) := by decide +kernel
theorem dX6_byteAt_8 : decode cX6_byteAt 8 = .ok (.aload_n 0, 1) := by decide +kernel
theorem dX6_byteAt_9 : decode cX6_byteAt 9 = .ok (.getfield 24, 3) := by decide +kernel
theorem dX6_byteAt_12 : decode cX6_byteAt 12 = .ok (.iload_n 1, 1) := by decide +kernel
theorem dX6_byteAt_13 : decode cX6_byteAt 13 = .ok (.iaload, 1) := by decide +kernel
theorem dX6_byteAt_14 : decode cX6_byteAt 14 = .ok (.goto 4, 3) := by decide +kernel
theorem dX6_byteAt_17 : decode cX6_byteAt 17 = .ok (.iconst (-1), 1) := by decide +kernel
theorem dX6_byteAt_18 : decode cX6_byteAt 18 = .ok (.ireturn, 1) := by decide +kernel
theorem dX6_add_0 : decode cX6_add 0 = .ok (.iload_n 2, 1) := by decide +kernel
theorem dX6_add_1 : decode cX6_add 1 = .ok (.ifCond .ne 7, 3) := by decide +kernel
theorem dX6_add_4 : decode cX6_add 4 = .ok (.lload_n 0, 1) := by decide +kernel
theorem dX6_add_5 : decode cX6_add 5 = .ok (.goto 11, 3) := by decide +kernel
theorem dX6_add_8 : decode cX6_add 8 = .ok (.ldc2_w 81, 3) := by decide +kernel
theorem dX6_add_11 : decode cX6_add 11 = .ok (.lload_n 0, 1) := by decide +kernel
theorem dX6_add_12 : decode cX6_add 12 = .ok (.lmul, 1) := by decide +kernel
theorem dX6_add_13 : decode cX6_add 13 = .ok (.iload_n 2, 1) := by decide +kernel
theorem dX6_add_14 : decode cX6_add 14 = .ok (.i2l, 1) := by decide +kernel
theorem dX6_add_15 : decode cX6_add 15 = .ok (.ladd, 1) := by decide +kernel
theorem dX6_add_16 : decode cX6_add 16 = .ok (.lreturn, 1) := by decide +kernel
set_option maxRecDepth 20000 in
theorem ggX6_word_X6_add : GoodIn wsX6_word wsX6_add := goodIn_r _ [4, 5] (by decide +kernel) (by decide +kernel)
set_option maxRecDepth 20000 in
theorem gX6_word_X6_add : GoodIn wsX6_word (va_wsS RX6 83 yX6_add wsX6_add) := goodIn_app (goodIn_of _ (by decide +kernel)) ggX6_word_X6_add
theorem dX6_word_0 : decode cX6_word 0 = .ok (.lconst 0, 1) := by decide +kernel
theorem dX6_word_1 : decode cX6_word 1 = .ok (.iload_n 0, 1) := by decide +kernel
theorem dX6_word_2 : decode cX6_word 2 = .ok (.invokestatic 83, 3) := by decide +kernel
theorem dX6_word_5 : decode cX6_word 5 = .ok (.iload_n 1, 1) := by decide +kernel
theorem dX6_word_6 : decode cX6_word 6 = .ok (.invokestatic 83, 3) := by decide +kernel
theorem dX6_word_9 : decode cX6_word 9 = .ok (.iload_n 2, 1) := by decide +kernel
theorem dX6_word_10 : decode cX6_word 10 = .ok (.invokestatic 83, 3) := by decide +kernel
theorem dX6_word_13 : decode cX6_word 13 = .ok (.iload_n 3, 1) := by decide +kernel
theorem dX6_word_14 : decode cX6_word 14 = .ok (.invokestatic 83, 3) := by decide +kernel
theorem dX6_word_17 : decode cX6_word 17 = .ok (.iload 4, 2) := by decide +kernel
theorem dX6_word_19 : decode cX6_word 19 = .ok (.invokestatic 83, 3) := by decide +kernel
theorem dX6_word_22 : decode cX6_word 22 = .ok (.iload 5, 2) := by decide +kernel
theorem dX6_word_24 : decode cX6_word 24 = .ok (.invokestatic 83, 3) := by decide +kernel
theorem dX6_word_27 : decode cX6_word 27 = .ok (.lreturn, 1) := by decide +kernel
set_option maxRecDepth 20000 in
theorem ggX6_wordOf_X6_word : GoodIn wsX6_wordOf wsX6_word := goodIn_r _ [7, 8, 9, 6, 10, 1] (by decide +kernel) (by decide +kernel)
set_option maxRecDepth 20000 in
theorem gX6_wordOf_X6_word : GoodIn wsX6_wordOf (va_wsS RX6 87 yX6_word wsX6_word) := goodIn_app (goodIn_of _ (by decide +kernel)) ggX6_wordOf_X6_word
theorem dX6_wordOf_0 : decode cX6_wordOf 0 = .ok (.iload_n 2, 1) := by decide +kernel
theorem dX6_wordOf_1 : decode cX6_wordOf 1 = .ok (.bipush 8, 2) := by decide +kernel
theorem dX6_wordOf_3 : decode cX6_wordOf 3 = .ok (.if_icmp .ne 47, 3) := by decide +kernel
theorem dX6_wordOf_6 : decode cX6_wordOf 6 = .ok (.lload_n 0, 1) := by decide +kernel
theorem dX6_wordOf_7 : decode cX6_wordOf 7 = .ok (.ldc2_w 81, 3) := by decide +kernel
theorem dX6_wordOf_10 : decode cX6_wordOf 10 = .ok (.ldc2_w 81, 3) := by decide +kernel
theorem dX6_wordOf_13 : decode cX6_wordOf 13 = .ok (.bipush 115, 2) := by decide +kernel
theorem dX6_wordOf_15 : decode cX6_wordOf 15 = .ok (.bipush 116, 2) := by decide +kernel
theorem dX6_wordOf_17 : decode cX6_wordOf 17 = .ok (.bipush 114, 2) := by decide +kernel
theorem dX6_wordOf_19 : decode cX6_wordOf 19 = .ok (.bipush 97, 2) := by decide +kernel
theorem dX6_wordOf_21 : decode cX6_wordOf 21 = .ok (.bipush 110, 2) := by decide +kernel
theorem dX6_wordOf_23 : decode cX6_wordOf 23 = .ok (.bipush 103, 2) := by decide +kernel
theorem dX6_wordOf_25 : decode cX6_wordOf 25 = .ok (.invokestatic 87, 3) := by decide +kernel
theorem dX6_wordOf_28 : decode cX6_wordOf 28 = .ok (.lmul, 1) := by decide +kernel
theorem dX6_wordOf_29 : decode cX6_wordOf 29 = .ok (.ldc2_w 91, 3) := by decide +kernel
theorem dX6_wordOf_32 : decode cX6_wordOf 32 = .ok (.ladd, 1) := by decide +kernel
theorem dX6_wordOf_33 : decode cX6_wordOf 33 = .ok (.lmul, 1) := by decide +kernel
theorem dX6_wordOf_34 : decode cX6_wordOf 34 = .ok (.ldc2_w 93, 3) := by decide +kernel
theorem dX6_wordOf_37 : decode cX6_wordOf 37 = .ok (.ladd, 1) := by decide +kernel
theorem dX6_wordOf_38 : decode cX6_wordOf 38 = .ok (.lcmp, 1) := by decide +kernel
theorem dX6_wordOf_39 : decode cX6_wordOf 39 = .ok (.ifCond .ne 8, 3) := by decide +kernel
theorem dX6_wordOf_42 : decode cX6_wordOf 42 = .ok (.bipush 12, 2) := by decide +kernel
theorem dX6_wordOf_44 : decode cX6_wordOf 44 = .ok (.goto 5, 3) := by decide +kernel
theorem dX6_wordOf_47 : decode cX6_wordOf 47 = .ok (.bipush (-9), 2) := by decide +kernel
theorem dX6_wordOf_49 : decode cX6_wordOf 49 = .ok (.ireturn, 1) := by decide +kernel
theorem dX6_wordOf_50 : decode cX6_wordOf 50 = .ok (.lload_n 0, 1) := by decide +kernel
theorem dX6_wordOf_51 : decode cX6_wordOf 51 = .ok (.bipush 108, 2) := by decide +kernel
theorem dX6_wordOf_53 : decode cX6_wordOf 53 = .ok (.bipush 117, 2) := by decide +kernel
theorem dX6_wordOf_55 : decode cX6_wordOf 55 = .ok (.bipush 99, 2) := by decide +kernel
theorem dX6_wordOf_57 : decode cX6_wordOf 57 = .ok (.bipush 107, 2) := by decide +kernel
theorem dX6_wordOf_59 : decode cX6_wordOf 59 = .ok (.iconst 0, 1) := by decide +kernel
theorem dX6_wordOf_60 : decode cX6_wordOf 60 = .ok (.iconst 0, 1) := by decide +kernel
theorem dX6_wordOf_61 : decode cX6_wordOf 61 = .ok (.invokestatic 87, 3) := by decide +kernel
theorem dX6_wordOf_64 : decode cX6_wordOf 64 = .ok (.lcmp, 1) := by decide +kernel
theorem dX6_wordOf_65 : decode cX6_wordOf 65 = .ok (.ifCond .ne 7, 3) := by decide +kernel
theorem dX6_wordOf_68 : decode cX6_wordOf 68 = .ok (.iconst 0, 1) := by decide +kernel
theorem dX6_wordOf_69 : decode cX6_wordOf 69 = .ok (.goto 96, 3) := by decide +kernel
theorem dX6_wordOf_72 : decode cX6_wordOf 72 = .ok (.lload_n 0, 1) := by decide +kernel
theorem dX6_wordOf_73 : decode cX6_wordOf 73 = .ok (.bipush 115, 2) := by decide +kernel
theorem dX6_wordOf_75 : decode cX6_wordOf 75 = .ok (.bipush 116, 2) := by decide +kernel
theorem dX6_wordOf_77 : decode cX6_wordOf 77 = .ok (.bipush 97, 2) := by decide +kernel
theorem dX6_wordOf_79 : decode cX6_wordOf 79 = .ok (.bipush 108, 2) := by decide +kernel
theorem dX6_wordOf_81 : decode cX6_wordOf 81 = .ok (.bipush 108, 2) := by decide +kernel
theorem dX6_wordOf_83 : decode cX6_wordOf 83 = .ok (.iconst 0, 1) := by decide +kernel
theorem dX6_wordOf_84 : decode cX6_wordOf 84 = .ok (.invokestatic 87, 3) := by decide +kernel
theorem dX6_wordOf_87 : decode cX6_wordOf 87 = .ok (.lcmp, 1) := by decide +kernel
theorem dX6_wordOf_88 : decode cX6_wordOf 88 = .ok (.ifCond .ne 7, 3) := by decide +kernel
theorem dX6_wordOf_91 : decode cX6_wordOf 91 = .ok (.iconst 1, 1) := by decide +kernel
theorem dX6_wordOf_92 : decode cX6_wordOf 92 = .ok (.goto 73, 3) := by decide +kernel
theorem dX6_wordOf_95 : decode cX6_wordOf 95 = .ok (.lload_n 0, 1) := by decide +kernel
theorem dX6_wordOf_96 : decode cX6_wordOf 96 = .ok (.bipush 119, 2) := by decide +kernel
theorem dX6_wordOf_98 : decode cX6_wordOf 98 = .ok (.bipush 97, 2) := by decide +kernel
theorem dX6_wordOf_100 : decode cX6_wordOf 100 = .ok (.bipush 121, 2) := by decide +kernel
theorem dX6_wordOf_102 : decode cX6_wordOf 102 = .ok (.iconst 0, 1) := by decide +kernel
theorem dX6_wordOf_103 : decode cX6_wordOf 103 = .ok (.iconst 0, 1) := by decide +kernel
theorem dX6_wordOf_104 : decode cX6_wordOf 104 = .ok (.iconst 0, 1) := by decide +kernel
theorem dX6_wordOf_105 : decode cX6_wordOf 105 = .ok (.invokestatic 87, 3) := by decide +kernel
theorem dX6_wordOf_108 : decode cX6_wordOf 108 = .ok (.lcmp, 1) := by decide +kernel
theorem dX6_wordOf_109 : decode cX6_wordOf 109 = .ok (.ifCond .ne 7, 3) := by decide +kernel
theorem dX6_wordOf_112 : decode cX6_wordOf 112 = .ok (.iconst 2, 1) := by decide +kernel
theorem dX6_wordOf_113 : decode cX6_wordOf 113 = .ok (.goto 52, 3) := by decide +kernel
theorem dX6_wordOf_116 : decode cX6_wordOf 116 = .ok (.lload_n 0, 1) := by decide +kernel
theorem dX6_wordOf_117 : decode cX6_wordOf 117 = .ok (.bipush 104, 2) := by decide +kernel
theorem dX6_wordOf_119 : decode cX6_wordOf 119 = .ok (.bipush 111, 2) := by decide +kernel
theorem dX6_wordOf_121 : decode cX6_wordOf 121 = .ok (.bipush 110, 2) := by decide +kernel
theorem dX6_wordOf_123 : decode cX6_wordOf 123 = .ok (.bipush 101, 2) := by decide +kernel
theorem dX6_wordOf_125 : decode cX6_wordOf 125 = .ok (.bipush 115, 2) := by decide +kernel
theorem dX6_wordOf_127 : decode cX6_wordOf 127 = .ok (.bipush 116, 2) := by decide +kernel
theorem dX6_wordOf_129 : decode cX6_wordOf 129 = .ok (.invokestatic 87, 3) := by decide +kernel
theorem dX6_wordOf_132 : decode cX6_wordOf 132 = .ok (.lcmp, 1) := by decide +kernel
theorem dX6_wordOf_133 : decode cX6_wordOf 133 = .ok (.ifCond .ne 7, 3) := by decide +kernel
theorem dX6_wordOf_136 : decode cX6_wordOf 136 = .ok (.iconst 3, 1) := by decide +kernel
theorem dX6_wordOf_137 : decode cX6_wordOf 137 = .ok (.goto 28, 3) := by decide +kernel
theorem dX6_wordOf_140 : decode cX6_wordOf 140 = .ok (.lload_n 0, 1) := by decide +kernel
theorem dX6_wordOf_141 : decode cX6_wordOf 141 = .ok (.bipush 115, 2) := by decide +kernel
theorem dX6_wordOf_143 : decode cX6_wordOf 143 = .ok (.bipush 99, 2) := by decide +kernel
theorem dX6_wordOf_145 : decode cX6_wordOf 145 = .ok (.bipush 97, 2) := by decide +kernel
theorem dX6_wordOf_147 : decode cX6_wordOf 147 = .ok (.bipush 108, 2) := by decide +kernel
theorem dX6_wordOf_149 : decode cX6_wordOf 149 = .ok (.bipush 101, 2) := by decide +kernel
theorem dX6_wordOf_151 : decode cX6_wordOf 151 = .ok (.iconst 0, 1) := by decide +kernel
theorem dX6_wordOf_152 : decode cX6_wordOf 152 = .ok (.invokestatic 87, 3) := by decide +kernel
theorem dX6_wordOf_155 : decode cX6_wordOf 155 = .ok (.lcmp, 1) := by decide +kernel
theorem dX6_wordOf_156 : decode cX6_wordOf 156 = .ok (.ifCond .ne 7, 3) := by decide +kernel
theorem dX6_wordOf_159 : decode cX6_wordOf 159 = .ok (.iconst 4, 1) := by decide +kernel
theorem dX6_wordOf_160 : decode cX6_wordOf 160 = .ok (.goto 5, 3) := by decide +kernel
theorem dX6_wordOf_163 : decode cX6_wordOf 163 = .ok (.bipush (-9), 2) := by decide +kernel
theorem dX6_wordOf_165 : decode cX6_wordOf 165 = .ok (.istore_n 3, 1) := by decide +kernel
theorem dX6_wordOf_166 : decode cX6_wordOf 166 = .ok (.lload_n 0, 1) := by decide +kernel
theorem dX6_wordOf_167 : decode cX6_wordOf 167 = .ok (.bipush 116, 2) := by decide +kernel
theorem dX6_wordOf_169 : decode cX6_wordOf 169 = .ok (.bipush 104, 2) := by decide +kernel
theorem dX6_wordOf_171 : decode cX6_wordOf 171 = .ok (.bipush 117, 2) := by decide +kernel
theorem dX6_wordOf_173 : decode cX6_wordOf 173 = .ok (.bipush 109, 2) := by decide +kernel
theorem dX6_wordOf_175 : decode cX6_wordOf 175 = .ok (.bipush 98, 2) := by decide +kernel
theorem dX6_wordOf_177 : decode cX6_wordOf 177 = .ok (.iconst 0, 1) := by decide +kernel
theorem dX6_wordOf_178 : decode cX6_wordOf 178 = .ok (.invokestatic 87, 3) := by decide +kernel
theorem dX6_wordOf_181 : decode cX6_wordOf 181 = .ok (.lcmp, 1) := by decide +kernel
theorem dX6_wordOf_182 : decode cX6_wordOf 182 = .ok (.ifCond .ne 7, 3) := by decide +kernel
theorem dX6_wordOf_185 : decode cX6_wordOf 185 = .ok (.iconst 5, 1) := by decide +kernel
theorem dX6_wordOf_186 : decode cX6_wordOf 186 = .ok (.goto 71, 3) := by decide +kernel
theorem dX6_wordOf_189 : decode cX6_wordOf 189 = .ok (.lload_n 0, 1) := by decide +kernel
theorem dX6_wordOf_190 : decode cX6_wordOf 190 = .ok (.bipush 114, 2) := by decide +kernel
theorem dX6_wordOf_192 : decode cX6_wordOf 192 = .ok (.bipush 111, 2) := by decide +kernel
theorem dX6_wordOf_194 : decode cX6_wordOf 194 = .ok (.bipush 117, 2) := by decide +kernel
theorem dX6_wordOf_196 : decode cX6_wordOf 196 = .ok (.bipush 110, 2) := by decide +kernel
theorem dX6_wordOf_198 : decode cX6_wordOf 198 = .ok (.bipush 100, 2) := by decide +kernel
theorem dX6_wordOf_200 : decode cX6_wordOf 200 = .ok (.iconst 0, 1) := by decide +kernel
theorem dX6_wordOf_201 : decode cX6_wordOf 201 = .ok (.invokestatic 87, 3) := by decide +kernel
theorem dX6_wordOf_204 : decode cX6_wordOf 204 = .ok (.lcmp, 1) := by decide +kernel
theorem dX6_wordOf_205 : decode cX6_wordOf 205 = .ok (.ifCond .ne 8, 3) := by decide +kernel
theorem dX6_wordOf_208 : decode cX6_wordOf 208 = .ok (.bipush 6, 2) := by decide +kernel
theorem dX6_wordOf_210 : decode cX6_wordOf 210 = .ok (.goto 47, 3) := by decide +kernel
theorem dX6_wordOf_213 : decode cX6_wordOf 213 = .ok (.lload_n 0, 1) := by decide +kernel
theorem dX6_wordOf_214 : decode cX6_wordOf 214 = .ok (.bipush 105, 2) := by decide +kernel
theorem dX6_wordOf_216 : decode cX6_wordOf 216 = .ok (.bipush 110, 2) := by decide +kernel
theorem dX6_wordOf_218 : decode cX6_wordOf 218 = .ok (.iconst 0, 1) := by decide +kernel
theorem dX6_wordOf_219 : decode cX6_wordOf 219 = .ok (.iconst 0, 1) := by decide +kernel
theorem dX6_wordOf_220 : decode cX6_wordOf 220 = .ok (.iconst 0, 1) := by decide +kernel
theorem dX6_wordOf_221 : decode cX6_wordOf 221 = .ok (.iconst 0, 1) := by decide +kernel
theorem dX6_wordOf_222 : decode cX6_wordOf 222 = .ok (.invokestatic 87, 3) := by decide +kernel
theorem dX6_wordOf_225 : decode cX6_wordOf 225 = .ok (.lcmp, 1) := by decide +kernel
theorem dX6_wordOf_226 : decode cX6_wordOf 226 = .ok (.ifCond .ne 8, 3) := by decide +kernel
theorem dX6_wordOf_229 : decode cX6_wordOf 229 = .ok (.bipush 7, 2) := by decide +kernel
theorem dX6_wordOf_231 : decode cX6_wordOf 231 = .ok (.goto 26, 3) := by decide +kernel
theorem dX6_wordOf_234 : decode cX6_wordOf 234 = .ok (.lload_n 0, 1) := by decide +kernel
theorem dX6_wordOf_235 : decode cX6_wordOf 235 = .ok (.bipush 116, 2) := by decide +kernel
theorem dX6_wordOf_237 : decode cX6_wordOf 237 = .ok (.bipush 111, 2) := by decide +kernel
theorem dX6_wordOf_239 : decode cX6_wordOf 239 = .ok (.iconst 0, 1) := by decide +kernel
theorem dX6_wordOf_240 : decode cX6_wordOf 240 = .ok (.iconst 0, 1) := by decide +kernel
theorem dX6_wordOf_241 : decode cX6_wordOf 241 = .ok (.iconst 0, 1) := by decide +kernel
theorem dX6_wordOf_242 : decode cX6_wordOf 242 = .ok (.iconst 0, 1) := by decide +kernel
theorem dX6_wordOf_243 : decode cX6_wordOf 243 = .ok (.invokestatic 87, 3) := by decide +kernel
theorem dX6_wordOf_246 : decode cX6_wordOf 246 = .ok (.lcmp, 1) := by decide +kernel
theorem dX6_wordOf_247 : decode cX6_wordOf 247 = .ok (.ifCond .ne 8, 3) := by decide +kernel
theorem dX6_wordOf_250 : decode cX6_wordOf 250 = .ok (.bipush 8, 2) := by decide +kernel
theorem dX6_wordOf_252 : decode cX6_wordOf 252 = .ok (.goto 5, 3) := by decide +kernel
theorem dX6_wordOf_255 : decode cX6_wordOf 255 = .ok (.bipush (-9), 2) := by decide +kernel
theorem dX6_wordOf_257 : decode cX6_wordOf 257 = .ok (.istore 4, 2) := by decide +kernel
theorem dX6_wordOf_259 : decode cX6_wordOf 259 = .ok (.lload_n 0, 1) := by decide +kernel
theorem dX6_wordOf_260 : decode cX6_wordOf 260 = .ok (.bipush 111, 2) := by decide +kernel
theorem dX6_wordOf_262 : decode cX6_wordOf 262 = .ok (.bipush 108, 2) := by decide +kernel
theorem dX6_wordOf_264 : decode cX6_wordOf 264 = .ok (.bipush 100, 2) := by decide +kernel
theorem dX6_wordOf_266 : decode cX6_wordOf 266 = .ok (.iconst 0, 1) := by decide +kernel
theorem dX6_wordOf_267 : decode cX6_wordOf 267 = .ok (.iconst 0, 1) := by decide +kernel
theorem dX6_wordOf_268 : decode cX6_wordOf 268 = .ok (.iconst 0, 1) := by decide +kernel
theorem dX6_wordOf_269 : decode cX6_wordOf 269 = .ok (.invokestatic 87, 3) := by decide +kernel
theorem dX6_wordOf_272 : decode cX6_wordOf 272 = .ok (.lcmp, 1) := by decide +kernel
theorem dX6_wordOf_273 : decode cX6_wordOf 273 = .ok (.ifCond .ne 8, 3) := by decide +kernel
theorem dX6_wordOf_276 : decode cX6_wordOf 276 = .ok (.bipush 9, 2) := by decide +kernel
theorem dX6_wordOf_278 : decode cX6_wordOf 278 = .ok (.goto 54, 3) := by decide +kernel
theorem dX6_wordOf_281 : decode cX6_wordOf 281 = .ok (.lload_n 0, 1) := by decide +kernel
theorem dX6_wordOf_282 : decode cX6_wordOf 282 = .ok (.bipush 121, 2) := by decide +kernel
theorem dX6_wordOf_284 : decode cX6_wordOf 284 = .ok (.bipush 111, 2) := by decide +kernel
theorem dX6_wordOf_286 : decode cX6_wordOf 286 = .ok (.bipush 117, 2) := by decide +kernel
theorem dX6_wordOf_288 : decode cX6_wordOf 288 = .ok (.bipush 110, 2) := by decide +kernel
theorem dX6_wordOf_290 : decode cX6_wordOf 290 = .ok (.bipush 103, 2) := by decide +kernel
theorem dX6_wordOf_292 : decode cX6_wordOf 292 = .ok (.iconst 0, 1) := by decide +kernel
theorem dX6_wordOf_293 : decode cX6_wordOf 293 = .ok (.invokestatic 87, 3) := by decide +kernel
theorem dX6_wordOf_296 : decode cX6_wordOf 296 = .ok (.lcmp, 1) := by decide +kernel
theorem dX6_wordOf_297 : decode cX6_wordOf 297 = .ok (.ifCond .ne 8, 3) := by decide +kernel
theorem dX6_wordOf_300 : decode cX6_wordOf 300 = .ok (.bipush 10, 2) := by decide +kernel
theorem dX6_wordOf_302 : decode cX6_wordOf 302 = .ok (.goto 30, 3) := by decide +kernel
theorem dX6_wordOf_305 : decode cX6_wordOf 305 = .ok (.lload_n 0, 1) := by decide +kernel
theorem dX6_wordOf_306 : decode cX6_wordOf 306 = .ok (.bipush 102, 2) := by decide +kernel
theorem dX6_wordOf_308 : decode cX6_wordOf 308 = .ok (.bipush 114, 2) := by decide +kernel
theorem dX6_wordOf_310 : decode cX6_wordOf 310 = .ok (.bipush 105, 2) := by decide +kernel
theorem dX6_wordOf_312 : decode cX6_wordOf 312 = .ok (.bipush 101, 2) := by decide +kernel
theorem dX6_wordOf_314 : decode cX6_wordOf 314 = .ok (.bipush 110, 2) := by decide +kernel
theorem dX6_wordOf_316 : decode cX6_wordOf 316 = .ok (.bipush 100, 2) := by decide +kernel
theorem dX6_wordOf_318 : decode cX6_wordOf 318 = .ok (.invokestatic 87, 3) := by decide +kernel
theorem dX6_wordOf_321 : decode cX6_wordOf 321 = .ok (.lcmp, 1) := by decide +kernel
theorem dX6_wordOf_322 : decode cX6_wordOf 322 = .ok (.ifCond .ne 8, 3) := by decide +kernel
theorem dX6_wordOf_325 : decode cX6_wordOf 325 = .ok (.bipush 11, 2) := by decide +kernel
theorem dX6_wordOf_327 : decode cX6_wordOf 327 = .ok (.goto 5, 3) := by decide +kernel
theorem dX6_wordOf_330 : decode cX6_wordOf 330 = .ok (.bipush (-9), 2) := by decide +kernel
theorem dX6_wordOf_332 : decode cX6_wordOf 332 = .ok (.istore 5, 2) := by decide +kernel
theorem dX6_wordOf_334 : decode cX6_wordOf 334 = .ok (.iload_n 2, 1) := by decide +kernel
theorem dX6_wordOf_335 : decode cX6_wordOf 335 = .ok (.bipush 6, 2) := by decide +kernel
theorem dX6_wordOf_337 : decode cX6_wordOf 337 = .ok (.if_icmp .le 8, 3) := by decide +kernel
theorem dX6_wordOf_340 : decode cX6_wordOf 340 = .ok (.bipush (-9), 2) := by decide +kernel
theorem dX6_wordOf_342 : decode cX6_wordOf 342 = .ok (.goto 27, 3) := by decide +kernel
theorem dX6_wordOf_345 : decode cX6_wordOf 345 = .ok (.iload_n 3, 1) := by decide +kernel
theorem dX6_wordOf_346 : decode cX6_wordOf 346 = .ok (.bipush (-9), 2) := by decide +kernel
theorem dX6_wordOf_348 : decode cX6_wordOf 348 = .ok (.if_icmp .eq 7, 3) := by decide +kernel
theorem dX6_wordOf_351 : decode cX6_wordOf 351 = .ok (.iload_n 3, 1) := by decide +kernel
theorem dX6_wordOf_352 : decode cX6_wordOf 352 = .ok (.goto 17, 3) := by decide +kernel
theorem dX6_wordOf_355 : decode cX6_wordOf 355 = .ok (.iload 4, 2) := by decide +kernel
theorem dX6_wordOf_357 : decode cX6_wordOf 357 = .ok (.bipush (-9), 2) := by decide +kernel
theorem dX6_wordOf_359 : decode cX6_wordOf 359 = .ok (.if_icmp .eq 8, 3) := by decide +kernel
theorem dX6_wordOf_362 : decode cX6_wordOf 362 = .ok (.iload 4, 2) := by decide +kernel
theorem dX6_wordOf_364 : decode cX6_wordOf 364 = .ok (.goto 5, 3) := by decide +kernel
theorem dX6_wordOf_367 : decode cX6_wordOf 367 = .ok (.iload 5, 2) := by decide +kernel
theorem dX6_wordOf_369 : decode cX6_wordOf 369 = .ok (.ireturn, 1) := by decide +kernel
set_option maxRecDepth 20000 in
theorem ggX6_advances_X6_byteAt : GoodIn wsX6_advances wsX6_byteAt := goodIn_r _ [9, 10, 11, 27, 28, 29, 30, 31, 32, 33, 34, 35, 36, 37, 38, 39, 40, 41, 42, 43, 44, 45, 46, 47, 48, 49, 50, 51, 52, 53, 54, 55] (by decide +kernel) (by decide +kernel)
set_option maxRecDepth 20000 in
theorem gX6_advances_X6_byteAt : GoodIn wsX6_advances (wsV RX6 98 RX6 yX6_byteAt wsX6_byteAt) := goodIn_app (goodIn_of _ (by decide +kernel)) ggX6_advances_X6_byteAt
set_option maxRecDepth 20000 in
theorem ggX6_advances_X6_in : GoodIn wsX6_advances wsX6_in := goodIn_r _ [14] (by decide +kernel) (by decide +kernel)
set_option maxRecDepth 20000 in
theorem gX6_advances_X6_in : GoodIn wsX6_advances (va_wsS RX6 61 yX6_in wsX6_in) := goodIn_app (goodIn_of _ (by decide +kernel)) ggX6_advances_X6_in
set_option maxRecDepth 20000 in
theorem ggX6_advances_X6_add : GoodIn wsX6_advances wsX6_add := goodIn_r _ [17, 18] (by decide +kernel) (by decide +kernel)
set_option maxRecDepth 20000 in
theorem gX6_advances_X6_add : GoodIn wsX6_advances (va_wsS RX6 83 yX6_add wsX6_add) := goodIn_app (goodIn_of _ (by decide +kernel)) ggX6_advances_X6_add
set_option maxRecDepth 20000 in
theorem ggX6_advances_X6_wordOf : GoodIn wsX6_advances wsX6_wordOf := goodIn_r _ [21, 18, 22, 23, 24, 25, 8, 26, 15, 16, 17] (by decide +kernel) (by decide +kernel)
set_option maxRecDepth 20000 in
theorem gX6_advances_X6_wordOf : GoodIn wsX6_advances (va_wsS RX6 108 yX6_wordOf wsX6_wordOf) := goodIn_app (goodIn_of _ (by decide +kernel)) ggX6_advances_X6_wordOf
theorem dX6_advances_0 : decode cX6_advances 0 = .ok (.aload_n 0, 1) := by decide +kernel
theorem dX6_advances_1 : decode cX6_advances 1 = .ok (.aload_n 0, 1) := by decide +kernel
theorem dX6_advances_2 : decode cX6_advances 2 = .ok (.getfield 95, 3) := by decide +kernel
theorem dX6_advances_5 : decode cX6_advances 5 = .ok (.invokevirtual 98, 3) := by decide +kernel
theorem dX6_advances_8 : decode cX6_advances 8 = .ok (.bipush 32, 2) := by decide +kernel
theorem dX6_advances_10 : decode cX6_advances 10 = .ok (.if_icmp .ne 16, 3) := by decide +kernel
theorem dX6_advances_13 : decode cX6_advances 13 = .ok (.aload_n 0, 1) := by decide +kernel
theorem dX6_advances_14 : decode cX6_advances 14 = .ok (.dup, 1) := by decide +kernel
theorem dX6_advances_15 : decode cX6_advances 15 = .ok (.getfield 95, 3) := by decide +kernel
theorem dX6_advances_18 : decode cX6_advances 18 = .ok (.iconst 1, 1) := by decide +kernel
theorem dX6_advances_19 : decode cX6_advances 19 = .ok (.iadd, 1) := by decide +kernel
theorem dX6_advances_20 : decode cX6_advances 20 = .ok (.putfield 95, 3) := by decide +kernel
theorem dX6_advances_23 : decode cX6_advances 23 = .ok (.goto (-23), 3) := by decide +kernel
theorem dX6_advances_26 : decode cX6_advances 26 = .ok (.aload_n 0, 1) := by decide +kernel
theorem dX6_advances_27 : decode cX6_advances 27 = .ok (.aload_n 0, 1) := by decide +kernel
theorem dX6_advances_28 : decode cX6_advances 28 = .ok (.getfield 95, 3) := by decide +kernel
theorem dX6_advances_31 : decode cX6_advances 31 = .ok (.putfield 102, 3) := by decide +kernel
theorem dX6_advances_34 : decode cX6_advances 34 = .ok (.aload_n 0, 1) := by decide +kernel
theorem dX6_advances_35 : decode cX6_advances 35 = .ok (.aload_n 0, 1) := by decide +kernel
theorem dX6_advances_36 : decode cX6_advances 36 = .ok (.getfield 95, 3) := by decide +kernel
theorem dX6_advances_39 : decode cX6_advances 39 = .ok (.invokevirtual 98, 3) := by decide +kernel
theorem dX6_advances_42 : decode cX6_advances 42 = .ok (.istore_n 1, 1) := by decide +kernel
theorem dX6_advances_43 : decode cX6_advances 43 = .ok (.iload_n 1, 1) := by decide +kernel
theorem dX6_advances_44 : decode cX6_advances 44 = .ok (.ifCond .ge 11, 3) := by decide +kernel
theorem dX6_advances_47 : decode cX6_advances 47 = .ok (.aload_n 0, 1) := by decide +kernel
theorem dX6_advances_48 : decode cX6_advances 48 = .ok (.iconst 0, 1) := by decide +kernel
theorem dX6_advances_49 : decode cX6_advances 49 = .ok (.putfield 105, 3) := by decide +kernel
theorem dX6_advances_52 : decode cX6_advances 52 = .ok (.goto 267, 3) := by decide +kernel
theorem dX6_advances_55 : decode cX6_advances 55 = .ok (.iload_n 1, 1) := by decide +kernel
theorem dX6_advances_56 : decode cX6_advances 56 = .ok (.bipush 97, 2) := by decide +kernel
theorem dX6_advances_58 : decode cX6_advances 58 = .ok (.bipush 122, 2) := by decide +kernel
theorem dX6_advances_60 : decode cX6_advances 60 = .ok (.invokestatic 61, 3) := by decide +kernel
theorem dX6_advances_63 : decode cX6_advances 63 = .ok (.ifCond .eq 105, 3) := by decide +kernel
theorem dX6_advances_66 : decode cX6_advances 66 = .ok (.lconst 0, 1) := by decide +kernel
theorem dX6_advances_67 : decode cX6_advances 67 = .ok (.lstore_n 2, 1) := by decide +kernel
theorem dX6_advances_68 : decode cX6_advances 68 = .ok (.aload_n 0, 1) := by decide +kernel
theorem dX6_advances_69 : decode cX6_advances 69 = .ok (.aload_n 0, 1) := by decide +kernel
theorem dX6_advances_70 : decode cX6_advances 70 = .ok (.getfield 95, 3) := by decide +kernel
theorem dX6_advances_73 : decode cX6_advances 73 = .ok (.invokevirtual 98, 3) := by decide +kernel
theorem dX6_advances_76 : decode cX6_advances 76 = .ok (.bipush 97, 2) := by decide +kernel
theorem dX6_advances_78 : decode cX6_advances 78 = .ok (.bipush 122, 2) := by decide +kernel
theorem dX6_advances_80 : decode cX6_advances 80 = .ok (.invokestatic 61, 3) := by decide +kernel
theorem dX6_advances_83 : decode cX6_advances 83 = .ok (.ifCond .eq 47, 3) := by decide +kernel
theorem dX6_advances_86 : decode cX6_advances 86 = .ok (.aload_n 0, 1) := by decide +kernel
theorem dX6_advances_87 : decode cX6_advances 87 = .ok (.getfield 95, 3) := by decide +kernel
theorem dX6_advances_90 : decode cX6_advances 90 = .ok (.aload_n 0, 1) := by decide +kernel
theorem dX6_advances_91 : decode cX6_advances 91 = .ok (.getfield 102, 3) := by decide +kernel
theorem dX6_advances_94 : decode cX6_advances 94 = .ok (.isub, 1) := by decide +kernel
theorem dX6_advances_95 : decode cX6_advances 95 = .ok (.bipush 8, 2) := by decide +kernel
theorem dX6_advances_97 : decode cX6_advances 97 = .ok (.if_icmp .ge 18, 3) := by decide +kernel
theorem dX6_advances_100 : decode cX6_advances 100 = .ok (.lload_n 2, 1) := by decide +kernel
theorem dX6_advances_101 : decode cX6_advances 101 = .ok (.aload_n 0, 1) := by decide +kernel
theorem dX6_advances_102 : decode cX6_advances 102 = .ok (.aload_n 0, 1) := by decide +kernel
theorem dX6_advances_103 : decode cX6_advances 103 = .ok (.getfield 95, 3) := by decide +kernel
theorem dX6_advances_106 : decode cX6_advances 106 = .ok (.invokevirtual 98, 3) := by decide +kernel
theorem dX6_advances_109 : decode cX6_advances 109 = .ok (.invokestatic 83, 3) := by decide +kernel
theorem dX6_advances_112 : decode cX6_advances 112 = .ok (.goto 4, 3) := by decide +kernel
theorem dX6_advances_115 : decode cX6_advances 115 = .ok (.lload_n 2, 1) := by decide +kernel
theorem dX6_advances_116 : decode cX6_advances 116 = .ok (.lstore_n 2, 1) := by decide +kernel
theorem dX6_advances_117 : decode cX6_advances 117 = .ok (.aload_n 0, 1) := by decide +kernel
theorem dX6_advances_118 : decode cX6_advances 118 = .ok (.dup, 1) := by decide +kernel
theorem dX6_advances_119 : decode cX6_advances 119 = .ok (.getfield 95, 3) := by decide +kernel
theorem dX6_advances_122 : decode cX6_advances 122 = .ok (.iconst 1, 1) := by decide +kernel
theorem dX6_advances_123 : decode cX6_advances 123 = .ok (.iadd, 1) := by decide +kernel
theorem dX6_advances_124 : decode cX6_advances 124 = .ok (.putfield 95, 3) := by decide +kernel
theorem dX6_advances_127 : decode cX6_advances 127 = .ok (.goto (-59), 3) := by decide +kernel
theorem dX6_advances_130 : decode cX6_advances 130 = .ok (.aload_n 0, 1) := by decide +kernel
theorem dX6_advances_131 : decode cX6_advances 131 = .ok (.lload_n 2, 1) := by decide +kernel
theorem dX6_advances_132 : decode cX6_advances 132 = .ok (.aload_n 0, 1) := by decide +kernel
theorem dX6_advances_133 : decode cX6_advances 133 = .ok (.getfield 95, 3) := by decide +kernel
theorem dX6_advances_136 : decode cX6_advances 136 = .ok (.aload_n 0, 1) := by decide +kernel
theorem dX6_advances_137 : decode cX6_advances 137 = .ok (.getfield 102, 3) := by decide +kernel
theorem dX6_advances_140 : decode cX6_advances 140 = .ok (.isub, 1) := by decide +kernel
theorem dX6_advances_141 : decode cX6_advances 141 = .ok (.invokestatic 108, 3) := by decide +kernel
theorem dX6_advances_144 : decode cX6_advances 144 = .ok (.putfield 112, 3) := by decide +kernel
theorem dX6_advances_147 : decode cX6_advances 147 = .ok (.aload_n 0, 1) := by decide +kernel
theorem dX6_advances_148 : decode cX6_advances 148 = .ok (.aload_n 0, 1) := by decide +kernel
theorem dX6_advances_149 : decode cX6_advances 149 = .ok (.getfield 112, 3) := by decide +kernel
theorem dX6_advances_152 : decode cX6_advances 152 = .ok (.bipush (-9), 2) := by decide +kernel
theorem dX6_advances_154 : decode cX6_advances 154 = .ok (.if_icmp .ne 7, 3) := by decide +kernel
theorem dX6_advances_157 : decode cX6_advances 157 = .ok (.iconst 4, 1) := by decide +kernel
theorem dX6_advances_158 : decode cX6_advances 158 = .ok (.goto 4, 3) := by decide +kernel
theorem dX6_advances_161 : decode cX6_advances 161 = .ok (.iconst 1, 1) := by decide +kernel
theorem dX6_advances_162 : decode cX6_advances 162 = .ok (.putfield 105, 3) := by decide +kernel
theorem dX6_advances_165 : decode cX6_advances 165 = .ok (.goto 154, 3) := by decide +kernel
theorem dX6_advances_168 : decode cX6_advances 168 = .ok (.iload_n 1, 1) := by decide +kernel
theorem dX6_advances_169 : decode cX6_advances 169 = .ok (.bipush 48, 2) := by decide +kernel
theorem dX6_advances_171 : decode cX6_advances 171 = .ok (.bipush 57, 2) := by decide +kernel
theorem dX6_advances_173 : decode cX6_advances 173 = .ok (.invokestatic 61, 3) := by decide +kernel
theorem dX6_advances_176 : decode cX6_advances 176 = .ok (.ifCond .eq 118, 3) := by decide +kernel
theorem dX6_advances_179 : decode cX6_advances 179 = .ok (.aload_n 0, 1) := by decide +kernel
theorem dX6_advances_180 : decode cX6_advances 180 = .ok (.iconst 0, 1) := by decide +kernel
theorem dX6_advances_181 : decode cX6_advances 181 = .ok (.putfield 112, 3) := by decide +kernel
theorem dX6_advances_184 : decode cX6_advances 184 = .ok (.aload_n 0, 1) := by decide +kernel
theorem dX6_advances_185 : decode cX6_advances 185 = .ok (.aload_n 0, 1) := by decide +kernel
theorem dX6_advances_186 : decode cX6_advances 186 = .ok (.getfield 95, 3) := by decide +kernel
theorem dX6_advances_189 : decode cX6_advances 189 = .ok (.invokevirtual 98, 3) := by decide +kernel
theorem dX6_advances_192 : decode cX6_advances 192 = .ok (.bipush 48, 2) := by decide +kernel
theorem dX6_advances_194 : decode cX6_advances 194 = .ok (.bipush 57, 2) := by decide +kernel
theorem dX6_advances_196 : decode cX6_advances 196 = .ok (.invokestatic 61, 3) := by decide +kernel
theorem dX6_advances_199 : decode cX6_advances 199 = .ok (.ifCond .eq 55, 3) := by decide +kernel
theorem dX6_advances_202 : decode cX6_advances 202 = .ok (.aload_n 0, 1) := by decide +kernel
theorem dX6_advances_203 : decode cX6_advances 203 = .ok (.aload_n 0, 1) := by decide +kernel
theorem dX6_advances_204 : decode cX6_advances 204 = .ok (.getfield 112, 3) := by decide +kernel
theorem dX6_advances_207 : decode cX6_advances 207 = .ok (.bipush 99, 2) := by decide +kernel
theorem dX6_advances_209 : decode cX6_advances 209 = .ok (.if_icmp .le 10, 3) := by decide +kernel
theorem dX6_advances_212 : decode cX6_advances 212 = .ok (.aload_n 0, 1) := by decide +kernel
theorem dX6_advances_213 : decode cX6_advances 213 = .ok (.getfield 112, 3) := by decide +kernel
theorem dX6_advances_216 : decode cX6_advances 216 = .ok (.goto 22, 3) := by decide +kernel
theorem dX6_advances_219 : decode cX6_advances 219 = .ok (.bipush 10, 2) := by decide +kernel
theorem dX6_advances_221 : decode cX6_advances 221 = .ok (.aload_n 0, 1) := by decide +kernel
theorem dX6_advances_222 : decode cX6_advances 222 = .ok (.getfield 112, 3) := by decide +kernel
theorem dX6_advances_225 : decode cX6_advances 225 = .ok (.imul, 1) := by decide +kernel
theorem dX6_advances_226 : decode cX6_advances 226 = .ok (.aload_n 0, 1) := by decide +kernel
theorem dX6_advances_227 : decode cX6_advances 227 = .ok (.aload_n 0, 1) := by decide +kernel
theorem dX6_advances_228 : decode cX6_advances 228 = .ok (.getfield 95, 3) := by decide +kernel
theorem dX6_advances_231 : decode cX6_advances 231 = .ok (.invokevirtual 98, 3) := by decide +kernel
theorem dX6_advances_234 : decode cX6_advances 234 = .ok (.iadd, 1) := by decide +kernel
theorem dX6_advances_235 : decode cX6_advances 235 = .ok (.bipush 48, 2) := by decide +kernel
theorem dX6_advances_237 : decode cX6_advances 237 = .ok (.isub, 1) := by decide +kernel
theorem dX6_advances_238 : decode cX6_advances 238 = .ok (.putfield 112, 3) := by decide +kernel
theorem dX6_advances_241 : decode cX6_advances 241 = .ok (.aload_n 0, 1) := by decide +kernel
theorem dX6_advances_242 : decode cX6_advances 242 = .ok (.dup, 1) := by decide +kernel
theorem dX6_advances_243 : decode cX6_advances 243 = .ok (.getfield 95, 3) := by decide +kernel
theorem dX6_advances_246 : decode cX6_advances 246 = .ok (.iconst 1, 1) := by decide +kernel
theorem dX6_advances_247 : decode cX6_advances 247 = .ok (.iadd, 1) := by decide +kernel
theorem dX6_advances_248 : decode cX6_advances 248 = .ok (.putfield 95, 3) := by decide +kernel
theorem dX6_advances_251 : decode cX6_advances 251 = .ok (.goto (-67), 3) := by decide +kernel
theorem dX6_advances_254 : decode cX6_advances 254 = .ok (.aload_n 0, 1) := by decide +kernel
theorem dX6_advances_255 : decode cX6_advances 255 = .ok (.aload_n 0, 1) := by decide +kernel
theorem dX6_advances_256 : decode cX6_advances 256 = .ok (.getfield 112, 3) := by decide +kernel
theorem dX6_advances_259 : decode cX6_advances 259 = .ok (.bipush 99, 2) := by decide +kernel
theorem dX6_advances_261 : decode cX6_advances 261 = .ok (.if_icmp .gt 22, 3) := by decide +kernel
theorem dX6_advances_264 : decode cX6_advances 264 = .ok (.iload_n 1, 1) := by decide +kernel
theorem dX6_advances_265 : decode cX6_advances 265 = .ok (.bipush 48, 2) := by decide +kernel
theorem dX6_advances_267 : decode cX6_advances 267 = .ok (.if_icmp .ne 20, 3) := by decide +kernel
theorem dX6_advances_270 : decode cX6_advances 270 = .ok (.aload_n 0, 1) := by decide +kernel
theorem dX6_advances_271 : decode cX6_advances 271 = .ok (.getfield 95, 3) := by decide +kernel
theorem dX6_advances_274 : decode cX6_advances 274 = .ok (.aload_n 0, 1) := by decide +kernel
theorem dX6_advances_275 : decode cX6_advances 275 = .ok (.getfield 102, 3) := by decide +kernel
theorem dX6_advances_278 : decode cX6_advances 278 = .ok (.isub, 1) := by decide +kernel
theorem dX6_advances_279 : decode cX6_advances 279 = .ok (.iconst 1, 1) := by decide +kernel
theorem dX6_advances_280 : decode cX6_advances 280 = .ok (.if_icmp .le 7, 3) := by decide +kernel
theorem dX6_advances_283 : decode cX6_advances 283 = .ok (.iconst 4, 1) := by decide +kernel
theorem dX6_advances_284 : decode cX6_advances 284 = .ok (.goto 4, 3) := by decide +kernel
theorem dX6_advances_287 : decode cX6_advances 287 = .ok (.iconst 2, 1) := by decide +kernel
theorem dX6_advances_288 : decode cX6_advances 288 = .ok (.putfield 105, 3) := by decide +kernel
theorem dX6_advances_291 : decode cX6_advances 291 = .ok (.goto 28, 3) := by decide +kernel
theorem dX6_advances_294 : decode cX6_advances 294 = .ok (.aload_n 0, 1) := by decide +kernel
theorem dX6_advances_295 : decode cX6_advances 295 = .ok (.dup, 1) := by decide +kernel
theorem dX6_advances_296 : decode cX6_advances 296 = .ok (.getfield 95, 3) := by decide +kernel
theorem dX6_advances_299 : decode cX6_advances 299 = .ok (.iconst 1, 1) := by decide +kernel
theorem dX6_advances_300 : decode cX6_advances 300 = .ok (.iadd, 1) := by decide +kernel
theorem dX6_advances_301 : decode cX6_advances 301 = .ok (.putfield 95, 3) := by decide +kernel
theorem dX6_advances_304 : decode cX6_advances 304 = .ok (.aload_n 0, 1) := by decide +kernel
theorem dX6_advances_305 : decode cX6_advances 305 = .ok (.iload_n 1, 1) := by decide +kernel
theorem dX6_advances_306 : decode cX6_advances 306 = .ok (.bipush 59, 2) := by decide +kernel
theorem dX6_advances_308 : decode cX6_advances 308 = .ok (.if_icmp .ne 7, 3) := by decide +kernel
theorem dX6_advances_311 : decode cX6_advances 311 = .ok (.iconst 3, 1) := by decide +kernel
theorem dX6_advances_312 : decode cX6_advances 312 = .ok (.goto 4, 3) := by decide +kernel
theorem dX6_advances_315 : decode cX6_advances 315 = .ok (.iconst 4, 1) := by decide +kernel
theorem dX6_advances_316 : decode cX6_advances 316 = .ok (.putfield 105, 3) := by decide +kernel
theorem dX6_advances_319 : decode cX6_advances 319 = .ok (.return_, 1) := by decide +kernel
theorem dX6_isWell_0 : decode cX6_isWell 0 = .ok (.aload_n 0, 1) := by decide +kernel
theorem dX6_isWell_1 : decode cX6_isWell 1 = .ok (.getfield 115, 3) := by decide +kernel
theorem dX6_isWell_4 : decode cX6_isWell 4 = .ok (.ifCond .ge 7, 3) := by decide +kernel
theorem dX6_isWell_7 : decode cX6_isWell 7 = .ok (.iconst 1, 1) := by decide +kernel
theorem dX6_isWell_8 : decode cX6_isWell 8 = .ok (.goto 4, 3) := by decide +kernel
theorem dX6_isWell_11 : decode cX6_isWell 11 = .ok (.iconst 0, 1) := by decide +kernel
theorem dX6_isWell_12 : decode cX6_isWell 12 = .ok (.ireturn, 1) := by decide +kernel
set_option maxRecDepth 20000 in
theorem ggX6_takes_X6_isWell : GoodIn wsX6_takes wsX6_isWell := goodIn_r _ [8, 2, 36, 37, 38, 39, 40, 41, 42, 43, 44, 45, 46, 47, 48, 49, 50, 51, 52, 53, 54, 55, 56, 57, 58, 59, 60, 61, 62, 63, 64] (by decide +kernel) (by decide +kernel)
set_option maxRecDepth 20000 in
theorem gX6_takes_X6_isWell : GoodIn wsX6_takes (wsV RX6 118 RX6 yX6_isWell wsX6_isWell) := goodIn_app (goodIn_of _ (by decide +kernel)) ggX6_takes_X6_isWell
set_option maxRecDepth 20000 in
theorem ggX6_takes_X6_advances : GoodIn wsX6_takes wsX6_advances := goodIn_r _ [12, 13, 1, 14, 3, 15, 16, 17, 7, 18, 19, 20, 21, 22, 23, 24, 25, 26, 27, 28, 29, 30, 31, 32, 33, 34, 35, 36, 37, 38, 39, 40, 41, 42, 43, 44, 45, 46, 47, 48, 49, 50, 51, 52, 53, 54, 55, 56, 57, 58, 59, 60, 61, 62, 63, 64] (by decide +kernel) (by decide +kernel)
set_option maxRecDepth 20000 in
theorem gX6_takes_X6_advances : GoodIn wsX6_takes (wsV RX6 122 RX6 yX6_advances wsX6_advances) := goodIn_app (goodIn_of _ (by decide +kernel)) ggX6_takes_X6_advances
theorem dX6_takes_0 : decode cX6_takes 0 = .ok (.aload_n 0, 1) := by decide +kernel
theorem dX6_takes_1 : decode cX6_takes 1 = .ok (.invokevirtual 118, 3) := by decide +kernel
theorem dX6_takes_4 : decode cX6_takes 4 = .ok (.ifCond .ne 5, 3) := by decide +kernel
theorem dX6_takes_7 : decode cX6_takes 7 = .ok (.iconst 0, 1) := by decide +kernel
theorem dX6_takes_8 : decode cX6_takes 8 = .ok (.ireturn, 1) := by decide +kernel
theorem dX6_takes_9 : decode cX6_takes 9 = .ok (.iload_n 1, 1) := by decide +kernel
theorem dX6_takes_10 : decode cX6_takes 10 = .ok (.ifCond .ne 13, 3) := by decide +kernel
theorem dX6_takes_13 : decode cX6_takes 13 = .ok (.aload_n 0, 1) := by decide +kernel
theorem dX6_takes_14 : decode cX6_takes 14 = .ok (.aload_n 0, 1) := by decide +kernel
theorem dX6_takes_15 : decode cX6_takes 15 = .ok (.getfield 102, 3) := by decide +kernel
theorem dX6_takes_18 : decode cX6_takes 18 = .ok (.putfield 115, 3) := by decide +kernel
theorem dX6_takes_21 : decode cX6_takes 21 = .ok (.iconst 0, 1) := by decide +kernel
theorem dX6_takes_22 : decode cX6_takes 22 = .ok (.ireturn, 1) := by decide +kernel
theorem dX6_takes_23 : decode cX6_takes 23 = .ok (.aload_n 0, 1) := by decide +kernel
theorem dX6_takes_24 : decode cX6_takes 24 = .ok (.getfield 112, 3) := by decide +kernel
theorem dX6_takes_27 : decode cX6_takes 27 = .ok (.istore_n 2, 1) := by decide +kernel
theorem dX6_takes_28 : decode cX6_takes 28 = .ok (.aload_n 0, 1) := by decide +kernel
theorem dX6_takes_29 : decode cX6_takes 29 = .ok (.invokevirtual 122, 3) := by decide +kernel
theorem dX6_takes_32 : decode cX6_takes 32 = .ok (.iload_n 2, 1) := by decide +kernel
theorem dX6_takes_33 : decode cX6_takes 33 = .ok (.ireturn, 1) := by decide +kernel
set_option maxRecDepth 20000 in
theorem ggX6_number_X6_in : GoodIn wsX6_number wsX6_in := goodIn_r _ [6] (by decide +kernel) (by decide +kernel)
set_option maxRecDepth 20000 in
theorem gX6_number_X6_in : GoodIn wsX6_number (va_wsS RX6 61 yX6_in wsX6_in) := goodIn_app (goodIn_of _ (by decide +kernel)) ggX6_number_X6_in
set_option maxRecDepth 20000 in
theorem ggX6_number_X6_takes : GoodIn wsX6_number wsX6_takes := goodIn_r _ [10, 11, 12, 2, 13, 14, 15, 5, 16, 17, 18, 19, 20, 21, 1, 22, 23, 24, 25, 26, 27, 3, 4, 6, 28, 29, 30, 31, 32, 33, 34, 35, 36, 37, 38, 39, 40, 41, 42, 43, 44, 45, 46, 47, 48, 49, 50, 51, 52, 53, 54, 55, 56, 57, 58, 59, 60, 61, 62, 63, 64, 65, 66, 67, 68] (by decide +kernel) (by decide +kernel)
set_option maxRecDepth 20000 in
theorem gX6_number_X6_takes : GoodIn wsX6_number (wsV RX6 125 RX6 yX6_takes wsX6_takes) := goodIn_app (goodIn_of _ (by decide +kernel)) ggX6_number_X6_takes
theorem dX6_number_0 : decode cX6_number 0 = .ok (.aload_n 0, 1) := by decide +kernel
theorem dX6_number_1 : decode cX6_number 1 = .ok (.aload_n 0, 1) := by decide +kernel
theorem dX6_number_2 : decode cX6_number 2 = .ok (.getfield 105, 3) := by decide +kernel
theorem dX6_number_5 : decode cX6_number 5 = .ok (.iconst 2, 1) := by decide +kernel
theorem dX6_number_6 : decode cX6_number 6 = .ok (.if_icmp .ne 19, 3) := by decide +kernel
theorem dX6_number_9 : decode cX6_number 9 = .ok (.aload_n 0, 1) := by decide +kernel
theorem dX6_number_10 : decode cX6_number 10 = .ok (.getfield 112, 3) := by decide +kernel
theorem dX6_number_13 : decode cX6_number 13 = .ok (.iload_n 1, 1) := by decide +kernel
theorem dX6_number_14 : decode cX6_number 14 = .ok (.iload_n 2, 1) := by decide +kernel
theorem dX6_number_15 : decode cX6_number 15 = .ok (.invokestatic 61, 3) := by decide +kernel
theorem dX6_number_18 : decode cX6_number 18 = .ok (.ifCond .eq 7, 3) := by decide +kernel
theorem dX6_number_21 : decode cX6_number 21 = .ok (.iconst 1, 1) := by decide +kernel
theorem dX6_number_22 : decode cX6_number 22 = .ok (.goto 4, 3) := by decide +kernel
theorem dX6_number_25 : decode cX6_number 25 = .ok (.iconst 0, 1) := by decide +kernel
theorem dX6_number_26 : decode cX6_number 26 = .ok (.invokevirtual 125, 3) := by decide +kernel
theorem dX6_number_29 : decode cX6_number 29 = .ok (.ireturn, 1) := by decide +kernel
set_option maxRecDepth 20000 in
theorem ggX6_isWord_X6_isWell : GoodIn wsX6_isWord wsX6_isWell := goodIn_r _ [7, 8, 9, 10, 11, 12, 13, 14, 15, 16, 17, 18, 19, 20, 21, 22, 23, 24, 25, 26, 27, 28, 29, 30, 31, 32, 33, 34, 35, 36, 37] (by decide +kernel) (by decide +kernel)
set_option maxRecDepth 20000 in
theorem gX6_isWord_X6_isWell : GoodIn wsX6_isWord (wsV RX6 118 RX6 yX6_isWell wsX6_isWell) := goodIn_app (goodIn_of _ (by decide +kernel)) ggX6_isWord_X6_isWell
theorem dX6_isWord_0 : decode cX6_isWord 0 = .ok (.aload_n 0, 1) := by decide +kernel
theorem dX6_isWord_1 : decode cX6_isWord 1 = .ok (.invokevirtual 118, 3) := by decide +kernel
theorem dX6_isWord_4 : decode cX6_isWord 4 = .ok (.ifCond .eq 23, 3) := by decide +kernel
theorem dX6_isWord_7 : decode cX6_isWord 7 = .ok (.aload_n 0, 1) := by decide +kernel
theorem dX6_isWord_8 : decode cX6_isWord 8 = .ok (.getfield 105, 3) := by decide +kernel
theorem dX6_isWord_11 : decode cX6_isWord 11 = .ok (.iconst 1, 1) := by decide +kernel
theorem dX6_isWord_12 : decode cX6_isWord 12 = .ok (.if_icmp .ne 15, 3) := by decide +kernel
theorem dX6_isWord_15 : decode cX6_isWord 15 = .ok (.aload_n 0, 1) := by decide +kernel
theorem dX6_isWord_16 : decode cX6_isWord 16 = .ok (.getfield 112, 3) := by decide +kernel
theorem dX6_isWord_19 : decode cX6_isWord 19 = .ok (.iload_n 1, 1) := by decide +kernel
theorem dX6_isWord_20 : decode cX6_isWord 20 = .ok (.if_icmp .ne 7, 3) := by decide +kernel
theorem dX6_isWord_23 : decode cX6_isWord 23 = .ok (.iconst 1, 1) := by decide +kernel
theorem dX6_isWord_24 : decode cX6_isWord 24 = .ok (.goto 4, 3) := by decide +kernel
theorem dX6_isWord_27 : decode cX6_isWord 27 = .ok (.iconst 0, 1) := by decide +kernel
theorem dX6_isWord_28 : decode cX6_isWord 28 = .ok (.ireturn, 1) := by decide +kernel
set_option maxRecDepth 20000 in
theorem ggX6_readsLuck_X6_number : GoodIn wsX6_readsLuck wsX6_number := goodIn_r _ [8, 2, 3, 9, 10, 7, 11, 12, 13, 14, 15, 16, 17, 18, 19, 20, 21, 22, 23, 24, 25, 26, 27, 28, 29, 30, 31, 32, 33, 34, 35, 36, 37, 38, 39, 40, 41, 42, 43, 44, 45, 46, 47, 48, 49, 50, 51, 52, 53, 54, 55, 56, 57, 58, 59, 60, 61, 62, 63, 64, 65, 66, 67, 68, 69, 70, 71, 72, 73] (by decide +kernel) (by decide +kernel)
set_option maxRecDepth 20000 in
theorem gX6_readsLuck_X6_number : GoodIn wsX6_readsLuck (wsV RX6 129 RX6 yX6_number wsX6_number) := goodIn_app (goodIn_of _ (by decide +kernel)) ggX6_readsLuck_X6_number
set_option maxRecDepth 20000 in
theorem ggX6_readsLuck_X6_takes : GoodIn wsX6_readsLuck wsX6_takes := goodIn_r _ [15, 16, 17, 3, 18, 19, 20, 7, 21, 22, 23, 24, 25, 26, 2, 27, 28, 29, 30, 31, 32, 9, 10, 11, 33, 34, 35, 36, 37, 38, 39, 40, 41, 42, 43, 44, 45, 46, 47, 48, 49, 50, 51, 52, 53, 54, 55, 56, 57, 58, 59, 60, 61, 62, 63, 64, 65, 66, 67, 68, 69, 70, 71, 72, 73] (by decide +kernel) (by decide +kernel)
set_option maxRecDepth 20000 in
theorem gX6_readsLuck_X6_takes : GoodIn wsX6_readsLuck (wsV RX6 125 RX6 yX6_takes wsX6_takes) := goodIn_app (goodIn_of _ (by decide +kernel)) ggX6_readsLuck_X6_takes
theorem dX6_readsLuck_0 : decode cX6_readsLuck 0 = .ok (.aload_n 0, 1) := by decide +kernel
theorem dX6_readsLuck_1 : decode cX6_readsLuck 1 = .ok (.getfield 27, 3) := by decide +kernel
theorem dX6_readsLuck_4 : decode cX6_readsLuck 4 = .ok (.iconst 3, 1) := by decide +kernel
theorem dX6_readsLuck_5 : decode cX6_readsLuck 5 = .ok (.aload_n 0, 1) := by decide +kernel
theorem dX6_readsLuck_6 : decode cX6_readsLuck 6 = .ok (.iconst 0, 1) := by decide +kernel
theorem dX6_readsLuck_7 : decode cX6_readsLuck 7 = .ok (.bipush 10, 2) := by decide +kernel
theorem dX6_readsLuck_9 : decode cX6_readsLuck 9 = .ok (.invokevirtual 129, 3) := by decide +kernel
theorem dX6_readsLuck_12 : decode cX6_readsLuck 12 = .ok (.iastore, 1) := by decide +kernel
theorem dX6_readsLuck_13 : decode cX6_readsLuck 13 = .ok (.aload_n 0, 1) := by decide +kernel
theorem dX6_readsLuck_14 : decode cX6_readsLuck 14 = .ok (.getfield 27, 3) := by decide +kernel
theorem dX6_readsLuck_17 : decode cX6_readsLuck 17 = .ok (.iconst 4, 1) := by decide +kernel
theorem dX6_readsLuck_18 : decode cX6_readsLuck 18 = .ok (.aload_n 0, 1) := by decide +kernel
theorem dX6_readsLuck_19 : decode cX6_readsLuck 19 = .ok (.iconst 0, 1) := by decide +kernel
theorem dX6_readsLuck_20 : decode cX6_readsLuck 20 = .ok (.bipush 10, 2) := by decide +kernel
theorem dX6_readsLuck_22 : decode cX6_readsLuck 22 = .ok (.invokevirtual 129, 3) := by decide +kernel
theorem dX6_readsLuck_25 : decode cX6_readsLuck 25 = .ok (.iastore, 1) := by decide +kernel
theorem dX6_readsLuck_26 : decode cX6_readsLuck 26 = .ok (.aload_n 0, 1) := by decide +kernel
theorem dX6_readsLuck_27 : decode cX6_readsLuck 27 = .ok (.getfield 27, 3) := by decide +kernel
theorem dX6_readsLuck_30 : decode cX6_readsLuck 30 = .ok (.iconst 5, 1) := by decide +kernel
theorem dX6_readsLuck_31 : decode cX6_readsLuck 31 = .ok (.aload_n 0, 1) := by decide +kernel
theorem dX6_readsLuck_32 : decode cX6_readsLuck 32 = .ok (.aload_n 0, 1) := by decide +kernel
theorem dX6_readsLuck_33 : decode cX6_readsLuck 33 = .ok (.getfield 105, 3) := by decide +kernel
theorem dX6_readsLuck_36 : decode cX6_readsLuck 36 = .ok (.iconst 2, 1) := by decide +kernel
theorem dX6_readsLuck_37 : decode cX6_readsLuck 37 = .ok (.if_icmp .ne 30, 3) := by decide +kernel
theorem dX6_readsLuck_40 : decode cX6_readsLuck 40 = .ok (.aload_n 0, 1) := by decide +kernel
theorem dX6_readsLuck_41 : decode cX6_readsLuck 41 = .ok (.getfield 27, 3) := by decide +kernel
theorem dX6_readsLuck_44 : decode cX6_readsLuck 44 = .ok (.iconst 3, 1) := by decide +kernel
theorem dX6_readsLuck_45 : decode cX6_readsLuck 45 = .ok (.iaload, 1) := by decide +kernel
theorem dX6_readsLuck_46 : decode cX6_readsLuck 46 = .ok (.aload_n 0, 1) := by decide +kernel
theorem dX6_readsLuck_47 : decode cX6_readsLuck 47 = .ok (.getfield 27, 3) := by decide +kernel
theorem dX6_readsLuck_50 : decode cX6_readsLuck 50 = .ok (.iconst 4, 1) := by decide +kernel
theorem dX6_readsLuck_51 : decode cX6_readsLuck 51 = .ok (.iaload, 1) := by decide +kernel
theorem dX6_readsLuck_52 : decode cX6_readsLuck 52 = .ok (.iadd, 1) := by decide +kernel
theorem dX6_readsLuck_53 : decode cX6_readsLuck 53 = .ok (.aload_n 0, 1) := by decide +kernel
theorem dX6_readsLuck_54 : decode cX6_readsLuck 54 = .ok (.getfield 112, 3) := by decide +kernel
theorem dX6_readsLuck_57 : decode cX6_readsLuck 57 = .ok (.iadd, 1) := by decide +kernel
theorem dX6_readsLuck_58 : decode cX6_readsLuck 58 = .ok (.bipush 10, 2) := by decide +kernel
theorem dX6_readsLuck_60 : decode cX6_readsLuck 60 = .ok (.if_icmp .ne 7, 3) := by decide +kernel
theorem dX6_readsLuck_63 : decode cX6_readsLuck 63 = .ok (.iconst 1, 1) := by decide +kernel
theorem dX6_readsLuck_64 : decode cX6_readsLuck 64 = .ok (.goto 4, 3) := by decide +kernel
theorem dX6_readsLuck_67 : decode cX6_readsLuck 67 = .ok (.iconst 0, 1) := by decide +kernel
theorem dX6_readsLuck_68 : decode cX6_readsLuck 68 = .ok (.invokevirtual 125, 3) := by decide +kernel
theorem dX6_readsLuck_71 : decode cX6_readsLuck 71 = .ok (.iastore, 1) := by decide +kernel
theorem dX6_readsLuck_72 : decode cX6_readsLuck 72 = .ok (.return_, 1) := by decide +kernel
set_option maxRecDepth 20000 in
theorem ggX6_readsStall_X6_number : GoodIn wsX6_readsStall wsX6_number := goodIn_r _ [7, 8, 9, 10, 11, 6, 12, 13, 14, 15, 16, 17, 18, 19, 20, 21, 22, 23, 24, 25, 26, 27, 28, 29, 30, 31, 32, 33, 34, 35, 36, 37, 38, 39, 40, 41, 42, 43, 44, 45, 46, 47, 48, 49, 50, 51, 52, 53, 54, 55, 56, 57, 58, 59, 60, 61, 62, 63, 64, 65, 66, 67, 68, 69, 70, 71, 72, 73, 74] (by decide +kernel) (by decide +kernel)
set_option maxRecDepth 20000 in
theorem gX6_readsStall_X6_number : GoodIn wsX6_readsStall (wsV RX6 129 RX6 yX6_number wsX6_number) := goodIn_app (goodIn_of _ (by decide +kernel)) ggX6_readsStall_X6_number
