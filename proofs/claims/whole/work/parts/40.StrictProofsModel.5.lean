theorem dX11_onAsk_0 : decode cX11_onAsk 0 = .ok (.iconst 0, 1) := by decide +kernel
theorem dX11_onAsk_1 : decode cX11_onAsk 1 = .ok (.istore 4, 2) := by decide +kernel
theorem dX11_onAsk_3 : decode cX11_onAsk 3 = .ok (.iload 4, 2) := by decide +kernel
theorem dX11_onAsk_5 : decode cX11_onAsk 5 = .ok (.bipush 16, 2) := by decide +kernel
theorem dX11_onAsk_7 : decode cX11_onAsk 7 = .ok (.if_icmp .ge 19, 3) := by decide +kernel
theorem dX11_onAsk_10 : decode cX11_onAsk 10 = .ok (.aload_n 0, 1) := by decide +kernel
theorem dX11_onAsk_11 : decode cX11_onAsk 11 = .ok (.getfield 90, 3) := by decide +kernel
theorem dX11_onAsk_14 : decode cX11_onAsk 14 = .ok (.iload_n 3, 1) := by decide +kernel
theorem dX11_onAsk_15 : decode cX11_onAsk 15 = .ok (.iload 4, 2) := by decide +kernel
theorem dX11_onAsk_17 : decode cX11_onAsk 17 = .ok (.iadd, 1) := by decide +kernel
theorem dX11_onAsk_18 : decode cX11_onAsk 18 = .ok (.iconst 0, 1) := by decide +kernel
theorem dX11_onAsk_19 : decode cX11_onAsk 19 = .ok (.iastore, 1) := by decide +kernel
theorem dX11_onAsk_20 : decode cX11_onAsk 20 = .ok (.iinc 4 1, 3) := by decide +kernel
theorem dX11_onAsk_23 : decode cX11_onAsk 23 = .ok (.goto (-20), 3) := by decide +kernel
theorem dX11_onAsk_26 : decode cX11_onAsk 26 = .ok (.aload_n 0, 1) := by decide +kernel
theorem dX11_onAsk_27 : decode cX11_onAsk 27 = .ok (.getfield 39, 3) := by decide +kernel
theorem dX11_onAsk_30 : decode cX11_onAsk 30 = .ok (.iload_n 1, 1) := by decide +kernel
theorem dX11_onAsk_31 : decode cX11_onAsk 31 = .ok (.iaload, 1) := by decide +kernel
theorem dX11_onAsk_32 : decode cX11_onAsk 32 = .ok (.istore 4, 2) := by decide +kernel
theorem dX11_onAsk_34 : decode cX11_onAsk 34 = .ok (.aload_n 0, 1) := by decide +kernel
theorem dX11_onAsk_35 : decode cX11_onAsk 35 = .ok (.getfield 93, 3) := by decide +kernel
theorem dX11_onAsk_38 : decode cX11_onAsk 38 = .ok (.iload_n 3, 1) := by decide +kernel
theorem dX11_onAsk_39 : decode cX11_onAsk 39 = .ok (.bipush 16, 2) := by decide +kernel
theorem dX11_onAsk_41 : decode cX11_onAsk 41 = .ok (.idiv, 1) := by decide +kernel
theorem dX11_onAsk_42 : decode cX11_onAsk 42 = .ok (.iload 4, 2) := by decide +kernel
theorem dX11_onAsk_44 : decode cX11_onAsk 44 = .ok (.bipush 6, 2) := by decide +kernel
theorem dX11_onAsk_46 : decode cX11_onAsk 46 = .ok (.if_icmp .eq 32, 3) := by decide +kernel
theorem dX11_onAsk_49 : decode cX11_onAsk 49 = .ok (.iload 4, 2) := by decide +kernel
theorem dX11_onAsk_51 : decode cX11_onAsk 51 = .ok (.bipush 8, 2) := by decide +kernel
theorem dX11_onAsk_53 : decode cX11_onAsk 53 = .ok (.if_icmp .ne 29, 3) := by decide +kernel
theorem dX11_onAsk_56 : decode cX11_onAsk 56 = .ok (.aload_n 0, 1) := by decide +kernel
theorem dX11_onAsk_57 : decode cX11_onAsk 57 = .ok (.getfield 100, 3) := by decide +kernel
theorem dX11_onAsk_60 : decode cX11_onAsk 60 = .ok (.bipush 26, 2) := by decide +kernel
theorem dX11_onAsk_62 : decode cX11_onAsk 62 = .ok (.aload_n 0, 1) := by decide +kernel
theorem dX11_onAsk_63 : decode cX11_onAsk 63 = .ok (.getfield 48, 3) := by decide +kernel
theorem dX11_onAsk_66 : decode cX11_onAsk 66 = .ok (.iload_n 1, 1) := by decide +kernel
theorem dX11_onAsk_67 : decode cX11_onAsk 67 = .ok (.iaload, 1) := by decide +kernel
theorem dX11_onAsk_68 : decode cX11_onAsk 68 = .ok (.bipush 12, 2) := by decide +kernel
theorem dX11_onAsk_70 : decode cX11_onAsk 70 = .ok (.irem, 1) := by decide +kernel
theorem dX11_onAsk_71 : decode cX11_onAsk 71 = .ok (.imul, 1) := by decide +kernel
theorem dX11_onAsk_72 : decode cX11_onAsk 72 = .ok (.iload_n 2, 1) := by decide +kernel
theorem dX11_onAsk_73 : decode cX11_onAsk 73 = .ok (.iadd, 1) := by decide +kernel
theorem dX11_onAsk_74 : decode cX11_onAsk 74 = .ok (.baload, 1) := by decide +kernel
theorem dX11_onAsk_75 : decode cX11_onAsk 75 = .ok (.ifCond .eq 7, 3) := by decide +kernel
theorem dX11_onAsk_78 : decode cX11_onAsk 78 = .ok (.iconst 1, 1) := by decide +kernel
theorem dX11_onAsk_79 : decode cX11_onAsk 79 = .ok (.goto 4, 3) := by decide +kernel
theorem dX11_onAsk_82 : decode cX11_onAsk 82 = .ok (.iconst 0, 1) := by decide +kernel
theorem dX11_onAsk_83 : decode cX11_onAsk 83 = .ok (.bastore, 1) := by decide +kernel
theorem dX11_onAsk_84 : decode cX11_onAsk 84 = .ok (.iload 4, 2) := by decide +kernel
theorem dX11_onAsk_86 : decode cX11_onAsk 86 = .ok (.bipush 7, 2) := by decide +kernel
theorem dX11_onAsk_88 : decode cX11_onAsk 88 = .ok (.if_icmp .ne 20, 3) := by decide +kernel
theorem dX11_onAsk_91 : decode cX11_onAsk 91 = .ok (.aload_n 0, 1) := by decide +kernel
theorem dX11_onAsk_92 : decode cX11_onAsk 92 = .ok (.getfield 90, 3) := by decide +kernel
theorem dX11_onAsk_95 : decode cX11_onAsk 95 = .ok (.iload_n 3, 1) := by decide +kernel
theorem dX11_onAsk_96 : decode cX11_onAsk 96 = .ok (.aload_n 0, 1) := by decide +kernel
theorem dX11_onAsk_97 : decode cX11_onAsk 97 = .ok (.getfield 42, 3) := by decide +kernel
theorem dX11_onAsk_100 : decode cX11_onAsk 100 = .ok (.iload_n 1, 1) := by decide +kernel
theorem dX11_onAsk_101 : decode cX11_onAsk 101 = .ok (.iaload, 1) := by decide +kernel
theorem dX11_onAsk_102 : decode cX11_onAsk 102 = .ok (.iadd, 1) := by decide +kernel
theorem dX11_onAsk_103 : decode cX11_onAsk 103 = .ok (.iload_n 2, 1) := by decide +kernel
theorem dX11_onAsk_104 : decode cX11_onAsk 104 = .ok (.iastore, 1) := by decide +kernel
theorem dX11_onAsk_105 : decode cX11_onAsk 105 = .ok (.goto 281, 3) := by decide +kernel
theorem dX11_onAsk_108 : decode cX11_onAsk 108 = .ok (.iload 4, 2) := by decide +kernel
theorem dX11_onAsk_110 : decode cX11_onAsk 110 = .ok (.iconst 1, 1) := by decide +kernel
theorem dX11_onAsk_111 : decode cX11_onAsk 111 = .ok (.if_icmp .eq 10, 3) := by decide +kernel
theorem dX11_onAsk_114 : decode cX11_onAsk 114 = .ok (.iload 4, 2) := by decide +kernel
theorem dX11_onAsk_116 : decode cX11_onAsk 116 = .ok (.bipush 9, 2) := by decide +kernel
theorem dX11_onAsk_118 : decode cX11_onAsk 118 = .ok (.if_icmp .ne 118, 3) := by decide +kernel
theorem dX11_onAsk_121 : decode cX11_onAsk 121 = .ok (.iload 4, 2) := by decide +kernel
theorem dX11_onAsk_123 : decode cX11_onAsk 123 = .ok (.bipush 9, 2) := by decide +kernel
theorem dX11_onAsk_125 : decode cX11_onAsk 125 = .ok (.if_icmp .ne 18, 3) := by decide +kernel
theorem dX11_onAsk_128 : decode cX11_onAsk 128 = .ok (.aload_n 0, 1) := by decide +kernel
theorem dX11_onAsk_129 : decode cX11_onAsk 129 = .ok (.getfield 54, 3) := by decide +kernel
theorem dX11_onAsk_132 : decode cX11_onAsk 132 = .ok (.iload_n 1, 1) := by decide +kernel
theorem dX11_onAsk_133 : decode cX11_onAsk 133 = .ok (.iaload, 1) := by decide +kernel
theorem dX11_onAsk_134 : decode cX11_onAsk 134 = .ok (.invokestatic 162, 3) := by decide +kernel
theorem dX11_onAsk_137 : decode cX11_onAsk 137 = .ok (.invokestatic 166, 3) := by decide +kernel
theorem dX11_onAsk_140 : decode cX11_onAsk 140 = .ok (.goto 4, 3) := by decide +kernel
theorem dX11_onAsk_143 : decode cX11_onAsk 143 = .ok (.iconst 1, 1) := by decide +kernel
theorem dX11_onAsk_144 : decode cX11_onAsk 144 = .ok (.istore 5, 2) := by decide +kernel
theorem dX11_onAsk_146 : decode cX11_onAsk 146 = .ok (.iload 4, 2) := by decide +kernel
theorem dX11_onAsk_148 : decode cX11_onAsk 148 = .ok (.bipush 9, 2) := by decide +kernel
theorem dX11_onAsk_150 : decode cX11_onAsk 150 = .ok (.if_icmp .ne 12, 3) := by decide +kernel
theorem dX11_onAsk_153 : decode cX11_onAsk 153 = .ok (.iload_n 2, 1) := by decide +kernel
theorem dX11_onAsk_154 : decode cX11_onAsk 154 = .ok (.iconst 1, 1) := by decide +kernel
theorem dX11_onAsk_155 : decode cX11_onAsk 155 = .ok (.isub, 1) := by decide +kernel
theorem dX11_onAsk_156 : decode cX11_onAsk 156 = .ok (.iload 5, 2) := by decide +kernel
theorem dX11_onAsk_158 : decode cX11_onAsk 158 = .ok (.idiv, 1) := by decide +kernel
theorem dX11_onAsk_159 : decode cX11_onAsk 159 = .ok (.goto 4, 3) := by decide +kernel
theorem dX11_onAsk_162 : decode cX11_onAsk 162 = .ok (.iconst 1, 1) := by decide +kernel
theorem dX11_onAsk_163 : decode cX11_onAsk 163 = .ok (.istore 6, 2) := by decide +kernel
theorem dX11_onAsk_165 : decode cX11_onAsk 165 = .ok (.iload 4, 2) := by decide +kernel
theorem dX11_onAsk_167 : decode cX11_onAsk 167 = .ok (.bipush 9, 2) := by decide +kernel
theorem dX11_onAsk_169 : decode cX11_onAsk 169 = .ok (.if_icmp .ne 12, 3) := by decide +kernel
theorem dX11_onAsk_172 : decode cX11_onAsk 172 = .ok (.iload_n 2, 1) := by decide +kernel
theorem dX11_onAsk_173 : decode cX11_onAsk 173 = .ok (.iconst 1, 1) := by decide +kernel
theorem dX11_onAsk_174 : decode cX11_onAsk 174 = .ok (.isub, 1) := by decide +kernel
theorem dX11_onAsk_175 : decode cX11_onAsk 175 = .ok (.iload 5, 2) := by decide +kernel
theorem dX11_onAsk_177 : decode cX11_onAsk 177 = .ok (.irem, 1) := by decide +kernel
theorem dX11_onAsk_178 : decode cX11_onAsk 178 = .ok (.goto 4, 3) := by decide +kernel
theorem dX11_onAsk_181 : decode cX11_onAsk 181 = .ok (.iconst 1, 1) := by decide +kernel
theorem dX11_onAsk_182 : decode cX11_onAsk 182 = .ok (.istore 7, 2) := by decide +kernel
theorem dX11_onAsk_184 : decode cX11_onAsk 184 = .ok (.iload 7, 2) := by decide +kernel
theorem dX11_onAsk_186 : decode cX11_onAsk 186 = .ok (.ifCond .le 28, 3) := by decide +kernel
theorem dX11_onAsk_189 : decode cX11_onAsk 189 = .ok (.aload_n 0, 1) := by decide +kernel
theorem dX11_onAsk_190 : decode cX11_onAsk 190 = .ok (.iconst 2, 1) := by decide +kernel
theorem dX11_onAsk_191 : decode cX11_onAsk 191 = .ok (.iload_n 1, 1) := by decide +kernel
theorem dX11_onAsk_192 : decode cX11_onAsk 192 = .ok (.iconst 0, 1) := by decide +kernel
theorem dX11_onAsk_193 : decode cX11_onAsk 193 = .ok (.iload_n 3, 1) := by decide +kernel
theorem dX11_onAsk_194 : decode cX11_onAsk 194 = .ok (.invokevirtual 363, 3) := by decide +kernel
theorem dX11_onAsk_197 : decode cX11_onAsk 197 = .ok (.aload_n 0, 1) := by decide +kernel
theorem dX11_onAsk_198 : decode cX11_onAsk 198 = .ok (.iconst 1, 1) := by decide +kernel
theorem dX11_onAsk_199 : decode cX11_onAsk 199 = .ok (.aload_n 0, 1) := by decide +kernel
theorem dX11_onAsk_200 : decode cX11_onAsk 200 = .ok (.getfield 45, 3) := by decide +kernel
theorem dX11_onAsk_203 : decode cX11_onAsk 203 = .ok (.iload_n 1, 1) := by decide +kernel
theorem dX11_onAsk_204 : decode cX11_onAsk 204 = .ok (.iaload, 1) := by decide +kernel
theorem dX11_onAsk_205 : decode cX11_onAsk 205 = .ok (.iload 7, 2) := by decide +kernel
theorem dX11_onAsk_207 : decode cX11_onAsk 207 = .ok (.iload_n 3, 1) := by decide +kernel
theorem dX11_onAsk_208 : decode cX11_onAsk 208 = .ok (.bipush 16, 2) := by decide +kernel
theorem dX11_onAsk_210 : decode cX11_onAsk 210 = .ok (.iadd, 1) := by decide +kernel
theorem dX11_onAsk_211 : decode cX11_onAsk 211 = .ok (.invokevirtual 363, 3) := by decide +kernel
theorem dX11_onAsk_214 : decode cX11_onAsk 214 = .ok (.iload 6, 2) := by decide +kernel
theorem dX11_onAsk_216 : decode cX11_onAsk 216 = .ok (.ifCond .le 17, 3) := by decide +kernel
theorem dX11_onAsk_219 : decode cX11_onAsk 219 = .ok (.aload_n 0, 1) := by decide +kernel
theorem dX11_onAsk_220 : decode cX11_onAsk 220 = .ok (.iconst 1, 1) := by decide +kernel
theorem dX11_onAsk_221 : decode cX11_onAsk 221 = .ok (.aload_n 0, 1) := by decide +kernel
theorem dX11_onAsk_222 : decode cX11_onAsk 222 = .ok (.getfield 42, 3) := by decide +kernel
theorem dX11_onAsk_225 : decode cX11_onAsk 225 = .ok (.iload_n 1, 1) := by decide +kernel
theorem dX11_onAsk_226 : decode cX11_onAsk 226 = .ok (.iaload, 1) := by decide +kernel
theorem dX11_onAsk_227 : decode cX11_onAsk 227 = .ok (.iload 6, 2) := by decide +kernel
theorem dX11_onAsk_229 : decode cX11_onAsk 229 = .ok (.iload_n 3, 1) := by decide +kernel
theorem dX11_onAsk_230 : decode cX11_onAsk 230 = .ok (.invokevirtual 363, 3) := by decide +kernel
theorem dX11_onAsk_233 : decode cX11_onAsk 233 = .ok (.goto 153, 3) := by decide +kernel
theorem dX11_onAsk_236 : decode cX11_onAsk 236 = .ok (.iload 4, 2) := by decide +kernel
theorem dX11_onAsk_238 : decode cX11_onAsk 238 = .ok (.iconst 2, 1) := by decide +kernel
theorem dX11_onAsk_239 : decode cX11_onAsk 239 = .ok (.if_icmp .ne 70, 3) := by decide +kernel
theorem dX11_onAsk_242 : decode cX11_onAsk 242 = .ok (.aload_n 0, 1) := by decide +kernel
theorem dX11_onAsk_243 : decode cX11_onAsk 243 = .ok (.iconst 2, 1) := by decide +kernel
theorem dX11_onAsk_244 : decode cX11_onAsk 244 = .ok (.iload_n 1, 1) := by decide +kernel
theorem dX11_onAsk_245 : decode cX11_onAsk 245 = .ok (.iconst 0, 1) := by decide +kernel
theorem dX11_onAsk_246 : decode cX11_onAsk 246 = .ok (.iload_n 3, 1) := by decide +kernel
theorem dX11_onAsk_247 : decode cX11_onAsk 247 = .ok (.invokevirtual 363, 3) := by decide +kernel
theorem dX11_onAsk_250 : decode cX11_onAsk 250 = .ok (.aload_n 0, 1) := by decide +kernel
theorem dX11_onAsk_251 : decode cX11_onAsk 251 = .ok (.iconst 3, 1) := by decide +kernel
theorem dX11_onAsk_252 : decode cX11_onAsk 252 = .ok (.iload_n 1, 1) := by decide +kernel
theorem dX11_onAsk_253 : decode cX11_onAsk 253 = .ok (.iconst 0, 1) := by decide +kernel
theorem dX11_onAsk_254 : decode cX11_onAsk 254 = .ok (.iload_n 3, 1) := by decide +kernel
theorem dX11_onAsk_255 : decode cX11_onAsk 255 = .ok (.bipush 16, 2) := by decide +kernel
theorem dX11_onAsk_257 : decode cX11_onAsk 257 = .ok (.iadd, 1) := by decide +kernel
theorem dX11_onAsk_258 : decode cX11_onAsk 258 = .ok (.invokevirtual 363, 3) := by decide +kernel
theorem dX11_onAsk_261 : decode cX11_onAsk 261 = .ok (.aload_n 0, 1) := by decide +kernel
theorem dX11_onAsk_262 : decode cX11_onAsk 262 = .ok (.iconst 1, 1) := by decide +kernel
theorem dX11_onAsk_263 : decode cX11_onAsk 263 = .ok (.aload_n 0, 1) := by decide +kernel
theorem dX11_onAsk_264 : decode cX11_onAsk 264 = .ok (.getfield 48, 3) := by decide +kernel
theorem dX11_onAsk_267 : decode cX11_onAsk 267 = .ok (.iload_n 1, 1) := by decide +kernel
theorem dX11_onAsk_268 : decode cX11_onAsk 268 = .ok (.iaload, 1) := by decide +kernel
theorem dX11_onAsk_269 : decode cX11_onAsk 269 = .ok (.iload_n 2, 1) := by decide +kernel
theorem dX11_onAsk_270 : decode cX11_onAsk 270 = .ok (.iload_n 3, 1) := by decide +kernel
theorem dX11_onAsk_271 : decode cX11_onAsk 271 = .ok (.bipush 32, 2) := by decide +kernel
theorem dX11_onAsk_273 : decode cX11_onAsk 273 = .ok (.iadd, 1) := by decide +kernel
theorem dX11_onAsk_274 : decode cX11_onAsk 274 = .ok (.invokevirtual 363, 3) := by decide +kernel
theorem dX11_onAsk_277 : decode cX11_onAsk 277 = .ok (.aload_n 0, 1) := by decide +kernel
theorem dX11_onAsk_278 : decode cX11_onAsk 278 = .ok (.iconst 1, 1) := by decide +kernel
theorem dX11_onAsk_279 : decode cX11_onAsk 279 = .ok (.aload_n 0, 1) := by decide +kernel
theorem dX11_onAsk_280 : decode cX11_onAsk 280 = .ok (.getfield 45, 3) := by decide +kernel
theorem dX11_onAsk_283 : decode cX11_onAsk 283 = .ok (.iload_n 1, 1) := by decide +kernel
theorem dX11_onAsk_284 : decode cX11_onAsk 284 = .ok (.iaload, 1) := by decide +kernel
theorem dX11_onAsk_285 : decode cX11_onAsk 285 = .ok (.iload_n 2, 1) := by decide +kernel
theorem dX11_onAsk_286 : decode cX11_onAsk 286 = .ok (.iload_n 3, 1) := by decide +kernel
theorem dX11_onAsk_287 : decode cX11_onAsk 287 = .ok (.bipush 16, 2) := by decide +kernel
theorem dX11_onAsk_289 : decode cX11_onAsk 289 = .ok (.iadd, 1) := by decide +kernel
theorem dX11_onAsk_290 : decode cX11_onAsk 290 = .ok (.invokevirtual 363, 3) := by decide +kernel
theorem dX11_onAsk_293 : decode cX11_onAsk 293 = .ok (.aload_n 0, 1) := by decide +kernel
theorem dX11_onAsk_294 : decode cX11_onAsk 294 = .ok (.iconst 1, 1) := by decide +kernel
theorem dX11_onAsk_295 : decode cX11_onAsk 295 = .ok (.aload_n 0, 1) := by decide +kernel
theorem dX11_onAsk_296 : decode cX11_onAsk 296 = .ok (.getfield 42, 3) := by decide +kernel
theorem dX11_onAsk_299 : decode cX11_onAsk 299 = .ok (.iload_n 1, 1) := by decide +kernel
theorem dX11_onAsk_300 : decode cX11_onAsk 300 = .ok (.iaload, 1) := by decide +kernel
theorem dX11_onAsk_301 : decode cX11_onAsk 301 = .ok (.iconst 1, 1) := by decide +kernel
theorem dX11_onAsk_302 : decode cX11_onAsk 302 = .ok (.iload_n 3, 1) := by decide +kernel
theorem dX11_onAsk_303 : decode cX11_onAsk 303 = .ok (.invokevirtual 363, 3) := by decide +kernel
theorem dX11_onAsk_306 : decode cX11_onAsk 306 = .ok (.goto 80, 3) := by decide +kernel
theorem dX11_onAsk_309 : decode cX11_onAsk 309 = .ok (.iload 4, 2) := by decide +kernel
theorem dX11_onAsk_311 : decode cX11_onAsk 311 = .ok (.iconst 3, 1) := by decide +kernel
theorem dX11_onAsk_312 : decode cX11_onAsk 312 = .ok (.if_icmp .eq 9, 3) := by decide +kernel
theorem dX11_onAsk_315 : decode cX11_onAsk 315 = .ok (.iload 4, 2) := by decide +kernel
theorem dX11_onAsk_317 : decode cX11_onAsk 317 = .ok (.iconst 4, 1) := by decide +kernel
theorem dX11_onAsk_318 : decode cX11_onAsk 318 = .ok (.if_icmp .ne 37, 3) := by decide +kernel
theorem dX11_onAsk_321 : decode cX11_onAsk 321 = .ok (.aload_n 0, 1) := by decide +kernel
theorem dX11_onAsk_322 : decode cX11_onAsk 322 = .ok (.iload 4, 2) := by decide +kernel
theorem dX11_onAsk_324 : decode cX11_onAsk 324 = .ok (.iconst 3, 1) := by decide +kernel
theorem dX11_onAsk_325 : decode cX11_onAsk 325 = .ok (.if_icmp .ne 7, 3) := by decide +kernel
theorem dX11_onAsk_328 : decode cX11_onAsk 328 = .ok (.iconst 4, 1) := by decide +kernel
theorem dX11_onAsk_329 : decode cX11_onAsk 329 = .ok (.goto 4, 3) := by decide +kernel
theorem dX11_onAsk_332 : decode cX11_onAsk 332 = .ok (.iconst 5, 1) := by decide +kernel
theorem dX11_onAsk_333 : decode cX11_onAsk 333 = .ok (.iload_n 1, 1) := by decide +kernel
theorem dX11_onAsk_334 : decode cX11_onAsk 334 = .ok (.iconst 0, 1) := by decide +kernel
theorem dX11_onAsk_335 : decode cX11_onAsk 335 = .ok (.iload_n 3, 1) := by decide +kernel
theorem dX11_onAsk_336 : decode cX11_onAsk 336 = .ok (.invokevirtual 363, 3) := by decide +kernel
theorem dX11_onAsk_339 : decode cX11_onAsk 339 = .ok (.aload_n 0, 1) := by decide +kernel
theorem dX11_onAsk_340 : decode cX11_onAsk 340 = .ok (.iconst 1, 1) := by decide +kernel
theorem dX11_onAsk_341 : decode cX11_onAsk 341 = .ok (.aload_n 0, 1) := by decide +kernel
theorem dX11_onAsk_342 : decode cX11_onAsk 342 = .ok (.getfield 45, 3) := by decide +kernel
theorem dX11_onAsk_345 : decode cX11_onAsk 345 = .ok (.iload_n 1, 1) := by decide +kernel
theorem dX11_onAsk_346 : decode cX11_onAsk 346 = .ok (.iaload, 1) := by decide +kernel
theorem dX11_onAsk_347 : decode cX11_onAsk 347 = .ok (.iload_n 2, 1) := by decide +kernel
theorem dX11_onAsk_348 : decode cX11_onAsk 348 = .ok (.iload_n 3, 1) := by decide +kernel
theorem dX11_onAsk_349 : decode cX11_onAsk 349 = .ok (.invokevirtual 363, 3) := by decide +kernel
theorem dX11_onAsk_352 : decode cX11_onAsk 352 = .ok (.goto 34, 3) := by decide +kernel
theorem dX11_onAsk_355 : decode cX11_onAsk 355 = .ok (.iload 4, 2) := by decide +kernel
theorem dX11_onAsk_357 : decode cX11_onAsk 357 = .ok (.bipush 8, 2) := by decide +kernel
theorem dX11_onAsk_359 : decode cX11_onAsk 359 = .ok (.if_icmp .ne 27, 3) := by decide +kernel
theorem dX11_onAsk_362 : decode cX11_onAsk 362 = .ok (.aload_n 0, 1) := by decide +kernel
theorem dX11_onAsk_363 : decode cX11_onAsk 363 = .ok (.getfield 93, 3) := by decide +kernel
theorem dX11_onAsk_366 : decode cX11_onAsk 366 = .ok (.iload_n 3, 1) := by decide +kernel
theorem dX11_onAsk_367 : decode cX11_onAsk 367 = .ok (.bipush 16, 2) := by decide +kernel
theorem dX11_onAsk_369 : decode cX11_onAsk 369 = .ok (.idiv, 1) := by decide +kernel
theorem dX11_onAsk_370 : decode cX11_onAsk 370 = .ok (.baload, 1) := by decide +kernel
theorem dX11_onAsk_371 : decode cX11_onAsk 371 = .ok (.ifCond .ne 15, 3) := by decide +kernel
theorem dX11_onAsk_374 : decode cX11_onAsk 374 = .ok (.aload_n 0, 1) := by decide +kernel
theorem dX11_onAsk_375 : decode cX11_onAsk 375 = .ok (.bipush 6, 2) := by decide +kernel
theorem dX11_onAsk_377 : decode cX11_onAsk 377 = .ok (.iload_n 1, 1) := by decide +kernel
theorem dX11_onAsk_378 : decode cX11_onAsk 378 = .ok (.bipush 8, 2) := by decide +kernel
theorem dX11_onAsk_380 : decode cX11_onAsk 380 = .ok (.iload_n 2, 1) := by decide +kernel
theorem dX11_onAsk_381 : decode cX11_onAsk 381 = .ok (.imul, 1) := by decide +kernel
theorem dX11_onAsk_382 : decode cX11_onAsk 382 = .ok (.iload_n 3, 1) := by decide +kernel
theorem dX11_onAsk_383 : decode cX11_onAsk 383 = .ok (.invokevirtual 363, 3) := by decide +kernel
theorem dX11_onAsk_386 : decode cX11_onAsk 386 = .ok (.return_, 1) := by decide +kernel
noncomputable def fX11_onAsk_233 (M : mv_M) : Option (Unit × mv_M) :=
  some ((), M)
set_option maxRecDepth 100000 in
set_option maxHeartbeats 4000000 in
theorem zX11_onAsk_233 {l : Launch} {d : Nat} {Q : Unit → mv_M → Prop} (hd : 3 ≤ d) (M : mv_M) (h : mv_ok (fX11_onAsk_233 M) Q) : mv l mX11_onAsk d 0 233 [] [] M (mv_qV Q) := by
  unfold fX11_onAsk_233 at h
  refine mv_goto 386 dX11_onAsk_233 (by decide) ?_
  exact mv_vret rfl dX11_onAsk_386 ⟨rfl, h⟩
noncomputable def fX11_onAsk_214 (x1 : Int32) (x3 : Int32) (x6 : Int32) (M : mv_M) : Option (Unit × mv_M) :=
  if x6 ≤ 0 then
    fX11_onAsk_233 M
  else
    mv_chk (mv_inb x1 2002) <|
    mv_bind (fX11_asking 1 (M.1 72 x1.toNatClampNeg) x6 x3 M) fun _ M37 =>
    fX11_onAsk_233 M37
set_option maxRecDepth 100000 in
set_option maxHeartbeats 4000000 in
theorem zX11_onAsk_214 {l : Launch} {d : Nat} {Q : Unit → mv_M → Prop} (hd : 3 ≤ d) (x1 : Int32) (x3 : Int32) (x6 : Int32) (M : mv_M) (h : mv_ok (fX11_onAsk_214 x1 x3 x6 M) Q) : mv l mX11_onAsk d 0 214 [(0, .ref 62), (1, .int x1), (3, .int x3), (6, .int x6)] [] M (mv_qV Q) := by
  unfold fX11_onAsk_214 at h
  refine mv_iload 3 dX11_onAsk_214 rfl ?_
  refine mv_if_le 233 dX11_onAsk_216 (by decide) (fun z => ?_) (fun z => ?_)
  · replace h := mv_ifT z h
    refine mv_sub [] rfl ?_
    exact zX11_onAsk_233 hd M h
  · replace h := mv_ifF z h
    refine mv_aload_n 0 dX11_onAsk_219 rfl ?_
    refine mv_iconst 1 dX11_onAsk_220 (by decide) ?_
    refine mv_aload_n 0 dX11_onAsk_221 rfl ?_
    refine mv_getR 72 fX11_42 (by decide) rfl rfl rfl dX11_onAsk_222 ?_
    refine mv_iload_n 1 dX11_onAsk_225 rfl ?_
    obtain ⟨hi36, h⟩ := mv_chkE h
    refine mv_ild (by decide) rfl (mv_inE hi36) dX11_onAsk_226 ?_
    refine mv_iload 3 dX11_onAsk_227 rfl ?_
    refine mv_iload_n 2 dX11_onAsk_229 rfl ?_
    refine mv_cvV (As := [.int 1, .int (M.1 72 x1.toNatClampNeg), .int x6, .int x3]) (st := []) okX11_asking lX11_363 (by decide) rfl rfl rfl (Nat.le_of_ble_eq_true rfl) rfl (Nat.le_of_ble_eq_true rfl) dX11_onAsk_230 (by omega) rfl (zX11_asking (d := d - 1) (by omega) 1 (M.1 72 x1.toNatClampNeg) x6 x3 M (mv_bindE h)) (fun _ M37 h => ?_)
    refine mv_sub [] rfl ?_
    exact zX11_onAsk_233 hd M37 h
noncomputable def fX11_onAsk_182 (x1 : Int32) (x3 : Int32) (x6 : Int32) (s0 : Int32) (M : mv_M) : Option (Unit × mv_M) :=
  if s0 ≤ 0 then
    fX11_onAsk_214 x1 x3 x6 M
  else
    mv_bind (fX11_asking 2 x1 0 x3 M) fun _ M33 =>
    mv_chk (mv_inb x1 2002) <|
    mv_bind (fX11_asking 1 (M33.1 73 x1.toNatClampNeg) s0 (x3 + 16) M33) fun _ M35 =>
    fX11_onAsk_214 x1 x3 x6 M35
set_option maxRecDepth 100000 in
set_option maxHeartbeats 4000000 in
theorem zX11_onAsk_182 {l : Launch} {d : Nat} {Q : Unit → mv_M → Prop} (hd : 3 ≤ d) (x1 : Int32) (x3 : Int32) (x6 : Int32) (s0 : Int32) (M : mv_M) (h : mv_ok (fX11_onAsk_182 x1 x3 x6 s0 M) Q) : mv l mX11_onAsk d 0 182 [(0, .ref 62), (1, .int x1), (3, .int x3), (6, .int x6)] [.int s0] M (mv_qV Q) := by
  unfold fX11_onAsk_182 at h
  refine mv_istore [(7, .int s0), (0, .ref 62), (1, .int x1), (3, .int x3), (6, .int x6)] dX11_onAsk_182 (by decide) rfl ?_
  refine mv_iload 0 dX11_onAsk_184 rfl ?_
  refine mv_if_le 214 dX11_onAsk_186 (by decide) (fun z => ?_) (fun z => ?_)
  · replace h := mv_ifT z h
    refine mv_sub [1, 2, 3, 4] rfl ?_
    exact zX11_onAsk_214 hd x1 x3 x6 M h
  · replace h := mv_ifF z h
    refine mv_aload_n 1 dX11_onAsk_189 rfl ?_
    refine mv_iconst 2 dX11_onAsk_190 (by decide) ?_
    refine mv_iload_n 2 dX11_onAsk_191 rfl ?_
    refine mv_iconst 0 dX11_onAsk_192 (by decide) ?_
    refine mv_iload_n 3 dX11_onAsk_193 rfl ?_
    refine mv_cvV (As := [.int 2, .int x1, .int 0, .int x3]) (st := []) okX11_asking lX11_363 (by decide) rfl rfl rfl (Nat.le_of_ble_eq_true rfl) rfl (Nat.le_of_ble_eq_true rfl) dX11_onAsk_194 (by omega) rfl (zX11_asking (d := d - 1) (by omega) 2 x1 0 x3 M (mv_bindE h)) (fun _ M33 h => ?_)
    refine mv_aload_n 1 dX11_onAsk_197 rfl ?_
    refine mv_iconst 1 dX11_onAsk_198 (by decide) ?_
    refine mv_aload_n 1 dX11_onAsk_199 rfl ?_
    refine mv_getR 73 fX11_45 (by decide) rfl rfl rfl dX11_onAsk_200 ?_
    refine mv_iload_n 2 dX11_onAsk_203 rfl ?_
    obtain ⟨hi34, h⟩ := mv_chkE h
    refine mv_ild (by decide) rfl (mv_inE hi34) dX11_onAsk_204 ?_
    refine mv_iload 0 dX11_onAsk_205 rfl ?_
    refine mv_iload_n 3 dX11_onAsk_207 rfl ?_
    refine mv_bipush 16 dX11_onAsk_208 (by decide) ?_
    refine mv_iadd dX11_onAsk_210 ?_
    refine mv_cvV (As := [.int 1, .int (M33.1 73 x1.toNatClampNeg), .int s0, .int (x3 + 16)]) (st := []) okX11_asking lX11_363 (by decide) rfl rfl rfl (Nat.le_of_ble_eq_true rfl) rfl (Nat.le_of_ble_eq_true rfl) dX11_onAsk_211 (by omega) rfl (zX11_asking (d := d - 1) (by omega) 1 (M33.1 73 x1.toNatClampNeg) s0 (x3 + 16) M33 (mv_bindE h)) (fun _ M35 h => ?_)
    refine mv_sub [1, 2, 3, 4] rfl ?_
    exact zX11_onAsk_214 hd x1 x3 x6 M35 h
noncomputable def fX11_onAsk_163 (x1 : Int32) (x2 : Int32) (x3 : Int32) (x4 : Int32) (x5 : Int32) (s0 : Int32) (M : mv_M) : Option (Unit × mv_M) :=
  if x4 = 9 then
    mv_chk (mv_nz x5) <|
    fX11_onAsk_182 x1 x3 s0 ((x2 - 1) - (x2 - 1) / x5 * x5) M
  else
    fX11_onAsk_182 x1 x3 s0 1 M
set_option maxRecDepth 100000 in
set_option maxHeartbeats 4000000 in
theorem zX11_onAsk_163 {l : Launch} {d : Nat} {Q : Unit → mv_M → Prop} (hd : 3 ≤ d) (x1 : Int32) (x2 : Int32) (x3 : Int32) (x4 : Int32) (x5 : Int32) (s0 : Int32) (M : mv_M) (h : mv_ok (fX11_onAsk_163 x1 x2 x3 x4 x5 s0 M) Q) : mv l mX11_onAsk d 0 163 [(0, .ref 62), (1, .int x1), (2, .int x2), (3, .int x3), (4, .int x4), (5, .int x5)] [.int s0] M (mv_qV Q) := by
  unfold fX11_onAsk_163 at h
  refine mv_istore [(6, .int s0), (0, .ref 62), (1, .int x1), (2, .int x2), (3, .int x3), (4, .int x4), (5, .int x5)] dX11_onAsk_163 (by decide) rfl ?_
  refine mv_iload 5 dX11_onAsk_165 rfl ?_
  refine mv_bipush 9 dX11_onAsk_167 (by decide) ?_
  refine mv_icmp_ne 181 dX11_onAsk_169 (by decide) (fun z => ?_) (fun z => ?_)
  · replace h := mv_ifF z h
    refine mv_iconst 1 dX11_onAsk_181 (by decide) ?_
    refine mv_sub [1, 2, 4, 0] rfl ?_
    exact zX11_onAsk_182 hd x1 x3 s0 1 M h
  · replace h := mv_ifT z h
    refine mv_iload_n 3 dX11_onAsk_172 rfl ?_
    refine mv_iconst 1 dX11_onAsk_173 (by decide) ?_
    refine mv_isub dX11_onAsk_174 ?_
    refine mv_iload 6 dX11_onAsk_175 rfl ?_
    obtain ⟨hz32, h⟩ := mv_chkE h
    refine mv_irem dX11_onAsk_177 (mv_nzE hz32) ?_
    refine mv_goto 182 dX11_onAsk_178 (by decide) ?_
    refine mv_sub [1, 2, 4, 0] rfl ?_
    exact zX11_onAsk_182 hd x1 x3 s0 ((x2 - 1) - (x2 - 1) / x5 * x5) M h
noncomputable def fX11_onAsk_144 (x1 : Int32) (x2 : Int32) (x3 : Int32) (x4 : Int32) (s0 : Int32) (M : mv_M) : Option (Unit × mv_M) :=
  if x4 = 9 then
    mv_chk (mv_nz s0) <|
    fX11_onAsk_163 x1 x2 x3 x4 s0 ((x2 - 1) / s0) M
  else
    fX11_onAsk_163 x1 x2 x3 x4 s0 1 M
set_option maxRecDepth 100000 in
set_option maxHeartbeats 4000000 in
theorem zX11_onAsk_144 {l : Launch} {d : Nat} {Q : Unit → mv_M → Prop} (hd : 3 ≤ d) (x1 : Int32) (x2 : Int32) (x3 : Int32) (x4 : Int32) (s0 : Int32) (M : mv_M) (h : mv_ok (fX11_onAsk_144 x1 x2 x3 x4 s0 M) Q) : mv l mX11_onAsk d 0 144 [(0, .ref 62), (1, .int x1), (2, .int x2), (3, .int x3), (4, .int x4)] [.int s0] M (mv_qV Q) := by
  unfold fX11_onAsk_144 at h
  refine mv_istore [(5, .int s0), (0, .ref 62), (1, .int x1), (2, .int x2), (3, .int x3), (4, .int x4)] dX11_onAsk_144 (by decide) rfl ?_
  refine mv_iload 5 dX11_onAsk_146 rfl ?_
  refine mv_bipush 9 dX11_onAsk_148 (by decide) ?_
  refine mv_icmp_ne 162 dX11_onAsk_150 (by decide) (fun z => ?_) (fun z => ?_)
  · replace h := mv_ifF z h
    refine mv_iconst 1 dX11_onAsk_162 (by decide) ?_
    refine mv_sub [1, 2, 3, 4, 5, 0] rfl ?_
    exact zX11_onAsk_163 hd x1 x2 x3 x4 s0 1 M h
  · replace h := mv_ifT z h
    refine mv_iload_n 3 dX11_onAsk_153 rfl ?_
    refine mv_iconst 1 dX11_onAsk_154 (by decide) ?_
    refine mv_isub dX11_onAsk_155 ?_
    refine mv_iload 0 dX11_onAsk_156 rfl ?_
    obtain ⟨hz28, h⟩ := mv_chkE h
    refine mv_idiv dX11_onAsk_158 (mv_nzE hz28) ?_
    refine mv_goto 163 dX11_onAsk_159 (by decide) ?_
    refine mv_sub [1, 2, 3, 4, 5, 0] rfl ?_
    exact zX11_onAsk_163 hd x1 x2 x3 x4 s0 ((x2 - 1) / s0) M h
noncomputable def fX11_onAsk_121 (x1 : Int32) (x2 : Int32) (x3 : Int32) (x4 : Int32) (M : mv_M) : Option (Unit × mv_M) :=
  if x4 = 9 then
    mv_chk (mv_inb x1 2002) <|
    mv_bind (fX11_secondOf (M.1 76 x1.toNatClampNeg) M) fun r24 M25 =>
    mv_bind (fX11_demands r24 M25) fun r26 M27 =>
    fX11_onAsk_144 x1 x2 x3 x4 r26 M27
  else
    fX11_onAsk_144 x1 x2 x3 x4 1 M
set_option maxRecDepth 100000 in
set_option maxHeartbeats 4000000 in
theorem zX11_onAsk_121 {l : Launch} {d : Nat} {Q : Unit → mv_M → Prop} (hd : 3 ≤ d) (x1 : Int32) (x2 : Int32) (x3 : Int32) (x4 : Int32) (M : mv_M) (h : mv_ok (fX11_onAsk_121 x1 x2 x3 x4 M) Q) : mv l mX11_onAsk d 0 121 [(0, .ref 62), (1, .int x1), (2, .int x2), (3, .int x3), (4, .int x4)] [] M (mv_qV Q) := by
  unfold fX11_onAsk_121 at h
  refine mv_iload 4 dX11_onAsk_121 rfl ?_
  refine mv_bipush 9 dX11_onAsk_123 (by decide) ?_
  refine mv_icmp_ne 143 dX11_onAsk_125 (by decide) (fun z => ?_) (fun z => ?_)
  · replace h := mv_ifF z h
    refine mv_iconst 1 dX11_onAsk_143 (by decide) ?_
    refine mv_sub [0, 1, 2, 3, 4] rfl ?_
    exact zX11_onAsk_144 hd x1 x2 x3 x4 1 M h
  · replace h := mv_ifT z h
    refine mv_aload_n 0 dX11_onAsk_128 rfl ?_
    refine mv_getR 76 fX11_54 (by decide) rfl rfl rfl dX11_onAsk_129 ?_
    refine mv_iload_n 1 dX11_onAsk_132 rfl ?_
    obtain ⟨hi23, h⟩ := mv_chkE h
    refine mv_ild (by decide) rfl (mv_inE hi23) dX11_onAsk_133 ?_
    refine mv_csI (As := [.int (M.1 76 x1.toNatClampNeg)]) (st := []) okX11_secondOf lX11_162 rfl (Nat.le_of_ble_eq_true rfl) rfl (Nat.le_of_ble_eq_true rfl) dX11_onAsk_134 (by omega) rfl (zX11_secondOf (d := d - 1) (by omega) (M.1 76 x1.toNatClampNeg) M (mv_bindE h)) (fun r24 M25 h => ?_)
    refine mv_csI (As := [.int r24]) (st := []) okX11_demands lX11_166 rfl (Nat.le_of_ble_eq_true rfl) rfl (Nat.le_of_ble_eq_true rfl) dX11_onAsk_137 (by omega) rfl (zX11_demands (d := d - 1) (by omega) r24 M25 (mv_bindE h)) (fun r26 M27 h => ?_)
    refine mv_goto 144 dX11_onAsk_140 (by decide) ?_
    refine mv_sub [0, 1, 2, 3, 4] rfl ?_
    exact zX11_onAsk_144 hd x1 x2 x3 x4 r26 M27 h
noncomputable def fX11_onAsk_333 (x1 : Int32) (x2 : Int32) (x3 : Int32) (s0 : Int32) (M : mv_M) : Option (Unit × mv_M) :=
  mv_bind (fX11_asking s0 x1 0 x3 M) fun _ M29 =>
  mv_chk (mv_inb x1 2002) <|
  mv_bind (fX11_asking 1 (M29.1 73 x1.toNatClampNeg) x2 x3 M29) fun _ M31 =>
  some ((), M31)
set_option maxRecDepth 100000 in
set_option maxHeartbeats 4000000 in
theorem zX11_onAsk_333 {l : Launch} {d : Nat} {Q : Unit → mv_M → Prop} (hd : 3 ≤ d) (x1 : Int32) (x2 : Int32) (x3 : Int32) (s0 : Int32) (M : mv_M) (h : mv_ok (fX11_onAsk_333 x1 x2 x3 s0 M) Q) : mv l mX11_onAsk d 0 333 [(0, .ref 62), (1, .int x1), (2, .int x2), (3, .int x3)] [.int s0, .ref 62] M (mv_qV Q) := by
  unfold fX11_onAsk_333 at h
  refine mv_iload_n 1 dX11_onAsk_333 rfl ?_
  refine mv_iconst 0 dX11_onAsk_334 (by decide) ?_
  refine mv_iload_n 3 dX11_onAsk_335 rfl ?_
  refine mv_cvV (As := [.int s0, .int x1, .int 0, .int x3]) (st := []) okX11_asking lX11_363 (by decide) rfl rfl rfl (Nat.le_of_ble_eq_true rfl) rfl (Nat.le_of_ble_eq_true rfl) dX11_onAsk_336 (by omega) rfl (zX11_asking (d := d - 1) (by omega) s0 x1 0 x3 M (mv_bindE h)) (fun _ M29 h => ?_)
  refine mv_aload_n 0 dX11_onAsk_339 rfl ?_
  refine mv_iconst 1 dX11_onAsk_340 (by decide) ?_
  refine mv_aload_n 0 dX11_onAsk_341 rfl ?_
  refine mv_getR 73 fX11_45 (by decide) rfl rfl rfl dX11_onAsk_342 ?_
  refine mv_iload_n 1 dX11_onAsk_345 rfl ?_
  obtain ⟨hi30, h⟩ := mv_chkE h
  refine mv_ild (by decide) rfl (mv_inE hi30) dX11_onAsk_346 ?_
  refine mv_iload_n 2 dX11_onAsk_347 rfl ?_
  refine mv_iload_n 3 dX11_onAsk_348 rfl ?_
  refine mv_cvV (As := [.int 1, .int (M29.1 73 x1.toNatClampNeg), .int x2, .int x3]) (st := []) okX11_asking lX11_363 (by decide) rfl rfl rfl (Nat.le_of_ble_eq_true rfl) rfl (Nat.le_of_ble_eq_true rfl) dX11_onAsk_349 (by omega) rfl (zX11_asking (d := d - 1) (by omega) 1 (M29.1 73 x1.toNatClampNeg) x2 x3 M29 (mv_bindE h)) (fun _ M31 h => ?_)
  refine mv_goto 386 dX11_onAsk_352 (by decide) ?_
  exact mv_vret rfl dX11_onAsk_386 ⟨rfl, h⟩
noncomputable def fX11_onAsk_321 (x1 : Int32) (x2 : Int32) (x3 : Int32) (x4 : Int32) (M : mv_M) : Option (Unit × mv_M) :=
  if x4 = 3 then
    fX11_onAsk_333 x1 x2 x3 4 M
  else
    fX11_onAsk_333 x1 x2 x3 5 M
set_option maxRecDepth 100000 in
set_option maxHeartbeats 4000000 in
theorem zX11_onAsk_321 {l : Launch} {d : Nat} {Q : Unit → mv_M → Prop} (hd : 3 ≤ d) (x1 : Int32) (x2 : Int32) (x3 : Int32) (x4 : Int32) (M : mv_M) (h : mv_ok (fX11_onAsk_321 x1 x2 x3 x4 M) Q) : mv l mX11_onAsk d 0 321 [(0, .ref 62), (1, .int x1), (2, .int x2), (3, .int x3), (4, .int x4)] [] M (mv_qV Q) := by
  unfold fX11_onAsk_321 at h
  refine mv_aload_n 0 dX11_onAsk_321 rfl ?_
  refine mv_iload 4 dX11_onAsk_322 rfl ?_
  refine mv_iconst 3 dX11_onAsk_324 (by decide) ?_
  refine mv_icmp_ne 332 dX11_onAsk_325 (by decide) (fun z => ?_) (fun z => ?_)
  · replace h := mv_ifF z h
    refine mv_iconst 5 dX11_onAsk_332 (by decide) ?_
    refine mv_sub [0, 1, 2, 3] rfl ?_
    exact zX11_onAsk_333 hd x1 x2 x3 5 M h
  · replace h := mv_ifT z h
    refine mv_iconst 4 dX11_onAsk_328 (by decide) ?_
    refine mv_goto 333 dX11_onAsk_329 (by decide) ?_
    refine mv_sub [0, 1, 2, 3] rfl ?_
    exact zX11_onAsk_333 hd x1 x2 x3 4 M h
noncomputable def fX11_onAsk_83 (x1 : Int32) (x2 : Int32) (x3 : Int32) (x4 : Int32) (s0 : Int32) (s1 : Int32) (M : mv_M) : Option (Unit × mv_M) :=
  mv_chk (mv_inb s1 500) <|
  mv_let (mv_si M 89 s1.toNatClampNeg (vp_nar .boolean s0)) fun M9 =>
  if x4 = 7 then
    mv_chk (mv_inb x1 2002) <|
    mv_chk (mv_inb (x3 + (M9.1 72 x1.toNatClampNeg)) 8000) <|
    mv_let (mv_si M9 88 (x3 + (M9.1 72 x1.toNatClampNeg)).toNatClampNeg x2) fun M22 =>
    some ((), M22)
  else
    if x4 = 1 then
      fX11_onAsk_121 x1 x2 x3 x4 M9
    else
      if x4 = 9 then
        fX11_onAsk_121 x1 x2 x3 x4 M9
      else
        if x4 = 2 then
          mv_bind (fX11_asking 2 x1 0 x3 M9) fun _ M12 =>
          mv_bind (fX11_asking 3 x1 0 (x3 + 16) M12) fun _ M13 =>
          mv_chk (mv_inb x1 2002) <|
          mv_bind (fX11_asking 1 (M13.1 74 x1.toNatClampNeg) x2 (x3 + 32) M13) fun _ M15 =>
          mv_chk (mv_inb x1 2002) <|
          mv_bind (fX11_asking 1 (M15.1 73 x1.toNatClampNeg) x2 (x3 + 16) M15) fun _ M17 =>
          mv_chk (mv_inb x1 2002) <|
          mv_bind (fX11_asking 1 (M17.1 72 x1.toNatClampNeg) 1 x3 M17) fun _ M19 =>
          some ((), M19)
        else
          if x4 = 3 then
            fX11_onAsk_321 x1 x2 x3 x4 M9
          else
            if x4 = 4 then
              fX11_onAsk_321 x1 x2 x3 x4 M9
            else
              if x4 = 8 then
                mv_chk (mv_inb (x3 / 16) 500) <|
                if (M9.1 89 (x3 / 16).toNatClampNeg) = 0 then
                  mv_bind (fX11_asking 6 x1 (8 * x2) x3 M9) fun _ M11 =>
                  some ((), M11)
                else
                  some ((), M9)
              else
                some ((), M9)
set_option maxRecDepth 100000 in
set_option maxHeartbeats 4000000 in
theorem zX11_onAsk_83 {l : Launch} {d : Nat} {Q : Unit → mv_M → Prop} (hd : 3 ≤ d) (x1 : Int32) (x2 : Int32) (x3 : Int32) (x4 : Int32) (s0 : Int32) (s1 : Int32) (M : mv_M) (h : mv_ok (fX11_onAsk_83 x1 x2 x3 x4 s0 s1 M) Q) : mv l mX11_onAsk d 0 83 [(0, .ref 62), (1, .int x1), (2, .int x2), (3, .int x3), (4, .int x4)] [.int s0, .int s1, .ref 89] M (mv_qV Q) := by
  unfold fX11_onAsk_83 at h
  obtain ⟨hi8, h⟩ := mv_chkE h
  refine mv_zst (by decide) rfl (mv_inE hi8) dX11_onAsk_83 (fun M9 eM9 => ?_)
  replace h := mv_letE h M9 eM9
  refine mv_iload 4 dX11_onAsk_84 rfl ?_
  refine mv_bipush 7 dX11_onAsk_86 (by decide) ?_
  refine mv_icmp_ne 108 dX11_onAsk_88 (by decide) (fun z => ?_) (fun z => ?_)
  · replace h := mv_ifF z h
    refine mv_iload 4 dX11_onAsk_108 rfl ?_
    refine mv_iconst 1 dX11_onAsk_110 (by decide) ?_
    refine mv_icmp_eq 121 dX11_onAsk_111 (by decide) (fun z => ?_) (fun z => ?_)
    · replace h := mv_ifT z h
      refine mv_sub [0, 1, 2, 3, 4] rfl ?_
      exact zX11_onAsk_121 hd x1 x2 x3 x4 M9 h
    · replace h := mv_ifF z h
      refine mv_iload 4 dX11_onAsk_114 rfl ?_
      refine mv_bipush 9 dX11_onAsk_116 (by decide) ?_
      refine mv_icmp_ne 236 dX11_onAsk_118 (by decide) (fun z => ?_) (fun z => ?_)
      · replace h := mv_ifF z h
        refine mv_iload 4 dX11_onAsk_236 rfl ?_
        refine mv_iconst 2 dX11_onAsk_238 (by decide) ?_
        refine mv_icmp_ne 309 dX11_onAsk_239 (by decide) (fun z => ?_) (fun z => ?_)
        · replace h := mv_ifF z h
          refine mv_iload 4 dX11_onAsk_309 rfl ?_
          refine mv_iconst 3 dX11_onAsk_311 (by decide) ?_
          refine mv_icmp_eq 321 dX11_onAsk_312 (by decide) (fun z => ?_) (fun z => ?_)
          · replace h := mv_ifT z h
            refine mv_sub [0, 1, 2, 3, 4] rfl ?_
            exact zX11_onAsk_321 hd x1 x2 x3 x4 M9 h
          · replace h := mv_ifF z h
            refine mv_iload 4 dX11_onAsk_315 rfl ?_
            refine mv_iconst 4 dX11_onAsk_317 (by decide) ?_
            refine mv_icmp_ne 355 dX11_onAsk_318 (by decide) (fun z => ?_) (fun z => ?_)
            · replace h := mv_ifF z h
              refine mv_iload 4 dX11_onAsk_355 rfl ?_
              refine mv_bipush 8 dX11_onAsk_357 (by decide) ?_
              refine mv_icmp_ne 386 dX11_onAsk_359 (by decide) (fun z => ?_) (fun z => ?_)
              · replace h := mv_ifF z h
                exact mv_vret rfl dX11_onAsk_386 ⟨rfl, h⟩
              · replace h := mv_ifT z h
                refine mv_aload_n 0 dX11_onAsk_362 rfl ?_
                refine mv_getR 89 fX11_93 (by decide) rfl rfl rfl dX11_onAsk_363 ?_
                refine mv_iload_n 3 dX11_onAsk_366 rfl ?_
                refine mv_bipush 16 dX11_onAsk_367 (by decide) ?_
                refine mv_idiv dX11_onAsk_369 (by decide) ?_
                obtain ⟨hi10, h⟩ := mv_chkE h
                refine mv_zld (by decide) rfl (mv_inE hi10) dX11_onAsk_370 ?_
                refine mv_if_ne 386 dX11_onAsk_371 (by decide) (fun z => ?_) (fun z => ?_)
                · replace h := mv_ifF z h
                  exact mv_vret rfl dX11_onAsk_386 ⟨rfl, h⟩
                · replace h := mv_ifT z h
                  refine mv_aload_n 0 dX11_onAsk_374 rfl ?_
                  refine mv_bipush 6 dX11_onAsk_375 (by decide) ?_
                  refine mv_iload_n 1 dX11_onAsk_377 rfl ?_
                  refine mv_bipush 8 dX11_onAsk_378 (by decide) ?_
                  refine mv_iload_n 2 dX11_onAsk_380 rfl ?_
                  refine mv_imul dX11_onAsk_381 ?_
                  refine mv_iload_n 3 dX11_onAsk_382 rfl ?_
                  refine mv_cvV (As := [.int 6, .int x1, .int (8 * x2), .int x3]) (st := []) okX11_asking lX11_363 (by decide) rfl rfl rfl (Nat.le_of_ble_eq_true rfl) rfl (Nat.le_of_ble_eq_true rfl) dX11_onAsk_383 (by omega) rfl (zX11_asking (d := d - 1) (by omega) 6 x1 (8 * x2) x3 M9 (mv_bindE h)) (fun _ M11 h => ?_)
                  exact mv_vret rfl dX11_onAsk_386 ⟨rfl, h⟩
            · replace h := mv_ifT z h
              refine mv_sub [0, 1, 2, 3, 4] rfl ?_
              exact zX11_onAsk_321 hd x1 x2 x3 x4 M9 h
        · replace h := mv_ifT z h
          refine mv_aload_n 0 dX11_onAsk_242 rfl ?_
          refine mv_iconst 2 dX11_onAsk_243 (by decide) ?_
          refine mv_iload_n 1 dX11_onAsk_244 rfl ?_
          refine mv_iconst 0 dX11_onAsk_245 (by decide) ?_
          refine mv_iload_n 3 dX11_onAsk_246 rfl ?_
          refine mv_cvV (As := [.int 2, .int x1, .int 0, .int x3]) (st := []) okX11_asking lX11_363 (by decide) rfl rfl rfl (Nat.le_of_ble_eq_true rfl) rfl (Nat.le_of_ble_eq_true rfl) dX11_onAsk_247 (by omega) rfl (zX11_asking (d := d - 1) (by omega) 2 x1 0 x3 M9 (mv_bindE h)) (fun _ M12 h => ?_)
          refine mv_aload_n 0 dX11_onAsk_250 rfl ?_
          refine mv_iconst 3 dX11_onAsk_251 (by decide) ?_
          refine mv_iload_n 1 dX11_onAsk_252 rfl ?_
          refine mv_iconst 0 dX11_onAsk_253 (by decide) ?_
          refine mv_iload_n 3 dX11_onAsk_254 rfl ?_
          refine mv_bipush 16 dX11_onAsk_255 (by decide) ?_
          refine mv_iadd dX11_onAsk_257 ?_
          refine mv_cvV (As := [.int 3, .int x1, .int 0, .int (x3 + 16)]) (st := []) okX11_asking lX11_363 (by decide) rfl rfl rfl (Nat.le_of_ble_eq_true rfl) rfl (Nat.le_of_ble_eq_true rfl) dX11_onAsk_258 (by omega) rfl (zX11_asking (d := d - 1) (by omega) 3 x1 0 (x3 + 16) M12 (mv_bindE h)) (fun _ M13 h => ?_)
          refine mv_aload_n 0 dX11_onAsk_261 rfl ?_
          refine mv_iconst 1 dX11_onAsk_262 (by decide) ?_
          refine mv_aload_n 0 dX11_onAsk_263 rfl ?_
          refine mv_getR 74 fX11_48 (by decide) rfl rfl rfl dX11_onAsk_264 ?_
          refine mv_iload_n 1 dX11_onAsk_267 rfl ?_
          obtain ⟨hi14, h⟩ := mv_chkE h
          refine mv_ild (by decide) rfl (mv_inE hi14) dX11_onAsk_268 ?_
          refine mv_iload_n 2 dX11_onAsk_269 rfl ?_
          refine mv_iload_n 3 dX11_onAsk_270 rfl ?_
          refine mv_bipush 32 dX11_onAsk_271 (by decide) ?_
          refine mv_iadd dX11_onAsk_273 ?_
          refine mv_cvV (As := [.int 1, .int (M13.1 74 x1.toNatClampNeg), .int x2, .int (x3 + 32)]) (st := []) okX11_asking lX11_363 (by decide) rfl rfl rfl (Nat.le_of_ble_eq_true rfl) rfl (Nat.le_of_ble_eq_true rfl) dX11_onAsk_274 (by omega) rfl (zX11_asking (d := d - 1) (by omega) 1 (M13.1 74 x1.toNatClampNeg) x2 (x3 + 32) M13 (mv_bindE h)) (fun _ M15 h => ?_)
          refine mv_aload_n 0 dX11_onAsk_277 rfl ?_
          refine mv_iconst 1 dX11_onAsk_278 (by decide) ?_
          refine mv_aload_n 0 dX11_onAsk_279 rfl ?_
          refine mv_getR 73 fX11_45 (by decide) rfl rfl rfl dX11_onAsk_280 ?_
          refine mv_iload_n 1 dX11_onAsk_283 rfl ?_
          obtain ⟨hi16, h⟩ := mv_chkE h
          refine mv_ild (by decide) rfl (mv_inE hi16) dX11_onAsk_284 ?_
          refine mv_iload_n 2 dX11_onAsk_285 rfl ?_
          refine mv_iload_n 3 dX11_onAsk_286 rfl ?_
          refine mv_bipush 16 dX11_onAsk_287 (by decide) ?_
          refine mv_iadd dX11_onAsk_289 ?_
          refine mv_cvV (As := [.int 1, .int (M15.1 73 x1.toNatClampNeg), .int x2, .int (x3 + 16)]) (st := []) okX11_asking lX11_363 (by decide) rfl rfl rfl (Nat.le_of_ble_eq_true rfl) rfl (Nat.le_of_ble_eq_true rfl) dX11_onAsk_290 (by omega) rfl (zX11_asking (d := d - 1) (by omega) 1 (M15.1 73 x1.toNatClampNeg) x2 (x3 + 16) M15 (mv_bindE h)) (fun _ M17 h => ?_)
          refine mv_aload_n 0 dX11_onAsk_293 rfl ?_
          refine mv_iconst 1 dX11_onAsk_294 (by decide) ?_
          refine mv_aload_n 0 dX11_onAsk_295 rfl ?_
          refine mv_getR 72 fX11_42 (by decide) rfl rfl rfl dX11_onAsk_296 ?_
          refine mv_iload_n 1 dX11_onAsk_299 rfl ?_
          obtain ⟨hi18, h⟩ := mv_chkE h
          refine mv_ild (by decide) rfl (mv_inE hi18) dX11_onAsk_300 ?_
          refine mv_iconst 1 dX11_onAsk_301 (by decide) ?_
          refine mv_iload_n 3 dX11_onAsk_302 rfl ?_
          refine mv_cvV (As := [.int 1, .int (M17.1 72 x1.toNatClampNeg), .int 1, .int x3]) (st := []) okX11_asking lX11_363 (by decide) rfl rfl rfl (Nat.le_of_ble_eq_true rfl) rfl (Nat.le_of_ble_eq_true rfl) dX11_onAsk_303 (by omega) rfl (zX11_asking (d := d - 1) (by omega) 1 (M17.1 72 x1.toNatClampNeg) 1 x3 M17 (mv_bindE h)) (fun _ M19 h => ?_)
          refine mv_goto 386 dX11_onAsk_306 (by decide) ?_
          exact mv_vret rfl dX11_onAsk_386 ⟨rfl, h⟩
      · replace h := mv_ifT z h
        refine mv_sub [0, 1, 2, 3, 4] rfl ?_
        exact zX11_onAsk_121 hd x1 x2 x3 x4 M9 h
  · replace h := mv_ifT z h
    refine mv_aload_n 0 dX11_onAsk_91 rfl ?_
    refine mv_getR 88 fX11_90 (by decide) rfl rfl rfl dX11_onAsk_92 ?_
    refine mv_iload_n 3 dX11_onAsk_95 rfl ?_
    refine mv_aload_n 0 dX11_onAsk_96 rfl ?_
    refine mv_getR 72 fX11_42 (by decide) rfl rfl rfl dX11_onAsk_97 ?_
    refine mv_iload_n 1 dX11_onAsk_100 rfl ?_
    obtain ⟨hi20, h⟩ := mv_chkE h
    refine mv_ild (by decide) rfl (mv_inE hi20) dX11_onAsk_101 ?_
    refine mv_iadd dX11_onAsk_102 ?_
    refine mv_iload_n 2 dX11_onAsk_103 rfl ?_
    obtain ⟨hi21, h⟩ := mv_chkE h
    refine mv_ist (by decide) rfl (mv_inE hi21) dX11_onAsk_104 (fun M22 eM22 => ?_)
    replace h := mv_letE h M22 eM22
    refine mv_goto 386 dX11_onAsk_105 (by decide) ?_
    exact mv_vret rfl dX11_onAsk_386 ⟨rfl, h⟩
noncomputable def fX11_onAsk_78 (x1 : Int32) (x2 : Int32) (x3 : Int32) (x4 : Int32) (s0 : Int32) (M : mv_M) : Option (Unit × mv_M) :=
  fX11_onAsk_83 x1 x2 x3 x4 1 s0 M
set_option maxRecDepth 100000 in
set_option maxHeartbeats 4000000 in
theorem zX11_onAsk_78 {l : Launch} {d : Nat} {Q : Unit → mv_M → Prop} (hd : 3 ≤ d) (x1 : Int32) (x2 : Int32) (x3 : Int32) (x4 : Int32) (s0 : Int32) (M : mv_M) (h : mv_ok (fX11_onAsk_78 x1 x2 x3 x4 s0 M) Q) : mv l mX11_onAsk d 0 78 [(0, .ref 62), (1, .int x1), (2, .int x2), (3, .int x3), (4, .int x4)] [.int s0, .ref 89] M (mv_qV Q) := by
  unfold fX11_onAsk_78 at h
  refine mv_iconst 1 dX11_onAsk_78 (by decide) ?_
  refine mv_goto 83 dX11_onAsk_79 (by decide) ?_
  refine mv_sub [0, 1, 2, 3, 4] rfl ?_
  exact zX11_onAsk_83 hd x1 x2 x3 x4 1 s0 M h
noncomputable def fX11_onAsk_82 (x1 : Int32) (x2 : Int32) (x3 : Int32) (x4 : Int32) (s0 : Int32) (M : mv_M) : Option (Unit × mv_M) :=
  fX11_onAsk_83 x1 x2 x3 x4 0 s0 M
set_option maxRecDepth 100000 in
set_option maxHeartbeats 4000000 in
theorem zX11_onAsk_82 {l : Launch} {d : Nat} {Q : Unit → mv_M → Prop} (hd : 3 ≤ d) (x1 : Int32) (x2 : Int32) (x3 : Int32) (x4 : Int32) (s0 : Int32) (M : mv_M) (h : mv_ok (fX11_onAsk_82 x1 x2 x3 x4 s0 M) Q) : mv l mX11_onAsk d 0 82 [(0, .ref 62), (1, .int x1), (2, .int x2), (3, .int x3), (4, .int x4)] [.int s0, .ref 89] M (mv_qV Q) := by
  unfold fX11_onAsk_82 at h
  refine mv_iconst 0 dX11_onAsk_82 (by decide) ?_
  refine mv_sub [0, 1, 2, 3, 4] rfl ?_
  exact zX11_onAsk_83 hd x1 x2 x3 x4 0 s0 M h
noncomputable def gX11_onAsk_3 (x1 : Int32) (x2 : Int32) (x3 : Int32) (x4 : Int32) (M : mv_M) : Option (((Int32 × Int32 × Int32 × Int32) ⊕ Unit) × mv_M) :=
  if 16 ≤ x4 then
    mv_chk (mv_inb x1 2002) <|
    mv_let (M.1 71 x1.toNatClampNeg) fun v2 =>
    if v2 = 6 then
      mv_inr (fX11_onAsk_78 x1 x2 x3 v2 (x3 / 16) M)
    else
      if v2 = 8 then
        mv_chk (mv_inb x1 2002) <|
        mv_chk (mv_inb ((26 * ((M.1 74 x1.toNatClampNeg) - (M.1 74 x1.toNatClampNeg) / 12 * 12)) + x2) 312) <|
        if (M.1 91 ((26 * ((M.1 74 x1.toNatClampNeg) - (M.1 74 x1.toNatClampNeg) / 12 * 12)) + x2).toNatClampNeg) = 0 then
          mv_inr (fX11_onAsk_82 x1 x2 x3 v2 (x3 / 16) M)
        else
          mv_inr (fX11_onAsk_78 x1 x2 x3 v2 (x3 / 16) M)
      else
        mv_inr (fX11_onAsk_82 x1 x2 x3 v2 (x3 / 16) M)
  else
    mv_chk (mv_inb (x3 + x4) 8000) <|
    mv_let (mv_si M 88 (x3 + x4).toNatClampNeg 0) fun M6 =>
    mv_let (x4 + 1) fun v7 =>
    some (.inl (x1, x2, x3, v7), M6)
noncomputable def fX11_onAsk_3 (x1 : Int32) (x2 : Int32) (x3 : Int32) (x4 : Int32) (M : mv_M) : Option (Unit × mv_M) := mv_loop (fun (s : Int32 × Int32 × Int32 × Int32) M => gX11_onAsk_3 s.1 s.2.1 s.2.2.1 s.2.2.2 M) (x1, x2, x3, x4) M
set_option maxRecDepth 100000 in
set_option maxHeartbeats 4000000 in
theorem zX11_onAsk_3 {l : Launch} {d : Nat} {Q : Unit → mv_M → Prop} (hd : 3 ≤ d) (x1 : Int32) (x2 : Int32) (x3 : Int32) (x4 : Int32) (M : mv_M) (h : mv_ok (fX11_onAsk_3 x1 x2 x3 x4 M) Q) : mv l mX11_onAsk d 0 3 [(0, .ref 62), (1, .int x1), (2, .int x2), (3, .int x3), (4, .int x4)] [] M (mv_qV Q) := by
  unfold fX11_onAsk_3 at h
  refine mv_loopE (A := (fun (s : Int32 × Int32 × Int32 × Int32) M => mv l mX11_onAsk d 0 3 [(0, .ref 62), (1, .int s.1), (2, .int s.2.1), (3, .int s.2.2.1), (4, .int s.2.2.2)] [] M (mv_qV Q))) ?_ (x1, x2, x3, x4) M h
  · rintro ⟨x1, x2, x3, x4⟩ M h
    try dsimp only at h
    show mv l mX11_onAsk d 0 3 [(0, .ref 62), (1, .int x1), (2, .int x2), (3, .int x3), (4, .int x4)] [] M (mv_qV Q)
    unfold gX11_onAsk_3 at h
    refine mv_iload 4 dX11_onAsk_3 rfl ?_
    refine mv_bipush 16 dX11_onAsk_5 (by decide) ?_
    refine mv_icmp_ge 26 dX11_onAsk_7 (by decide) (fun z => ?_) (fun z => ?_)
    · replace h := mv_ifT z h
      refine mv_aload_n 0 dX11_onAsk_26 rfl ?_
      refine mv_getR 71 fX11_39 (by decide) rfl rfl rfl dX11_onAsk_27 ?_
      refine mv_iload_n 1 dX11_onAsk_30 rfl ?_
      obtain ⟨hi1, h⟩ := mv_chkE h
      refine mv_ild (by decide) rfl (mv_inE hi1) dX11_onAsk_31 ?_
      refine mv_topi (fun v2 ev2 => ?_)
      replace h := mv_letE h v2 ev2
      refine mv_istore [(4, .int v2), (0, .ref 62), (1, .int x1), (2, .int x2), (3, .int x3)] dX11_onAsk_32 (by decide) rfl ?_
      refine mv_aload_n 1 dX11_onAsk_34 rfl ?_
      refine mv_getR 89 fX11_93 (by decide) rfl rfl rfl dX11_onAsk_35 ?_
      refine mv_iload_n 4 dX11_onAsk_38 rfl ?_
      refine mv_bipush 16 dX11_onAsk_39 (by decide) ?_
      refine mv_idiv dX11_onAsk_41 (by decide) ?_
      refine mv_iload 0 dX11_onAsk_42 rfl ?_
      refine mv_bipush 6 dX11_onAsk_44 (by decide) ?_
      refine mv_icmp_eq 78 dX11_onAsk_46 (by decide) (fun z => ?_) (fun z => ?_)
      · replace h := mv_ifT z h
        refine mv_sub [1, 2, 3, 4, 0] rfl ?_
        exact zX11_onAsk_78 hd x1 x2 x3 v2 (x3 / 16) M (mv_inrE h)
      · replace h := mv_ifF z h
        refine mv_iload 0 dX11_onAsk_49 rfl ?_
        refine mv_bipush 8 dX11_onAsk_51 (by decide) ?_
        refine mv_icmp_ne 82 dX11_onAsk_53 (by decide) (fun z => ?_) (fun z => ?_)
        · replace h := mv_ifF z h
          refine mv_sub [1, 2, 3, 4, 0] rfl ?_
          exact zX11_onAsk_82 hd x1 x2 x3 v2 (x3 / 16) M (mv_inrE h)
        · replace h := mv_ifT z h
          refine mv_aload_n 1 dX11_onAsk_56 rfl ?_
          refine mv_getR 91 fX11_100 (by decide) rfl rfl rfl dX11_onAsk_57 ?_
          refine mv_bipush 26 dX11_onAsk_60 (by decide) ?_
          refine mv_aload_n 1 dX11_onAsk_62 rfl ?_
          refine mv_getR 74 fX11_48 (by decide) rfl rfl rfl dX11_onAsk_63 ?_
          refine mv_iload_n 2 dX11_onAsk_66 rfl ?_
          obtain ⟨hi3, h⟩ := mv_chkE h
          refine mv_ild (by decide) rfl (mv_inE hi3) dX11_onAsk_67 ?_
          refine mv_bipush 12 dX11_onAsk_68 (by decide) ?_
          refine mv_irem dX11_onAsk_70 (by decide) ?_
          refine mv_imul dX11_onAsk_71 ?_
          refine mv_iload_n 3 dX11_onAsk_72 rfl ?_
          refine mv_iadd dX11_onAsk_73 ?_
          obtain ⟨hi4, h⟩ := mv_chkE h
          refine mv_zld (by decide) rfl (mv_inE hi4) dX11_onAsk_74 ?_
          refine mv_if_eq 82 dX11_onAsk_75 (by decide) (fun z => ?_) (fun z => ?_)
          · replace h := mv_ifT z h
            refine mv_sub [1, 2, 3, 4, 0] rfl ?_
            exact zX11_onAsk_82 hd x1 x2 x3 v2 (x3 / 16) M (mv_inrE h)
          · replace h := mv_ifF z h
            refine mv_sub [1, 2, 3, 4, 0] rfl ?_
            exact zX11_onAsk_78 hd x1 x2 x3 v2 (x3 / 16) M (mv_inrE h)
    · replace h := mv_ifF z h
      refine mv_aload_n 0 dX11_onAsk_10 rfl ?_
      refine mv_getR 88 fX11_90 (by decide) rfl rfl rfl dX11_onAsk_11 ?_
      refine mv_iload_n 3 dX11_onAsk_14 rfl ?_
      refine mv_iload 4 dX11_onAsk_15 rfl ?_
      refine mv_iadd dX11_onAsk_17 ?_
      refine mv_iconst 0 dX11_onAsk_18 (by decide) ?_
      obtain ⟨hi5, h⟩ := mv_chkE h
      refine mv_ist (by decide) rfl (mv_inE hi5) dX11_onAsk_19 (fun M6 eM6 => ?_)
      replace h := mv_letE h M6 eM6
      obtain ⟨v7, ev7⟩ : ∃ z : Int32, z = x4 + 1 := ⟨_, rfl⟩
      replace h := mv_letE h v7 ev7
      refine mv_iinc v7 4 [(4, .int v7), (0, .ref 62), (1, .int x1), (2, .int x2), (3, .int x3)] dX11_onAsk_20 rfl (by rw [ev7]; rfl) (by decide) rfl ?_
      refine mv_goto 3 dX11_onAsk_23 (by decide) ?_
      refine mv_sub [1, 2, 3, 4, 0] rfl ?_
      exact h
noncomputable def fX11_onAsk (a0 : Int32) (a1 : Int32) (a2 : Int32) (M : mv_M) : Option (Unit × mv_M) :=
  fX11_onAsk_3 a0 a1 a2 0 M
set_option maxRecDepth 100000 in
set_option maxHeartbeats 4000000 in
theorem zX11_onAsk {l : Launch} {d : Nat} {Q : Unit → mv_M → Prop} (hd : 3 ≤ d) (a0 : Int32) (a1 : Int32) (a2 : Int32) (M : mv_M) (h : mv_ok (fX11_onAsk a0 a1 a2 M) Q) : mv l mX11_onAsk d 0 0 (lv_args 0 [.ref 62, .int a0, .int a1, .int a2]) [] M (mv_qV Q) := by
  unfold fX11_onAsk at h
  show mv l mX11_onAsk d 0 0 [(0, .ref 62), (1, .int a0), (2, .int a1), (3, .int a2)] [] M (mv_qV Q)
  refine mv_iconst 0 dX11_onAsk_0 (by decide) ?_
  refine mv_istore [(4, .int 0), (0, .ref 62), (1, .int a0), (2, .int a1), (3, .int a2)] dX11_onAsk_1 (by decide) rfl ?_
  refine mv_sub [1, 2, 3, 4, 0] rfl ?_
  exact zX11_onAsk_3 hd a0 a1 a2 0 M h
theorem dX11_onArgument_0 : decode cX11_onArgument 0 = .ok (.bipush 26, 2) := by decide +kernel
theorem dX11_onArgument_2 : decode cX11_onArgument 2 = .ok (.aload_n 0, 1) := by decide +kernel
theorem dX11_onArgument_3 : decode cX11_onArgument 3 = .ok (.getfield 48, 3) := by decide +kernel
theorem dX11_onArgument_6 : decode cX11_onArgument 6 = .ok (.iload_n 1, 1) := by decide +kernel
theorem dX11_onArgument_7 : decode cX11_onArgument 7 = .ok (.iaload, 1) := by decide +kernel
theorem dX11_onArgument_8 : decode cX11_onArgument 8 = .ok (.bipush 12, 2) := by decide +kernel
theorem dX11_onArgument_10 : decode cX11_onArgument 10 = .ok (.irem, 1) := by decide +kernel
theorem dX11_onArgument_11 : decode cX11_onArgument 11 = .ok (.imul, 1) := by decide +kernel
theorem dX11_onArgument_12 : decode cX11_onArgument 12 = .ok (.iload_n 2, 1) := by decide +kernel
theorem dX11_onArgument_13 : decode cX11_onArgument 13 = .ok (.bipush 8, 2) := by decide +kernel
theorem dX11_onArgument_15 : decode cX11_onArgument 15 = .ok (.idiv, 1) := by decide +kernel
theorem dX11_onArgument_16 : decode cX11_onArgument 16 = .ok (.iadd, 1) := by decide +kernel
theorem dX11_onArgument_17 : decode cX11_onArgument 17 = .ok (.istore 4, 2) := by decide +kernel
theorem dX11_onArgument_19 : decode cX11_onArgument 19 = .ok (.iload_n 2, 1) := by decide +kernel
theorem dX11_onArgument_20 : decode cX11_onArgument 20 = .ok (.bipush 8, 2) := by decide +kernel
theorem dX11_onArgument_22 : decode cX11_onArgument 22 = .ok (.irem, 1) := by decide +kernel
theorem dX11_onArgument_23 : decode cX11_onArgument 23 = .ok (.istore 5, 2) := by decide +kernel
theorem dX11_onArgument_25 : decode cX11_onArgument 25 = .ok (.iload 5, 2) := by decide +kernel
theorem dX11_onArgument_27 : decode cX11_onArgument 27 = .ok (.aload_n 0, 1) := by decide +kernel
theorem dX11_onArgument_28 : decode cX11_onArgument 28 = .ok (.getfield 45, 3) := by decide +kernel
theorem dX11_onArgument_31 : decode cX11_onArgument 31 = .ok (.iload_n 1, 1) := by decide +kernel
theorem dX11_onArgument_32 : decode cX11_onArgument 32 = .ok (.iaload, 1) := by decide +kernel
theorem dX11_onArgument_33 : decode cX11_onArgument 33 = .ok (.if_icmp .ge 24, 3) := by decide +kernel
theorem dX11_onArgument_36 : decode cX11_onArgument 36 = .ok (.aload_n 0, 1) := by decide +kernel
theorem dX11_onArgument_37 : decode cX11_onArgument 37 = .ok (.getfield 97, 3) := by decide +kernel
theorem dX11_onArgument_40 : decode cX11_onArgument 40 = .ok (.iconst 4, 1) := by decide +kernel
theorem dX11_onArgument_41 : decode cX11_onArgument 41 = .ok (.iload 4, 2) := by decide +kernel
theorem dX11_onArgument_43 : decode cX11_onArgument 43 = .ok (.imul, 1) := by decide +kernel
theorem dX11_onArgument_44 : decode cX11_onArgument 44 = .ok (.iload 5, 2) := by decide +kernel
theorem dX11_onArgument_46 : decode cX11_onArgument 46 = .ok (.iadd, 1) := by decide +kernel
theorem dX11_onArgument_47 : decode cX11_onArgument 47 = .ok (.iaload, 1) := by decide +kernel
theorem dX11_onArgument_48 : decode cX11_onArgument 48 = .ok (.ifCond .ne 9, 3) := by decide +kernel
theorem dX11_onArgument_51 : decode cX11_onArgument 51 = .ok (.iinc 5 1, 3) := by decide +kernel
theorem dX11_onArgument_54 : decode cX11_onArgument 54 = .ok (.goto (-29), 3) := by decide +kernel
theorem dX11_onArgument_57 : decode cX11_onArgument 57 = .ok (.iload 5, 2) := by decide +kernel
theorem dX11_onArgument_59 : decode cX11_onArgument 59 = .ok (.aload_n 0, 1) := by decide +kernel
theorem dX11_onArgument_60 : decode cX11_onArgument 60 = .ok (.getfield 45, 3) := by decide +kernel
theorem dX11_onArgument_63 : decode cX11_onArgument 63 = .ok (.iload_n 1, 1) := by decide +kernel
theorem dX11_onArgument_64 : decode cX11_onArgument 64 = .ok (.iaload, 1) := by decide +kernel
theorem dX11_onArgument_65 : decode cX11_onArgument 65 = .ok (.if_icmp .ge 78, 3) := by decide +kernel
theorem dX11_onArgument_68 : decode cX11_onArgument 68 = .ok (.aload_n 0, 1) := by decide +kernel
theorem dX11_onArgument_69 : decode cX11_onArgument 69 = .ok (.getfield 93, 3) := by decide +kernel
theorem dX11_onArgument_72 : decode cX11_onArgument 72 = .ok (.iload_n 3, 1) := by decide +kernel
theorem dX11_onArgument_73 : decode cX11_onArgument 73 = .ok (.bipush 16, 2) := by decide +kernel
theorem dX11_onArgument_75 : decode cX11_onArgument 75 = .ok (.idiv, 1) := by decide +kernel
theorem dX11_onArgument_76 : decode cX11_onArgument 76 = .ok (.baload, 1) := by decide +kernel
theorem dX11_onArgument_77 : decode cX11_onArgument 77 = .ok (.ifCond .ne 66, 3) := by decide +kernel
theorem dX11_onArgument_80 : decode cX11_onArgument 80 = .ok (.aload_n 0, 1) := by decide +kernel
theorem dX11_onArgument_81 : decode cX11_onArgument 81 = .ok (.bipush 6, 2) := by decide +kernel
theorem dX11_onArgument_83 : decode cX11_onArgument 83 = .ok (.iload_n 1, 1) := by decide +kernel
theorem dX11_onArgument_84 : decode cX11_onArgument 84 = .ok (.iload_n 2, 1) := by decide +kernel
theorem dX11_onArgument_85 : decode cX11_onArgument 85 = .ok (.bipush 8, 2) := by decide +kernel
theorem dX11_onArgument_87 : decode cX11_onArgument 87 = .ok (.idiv, 1) := by decide +kernel
theorem dX11_onArgument_88 : decode cX11_onArgument 88 = .ok (.bipush 8, 2) := by decide +kernel
theorem dX11_onArgument_90 : decode cX11_onArgument 90 = .ok (.imul, 1) := by decide +kernel
theorem dX11_onArgument_91 : decode cX11_onArgument 91 = .ok (.iload 5, 2) := by decide +kernel
theorem dX11_onArgument_93 : decode cX11_onArgument 93 = .ok (.iadd, 1) := by decide +kernel
theorem dX11_onArgument_94 : decode cX11_onArgument 94 = .ok (.iconst 1, 1) := by decide +kernel
theorem dX11_onArgument_95 : decode cX11_onArgument 95 = .ok (.iadd, 1) := by decide +kernel
theorem dX11_onArgument_96 : decode cX11_onArgument 96 = .ok (.iload_n 3, 1) := by decide +kernel
theorem dX11_onArgument_97 : decode cX11_onArgument 97 = .ok (.invokevirtual 363, 3) := by decide +kernel
theorem dX11_onArgument_100 : decode cX11_onArgument 100 = .ok (.aload_n 0, 1) := by decide +kernel
theorem dX11_onArgument_101 : decode cX11_onArgument 101 = .ok (.iconst 2, 1) := by decide +kernel
theorem dX11_onArgument_102 : decode cX11_onArgument 102 = .ok (.iload_n 1, 1) := by decide +kernel
theorem dX11_onArgument_103 : decode cX11_onArgument 103 = .ok (.iconst 0, 1) := by decide +kernel
theorem dX11_onArgument_104 : decode cX11_onArgument 104 = .ok (.iload_n 3, 1) := by decide +kernel
theorem dX11_onArgument_105 : decode cX11_onArgument 105 = .ok (.invokevirtual 363, 3) := by decide +kernel
theorem dX11_onArgument_108 : decode cX11_onArgument 108 = .ok (.aload_n 0, 1) := by decide +kernel
theorem dX11_onArgument_109 : decode cX11_onArgument 109 = .ok (.iconst 1, 1) := by decide +kernel
theorem dX11_onArgument_110 : decode cX11_onArgument 110 = .ok (.aload_n 0, 1) := by decide +kernel
theorem dX11_onArgument_111 : decode cX11_onArgument 111 = .ok (.getfield 60, 3) := by decide +kernel
theorem dX11_onArgument_114 : decode cX11_onArgument 114 = .ok (.aload_n 0, 1) := by decide +kernel
theorem dX11_onArgument_115 : decode cX11_onArgument 115 = .ok (.getfield 42, 3) := by decide +kernel
theorem dX11_onArgument_118 : decode cX11_onArgument 118 = .ok (.iload_n 1, 1) := by decide +kernel
theorem dX11_onArgument_119 : decode cX11_onArgument 119 = .ok (.iaload, 1) := by decide +kernel
theorem dX11_onArgument_120 : decode cX11_onArgument 120 = .ok (.iload 5, 2) := by decide +kernel
theorem dX11_onArgument_122 : decode cX11_onArgument 122 = .ok (.iadd, 1) := by decide +kernel
theorem dX11_onArgument_123 : decode cX11_onArgument 123 = .ok (.iaload, 1) := by decide +kernel
theorem dX11_onArgument_124 : decode cX11_onArgument 124 = .ok (.aload_n 0, 1) := by decide +kernel
theorem dX11_onArgument_125 : decode cX11_onArgument 125 = .ok (.getfield 97, 3) := by decide +kernel
theorem dX11_onArgument_128 : decode cX11_onArgument 128 = .ok (.iconst 4, 1) := by decide +kernel
theorem dX11_onArgument_129 : decode cX11_onArgument 129 = .ok (.iload 4, 2) := by decide +kernel
theorem dX11_onArgument_131 : decode cX11_onArgument 131 = .ok (.imul, 1) := by decide +kernel
theorem dX11_onArgument_132 : decode cX11_onArgument 132 = .ok (.iload 5, 2) := by decide +kernel
theorem dX11_onArgument_134 : decode cX11_onArgument 134 = .ok (.iadd, 1) := by decide +kernel
theorem dX11_onArgument_135 : decode cX11_onArgument 135 = .ok (.iaload, 1) := by decide +kernel
theorem dX11_onArgument_136 : decode cX11_onArgument 136 = .ok (.iload_n 3, 1) := by decide +kernel
theorem dX11_onArgument_137 : decode cX11_onArgument 137 = .ok (.bipush 16, 2) := by decide +kernel
theorem dX11_onArgument_139 : decode cX11_onArgument 139 = .ok (.iadd, 1) := by decide +kernel
theorem dX11_onArgument_140 : decode cX11_onArgument 140 = .ok (.invokevirtual 363, 3) := by decide +kernel
theorem dX11_onArgument_143 : decode cX11_onArgument 143 = .ok (.return_, 1) := by decide +kernel
noncomputable def fX11_onArgument_57 (x1 : Int32) (x2 : Int32) (x3 : Int32) (x4 : Int32) (x5 : Int32) (M : mv_M) : Option (Unit × mv_M) :=
  mv_chk (mv_inb x1 2002) <|
  if (M.1 73 x1.toNatClampNeg) ≤ x5 then
    some ((), M)
  else
    mv_chk (mv_inb (x3 / 16) 500) <|
    if (M.1 89 (x3 / 16).toNatClampNeg) = 0 then
      mv_bind (fX11_asking 6 x1 ((((x2 / 8) * 8) + x5) + 1) x3 M) fun _ M9 =>
      mv_bind (fX11_asking 2 x1 0 x3 M9) fun _ M10 =>
      mv_chk (mv_inb x1 2002) <|
      mv_chk (mv_inb ((M10.1 72 x1.toNatClampNeg) + x5) 2002) <|
      mv_chk (mv_inb ((4 * x4) + x5) 1248) <|
      mv_bind (fX11_asking 1 (M10.1 78 ((M10.1 72 x1.toNatClampNeg) + x5).toNatClampNeg) (M10.1 90 ((4 * x4) + x5).toNatClampNeg) (x3 + 16) M10) fun _ M14 =>
      some ((), M14)
    else
      some ((), M)
set_option maxRecDepth 100000 in
set_option maxHeartbeats 4000000 in
theorem zX11_onArgument_57 {l : Launch} {d : Nat} {Q : Unit → mv_M → Prop} (hd : 3 ≤ d) (x1 : Int32) (x2 : Int32) (x3 : Int32) (x4 : Int32) (x5 : Int32) (M : mv_M) (h : mv_ok (fX11_onArgument_57 x1 x2 x3 x4 x5 M) Q) : mv l mX11_onArgument d 0 57 [(0, .ref 62), (1, .int x1), (2, .int x2), (3, .int x3), (4, .int x4), (5, .int x5)] [] M (mv_qV Q) := by
  unfold fX11_onArgument_57 at h
  refine mv_iload 5 dX11_onArgument_57 rfl ?_
  refine mv_aload_n 0 dX11_onArgument_59 rfl ?_
  refine mv_getR 73 fX11_45 (by decide) rfl rfl rfl dX11_onArgument_60 ?_
  refine mv_iload_n 1 dX11_onArgument_63 rfl ?_
  obtain ⟨hi7, h⟩ := mv_chkE h
  refine mv_ild (by decide) rfl (mv_inE hi7) dX11_onArgument_64 ?_
  refine mv_icmp_ge 143 dX11_onArgument_65 (by decide) (fun z => ?_) (fun z => ?_)
  · replace h := mv_ifT z h
    exact mv_vret rfl dX11_onArgument_143 ⟨rfl, h⟩
  · replace h := mv_ifF z h
    refine mv_aload_n 0 dX11_onArgument_68 rfl ?_
    refine mv_getR 89 fX11_93 (by decide) rfl rfl rfl dX11_onArgument_69 ?_
    refine mv_iload_n 3 dX11_onArgument_72 rfl ?_
    refine mv_bipush 16 dX11_onArgument_73 (by decide) ?_
    refine mv_idiv dX11_onArgument_75 (by decide) ?_
    obtain ⟨hi8, h⟩ := mv_chkE h
    refine mv_zld (by decide) rfl (mv_inE hi8) dX11_onArgument_76 ?_
    refine mv_if_ne 143 dX11_onArgument_77 (by decide) (fun z => ?_) (fun z => ?_)
    · replace h := mv_ifF z h
      exact mv_vret rfl dX11_onArgument_143 ⟨rfl, h⟩
    · replace h := mv_ifT z h
      refine mv_aload_n 0 dX11_onArgument_80 rfl ?_
      refine mv_bipush 6 dX11_onArgument_81 (by decide) ?_
      refine mv_iload_n 1 dX11_onArgument_83 rfl ?_
      refine mv_iload_n 2 dX11_onArgument_84 rfl ?_
      refine mv_bipush 8 dX11_onArgument_85 (by decide) ?_
      refine mv_idiv dX11_onArgument_87 (by decide) ?_
      refine mv_bipush 8 dX11_onArgument_88 (by decide) ?_
      refine mv_imul dX11_onArgument_90 ?_
      refine mv_iload 5 dX11_onArgument_91 rfl ?_
      refine mv_iadd dX11_onArgument_93 ?_
      refine mv_iconst 1 dX11_onArgument_94 (by decide) ?_
      refine mv_iadd dX11_onArgument_95 ?_
      refine mv_iload_n 3 dX11_onArgument_96 rfl ?_
      refine mv_cvV (As := [.int 6, .int x1, .int ((((x2 / 8) * 8) + x5) + 1), .int x3]) (st := []) okX11_asking lX11_363 (by decide) rfl rfl rfl (Nat.le_of_ble_eq_true rfl) rfl (Nat.le_of_ble_eq_true rfl) dX11_onArgument_97 (by omega) rfl (zX11_asking (d := d - 1) (by omega) 6 x1 ((((x2 / 8) * 8) + x5) + 1) x3 M (mv_bindE h)) (fun _ M9 h => ?_)
      refine mv_aload_n 0 dX11_onArgument_100 rfl ?_
      refine mv_iconst 2 dX11_onArgument_101 (by decide) ?_
      refine mv_iload_n 1 dX11_onArgument_102 rfl ?_
      refine mv_iconst 0 dX11_onArgument_103 (by decide) ?_
      refine mv_iload_n 3 dX11_onArgument_104 rfl ?_
      refine mv_cvV (As := [.int 2, .int x1, .int 0, .int x3]) (st := []) okX11_asking lX11_363 (by decide) rfl rfl rfl (Nat.le_of_ble_eq_true rfl) rfl (Nat.le_of_ble_eq_true rfl) dX11_onArgument_105 (by omega) rfl (zX11_asking (d := d - 1) (by omega) 2 x1 0 x3 M9 (mv_bindE h)) (fun _ M10 h => ?_)
      refine mv_aload_n 0 dX11_onArgument_108 rfl ?_
      refine mv_iconst 1 dX11_onArgument_109 (by decide) ?_
      refine mv_aload_n 0 dX11_onArgument_110 rfl ?_
      refine mv_getR 78 fX11_60 (by decide) rfl rfl rfl dX11_onArgument_111 ?_
      refine mv_aload_n 0 dX11_onArgument_114 rfl ?_
      refine mv_getR 72 fX11_42 (by decide) rfl rfl rfl dX11_onArgument_115 ?_
      refine mv_iload_n 1 dX11_onArgument_118 rfl ?_
      obtain ⟨hi11, h⟩ := mv_chkE h
      refine mv_ild (by decide) rfl (mv_inE hi11) dX11_onArgument_119 ?_
      refine mv_iload 5 dX11_onArgument_120 rfl ?_
      refine mv_iadd dX11_onArgument_122 ?_
      obtain ⟨hi12, h⟩ := mv_chkE h
      refine mv_ild (by decide) rfl (mv_inE hi12) dX11_onArgument_123 ?_
      refine mv_aload_n 0 dX11_onArgument_124 rfl ?_
      refine mv_getR 90 fX11_97 (by decide) rfl rfl rfl dX11_onArgument_125 ?_
      refine mv_iconst 4 dX11_onArgument_128 (by decide) ?_
      refine mv_iload 4 dX11_onArgument_129 rfl ?_
      refine mv_imul dX11_onArgument_131 ?_
      refine mv_iload 5 dX11_onArgument_132 rfl ?_
      refine mv_iadd dX11_onArgument_134 ?_
      obtain ⟨hi13, h⟩ := mv_chkE h
      refine mv_ild (by decide) rfl (mv_inE hi13) dX11_onArgument_135 ?_
      refine mv_iload_n 3 dX11_onArgument_136 rfl ?_
      refine mv_bipush 16 dX11_onArgument_137 (by decide) ?_
      refine mv_iadd dX11_onArgument_139 ?_
      refine mv_cvV (As := [.int 1, .int (M10.1 78 ((M10.1 72 x1.toNatClampNeg) + x5).toNatClampNeg), .int (M10.1 90 ((4 * x4) + x5).toNatClampNeg), .int (x3 + 16)]) (st := []) okX11_asking lX11_363 (by decide) rfl rfl rfl (Nat.le_of_ble_eq_true rfl) rfl (Nat.le_of_ble_eq_true rfl) dX11_onArgument_140 (by omega) rfl (zX11_asking (d := d - 1) (by omega) 1 (M10.1 78 ((M10.1 72 x1.toNatClampNeg) + x5).toNatClampNeg) (M10.1 90 ((4 * x4) + x5).toNatClampNeg) (x3 + 16) M10 (mv_bindE h)) (fun _ M14 h => ?_)
      exact mv_vret rfl dX11_onArgument_143 ⟨rfl, h⟩
noncomputable def gX11_onArgument_25 (x1 : Int32) (x2 : Int32) (x3 : Int32) (x4 : Int32) (x5 : Int32) (M : mv_M) : Option (((Int32 × Int32 × Int32 × Int32 × Int32) ⊕ Unit) × mv_M) :=
  mv_chk (mv_inb x1 2002) <|
  if (M.1 73 x1.toNatClampNeg) ≤ x5 then
    mv_inr (fX11_onArgument_57 x1 x2 x3 x4 x5 M)
  else
    mv_chk (mv_inb ((4 * x4) + x5) 1248) <|
    if (M.1 90 ((4 * x4) + x5).toNatClampNeg) = 0 then
      mv_let (x5 + 1) fun v6 =>
      some (.inl (x1, x2, x3, x4, v6), M)
    else
      mv_inr (fX11_onArgument_57 x1 x2 x3 x4 x5 M)
noncomputable def fX11_onArgument_25 (x1 : Int32) (x2 : Int32) (x3 : Int32) (x4 : Int32) (x5 : Int32) (M : mv_M) : Option (Unit × mv_M) := mv_loop (fun (s : Int32 × Int32 × Int32 × Int32 × Int32) M => gX11_onArgument_25 s.1 s.2.1 s.2.2.1 s.2.2.2.1 s.2.2.2.2 M) (x1, x2, x3, x4, x5) M
set_option maxRecDepth 100000 in
set_option maxHeartbeats 4000000 in
theorem zX11_onArgument_25 {l : Launch} {d : Nat} {Q : Unit → mv_M → Prop} (hd : 3 ≤ d) (x1 : Int32) (x2 : Int32) (x3 : Int32) (x4 : Int32) (x5 : Int32) (M : mv_M) (h : mv_ok (fX11_onArgument_25 x1 x2 x3 x4 x5 M) Q) : mv l mX11_onArgument d 0 25 [(0, .ref 62), (1, .int x1), (2, .int x2), (3, .int x3), (4, .int x4), (5, .int x5)] [] M (mv_qV Q) := by
  unfold fX11_onArgument_25 at h
  refine mv_loopE (A := (fun (s : Int32 × Int32 × Int32 × Int32 × Int32) M => mv l mX11_onArgument d 0 25 [(0, .ref 62), (1, .int s.1), (2, .int s.2.1), (3, .int s.2.2.1), (4, .int s.2.2.2.1), (5, .int s.2.2.2.2)] [] M (mv_qV Q))) ?_ (x1, x2, x3, x4, x5) M h
  · rintro ⟨x1, x2, x3, x4, x5⟩ M h
    try dsimp only at h
    show mv l mX11_onArgument d 0 25 [(0, .ref 62), (1, .int x1), (2, .int x2), (3, .int x3), (4, .int x4), (5, .int x5)] [] M (mv_qV Q)
    unfold gX11_onArgument_25 at h
    refine mv_iload 5 dX11_onArgument_25 rfl ?_
    refine mv_aload_n 0 dX11_onArgument_27 rfl ?_
    refine mv_getR 73 fX11_45 (by decide) rfl rfl rfl dX11_onArgument_28 ?_
    refine mv_iload_n 1 dX11_onArgument_31 rfl ?_
    obtain ⟨hi4, h⟩ := mv_chkE h
    refine mv_ild (by decide) rfl (mv_inE hi4) dX11_onArgument_32 ?_
    refine mv_icmp_ge 57 dX11_onArgument_33 (by decide) (fun z => ?_) (fun z => ?_)
    · replace h := mv_ifT z h
      refine mv_sub [0, 1, 2, 3, 4, 5] rfl ?_
      exact zX11_onArgument_57 hd x1 x2 x3 x4 x5 M (mv_inrE h)
    · replace h := mv_ifF z h
      refine mv_aload_n 0 dX11_onArgument_36 rfl ?_
      refine mv_getR 90 fX11_97 (by decide) rfl rfl rfl dX11_onArgument_37 ?_
      refine mv_iconst 4 dX11_onArgument_40 (by decide) ?_
      refine mv_iload 4 dX11_onArgument_41 rfl ?_
      refine mv_imul dX11_onArgument_43 ?_
      refine mv_iload 5 dX11_onArgument_44 rfl ?_
      refine mv_iadd dX11_onArgument_46 ?_
      obtain ⟨hi5, h⟩ := mv_chkE h
      refine mv_ild (by decide) rfl (mv_inE hi5) dX11_onArgument_47 ?_
      refine mv_if_ne 57 dX11_onArgument_48 (by decide) (fun z => ?_) (fun z => ?_)
      · replace h := mv_ifF z h
        refine mv_sub [0, 1, 2, 3, 4, 5] rfl ?_
        exact zX11_onArgument_57 hd x1 x2 x3 x4 x5 M (mv_inrE h)
      · replace h := mv_ifT z h
        obtain ⟨v6, ev6⟩ : ∃ z : Int32, z = x5 + 1 := ⟨_, rfl⟩
        replace h := mv_letE h v6 ev6
        refine mv_iinc v6 5 [(5, .int v6), (0, .ref 62), (1, .int x1), (2, .int x2), (3, .int x3), (4, .int x4)] dX11_onArgument_51 rfl (by rw [ev6]; rfl) (by decide) rfl ?_
        refine mv_goto 25 dX11_onArgument_54 (by decide) ?_
        refine mv_sub [1, 2, 3, 4, 5, 0] rfl ?_
        exact h
noncomputable def fX11_onArgument (a0 : Int32) (a1 : Int32) (a2 : Int32) (M : mv_M) : Option (Unit × mv_M) :=
  mv_chk (mv_inb a0 2002) <|
  mv_let ((26 * ((M.1 74 a0.toNatClampNeg) - (M.1 74 a0.toNatClampNeg) / 12 * 12)) + (a1 / 8)) fun v2 =>
  mv_let (a1 - a1 / 8 * 8) fun v3 =>
  fX11_onArgument_25 a0 a1 a2 v2 v3 M
set_option maxRecDepth 100000 in
set_option maxHeartbeats 4000000 in
theorem zX11_onArgument {l : Launch} {d : Nat} {Q : Unit → mv_M → Prop} (hd : 3 ≤ d) (a0 : Int32) (a1 : Int32) (a2 : Int32) (M : mv_M) (h : mv_ok (fX11_onArgument a0 a1 a2 M) Q) : mv l mX11_onArgument d 0 0 (lv_args 0 [.ref 62, .int a0, .int a1, .int a2]) [] M (mv_qV Q) := by
  unfold fX11_onArgument at h
  show mv l mX11_onArgument d 0 0 [(0, .ref 62), (1, .int a0), (2, .int a1), (3, .int a2)] [] M (mv_qV Q)
  refine mv_bipush 26 dX11_onArgument_0 (by decide) ?_
  refine mv_aload_n 0 dX11_onArgument_2 rfl ?_
  refine mv_getR 74 fX11_48 (by decide) rfl rfl rfl dX11_onArgument_3 ?_
  refine mv_iload_n 1 dX11_onArgument_6 rfl ?_
  obtain ⟨hi1, h⟩ := mv_chkE h
  refine mv_ild (by decide) rfl (mv_inE hi1) dX11_onArgument_7 ?_
  refine mv_bipush 12 dX11_onArgument_8 (by decide) ?_
  refine mv_irem dX11_onArgument_10 (by decide) ?_
  refine mv_imul dX11_onArgument_11 ?_
  refine mv_iload_n 2 dX11_onArgument_12 rfl ?_
  refine mv_bipush 8 dX11_onArgument_13 (by decide) ?_
  refine mv_idiv dX11_onArgument_15 (by decide) ?_
  refine mv_iadd dX11_onArgument_16 ?_
  refine mv_topi (fun v2 ev2 => ?_)
  replace h := mv_letE h v2 ev2
  refine mv_istore [(4, .int v2), (0, .ref 62), (1, .int a0), (2, .int a1), (3, .int a2)] dX11_onArgument_17 (by decide) rfl ?_
  refine mv_iload_n 3 dX11_onArgument_19 rfl ?_
  refine mv_bipush 8 dX11_onArgument_20 (by decide) ?_
  refine mv_irem dX11_onArgument_22 (by decide) ?_
  refine mv_topi (fun v3 ev3 => ?_)
  replace h := mv_letE h v3 ev3
  refine mv_istore [(5, .int v3), (4, .int v2), (0, .ref 62), (1, .int a0), (2, .int a1), (3, .int a2)] dX11_onArgument_23 (by decide) rfl ?_
  refine mv_sub [2, 3, 4, 5, 1, 0] rfl ?_
  exact zX11_onArgument_25 hd a0 a1 a2 v2 v3 M h
theorem dX11_asks_0 : decode cX11_asks 0 = .ok (.aload_n 0, 1) := by decide +kernel
theorem dX11_asks_1 : decode cX11_asks 1 = .ok (.iconst 0, 1) := by decide +kernel
theorem dX11_asks_2 : decode cX11_asks 2 = .ok (.putfield 242, 3) := by decide +kernel
theorem dX11_asks_5 : decode cX11_asks 5 = .ok (.aload_n 0, 1) := by decide +kernel
theorem dX11_asks_6 : decode cX11_asks 6 = .ok (.iconst 1, 1) := by decide +kernel
theorem dX11_asks_7 : decode cX11_asks 7 = .ok (.iload_n 1, 1) := by decide +kernel
theorem dX11_asks_8 : decode cX11_asks 8 = .ok (.iload_n 2, 1) := by decide +kernel
theorem dX11_asks_9 : decode cX11_asks 9 = .ok (.iconst 0, 1) := by decide +kernel
theorem dX11_asks_10 : decode cX11_asks 10 = .ok (.invokevirtual 363, 3) := by decide +kernel
theorem dX11_asks_13 : decode cX11_asks 13 = .ok (.aload_n 0, 1) := by decide +kernel
theorem dX11_asks_14 : decode cX11_asks 14 = .ok (.getfield 242, 3) := by decide +kernel
theorem dX11_asks_17 : decode cX11_asks 17 = .ok (.ifCond .le 242, 3) := by decide +kernel
theorem dX11_asks_20 : decode cX11_asks 20 = .ok (.aload_n 0, 1) := by decide +kernel
theorem dX11_asks_21 : decode cX11_asks 21 = .ok (.dup, 1) := by decide +kernel
theorem dX11_asks_22 : decode cX11_asks 22 = .ok (.getfield 242, 3) := by decide +kernel
theorem dX11_asks_25 : decode cX11_asks 25 = .ok (.iconst 1, 1) := by decide +kernel
theorem dX11_asks_26 : decode cX11_asks 26 = .ok (.isub, 1) := by decide +kernel
theorem dX11_asks_27 : decode cX11_asks 27 = .ok (.putfield 242, 3) := by decide +kernel
theorem dX11_asks_30 : decode cX11_asks 30 = .ok (.aload_n 0, 1) := by decide +kernel
theorem dX11_asks_31 : decode cX11_asks 31 = .ok (.getfield 69, 3) := by decide +kernel
theorem dX11_asks_34 : decode cX11_asks 34 = .ok (.aload_n 0, 1) := by decide +kernel
theorem dX11_asks_35 : decode cX11_asks 35 = .ok (.getfield 242, 3) := by decide +kernel
theorem dX11_asks_38 : decode cX11_asks 38 = .ok (.iaload, 1) := by decide +kernel
theorem dX11_asks_39 : decode cX11_asks 39 = .ok (.istore_n 3, 1) := by decide +kernel
theorem dX11_asks_40 : decode cX11_asks 40 = .ok (.aload_n 0, 1) := by decide +kernel
theorem dX11_asks_41 : decode cX11_asks 41 = .ok (.getfield 72, 3) := by decide +kernel
theorem dX11_asks_44 : decode cX11_asks 44 = .ok (.aload_n 0, 1) := by decide +kernel
theorem dX11_asks_45 : decode cX11_asks 45 = .ok (.getfield 242, 3) := by decide +kernel
theorem dX11_asks_48 : decode cX11_asks 48 = .ok (.iaload, 1) := by decide +kernel
theorem dX11_asks_49 : decode cX11_asks 49 = .ok (.istore 4, 2) := by decide +kernel
theorem dX11_asks_51 : decode cX11_asks 51 = .ok (.aload_n 0, 1) := by decide +kernel
theorem dX11_asks_52 : decode cX11_asks 52 = .ok (.getfield 87, 3) := by decide +kernel
theorem dX11_asks_55 : decode cX11_asks 55 = .ok (.aload_n 0, 1) := by decide +kernel
theorem dX11_asks_56 : decode cX11_asks 56 = .ok (.getfield 242, 3) := by decide +kernel
theorem dX11_asks_59 : decode cX11_asks 59 = .ok (.iaload, 1) := by decide +kernel
theorem dX11_asks_60 : decode cX11_asks 60 = .ok (.istore 5, 2) := by decide +kernel
theorem dX11_asks_62 : decode cX11_asks 62 = .ok (.aload_n 0, 1) := by decide +kernel
theorem dX11_asks_63 : decode cX11_asks 63 = .ok (.getfield 81, 3) := by decide +kernel
theorem dX11_asks_66 : decode cX11_asks 66 = .ok (.aload_n 0, 1) := by decide +kernel
theorem dX11_asks_67 : decode cX11_asks 67 = .ok (.getfield 242, 3) := by decide +kernel
theorem dX11_asks_70 : decode cX11_asks 70 = .ok (.iaload, 1) := by decide +kernel
theorem dX11_asks_71 : decode cX11_asks 71 = .ok (.istore 6, 2) := by decide +kernel
theorem dX11_asks_73 : decode cX11_asks 73 = .ok (.iload_n 3, 1) := by decide +kernel
theorem dX11_asks_74 : decode cX11_asks 74 = .ok (.iconst 1, 1) := by decide +kernel
theorem dX11_asks_75 : decode cX11_asks 75 = .ok (.if_icmp .ne 16, 3) := by decide +kernel
theorem dX11_asks_78 : decode cX11_asks 78 = .ok (.aload_n 0, 1) := by decide +kernel
theorem dX11_asks_79 : decode cX11_asks 79 = .ok (.iload 4, 2) := by decide +kernel
theorem dX11_asks_81 : decode cX11_asks 81 = .ok (.iload 5, 2) := by decide +kernel
theorem dX11_asks_83 : decode cX11_asks 83 = .ok (.iload 6, 2) := by decide +kernel
theorem dX11_asks_85 : decode cX11_asks 85 = .ok (.invokevirtual 367, 3) := by decide +kernel
theorem dX11_asks_88 : decode cX11_asks 88 = .ok (.goto 168, 3) := by decide +kernel
theorem dX11_asks_91 : decode cX11_asks 91 = .ok (.iload_n 3, 1) := by decide +kernel
theorem dX11_asks_92 : decode cX11_asks 92 = .ok (.iconst 2, 1) := by decide +kernel
theorem dX11_asks_93 : decode cX11_asks 93 = .ok (.if_icmp .eq 8, 3) := by decide +kernel
theorem dX11_asks_96 : decode cX11_asks 96 = .ok (.iload_n 3, 1) := by decide +kernel
theorem dX11_asks_97 : decode cX11_asks 97 = .ok (.iconst 3, 1) := by decide +kernel
theorem dX11_asks_98 : decode cX11_asks 98 = .ok (.if_icmp .ne 22, 3) := by decide +kernel
theorem dX11_asks_101 : decode cX11_asks 101 = .ok (.aload_n 0, 1) := by decide +kernel
theorem dX11_asks_102 : decode cX11_asks 102 = .ok (.iload 6, 2) := by decide +kernel
theorem dX11_asks_104 : decode cX11_asks 104 = .ok (.iload_n 3, 1) := by decide +kernel
theorem dX11_asks_105 : decode cX11_asks 105 = .ok (.iconst 2, 1) := by decide +kernel
theorem dX11_asks_106 : decode cX11_asks 106 = .ok (.if_icmp .ne 7, 3) := by decide +kernel
theorem dX11_asks_109 : decode cX11_asks 109 = .ok (.iconst 1, 1) := by decide +kernel
theorem dX11_asks_110 : decode cX11_asks 110 = .ok (.goto 4, 3) := by decide +kernel
theorem dX11_asks_113 : decode cX11_asks 113 = .ok (.iconst 0, 1) := by decide +kernel
theorem dX11_asks_114 : decode cX11_asks 114 = .ok (.invokevirtual 370, 3) := by decide +kernel
theorem dX11_asks_117 : decode cX11_asks 117 = .ok (.goto 139, 3) := by decide +kernel
theorem dX11_asks_120 : decode cX11_asks 120 = .ok (.iload_n 3, 1) := by decide +kernel
theorem dX11_asks_121 : decode cX11_asks 121 = .ok (.bipush 6, 2) := by decide +kernel
theorem dX11_asks_123 : decode cX11_asks 123 = .ok (.if_icmp .ne 16, 3) := by decide +kernel
theorem dX11_asks_126 : decode cX11_asks 126 = .ok (.aload_n 0, 1) := by decide +kernel
theorem dX11_asks_127 : decode cX11_asks 127 = .ok (.iload 4, 2) := by decide +kernel
theorem dX11_asks_129 : decode cX11_asks 129 = .ok (.iload 5, 2) := by decide +kernel
theorem dX11_asks_131 : decode cX11_asks 131 = .ok (.iload 6, 2) := by decide +kernel
theorem dX11_asks_133 : decode cX11_asks 133 = .ok (.invokevirtual 374, 3) := by decide +kernel
theorem dX11_asks_136 : decode cX11_asks 136 = .ok (.goto 120, 3) := by decide +kernel
theorem dX11_asks_139 : decode cX11_asks 139 = .ok (.aload_n 0, 1) := by decide +kernel
theorem dX11_asks_140 : decode cX11_asks 140 = .ok (.getfield 93, 3) := by decide +kernel
theorem dX11_asks_143 : decode cX11_asks 143 = .ok (.iload 6, 2) := by decide +kernel
theorem dX11_asks_145 : decode cX11_asks 145 = .ok (.bipush 16, 2) := by decide +kernel
theorem dX11_asks_147 : decode cX11_asks 147 = .ok (.idiv, 1) := by decide +kernel
theorem dX11_asks_148 : decode cX11_asks 148 = .ok (.baload, 1) := by decide +kernel
theorem dX11_asks_149 : decode cX11_asks 149 = .ok (.ifCond .ne 107, 3) := by decide +kernel
theorem dX11_asks_152 : decode cX11_asks 152 = .ok (.aload_n 0, 1) := by decide +kernel
theorem dX11_asks_153 : decode cX11_asks 153 = .ok (.getfield 90, 3) := by decide +kernel
theorem dX11_asks_156 : decode cX11_asks 156 = .ok (.iload 6, 2) := by decide +kernel
theorem dX11_asks_158 : decode cX11_asks 158 = .ok (.aload_n 0, 1) := by decide +kernel
theorem dX11_asks_159 : decode cX11_asks 159 = .ok (.getfield 48, 3) := by decide +kernel
theorem dX11_asks_162 : decode cX11_asks 162 = .ok (.iload 4, 2) := by decide +kernel
theorem dX11_asks_164 : decode cX11_asks 164 = .ok (.iaload, 1) := by decide +kernel
theorem dX11_asks_165 : decode cX11_asks 165 = .ok (.iadd, 1) := by decide +kernel
theorem dX11_asks_166 : decode cX11_asks 166 = .ok (.iaload, 1) := by decide +kernel
theorem dX11_asks_167 : decode cX11_asks 167 = .ok (.istore 7, 2) := by decide +kernel
theorem dX11_asks_169 : decode cX11_asks 169 = .ok (.iload_n 3, 1) := by decide +kernel
theorem dX11_asks_170 : decode cX11_asks 170 = .ok (.iconst 4, 1) := by decide +kernel
theorem dX11_asks_171 : decode cX11_asks 171 = .ok (.if_icmp .ne 8, 3) := by decide +kernel
theorem dX11_asks_174 : decode cX11_asks 174 = .ok (.iload 7, 2) := by decide +kernel
theorem dX11_asks_176 : decode cX11_asks 176 = .ok (.goto 44, 3) := by decide +kernel
theorem dX11_asks_179 : decode cX11_asks 179 = .ok (.iconst 1, 1) := by decide +kernel
theorem dX11_asks_180 : decode cX11_asks 180 = .ok (.iload 7, 2) := by decide +kernel
theorem dX11_asks_182 : decode cX11_asks 182 = .ok (.aload_n 0, 1) := by decide +kernel
theorem dX11_asks_183 : decode cX11_asks 183 = .ok (.getfield 54, 3) := by decide +kernel
theorem dX11_asks_186 : decode cX11_asks 186 = .ok (.aload_n 0, 1) := by decide +kernel
theorem dX11_asks_187 : decode cX11_asks 187 = .ok (.getfield 42, 3) := by decide +kernel
theorem dX11_asks_190 : decode cX11_asks 190 = .ok (.iload 4, 2) := by decide +kernel
theorem dX11_asks_192 : decode cX11_asks 192 = .ok (.iaload, 1) := by decide +kernel
theorem dX11_asks_193 : decode cX11_asks 193 = .ok (.iaload, 1) := by decide +kernel
theorem dX11_asks_194 : decode cX11_asks 194 = .ok (.invokestatic 162, 3) := by decide +kernel
theorem dX11_asks_197 : decode cX11_asks 197 = .ok (.invokestatic 166, 3) := by decide +kernel
theorem dX11_asks_200 : decode cX11_asks 200 = .ok (.imul, 1) := by decide +kernel
theorem dX11_asks_201 : decode cX11_asks 201 = .ok (.iadd, 1) := by decide +kernel
theorem dX11_asks_202 : decode cX11_asks 202 = .ok (.aload_n 0, 1) := by decide +kernel
theorem dX11_asks_203 : decode cX11_asks 203 = .ok (.getfield 90, 3) := by decide +kernel
theorem dX11_asks_206 : decode cX11_asks 206 = .ok (.iload 6, 2) := by decide +kernel
theorem dX11_asks_208 : decode cX11_asks 208 = .ok (.aload_n 0, 1) := by decide +kernel
theorem dX11_asks_209 : decode cX11_asks 209 = .ok (.getfield 48, 3) := by decide +kernel
theorem dX11_asks_212 : decode cX11_asks 212 = .ok (.iload 4, 2) := by decide +kernel
theorem dX11_asks_214 : decode cX11_asks 214 = .ok (.iaload, 1) := by decide +kernel
theorem dX11_asks_215 : decode cX11_asks 215 = .ok (.iadd, 1) := by decide +kernel
theorem dX11_asks_216 : decode cX11_asks 216 = .ok (.iconst 1, 1) := by decide +kernel
theorem dX11_asks_217 : decode cX11_asks 217 = .ok (.iadd, 1) := by decide +kernel
theorem dX11_asks_218 : decode cX11_asks 218 = .ok (.iaload, 1) := by decide +kernel
theorem dX11_asks_219 : decode cX11_asks 219 = .ok (.iadd, 1) := by decide +kernel
theorem dX11_asks_220 : decode cX11_asks 220 = .ok (.istore 8, 2) := by decide +kernel
theorem dX11_asks_222 : decode cX11_asks 222 = .ok (.iload 8, 2) := by decide +kernel
theorem dX11_asks_224 : decode cX11_asks 224 = .ok (.ifCond .le 32, 3) := by decide +kernel
theorem dX11_asks_227 : decode cX11_asks 227 = .ok (.aload_n 0, 1) := by decide +kernel
theorem dX11_asks_228 : decode cX11_asks 228 = .ok (.iconst 2, 1) := by decide +kernel
theorem dX11_asks_229 : decode cX11_asks 229 = .ok (.iload 4, 2) := by decide +kernel
theorem dX11_asks_231 : decode cX11_asks 231 = .ok (.iconst 0, 1) := by decide +kernel
theorem dX11_asks_232 : decode cX11_asks 232 = .ok (.iload 6, 2) := by decide +kernel
theorem dX11_asks_234 : decode cX11_asks 234 = .ok (.invokevirtual 363, 3) := by decide +kernel
theorem dX11_asks_237 : decode cX11_asks 237 = .ok (.aload_n 0, 1) := by decide +kernel
theorem dX11_asks_238 : decode cX11_asks 238 = .ok (.iconst 1, 1) := by decide +kernel
theorem dX11_asks_239 : decode cX11_asks 239 = .ok (.aload_n 0, 1) := by decide +kernel
theorem dX11_asks_240 : decode cX11_asks 240 = .ok (.getfield 42, 3) := by decide +kernel
theorem dX11_asks_243 : decode cX11_asks 243 = .ok (.iload 4, 2) := by decide +kernel
theorem dX11_asks_245 : decode cX11_asks 245 = .ok (.iaload, 1) := by decide +kernel
theorem dX11_asks_246 : decode cX11_asks 246 = .ok (.iload 8, 2) := by decide +kernel
theorem dX11_asks_248 : decode cX11_asks 248 = .ok (.iload 6, 2) := by decide +kernel
theorem dX11_asks_250 : decode cX11_asks 250 = .ok (.bipush 16, 2) := by decide +kernel
theorem dX11_asks_252 : decode cX11_asks 252 = .ok (.iadd, 1) := by decide +kernel
theorem dX11_asks_253 : decode cX11_asks 253 = .ok (.invokevirtual 363, 3) := by decide +kernel
theorem dX11_asks_256 : decode cX11_asks 256 = .ok (.goto (-243), 3) := by decide +kernel
theorem dX11_asks_259 : decode cX11_asks 259 = .ok (.aload_n 0, 1) := by decide +kernel
theorem dX11_asks_260 : decode cX11_asks 260 = .ok (.getfield 93, 3) := by decide +kernel
theorem dX11_asks_263 : decode cX11_asks 263 = .ok (.iconst 0, 1) := by decide +kernel
theorem dX11_asks_264 : decode cX11_asks 264 = .ok (.baload, 1) := by decide +kernel
theorem dX11_asks_265 : decode cX11_asks 265 = .ok (.ireturn, 1) := by decide +kernel
noncomputable def fX11_asks_256 (M : mv_M) : Option (((Unit) ⊕ Int32) × mv_M) :=
  some (.inl (), M)
set_option maxRecDepth 100000 in
set_option maxHeartbeats 4000000 in
theorem zX11_asks_256 {l : Launch} {d : Nat} {Q : Int32 → mv_M → Prop} (hd : 4 ≤ d) (M : mv_M) (h : mv_ok (fX11_asks_256 M) (mv_pq (fun (s : Unit) M => mv l mX11_asks d 0 13 [(0, .ref 62)] [] M (mv_qI Q)) Q)) : mv l mX11_asks d 0 256 [(0, .ref 62)] [] M (mv_qI Q) := by
  unfold fX11_asks_256 at h
  refine mv_goto 13 dX11_asks_256 (by decide) ?_
  refine mv_sub [0] rfl ?_
  exact h
noncomputable def fX11_asks_114 (s0 : Int32) (s1 : Int32) (M : mv_M) : Option (((Unit) ⊕ Int32) × mv_M) :=
  mv_bind (fX11_join s1 s0 M) fun _ M30 =>
  fX11_asks_256 M30
set_option maxRecDepth 100000 in
set_option maxHeartbeats 4000000 in
theorem zX11_asks_114 {l : Launch} {d : Nat} {Q : Int32 → mv_M → Prop} (hd : 4 ≤ d) (s0 : Int32) (s1 : Int32) (M : mv_M) (h : mv_ok (fX11_asks_114 s0 s1 M) (mv_pq (fun (s : Unit) M => mv l mX11_asks d 0 13 [(0, .ref 62)] [] M (mv_qI Q)) Q)) : mv l mX11_asks d 0 114 [(0, .ref 62)] [.int s0, .int s1, .ref 62] M (mv_qI Q) := by
  unfold fX11_asks_114 at h
  refine mv_cvV (As := [.int s1, .int s0]) (st := []) okX11_join lX11_370 (by decide) rfl rfl rfl (Nat.le_of_ble_eq_true rfl) rfl (Nat.le_of_ble_eq_true rfl) dX11_asks_114 (by omega) rfl (zX11_join (d := d - 1) (by omega) s1 s0 M (mv_bindE h)) (fun _ M30 h => ?_)
  refine mv_goto 256 dX11_asks_117 (by decide) ?_
  refine mv_sub [0] rfl ?_
  exact zX11_asks_256 hd M30 h
noncomputable def fX11_asks_101 (x3 : Int32) (x6 : Int32) (M : mv_M) : Option (((Unit) ⊕ Int32) × mv_M) :=
  if x3 = 2 then
    fX11_asks_114 1 x6 M
  else
    fX11_asks_114 0 x6 M
set_option maxRecDepth 100000 in
set_option maxHeartbeats 4000000 in
theorem zX11_asks_101 {l : Launch} {d : Nat} {Q : Int32 → mv_M → Prop} (hd : 4 ≤ d) (x3 : Int32) (x6 : Int32) (M : mv_M) (h : mv_ok (fX11_asks_101 x3 x6 M) (mv_pq (fun (s : Unit) M => mv l mX11_asks d 0 13 [(0, .ref 62)] [] M (mv_qI Q)) Q)) : mv l mX11_asks d 0 101 [(0, .ref 62), (3, .int x3), (6, .int x6)] [] M (mv_qI Q) := by
  unfold fX11_asks_101 at h
  refine mv_aload_n 0 dX11_asks_101 rfl ?_
  refine mv_iload 2 dX11_asks_102 rfl ?_
  refine mv_iload_n 1 dX11_asks_104 rfl ?_
  refine mv_iconst 2 dX11_asks_105 (by decide) ?_
  refine mv_icmp_ne 113 dX11_asks_106 (by decide) (fun z => ?_) (fun z => ?_)
  · replace h := mv_ifF z h
    refine mv_iconst 0 dX11_asks_113 (by decide) ?_
    refine mv_sub [0] rfl ?_
    exact zX11_asks_114 hd 0 x6 M h
  · replace h := mv_ifT z h
    refine mv_iconst 1 dX11_asks_109 (by decide) ?_
    refine mv_goto 114 dX11_asks_110 (by decide) ?_
    refine mv_sub [0] rfl ?_
    exact zX11_asks_114 hd 1 x6 M h
noncomputable def fX11_asks_220 (x4 : Int32) (x6 : Int32) (s0 : Int32) (M : mv_M) : Option (((Unit) ⊕ Int32) × mv_M) :=
  if s0 ≤ 0 then
    fX11_asks_256 M
  else
    mv_bind (fX11_asking 2 x4 0 x6 M) fun _ M27 =>
    mv_chk (mv_inb x4 2002) <|
    mv_bind (fX11_asking 1 (M27.1 72 x4.toNatClampNeg) s0 (x6 + 16) M27) fun _ M29 =>
    fX11_asks_256 M29
set_option maxRecDepth 100000 in
set_option maxHeartbeats 4000000 in
theorem zX11_asks_220 {l : Launch} {d : Nat} {Q : Int32 → mv_M → Prop} (hd : 4 ≤ d) (x4 : Int32) (x6 : Int32) (s0 : Int32) (M : mv_M) (h : mv_ok (fX11_asks_220 x4 x6 s0 M) (mv_pq (fun (s : Unit) M => mv l mX11_asks d 0 13 [(0, .ref 62)] [] M (mv_qI Q)) Q)) : mv l mX11_asks d 0 220 [(0, .ref 62), (4, .int x4), (6, .int x6)] [.int s0] M (mv_qI Q) := by
  unfold fX11_asks_220 at h
  refine mv_istore [(8, .int s0), (0, .ref 62), (4, .int x4), (6, .int x6)] dX11_asks_220 (by decide) rfl ?_
  refine mv_iload 0 dX11_asks_222 rfl ?_
  refine mv_if_le 256 dX11_asks_224 (by decide) (fun z => ?_) (fun z => ?_)
  · replace h := mv_ifT z h
    refine mv_sub [1] rfl ?_
    exact zX11_asks_256 hd M h
  · replace h := mv_ifF z h
    refine mv_aload_n 1 dX11_asks_227 rfl ?_
    refine mv_iconst 2 dX11_asks_228 (by decide) ?_
    refine mv_iload 2 dX11_asks_229 rfl ?_
    refine mv_iconst 0 dX11_asks_231 (by decide) ?_
    refine mv_iload 3 dX11_asks_232 rfl ?_
    refine mv_cvV (As := [.int 2, .int x4, .int 0, .int x6]) (st := []) okX11_asking lX11_363 (by decide) rfl rfl rfl (Nat.le_of_ble_eq_true rfl) rfl (Nat.le_of_ble_eq_true rfl) dX11_asks_234 (by omega) rfl (zX11_asking (d := d - 1) (by omega) 2 x4 0 x6 M (mv_bindE h)) (fun _ M27 h => ?_)
    refine mv_aload_n 1 dX11_asks_237 rfl ?_
    refine mv_iconst 1 dX11_asks_238 (by decide) ?_
    refine mv_aload_n 1 dX11_asks_239 rfl ?_
    refine mv_getR 72 fX11_42 (by decide) rfl rfl rfl dX11_asks_240 ?_
    refine mv_iload 2 dX11_asks_243 rfl ?_
    obtain ⟨hi28, h⟩ := mv_chkE h
    refine mv_ild (by decide) rfl (mv_inE hi28) dX11_asks_245 ?_
    refine mv_iload 0 dX11_asks_246 rfl ?_
    refine mv_iload 3 dX11_asks_248 rfl ?_
    refine mv_bipush 16 dX11_asks_250 (by decide) ?_
    refine mv_iadd dX11_asks_252 ?_
    refine mv_cvV (As := [.int 1, .int (M27.1 72 x4.toNatClampNeg), .int s0, .int (x6 + 16)]) (st := []) okX11_asking lX11_363 (by decide) rfl rfl rfl (Nat.le_of_ble_eq_true rfl) rfl (Nat.le_of_ble_eq_true rfl) dX11_asks_253 (by omega) rfl (zX11_asking (d := d - 1) (by omega) 1 (M27.1 72 x4.toNatClampNeg) s0 (x6 + 16) M27 (mv_bindE h)) (fun _ M29 h => ?_)
    refine mv_sub [1] rfl ?_
    exact zX11_asks_256 hd M29 h
noncomputable def gX11_asks_13 (M : mv_M) : Option (((Unit) ⊕ Int32) × mv_M) :=
  if (M.1 62 36) ≤ 0 then
    mv_chk (mv_bt (M.1 89 (0 : Int32).toNatClampNeg)) <|
    some (.inr (M.1 89 (0 : Int32).toNatClampNeg), M)
  else
    mv_let (mv_si M 62 36 ((M.1 62 36) - 1)) fun M4 =>
    mv_chk (mv_inb (M4.1 62 36) 3000) <|
    mv_let (M4.1 81 (M4.1 62 36).toNatClampNeg) fun v6 =>
    mv_chk (mv_inb (M4.1 62 36) 3000) <|
    mv_let (M4.1 82 (M4.1 62 36).toNatClampNeg) fun v8 =>
    mv_chk (mv_inb (M4.1 62 36) 3000) <|
    mv_let (M4.1 87 (M4.1 62 36).toNatClampNeg) fun v10 =>
    mv_chk (mv_inb (M4.1 62 36) 3000) <|
    mv_let (M4.1 85 (M4.1 62 36).toNatClampNeg) fun v12 =>
    if v6 = 1 then
      mv_bind (fX11_onAsk v8 v10 v12 M4) fun _ M26 =>
      fX11_asks_256 M26
    else
      if v6 = 2 then
        fX11_asks_101 v6 v12 M4
      else
        if v6 = 3 then
          fX11_asks_101 v6 v12 M4
        else
          if v6 = 6 then
            mv_bind (fX11_onArgument v8 v10 v12 M4) fun _ M25 =>
            fX11_asks_256 M25
          else
            mv_chk (mv_inb (v12 / 16) 500) <|
            if (M4.1 89 (v12 / 16).toNatClampNeg) = 0 then
              mv_chk (mv_inb v8 2002) <|
              mv_chk (mv_inb (v12 + (M4.1 74 v8.toNatClampNeg)) 8000) <|
              mv_let (M4.1 88 (v12 + (M4.1 74 v8.toNatClampNeg)).toNatClampNeg) fun v16 =>
              if v6 = 4 then
                fX11_asks_220 v8 v12 v16 M4
              else
                mv_chk (mv_inb v8 2002) <|
                mv_chk (mv_inb (M4.1 72 v8.toNatClampNeg) 2002) <|
                mv_bind (fX11_secondOf (M4.1 76 (M4.1 72 v8.toNatClampNeg).toNatClampNeg) M4) fun r19 M20 =>
                mv_bind (fX11_demands r19 M20) fun r21 M22 =>
                mv_chk (mv_inb v8 2002) <|
                mv_chk (mv_inb ((v12 + (M22.1 74 v8.toNatClampNeg)) + 1) 8000) <|
                fX11_asks_220 v8 v12 ((1 + (v16 * r21)) + (M22.1 88 ((v12 + (M22.1 74 v8.toNatClampNeg)) + 1).toNatClampNeg)) M22
            else
              fX11_asks_256 M4
noncomputable def fX11_asks_13 (M : mv_M) : Option (Int32 × mv_M) := mv_loop (fun (s : Unit) M => gX11_asks_13  M) () M
set_option maxRecDepth 100000 in
set_option maxHeartbeats 4000000 in
theorem zX11_asks_13 {l : Launch} {d : Nat} {Q : Int32 → mv_M → Prop} (hd : 4 ≤ d) (M : mv_M) (h : mv_ok (fX11_asks_13 M) Q) : mv l mX11_asks d 0 13 [(0, .ref 62)] [] M (mv_qI Q) := by
  unfold fX11_asks_13 at h
  refine mv_loopE (A := (fun (s : Unit) M => mv l mX11_asks d 0 13 [(0, .ref 62)] [] M (mv_qI Q))) ?_ () M h
  · intro s M h
    try dsimp only at h
    show mv l mX11_asks d 0 13 [(0, .ref 62)] [] M (mv_qI Q)
    unfold gX11_asks_13 at h
    refine mv_aload_n 0 dX11_asks_13 rfl ?_
    refine mv_getI fX11_242 (by decide) rfl rfl dX11_asks_14 ?_
    refine mv_if_le 259 dX11_asks_17 (by decide) (fun z => ?_) (fun z => ?_)
    · replace h := mv_ifT z h
      refine mv_aload_n 0 dX11_asks_259 rfl ?_
      refine mv_getR 89 fX11_93 (by decide) rfl rfl rfl dX11_asks_260 ?_
      refine mv_iconst 0 dX11_asks_263 (by decide) ?_
      refine mv_zld (by decide) rfl (mv_inE (by decide)) dX11_asks_264 ?_
      obtain ⟨hz3, h⟩ := mv_chkE h
      exact mv_zret (mv_btE hz3) rfl dX11_asks_265 ⟨_, rfl, h⟩
    · replace h := mv_ifF z h
      refine mv_aload_n 0 dX11_asks_20 rfl ?_
      refine mv_dup dX11_asks_21 rfl ?_
      refine mv_getI fX11_242 (by decide) rfl rfl dX11_asks_22 ?_
      refine mv_iconst 1 dX11_asks_25 (by decide) ?_
      refine mv_isub dX11_asks_26 ?_
      refine mv_putI fX11_242 (by decide) rfl rfl dX11_asks_27 (fun M4 eM4 => ?_)
      replace h := mv_letE h M4 eM4
      refine mv_aload_n 0 dX11_asks_30 rfl ?_
      refine mv_getR 81 fX11_69 (by decide) rfl rfl rfl dX11_asks_31 ?_
      refine mv_aload_n 0 dX11_asks_34 rfl ?_
      refine mv_getI fX11_242 (by decide) rfl rfl dX11_asks_35 ?_
      obtain ⟨hi5, h⟩ := mv_chkE h
      refine mv_ild (by decide) rfl (mv_inE hi5) dX11_asks_38 ?_
      refine mv_topi (fun v6 ev6 => ?_)
      replace h := mv_letE h v6 ev6
      refine mv_istore_n [(3, .int v6), (0, .ref 62)] dX11_asks_39 (by decide) rfl ?_
      refine mv_aload_n 1 dX11_asks_40 rfl ?_
      refine mv_getR 82 fX11_72 (by decide) rfl rfl rfl dX11_asks_41 ?_
      refine mv_aload_n 1 dX11_asks_44 rfl ?_
      refine mv_getI fX11_242 (by decide) rfl rfl dX11_asks_45 ?_
      obtain ⟨hi7, h⟩ := mv_chkE h
      refine mv_ild (by decide) rfl (mv_inE hi7) dX11_asks_48 ?_
      refine mv_topi (fun v8 ev8 => ?_)
      replace h := mv_letE h v8 ev8
      refine mv_istore [(4, .int v8), (3, .int v6), (0, .ref 62)] dX11_asks_49 (by decide) rfl ?_
      refine mv_aload_n 2 dX11_asks_51 rfl ?_
      refine mv_getR 87 fX11_87 (by decide) rfl rfl rfl dX11_asks_52 ?_
      refine mv_aload_n 2 dX11_asks_55 rfl ?_
      refine mv_getI fX11_242 (by decide) rfl rfl dX11_asks_56 ?_
      obtain ⟨hi9, h⟩ := mv_chkE h
      refine mv_ild (by decide) rfl (mv_inE hi9) dX11_asks_59 ?_
      refine mv_topi (fun v10 ev10 => ?_)
      replace h := mv_letE h v10 ev10
      refine mv_istore [(5, .int v10), (4, .int v8), (3, .int v6), (0, .ref 62)] dX11_asks_60 (by decide) rfl ?_
      refine mv_aload_n 3 dX11_asks_62 rfl ?_
      refine mv_getR 85 fX11_81 (by decide) rfl rfl rfl dX11_asks_63 ?_
      refine mv_aload_n 3 dX11_asks_66 rfl ?_
      refine mv_getI fX11_242 (by decide) rfl rfl dX11_asks_67 ?_
      obtain ⟨hi11, h⟩ := mv_chkE h
      refine mv_ild (by decide) rfl (mv_inE hi11) dX11_asks_70 ?_
      refine mv_topi (fun v12 ev12 => ?_)
      replace h := mv_letE h v12 ev12
      refine mv_istore [(6, .int v12), (5, .int v10), (4, .int v8), (3, .int v6), (0, .ref 62)] dX11_asks_71 (by decide) rfl ?_
      refine mv_iload_n 3 dX11_asks_73 rfl ?_
      refine mv_iconst 1 dX11_asks_74 (by decide) ?_
      refine mv_icmp_ne 91 dX11_asks_75 (by decide) (fun z => ?_) (fun z => ?_)
      · replace h := mv_ifF z h
        refine mv_iload_n 3 dX11_asks_91 rfl ?_
        refine mv_iconst 2 dX11_asks_92 (by decide) ?_
        refine mv_icmp_eq 101 dX11_asks_93 (by decide) (fun z => ?_) (fun z => ?_)
        · replace h := mv_ifT z h
          refine mv_sub [4, 3, 0] rfl ?_
          exact zX11_asks_101 hd v6 v12 M4 h
        · replace h := mv_ifF z h
          refine mv_iload_n 3 dX11_asks_96 rfl ?_
          refine mv_iconst 3 dX11_asks_97 (by decide) ?_
          refine mv_icmp_ne 120 dX11_asks_98 (by decide) (fun z => ?_) (fun z => ?_)
          · replace h := mv_ifF z h
            refine mv_iload_n 3 dX11_asks_120 rfl ?_
            refine mv_bipush 6 dX11_asks_121 (by decide) ?_
            refine mv_icmp_ne 139 dX11_asks_123 (by decide) (fun z => ?_) (fun z => ?_)
            · replace h := mv_ifF z h
              refine mv_aload_n 4 dX11_asks_139 rfl ?_
              refine mv_getR 89 fX11_93 (by decide) rfl rfl rfl dX11_asks_140 ?_
              refine mv_iload 0 dX11_asks_143 rfl ?_
              refine mv_bipush 16 dX11_asks_145 (by decide) ?_
              refine mv_idiv dX11_asks_147 (by decide) ?_
              obtain ⟨hi13, h⟩ := mv_chkE h
              refine mv_zld (by decide) rfl (mv_inE hi13) dX11_asks_148 ?_
              refine mv_if_ne 256 dX11_asks_149 (by decide) (fun z => ?_) (fun z => ?_)
              · replace h := mv_ifF z h
                refine mv_sub [4] rfl ?_
                exact zX11_asks_256 hd M4 h
              · replace h := mv_ifT z h
                refine mv_aload_n 4 dX11_asks_152 rfl ?_
                refine mv_getR 88 fX11_90 (by decide) rfl rfl rfl dX11_asks_153 ?_
                refine mv_iload 0 dX11_asks_156 rfl ?_
                refine mv_aload_n 4 dX11_asks_158 rfl ?_
                refine mv_getR 74 fX11_48 (by decide) rfl rfl rfl dX11_asks_159 ?_
                refine mv_iload 2 dX11_asks_162 rfl ?_
                obtain ⟨hi14, h⟩ := mv_chkE h
                refine mv_ild (by decide) rfl (mv_inE hi14) dX11_asks_164 ?_
                refine mv_iadd dX11_asks_165 ?_
                obtain ⟨hi15, h⟩ := mv_chkE h
                refine mv_ild (by decide) rfl (mv_inE hi15) dX11_asks_166 ?_
                refine mv_topi (fun v16 ev16 => ?_)
                replace h := mv_letE h v16 ev16
                refine mv_istore [(7, .int v16), (6, .int v12), (5, .int v10), (4, .int v8), (3, .int v6), (0, .ref 62)] dX11_asks_167 (by decide) rfl ?_
                refine mv_iload_n 4 dX11_asks_169 rfl ?_
                refine mv_iconst 4 dX11_asks_170 (by decide) ?_
                refine mv_icmp_ne 179 dX11_asks_171 (by decide) (fun z => ?_) (fun z => ?_)
                · replace h := mv_ifF z h
                  refine mv_iconst 1 dX11_asks_179 (by decide) ?_
                  refine mv_iload 0 dX11_asks_180 rfl ?_
                  refine mv_aload_n 5 dX11_asks_182 rfl ?_
                  refine mv_getR 76 fX11_54 (by decide) rfl rfl rfl dX11_asks_183 ?_
                  refine mv_aload_n 5 dX11_asks_186 rfl ?_
                  refine mv_getR 72 fX11_42 (by decide) rfl rfl rfl dX11_asks_187 ?_
                  refine mv_iload 3 dX11_asks_190 rfl ?_
                  obtain ⟨hi17, h⟩ := mv_chkE h
                  refine mv_ild (by decide) rfl (mv_inE hi17) dX11_asks_192 ?_
                  obtain ⟨hi18, h⟩ := mv_chkE h
                  refine mv_ild (by decide) rfl (mv_inE hi18) dX11_asks_193 ?_
                  refine mv_csI (As := [.int (M4.1 76 (M4.1 72 v8.toNatClampNeg).toNatClampNeg)]) (st := [.int v16, .int 1]) okX11_secondOf lX11_162 rfl (Nat.le_of_ble_eq_true rfl) rfl (Nat.le_of_ble_eq_true rfl) dX11_asks_194 (by omega) rfl (zX11_secondOf (d := d - 1) (by omega) (M4.1 76 (M4.1 72 v8.toNatClampNeg).toNatClampNeg) M4 (mv_bindE h)) (fun r19 M20 h => ?_)
                  refine mv_csI (As := [.int r19]) (st := [.int v16, .int 1]) okX11_demands lX11_166 rfl (Nat.le_of_ble_eq_true rfl) rfl (Nat.le_of_ble_eq_true rfl) dX11_asks_197 (by omega) rfl (zX11_demands (d := d - 1) (by omega) r19 M20 (mv_bindE h)) (fun r21 M22 h => ?_)
                  refine mv_imul dX11_asks_200 ?_
                  refine mv_iadd dX11_asks_201 ?_
                  refine mv_aload_n 5 dX11_asks_202 rfl ?_
                  refine mv_getR 88 fX11_90 (by decide) rfl rfl rfl dX11_asks_203 ?_
                  refine mv_iload 1 dX11_asks_206 rfl ?_
                  refine mv_aload_n 5 dX11_asks_208 rfl ?_
                  refine mv_getR 74 fX11_48 (by decide) rfl rfl rfl dX11_asks_209 ?_
                  refine mv_iload 3 dX11_asks_212 rfl ?_
                  obtain ⟨hi23, h⟩ := mv_chkE h
                  refine mv_ild (by decide) rfl (mv_inE hi23) dX11_asks_214 ?_
                  refine mv_iadd dX11_asks_215 ?_
                  refine mv_iconst 1 dX11_asks_216 (by decide) ?_
                  refine mv_iadd dX11_asks_217 ?_
                  obtain ⟨hi24, h⟩ := mv_chkE h
                  refine mv_ild (by decide) rfl (mv_inE hi24) dX11_asks_218 ?_
                  refine mv_iadd dX11_asks_219 ?_
                  refine mv_sub [5, 3, 1] rfl ?_
                  exact zX11_asks_220 hd v8 v12 ((1 + (v16 * r21)) + (M22.1 88 ((v12 + (M22.1 74 v8.toNatClampNeg)) + 1).toNatClampNeg)) M22 h
                · replace h := mv_ifT z h
                  refine mv_iload 0 dX11_asks_174 rfl ?_
                  refine mv_goto 220 dX11_asks_176 (by decide) ?_
                  refine mv_sub [5, 3, 1] rfl ?_
                  exact zX11_asks_220 hd v8 v12 v16 M4 h
            · replace h := mv_ifT z h
              refine mv_aload_n 4 dX11_asks_126 rfl ?_
              refine mv_iload 2 dX11_asks_127 rfl ?_
              refine mv_iload 1 dX11_asks_129 rfl ?_
              refine mv_iload 0 dX11_asks_131 rfl ?_
              refine mv_cvV (As := [.int v8, .int v10, .int v12]) (st := []) okX11_onArgument lX11_374 (by decide) rfl rfl rfl (Nat.le_of_ble_eq_true rfl) rfl (Nat.le_of_ble_eq_true rfl) dX11_asks_133 (by omega) rfl (zX11_onArgument (d := d - 1) (by omega) v8 v10 v12 M4 (mv_bindE h)) (fun _ M25 h => ?_)
              refine mv_goto 256 dX11_asks_136 (by decide) ?_
              refine mv_sub [4] rfl ?_
              exact zX11_asks_256 hd M25 h
          · replace h := mv_ifT z h
            refine mv_sub [4, 3, 0] rfl ?_
            exact zX11_asks_101 hd v6 v12 M4 h
      · replace h := mv_ifT z h
        refine mv_aload_n 4 dX11_asks_78 rfl ?_
        refine mv_iload 2 dX11_asks_79 rfl ?_
        refine mv_iload 1 dX11_asks_81 rfl ?_
        refine mv_iload 0 dX11_asks_83 rfl ?_
        refine mv_cvV (As := [.int v8, .int v10, .int v12]) (st := []) okX11_onAsk lX11_367 (by decide) rfl rfl rfl (Nat.le_of_ble_eq_true rfl) rfl (Nat.le_of_ble_eq_true rfl) dX11_asks_85 (by omega) rfl (zX11_onAsk (d := d - 1) (by omega) v8 v10 v12 M4 (mv_bindE h)) (fun _ M26 h => ?_)
        refine mv_goto 256 dX11_asks_88 (by decide) ?_
        refine mv_sub [4] rfl ?_
        exact zX11_asks_256 hd M26 h
noncomputable def fX11_asks (a0 : Int32) (a1 : Int32) (M : mv_M) : Option (Int32 × mv_M) :=
  mv_let (mv_si M 62 36 0) fun M1 =>
  mv_bind (fX11_asking 1 a0 a1 0 M1) fun _ M2 =>
  fX11_asks_13 M2
set_option maxRecDepth 100000 in
set_option maxHeartbeats 4000000 in
theorem zX11_asks {l : Launch} {d : Nat} {Q : Int32 → mv_M → Prop} (hd : 4 ≤ d) (a0 : Int32) (a1 : Int32) (M : mv_M) (h : mv_ok (fX11_asks a0 a1 M) Q) : mv l mX11_asks d 0 0 (lv_args 0 [.ref 62, .int a0, .int a1]) [] M (mv_qI Q) := by
  unfold fX11_asks at h
  show mv l mX11_asks d 0 0 [(0, .ref 62), (1, .int a0), (2, .int a1)] [] M (mv_qI Q)
  refine mv_aload_n 0 dX11_asks_0 rfl ?_
  refine mv_iconst 0 dX11_asks_1 (by decide) ?_
  refine mv_putI fX11_242 (by decide) rfl rfl dX11_asks_2 (fun M1 eM1 => ?_)
  replace h := mv_letE h M1 eM1
  refine mv_aload_n 0 dX11_asks_5 rfl ?_
  refine mv_iconst 1 dX11_asks_6 (by decide) ?_
  refine mv_iload_n 1 dX11_asks_7 rfl ?_
  refine mv_iload_n 2 dX11_asks_8 rfl ?_
  refine mv_iconst 0 dX11_asks_9 (by decide) ?_
  refine mv_cvV (As := [.int 1, .int a0, .int a1, .int 0]) (st := []) okX11_asking lX11_363 (by decide) rfl rfl rfl (Nat.le_of_ble_eq_true rfl) rfl (Nat.le_of_ble_eq_true rfl) dX11_asks_10 (by omega) rfl (zX11_asking (d := d - 1) (by omega) 1 a0 a1 0 M1 (mv_bindE h)) (fun _ M2 h => ?_)
  refine mv_sub [0] rfl ?_
  exact zX11_asks_13 hd M2 h
theorem dX11_all_0 : decode cX11_all 0 = .ok (.aload_n 0, 1) := by decide +kernel
theorem dX11_all_1 : decode cX11_all 1 = .ok (.getfield 36, 3) := by decide +kernel
theorem dX11_all_4 : decode cX11_all 4 = .ok (.bipush 16, 2) := by decide +kernel
theorem dX11_all_6 : decode cX11_all 6 = .ok (.bipush 12, 2) := by decide +kernel
theorem dX11_all_8 : decode cX11_all 8 = .ok (.aload_n 0, 1) := by decide +kernel
theorem dX11_all_9 : decode cX11_all 9 = .ok (.getfield 345, 3) := by decide +kernel
theorem dX11_all_12 : decode cX11_all 12 = .ok (.imul, 1) := by decide +kernel
theorem dX11_all_13 : decode cX11_all 13 = .ok (.iload_n 1, 1) := by decide +kernel
theorem dX11_all_14 : decode cX11_all 14 = .ok (.iadd, 1) := by decide +kernel
theorem dX11_all_15 : decode cX11_all 15 = .ok (.imul, 1) := by decide +kernel
theorem dX11_all_16 : decode cX11_all 16 = .ok (.iload_n 2, 1) := by decide +kernel
theorem dX11_all_17 : decode cX11_all 17 = .ok (.iadd, 1) := by decide +kernel
theorem dX11_all_18 : decode cX11_all 18 = .ok (.iaload, 1) := by decide +kernel
theorem dX11_all_19 : decode cX11_all 19 = .ok (.invokestatic 166, 3) := by decide +kernel
theorem dX11_all_22 : decode cX11_all 22 = .ok (.iconst 1, 1) := by decide +kernel
theorem dX11_all_23 : decode cX11_all 23 = .ok (.isub, 1) := by decide +kernel
theorem dX11_all_24 : decode cX11_all 24 = .ok (.ireturn, 1) := by decide +kernel
noncomputable def fX11_all (a0 : Int32) (a1 : Int32) (M : mv_M) : Option (Int32 × mv_M) :=
  mv_chk (mv_inb ((16 * ((12 * (M.1 62 47)) + a0)) + a1) 384) <|
  mv_bind (fX11_demands (M.1 70 ((16 * ((12 * (M.1 62 47)) + a0)) + a1).toNatClampNeg) M) fun r2 M3 =>
  some (r2 - 1, M3)
set_option maxRecDepth 100000 in
set_option maxHeartbeats 4000000 in
theorem zX11_all {l : Launch} {d : Nat} {Q : Int32 → mv_M → Prop} (hd : 1 ≤ d) (a0 : Int32) (a1 : Int32) (M : mv_M) (h : mv_ok (fX11_all a0 a1 M) Q) : mv l mX11_all d 0 0 (lv_args 0 [.ref 62, .int a0, .int a1]) [] M (mv_qI Q) := by
  unfold fX11_all at h
  show mv l mX11_all d 0 0 [(0, .ref 62), (1, .int a0), (2, .int a1)] [] M (mv_qI Q)
  refine mv_aload_n 0 dX11_all_0 rfl ?_
  refine mv_getR 70 fX11_36 (by decide) rfl rfl rfl dX11_all_1 ?_
  refine mv_bipush 16 dX11_all_4 (by decide) ?_
  refine mv_bipush 12 dX11_all_6 (by decide) ?_
  refine mv_aload_n 0 dX11_all_8 rfl ?_
  refine mv_getI fX11_345 (by decide) rfl rfl dX11_all_9 ?_
  refine mv_imul dX11_all_12 ?_
  refine mv_iload_n 1 dX11_all_13 rfl ?_
  refine mv_iadd dX11_all_14 ?_
  refine mv_imul dX11_all_15 ?_
  refine mv_iload_n 2 dX11_all_16 rfl ?_
  refine mv_iadd dX11_all_17 ?_
  obtain ⟨hi1, h⟩ := mv_chkE h
  refine mv_ild (by decide) rfl (mv_inE hi1) dX11_all_18 ?_
  refine mv_csI (As := [.int (M.1 70 ((16 * ((12 * (M.1 62 47)) + a0)) + a1).toNatClampNeg)]) (st := []) okX11_demands lX11_166 rfl (Nat.le_of_ble_eq_true rfl) rfl (Nat.le_of_ble_eq_true rfl) dX11_all_19 (by omega) rfl (zX11_demands (d := d - 1) (by omega) (M.1 70 ((16 * ((12 * (M.1 62 47)) + a0)) + a1).toNatClampNeg) M (mv_bindE h)) (fun r2 M3 h => ?_)
  refine mv_iconst 1 dX11_all_22 (by decide) ?_
  refine mv_isub dX11_all_23 ?_
  exact mv_iret rfl dX11_all_24 ⟨_, rfl, h⟩
theorem dX11_renewed_0 : decode cX11_renewed 0 = .ok (.aload_n 0, 1) := by decide +kernel
theorem dX11_renewed_1 : decode cX11_renewed 1 = .ok (.bipush 12, 2) := by decide +kernel
theorem dX11_renewed_3 : decode cX11_renewed 3 = .ok (.aload_n 0, 1) := by decide +kernel
theorem dX11_renewed_4 : decode cX11_renewed 4 = .ok (.getfield 345, 3) := by decide +kernel
theorem dX11_renewed_7 : decode cX11_renewed 7 = .ok (.imul, 1) := by decide +kernel
theorem dX11_renewed_8 : decode cX11_renewed 8 = .ok (.iload_n 1, 1) := by decide +kernel
theorem dX11_renewed_9 : decode cX11_renewed 9 = .ok (.iadd, 1) := by decide +kernel
theorem dX11_renewed_10 : decode cX11_renewed 10 = .ok (.putfield 239, 3) := by decide +kernel
theorem dX11_renewed_13 : decode cX11_renewed 13 = .ok (.bipush 26, 2) := by decide +kernel
theorem dX11_renewed_15 : decode cX11_renewed 15 = .ok (.iload_n 1, 1) := by decide +kernel
theorem dX11_renewed_16 : decode cX11_renewed 16 = .ok (.imul, 1) := by decide +kernel
theorem dX11_renewed_17 : decode cX11_renewed 17 = .ok (.iload_n 2, 1) := by decide +kernel
theorem dX11_renewed_18 : decode cX11_renewed 18 = .ok (.iadd, 1) := by decide +kernel
theorem dX11_renewed_19 : decode cX11_renewed 19 = .ok (.istore_n 3, 1) := by decide +kernel
theorem dX11_renewed_20 : decode cX11_renewed 20 = .ok (.aload_n 0, 1) := by decide +kernel
theorem dX11_renewed_21 : decode cX11_renewed 21 = .ok (.aload_n 0, 1) := by decide +kernel
theorem dX11_renewed_22 : decode cX11_renewed 22 = .ok (.getfield 30, 3) := by decide +kernel
theorem dX11_renewed_25 : decode cX11_renewed 25 = .ok (.aload_n 0, 1) := by decide +kernel
theorem dX11_renewed_26 : decode cX11_renewed 26 = .ok (.getfield 239, 3) := by decide +kernel
theorem dX11_renewed_29 : decode cX11_renewed 29 = .ok (.iaload, 1) := by decide +kernel
theorem dX11_renewed_30 : decode cX11_renewed 30 = .ok (.iload_n 2, 1) := by decide +kernel
theorem dX11_renewed_31 : decode cX11_renewed 31 = .ok (.invokevirtual 377, 3) := by decide +kernel
theorem dX11_renewed_34 : decode cX11_renewed 34 = .ok (.istore 4, 2) := by decide +kernel
theorem dX11_renewed_36 : decode cX11_renewed 36 = .ok (.iload 4, 2) := by decide +kernel
theorem dX11_renewed_38 : decode cX11_renewed 38 = .ok (.aload_n 0, 1) := by decide +kernel
theorem dX11_renewed_39 : decode cX11_renewed 39 = .ok (.getfield 100, 3) := by decide +kernel
theorem dX11_renewed_42 : decode cX11_renewed 42 = .ok (.iload_n 3, 1) := by decide +kernel
theorem dX11_renewed_43 : decode cX11_renewed 43 = .ok (.baload, 1) := by decide +kernel
theorem dX11_renewed_44 : decode cX11_renewed 44 = .ok (.if_icmp .eq 7, 3) := by decide +kernel
theorem dX11_renewed_47 : decode cX11_renewed 47 = .ok (.iconst 1, 1) := by decide +kernel
theorem dX11_renewed_48 : decode cX11_renewed 48 = .ok (.goto 4, 3) := by decide +kernel
theorem dX11_renewed_51 : decode cX11_renewed 51 = .ok (.iconst 0, 1) := by decide +kernel
theorem dX11_renewed_52 : decode cX11_renewed 52 = .ok (.istore 5, 2) := by decide +kernel
theorem dX11_renewed_54 : decode cX11_renewed 54 = .ok (.aload_n 0, 1) := by decide +kernel
theorem dX11_renewed_55 : decode cX11_renewed 55 = .ok (.getfield 100, 3) := by decide +kernel
theorem dX11_renewed_58 : decode cX11_renewed 58 = .ok (.iload_n 3, 1) := by decide +kernel
theorem dX11_renewed_59 : decode cX11_renewed 59 = .ok (.iload 4, 2) := by decide +kernel
theorem dX11_renewed_61 : decode cX11_renewed 61 = .ok (.bastore, 1) := by decide +kernel
theorem dX11_renewed_62 : decode cX11_renewed 62 = .ok (.iconst 0, 1) := by decide +kernel
theorem dX11_renewed_63 : decode cX11_renewed 63 = .ok (.istore 6, 2) := by decide +kernel
theorem dX11_renewed_65 : decode cX11_renewed 65 = .ok (.iload 6, 2) := by decide +kernel
theorem dX11_renewed_67 : decode cX11_renewed 67 = .ok (.aload_n 0, 1) := by decide +kernel
theorem dX11_renewed_68 : decode cX11_renewed 68 = .ok (.getfield 24, 3) := by decide +kernel
theorem dX11_renewed_71 : decode cX11_renewed 71 = .ok (.aload_n 0, 1) := by decide +kernel
theorem dX11_renewed_72 : decode cX11_renewed 72 = .ok (.getfield 239, 3) := by decide +kernel
theorem dX11_renewed_75 : decode cX11_renewed 75 = .ok (.iaload, 1) := by decide +kernel
theorem dX11_renewed_76 : decode cX11_renewed 76 = .ok (.if_icmp .ge 73, 3) := by decide +kernel
theorem dX11_renewed_79 : decode cX11_renewed 79 = .ok (.iload 4, 2) := by decide +kernel
theorem dX11_renewed_81 : decode cX11_renewed 81 = .ok (.ifCond .eq 7, 3) := by decide +kernel
theorem dX11_renewed_84 : decode cX11_renewed 84 = .ok (.iconst 0, 1) := by decide +kernel
theorem dX11_renewed_85 : decode cX11_renewed 85 = .ok (.goto 10, 3) := by decide +kernel
theorem dX11_renewed_88 : decode cX11_renewed 88 = .ok (.aload_n 0, 1) := by decide +kernel
theorem dX11_renewed_89 : decode cX11_renewed 89 = .ok (.getfield 90, 3) := by decide +kernel
theorem dX11_renewed_92 : decode cX11_renewed 92 = .ok (.iload 6, 2) := by decide +kernel
theorem dX11_renewed_94 : decode cX11_renewed 94 = .ok (.iaload, 1) := by decide +kernel
theorem dX11_renewed_95 : decode cX11_renewed 95 = .ok (.istore 7, 2) := by decide +kernel
theorem dX11_renewed_97 : decode cX11_renewed 97 = .ok (.iload 5, 2) := by decide +kernel
theorem dX11_renewed_99 : decode cX11_renewed 99 = .ok (.ifCond .ne 24, 3) := by decide +kernel
theorem dX11_renewed_102 : decode cX11_renewed 102 = .ok (.iload 4, 2) := by decide +kernel
theorem dX11_renewed_104 : decode cX11_renewed 104 = .ok (.ifCond .ne 23, 3) := by decide +kernel
theorem dX11_renewed_107 : decode cX11_renewed 107 = .ok (.aload_n 0, 1) := by decide +kernel
theorem dX11_renewed_108 : decode cX11_renewed 108 = .ok (.getfield 97, 3) := by decide +kernel
theorem dX11_renewed_111 : decode cX11_renewed 111 = .ok (.iconst 4, 1) := by decide +kernel
theorem dX11_renewed_112 : decode cX11_renewed 112 = .ok (.iload_n 3, 1) := by decide +kernel
theorem dX11_renewed_113 : decode cX11_renewed 113 = .ok (.imul, 1) := by decide +kernel
theorem dX11_renewed_114 : decode cX11_renewed 114 = .ok (.iload 6, 2) := by decide +kernel
theorem dX11_renewed_116 : decode cX11_renewed 116 = .ok (.iadd, 1) := by decide +kernel
theorem dX11_renewed_117 : decode cX11_renewed 117 = .ok (.iaload, 1) := by decide +kernel
theorem dX11_renewed_118 : decode cX11_renewed 118 = .ok (.iload 7, 2) := by decide +kernel
theorem dX11_renewed_120 : decode cX11_renewed 120 = .ok (.if_icmp .eq 7, 3) := by decide +kernel
theorem dX11_renewed_123 : decode cX11_renewed 123 = .ok (.iconst 1, 1) := by decide +kernel
theorem dX11_renewed_124 : decode cX11_renewed 124 = .ok (.goto 4, 3) := by decide +kernel
theorem dX11_renewed_127 : decode cX11_renewed 127 = .ok (.iconst 0, 1) := by decide +kernel
theorem dX11_renewed_128 : decode cX11_renewed 128 = .ok (.istore 5, 2) := by decide +kernel
theorem dX11_renewed_130 : decode cX11_renewed 130 = .ok (.aload_n 0, 1) := by decide +kernel
theorem dX11_renewed_131 : decode cX11_renewed 131 = .ok (.getfield 97, 3) := by decide +kernel
theorem dX11_renewed_134 : decode cX11_renewed 134 = .ok (.iconst 4, 1) := by decide +kernel
theorem dX11_renewed_135 : decode cX11_renewed 135 = .ok (.iload_n 3, 1) := by decide +kernel
theorem dX11_renewed_136 : decode cX11_renewed 136 = .ok (.imul, 1) := by decide +kernel
theorem dX11_renewed_137 : decode cX11_renewed 137 = .ok (.iload 6, 2) := by decide +kernel
theorem dX11_renewed_139 : decode cX11_renewed 139 = .ok (.iadd, 1) := by decide +kernel
theorem dX11_renewed_140 : decode cX11_renewed 140 = .ok (.iload 7, 2) := by decide +kernel
theorem dX11_renewed_142 : decode cX11_renewed 142 = .ok (.iastore, 1) := by decide +kernel
theorem dX11_renewed_143 : decode cX11_renewed 143 = .ok (.iinc 6 1, 3) := by decide +kernel
theorem dX11_renewed_146 : decode cX11_renewed 146 = .ok (.goto (-81), 3) := by decide +kernel
theorem dX11_renewed_149 : decode cX11_renewed 149 = .ok (.iload 5, 2) := by decide +kernel
theorem dX11_renewed_151 : decode cX11_renewed 151 = .ok (.ireturn, 1) := by decide +kernel
noncomputable def fX11_renewed_128 (x3 : Int32) (x4 : Int32) (x6 : Int32) (x7 : Int32) (s0 : Int32) (M : mv_M) : Option (((Int32 × Int32 × Int32 × Int32) ⊕ Int32) × mv_M) :=
  mv_chk (mv_inb ((4 * x3) + x6) 1248) <|
  mv_let (mv_si M 90 ((4 * x3) + x6).toNatClampNeg x7) fun M14 =>
  mv_let (x6 + 1) fun v15 =>
  some (.inl (x3, x4, s0, v15), M14)
set_option maxRecDepth 100000 in
set_option maxHeartbeats 4000000 in
theorem zX11_renewed_128 {l : Launch} {d : Nat} {Q : Int32 → mv_M → Prop} (hd : 5 ≤ d) (x3 : Int32) (x4 : Int32) (x6 : Int32) (x7 : Int32) (s0 : Int32) (M : mv_M) (h : mv_ok (fX11_renewed_128 x3 x4 x6 x7 s0 M) (mv_pq (fun (s : Int32 × Int32 × Int32 × Int32) M => mv l mX11_renewed d 0 65 [(0, .ref 62), (3, .int s.1), (4, .int s.2.1), (5, .int s.2.2.1), (6, .int s.2.2.2)] [] M (mv_qI Q)) Q)) : mv l mX11_renewed d 0 128 [(0, .ref 62), (3, .int x3), (4, .int x4), (6, .int x6), (7, .int x7)] [.int s0] M (mv_qI Q) := by
  unfold fX11_renewed_128 at h
  refine mv_istore [(5, .int s0), (0, .ref 62), (3, .int x3), (4, .int x4), (6, .int x6), (7, .int x7)] dX11_renewed_128 (by decide) rfl ?_
  refine mv_aload_n 1 dX11_renewed_130 rfl ?_
  refine mv_getR 90 fX11_97 (by decide) rfl rfl rfl dX11_renewed_131 ?_
  refine mv_iconst 4 dX11_renewed_134 (by decide) ?_
  refine mv_iload_n 2 dX11_renewed_135 rfl ?_
  refine mv_imul dX11_renewed_136 ?_
  refine mv_iload 4 dX11_renewed_137 rfl ?_
  refine mv_iadd dX11_renewed_139 ?_
  refine mv_iload 5 dX11_renewed_140 rfl ?_
  obtain ⟨hi13, h⟩ := mv_chkE h
  refine mv_ist (by decide) rfl (mv_inE hi13) dX11_renewed_142 (fun M14 eM14 => ?_)
  replace h := mv_letE h M14 eM14
  obtain ⟨v15, ev15⟩ : ∃ z : Int32, z = x6 + 1 := ⟨_, rfl⟩
  replace h := mv_letE h v15 ev15
  refine mv_iinc v15 4 [(6, .int v15), (5, .int s0), (0, .ref 62), (3, .int x3), (4, .int x4), (7, .int x7)] dX11_renewed_143 rfl (by rw [ev15]; rfl) (by decide) rfl ?_
  refine mv_goto 65 dX11_renewed_146 (by decide) ?_
  refine mv_sub [2, 3, 4, 1, 0] rfl ?_
  exact h
noncomputable def fX11_renewed_123 (x3 : Int32) (x4 : Int32) (x6 : Int32) (x7 : Int32) (M : mv_M) : Option (((Int32 × Int32 × Int32 × Int32) ⊕ Int32) × mv_M) :=
  fX11_renewed_128 x3 x4 x6 x7 1 M
set_option maxRecDepth 100000 in
set_option maxHeartbeats 4000000 in
theorem zX11_renewed_123 {l : Launch} {d : Nat} {Q : Int32 → mv_M → Prop} (hd : 5 ≤ d) (x3 : Int32) (x4 : Int32) (x6 : Int32) (x7 : Int32) (M : mv_M) (h : mv_ok (fX11_renewed_123 x3 x4 x6 x7 M) (mv_pq (fun (s : Int32 × Int32 × Int32 × Int32) M => mv l mX11_renewed d 0 65 [(0, .ref 62), (3, .int s.1), (4, .int s.2.1), (5, .int s.2.2.1), (6, .int s.2.2.2)] [] M (mv_qI Q)) Q)) : mv l mX11_renewed d 0 123 [(0, .ref 62), (3, .int x3), (4, .int x4), (6, .int x6), (7, .int x7)] [] M (mv_qI Q) := by
  unfold fX11_renewed_123 at h
  refine mv_iconst 1 dX11_renewed_123 (by decide) ?_
  refine mv_goto 128 dX11_renewed_124 (by decide) ?_
  refine mv_sub [0, 1, 2, 3, 4] rfl ?_
  exact zX11_renewed_128 hd x3 x4 x6 x7 1 M h
noncomputable def fX11_renewed_127 (x3 : Int32) (x4 : Int32) (x6 : Int32) (x7 : Int32) (M : mv_M) : Option (((Int32 × Int32 × Int32 × Int32) ⊕ Int32) × mv_M) :=
  fX11_renewed_128 x3 x4 x6 x7 0 M
set_option maxRecDepth 100000 in
set_option maxHeartbeats 4000000 in
theorem zX11_renewed_127 {l : Launch} {d : Nat} {Q : Int32 → mv_M → Prop} (hd : 5 ≤ d) (x3 : Int32) (x4 : Int32) (x6 : Int32) (x7 : Int32) (M : mv_M) (h : mv_ok (fX11_renewed_127 x3 x4 x6 x7 M) (mv_pq (fun (s : Int32 × Int32 × Int32 × Int32) M => mv l mX11_renewed d 0 65 [(0, .ref 62), (3, .int s.1), (4, .int s.2.1), (5, .int s.2.2.1), (6, .int s.2.2.2)] [] M (mv_qI Q)) Q)) : mv l mX11_renewed d 0 127 [(0, .ref 62), (3, .int x3), (4, .int x4), (6, .int x6), (7, .int x7)] [] M (mv_qI Q) := by
  unfold fX11_renewed_127 at h
  refine mv_iconst 0 dX11_renewed_127 (by decide) ?_
  refine mv_sub [0, 1, 2, 3, 4] rfl ?_
  exact zX11_renewed_128 hd x3 x4 x6 x7 0 M h
noncomputable def fX11_renewed_95 (x3 : Int32) (x4 : Int32) (x5 : Int32) (x6 : Int32) (s0 : Int32) (M : mv_M) : Option (((Int32 × Int32 × Int32 × Int32) ⊕ Int32) × mv_M) :=
  if x5 = 0 then
    if x4 = 0 then
      mv_chk (mv_inb ((4 * x3) + x6) 1248) <|
      if (M.1 90 ((4 * x3) + x6).toNatClampNeg) = s0 then
        fX11_renewed_127 x3 x4 x6 s0 M
      else
        fX11_renewed_123 x3 x4 x6 s0 M
    else
      fX11_renewed_127 x3 x4 x6 s0 M
  else
    fX11_renewed_123 x3 x4 x6 s0 M
set_option maxRecDepth 100000 in
set_option maxHeartbeats 4000000 in
theorem zX11_renewed_95 {l : Launch} {d : Nat} {Q : Int32 → mv_M → Prop} (hd : 5 ≤ d) (x3 : Int32) (x4 : Int32) (x5 : Int32) (x6 : Int32) (s0 : Int32) (M : mv_M) (h : mv_ok (fX11_renewed_95 x3 x4 x5 x6 s0 M) (mv_pq (fun (s : Int32 × Int32 × Int32 × Int32) M => mv l mX11_renewed d 0 65 [(0, .ref 62), (3, .int s.1), (4, .int s.2.1), (5, .int s.2.2.1), (6, .int s.2.2.2)] [] M (mv_qI Q)) Q)) : mv l mX11_renewed d 0 95 [(0, .ref 62), (3, .int x3), (4, .int x4), (5, .int x5), (6, .int x6)] [.int s0] M (mv_qI Q) := by
  unfold fX11_renewed_95 at h
  refine mv_istore [(7, .int s0), (0, .ref 62), (3, .int x3), (4, .int x4), (5, .int x5), (6, .int x6)] dX11_renewed_95 (by decide) rfl ?_
  refine mv_iload 4 dX11_renewed_97 rfl ?_
  refine mv_if_ne 123 dX11_renewed_99 (by decide) (fun z => ?_) (fun z => ?_)
  · replace h := mv_ifF z h
    refine mv_sub [1, 2, 3, 5, 0] rfl ?_
    exact zX11_renewed_123 hd x3 x4 x6 s0 M h
  · replace h := mv_ifT z h
    refine mv_iload 3 dX11_renewed_102 rfl ?_
    refine mv_if_ne 127 dX11_renewed_104 (by decide) (fun z => ?_) (fun z => ?_)
    · replace h := mv_ifF z h
      refine mv_sub [1, 2, 3, 5, 0] rfl ?_
      exact zX11_renewed_127 hd x3 x4 x6 s0 M h
    · replace h := mv_ifT z h
      refine mv_aload_n 1 dX11_renewed_107 rfl ?_
      refine mv_getR 90 fX11_97 (by decide) rfl rfl rfl dX11_renewed_108 ?_
      refine mv_iconst 4 dX11_renewed_111 (by decide) ?_
      refine mv_iload_n 2 dX11_renewed_112 rfl ?_
      refine mv_imul dX11_renewed_113 ?_
      refine mv_iload 5 dX11_renewed_114 rfl ?_
      refine mv_iadd dX11_renewed_116 ?_
      obtain ⟨hi12, h⟩ := mv_chkE h
      refine mv_ild (by decide) rfl (mv_inE hi12) dX11_renewed_117 ?_
      refine mv_iload 0 dX11_renewed_118 rfl ?_
      refine mv_icmp_eq 127 dX11_renewed_120 (by decide) (fun z => ?_) (fun z => ?_)
      · replace h := mv_ifT z h
        refine mv_sub [1, 2, 3, 5, 0] rfl ?_
        exact zX11_renewed_127 hd x3 x4 x6 s0 M h
      · replace h := mv_ifF z h
        refine mv_sub [1, 2, 3, 5, 0] rfl ?_
        exact zX11_renewed_123 hd x3 x4 x6 s0 M h
noncomputable def gX11_renewed_65 (x3 : Int32) (x4 : Int32) (x5 : Int32) (x6 : Int32) (M : mv_M) : Option (((Int32 × Int32 × Int32 × Int32) ⊕ Int32) × mv_M) :=
  mv_chk (mv_inb (M.1 62 33) 24) <|
  if (M.1 66 (M.1 62 33).toNatClampNeg) ≤ x6 then
    mv_chk (mv_bt x5) <|
    some (.inr (x5), M)
  else
    if x4 = 0 then
      mv_chk (mv_inb x6 8000) <|
      fX11_renewed_95 x3 x4 x5 x6 (M.1 88 x6.toNatClampNeg) M
    else
      fX11_renewed_95 x3 x4 x5 x6 0 M
noncomputable def fX11_renewed_65 (x3 : Int32) (x4 : Int32) (x5 : Int32) (x6 : Int32) (M : mv_M) : Option (Int32 × mv_M) := mv_loop (fun (s : Int32 × Int32 × Int32 × Int32) M => gX11_renewed_65 s.1 s.2.1 s.2.2.1 s.2.2.2 M) (x3, x4, x5, x6) M
set_option maxRecDepth 100000 in
set_option maxHeartbeats 4000000 in
theorem zX11_renewed_65 {l : Launch} {d : Nat} {Q : Int32 → mv_M → Prop} (hd : 5 ≤ d) (x3 : Int32) (x4 : Int32) (x5 : Int32) (x6 : Int32) (M : mv_M) (h : mv_ok (fX11_renewed_65 x3 x4 x5 x6 M) Q) : mv l mX11_renewed d 0 65 [(0, .ref 62), (3, .int x3), (4, .int x4), (5, .int x5), (6, .int x6)] [] M (mv_qI Q) := by
  unfold fX11_renewed_65 at h
  refine mv_loopE (A := (fun (s : Int32 × Int32 × Int32 × Int32) M => mv l mX11_renewed d 0 65 [(0, .ref 62), (3, .int s.1), (4, .int s.2.1), (5, .int s.2.2.1), (6, .int s.2.2.2)] [] M (mv_qI Q))) ?_ (x3, x4, x5, x6) M h
  · rintro ⟨x3, x4, x5, x6⟩ M h
    try dsimp only at h
    show mv l mX11_renewed d 0 65 [(0, .ref 62), (3, .int x3), (4, .int x4), (5, .int x5), (6, .int x6)] [] M (mv_qI Q)
    unfold gX11_renewed_65 at h
    refine mv_iload 4 dX11_renewed_65 rfl ?_
    refine mv_aload_n 0 dX11_renewed_67 rfl ?_
    refine mv_getR 66 fX11_24 (by decide) rfl rfl rfl dX11_renewed_68 ?_
    refine mv_aload_n 0 dX11_renewed_71 rfl ?_
    refine mv_getI fX11_239 (by decide) rfl rfl dX11_renewed_72 ?_
    obtain ⟨hi9, h⟩ := mv_chkE h
    refine mv_ild (by decide) rfl (mv_inE hi9) dX11_renewed_75 ?_
    refine mv_icmp_ge 149 dX11_renewed_76 (by decide) (fun z => ?_) (fun z => ?_)
    · replace h := mv_ifT z h
      refine mv_iload 3 dX11_renewed_149 rfl ?_
      obtain ⟨hz10, h⟩ := mv_chkE h
      exact mv_zret (mv_btE hz10) rfl dX11_renewed_151 ⟨_, rfl, h⟩
    · replace h := mv_ifF z h
      refine mv_iload 2 dX11_renewed_79 rfl ?_
      refine mv_if_eq 88 dX11_renewed_81 (by decide) (fun z => ?_) (fun z => ?_)
      · replace h := mv_ifT z h
        refine mv_aload_n 0 dX11_renewed_88 rfl ?_
        refine mv_getR 88 fX11_90 (by decide) rfl rfl rfl dX11_renewed_89 ?_
        refine mv_iload 4 dX11_renewed_92 rfl ?_
        obtain ⟨hi11, h⟩ := mv_chkE h
        refine mv_ild (by decide) rfl (mv_inE hi11) dX11_renewed_94 ?_
        refine mv_sub [0, 1, 2, 3, 4] rfl ?_
        exact zX11_renewed_95 hd x3 x4 x5 x6 (M.1 88 x6.toNatClampNeg) M h
      · replace h := mv_ifF z h
        refine mv_iconst 0 dX11_renewed_84 (by decide) ?_
        refine mv_goto 95 dX11_renewed_85 (by decide) ?_
        refine mv_sub [0, 1, 2, 3, 4] rfl ?_
        exact zX11_renewed_95 hd x3 x4 x5 x6 0 M h
noncomputable def fX11_renewed_52 (x3 : Int32) (x4 : Int32) (s0 : Int32) (M : mv_M) : Option (Int32 × mv_M) :=
  mv_chk (mv_inb x3 312) <|
  mv_let (mv_si M 91 x3.toNatClampNeg (vp_nar .boolean x4)) fun M8 =>
  fX11_renewed_65 x3 x4 s0 0 M8
set_option maxRecDepth 100000 in
set_option maxHeartbeats 4000000 in
theorem zX11_renewed_52 {l : Launch} {d : Nat} {Q : Int32 → mv_M → Prop} (hd : 5 ≤ d) (x3 : Int32) (x4 : Int32) (s0 : Int32) (M : mv_M) (h : mv_ok (fX11_renewed_52 x3 x4 s0 M) Q) : mv l mX11_renewed d 0 52 [(0, .ref 62), (3, .int x3), (4, .int x4)] [.int s0] M (mv_qI Q) := by
  unfold fX11_renewed_52 at h
  refine mv_istore [(5, .int s0), (0, .ref 62), (3, .int x3), (4, .int x4)] dX11_renewed_52 (by decide) rfl ?_
  refine mv_aload_n 1 dX11_renewed_54 rfl ?_
  refine mv_getR 91 fX11_100 (by decide) rfl rfl rfl dX11_renewed_55 ?_
  refine mv_iload_n 2 dX11_renewed_58 rfl ?_
  refine mv_iload 3 dX11_renewed_59 rfl ?_
  obtain ⟨hi7, h⟩ := mv_chkE h
  refine mv_zst (by decide) rfl (mv_inE hi7) dX11_renewed_61 (fun M8 eM8 => ?_)
  replace h := mv_letE h M8 eM8
  refine mv_iconst 0 dX11_renewed_62 (by decide) ?_
  refine mv_istore [(6, .int 0), (5, .int s0), (0, .ref 62), (3, .int x3), (4, .int x4)] dX11_renewed_63 (by decide) rfl ?_
  refine mv_sub [2, 3, 4, 1, 0] rfl ?_
  exact zX11_renewed_65 hd x3 x4 s0 0 M8 h
noncomputable def fX11_renewed (a0 : Int32) (a1 : Int32) (M : mv_M) : Option (Int32 × mv_M) :=
  mv_let (mv_si M 62 33 ((12 * (M.1 62 47)) + a0)) fun M1 =>
  mv_let ((26 * a0) + a1) fun v2 =>
  mv_chk (mv_inb (M1.1 62 33) 24) <|
  mv_bind (fX11_asks (M1.1 68 (M1.1 62 33).toNatClampNeg) a1 M1) fun r4 M5 =>
  mv_chk (mv_inb v2 312) <|
  if r4 = (M5.1 91 v2.toNatClampNeg) then
    fX11_renewed_52 v2 r4 0 M5
  else
    fX11_renewed_52 v2 r4 1 M5
set_option maxRecDepth 100000 in
set_option maxHeartbeats 4000000 in
theorem zX11_renewed {l : Launch} {d : Nat} {Q : Int32 → mv_M → Prop} (hd : 5 ≤ d) (a0 : Int32) (a1 : Int32) (M : mv_M) (h : mv_ok (fX11_renewed a0 a1 M) Q) : mv l mX11_renewed d 0 0 (lv_args 0 [.ref 62, .int a0, .int a1]) [] M (mv_qI Q) := by
  unfold fX11_renewed at h
  show mv l mX11_renewed d 0 0 [(0, .ref 62), (1, .int a0), (2, .int a1)] [] M (mv_qI Q)
  refine mv_aload_n 0 dX11_renewed_0 rfl ?_
  refine mv_bipush 12 dX11_renewed_1 (by decide) ?_
  refine mv_aload_n 0 dX11_renewed_3 rfl ?_
  refine mv_getI fX11_345 (by decide) rfl rfl dX11_renewed_4 ?_
  refine mv_imul dX11_renewed_7 ?_
  refine mv_iload_n 1 dX11_renewed_8 rfl ?_
  refine mv_iadd dX11_renewed_9 ?_
  refine mv_putI fX11_239 (by decide) rfl rfl dX11_renewed_10 (fun M1 eM1 => ?_)
  replace h := mv_letE h M1 eM1
  refine mv_bipush 26 dX11_renewed_13 (by decide) ?_
  refine mv_iload_n 1 dX11_renewed_15 rfl ?_
  refine mv_imul dX11_renewed_16 ?_
  refine mv_iload_n 2 dX11_renewed_17 rfl ?_
  refine mv_iadd dX11_renewed_18 ?_
  refine mv_topi (fun v2 ev2 => ?_)
  replace h := mv_letE h v2 ev2
  refine mv_istore_n [(3, .int v2), (0, .ref 62), (1, .int a0), (2, .int a1)] dX11_renewed_19 (by decide) rfl ?_
  refine mv_aload_n 1 dX11_renewed_20 rfl ?_
  refine mv_aload_n 1 dX11_renewed_21 rfl ?_
  refine mv_getR 68 fX11_30 (by decide) rfl rfl rfl dX11_renewed_22 ?_
  refine mv_aload_n 1 dX11_renewed_25 rfl ?_
  refine mv_getI fX11_239 (by decide) rfl rfl dX11_renewed_26 ?_
  obtain ⟨hi3, h⟩ := mv_chkE h
  refine mv_ild (by decide) rfl (mv_inE hi3) dX11_renewed_29 ?_
  refine mv_iload_n 3 dX11_renewed_30 rfl ?_
  refine mv_cvI (As := [.int (M1.1 68 (M1.1 62 33).toNatClampNeg), .int a1]) (st := []) okX11_asks lX11_377 (by decide) rfl rfl rfl (Nat.le_of_ble_eq_true rfl) rfl (Nat.le_of_ble_eq_true rfl) dX11_renewed_31 (by omega) rfl (zX11_asks (d := d - 1) (by omega) (M1.1 68 (M1.1 62 33).toNatClampNeg) a1 M1 (mv_bindE h)) (fun r4 M5 h => ?_)
  refine mv_istore [(4, .int r4), (3, .int v2), (0, .ref 62), (1, .int a0), (2, .int a1)] dX11_renewed_34 (by decide) rfl ?_
  refine mv_iload 0 dX11_renewed_36 rfl ?_
  refine mv_aload_n 2 dX11_renewed_38 rfl ?_
  refine mv_getR 91 fX11_100 (by decide) rfl rfl rfl dX11_renewed_39 ?_
  refine mv_iload_n 1 dX11_renewed_42 rfl ?_
  obtain ⟨hi6, h⟩ := mv_chkE h
  refine mv_zld (by decide) rfl (mv_inE hi6) dX11_renewed_43 ?_
  refine mv_icmp_eq 51 dX11_renewed_44 (by decide) (fun z => ?_) (fun z => ?_)
  · replace h := mv_ifT z h
    refine mv_iconst 0 dX11_renewed_51 (by decide) ?_
    refine mv_sub [2, 1, 0] rfl ?_
    exact zX11_renewed_52 hd v2 r4 0 M5 h
  · replace h := mv_ifF z h
    refine mv_iconst 1 dX11_renewed_47 (by decide) ?_
    refine mv_goto 52 dX11_renewed_48 (by decide) ?_
    refine mv_sub [2, 1, 0] rfl ?_
    exact zX11_renewed_52 hd v2 r4 1 M5 h
theorem dX11_rounds_0 : decode cX11_rounds 0 = .ok (.aload_n 0, 1) := by decide +kernel
theorem dX11_rounds_1 : decode cX11_rounds 1 = .ok (.aload_n 0, 1) := by decide +kernel
theorem dX11_rounds_2 : decode cX11_rounds 2 = .ok (.getfield 341, 3) := by decide +kernel
theorem dX11_rounds_5 : decode cX11_rounds 5 = .ok (.ifCond .eq 7, 3) := by decide +kernel
theorem dX11_rounds_8 : decode cX11_rounds 8 = .ok (.iconst 0, 1) := by decide +kernel
theorem dX11_rounds_9 : decode cX11_rounds 9 = .ok (.goto 4, 3) := by decide +kernel
theorem dX11_rounds_12 : decode cX11_rounds 12 = .ok (.iconst 1, 1) := by decide +kernel
theorem dX11_rounds_13 : decode cX11_rounds 13 = .ok (.putfield 148, 3) := by decide +kernel
theorem dX11_rounds_16 : decode cX11_rounds 16 = .ok (.aload_n 0, 1) := by decide +kernel
theorem dX11_rounds_17 : decode cX11_rounds 17 = .ok (.getfield 148, 3) := by decide +kernel
theorem dX11_rounds_20 : decode cX11_rounds 20 = .ok (.ifCond .le 5, 3) := by decide +kernel
theorem dX11_rounds_23 : decode cX11_rounds 23 = .ok (.iconst 0, 1) := by decide +kernel
theorem dX11_rounds_24 : decode cX11_rounds 24 = .ok (.ireturn, 1) := by decide +kernel
theorem dX11_rounds_25 : decode cX11_rounds 25 = .ok (.aload_n 0, 1) := by decide +kernel
theorem dX11_rounds_26 : decode cX11_rounds 26 = .ok (.iconst 1, 1) := by decide +kernel
theorem dX11_rounds_27 : decode cX11_rounds 27 = .ok (.putfield 354, 3) := by decide +kernel
theorem dX11_rounds_30 : decode cX11_rounds 30 = .ok (.iconst 0, 1) := by decide +kernel
theorem dX11_rounds_31 : decode cX11_rounds 31 = .ok (.istore_n 1, 1) := by decide +kernel
theorem dX11_rounds_32 : decode cX11_rounds 32 = .ok (.iload_n 1, 1) := by decide +kernel
theorem dX11_rounds_33 : decode cX11_rounds 33 = .ok (.sipush 312, 3) := by decide +kernel
theorem dX11_rounds_36 : decode cX11_rounds 36 = .ok (.if_icmp .ge 16, 3) := by decide +kernel
theorem dX11_rounds_39 : decode cX11_rounds 39 = .ok (.aload_n 0, 1) := by decide +kernel
theorem dX11_rounds_40 : decode cX11_rounds 40 = .ok (.getfield 100, 3) := by decide +kernel
theorem dX11_rounds_43 : decode cX11_rounds 43 = .ok (.iload_n 1, 1) := by decide +kernel
theorem dX11_rounds_44 : decode cX11_rounds 44 = .ok (.iconst 1, 1) := by decide +kernel
theorem dX11_rounds_45 : decode cX11_rounds 45 = .ok (.bastore, 1) := by decide +kernel
theorem dX11_rounds_46 : decode cX11_rounds 46 = .ok (.iinc 1 1, 3) := by decide +kernel
theorem dX11_rounds_49 : decode cX11_rounds 49 = .ok (.goto (-17), 3) := by decide +kernel
theorem dX11_rounds_52 : decode cX11_rounds 52 = .ok (.iconst 0, 1) := by decide +kernel
theorem dX11_rounds_53 : decode cX11_rounds 53 = .ok (.istore_n 1, 1) := by decide +kernel
theorem dX11_rounds_54 : decode cX11_rounds 54 = .ok (.iconst 1, 1) := by decide +kernel
theorem dX11_rounds_55 : decode cX11_rounds 55 = .ok (.istore_n 2, 1) := by decide +kernel
theorem dX11_rounds_56 : decode cX11_rounds 56 = .ok (.iload_n 2, 1) := by decide +kernel
theorem dX11_rounds_57 : decode cX11_rounds 57 = .ok (.ifCond .eq 87, 3) := by decide +kernel
theorem dX11_rounds_60 : decode cX11_rounds 60 = .ok (.iconst 0, 1) := by decide +kernel
theorem dX11_rounds_61 : decode cX11_rounds 61 = .ok (.istore_n 2, 1) := by decide +kernel
theorem dX11_rounds_62 : decode cX11_rounds 62 = .ok (.iconst 0, 1) := by decide +kernel
theorem dX11_rounds_63 : decode cX11_rounds 63 = .ok (.istore_n 3, 1) := by decide +kernel
theorem dX11_rounds_64 : decode cX11_rounds 64 = .ok (.iload_n 3, 1) := by decide +kernel
theorem dX11_rounds_65 : decode cX11_rounds 65 = .ok (.aload_n 0, 1) := by decide +kernel
theorem dX11_rounds_66 : decode cX11_rounds 66 = .ok (.getfield 63, 3) := by decide +kernel
theorem dX11_rounds_69 : decode cX11_rounds 69 = .ok (.aload_n 0, 1) := by decide +kernel
theorem dX11_rounds_70 : decode cX11_rounds 70 = .ok (.getfield 345, 3) := by decide +kernel
theorem dX11_rounds_73 : decode cX11_rounds 73 = .ok (.iaload, 1) := by decide +kernel
theorem dX11_rounds_74 : decode cX11_rounds 74 = .ok (.if_icmp .ge 64, 3) := by decide +kernel
theorem dX11_rounds_77 : decode cX11_rounds 77 = .ok (.iconst 1, 1) := by decide +kernel
theorem dX11_rounds_78 : decode cX11_rounds 78 = .ok (.istore 4, 2) := by decide +kernel
theorem dX11_rounds_80 : decode cX11_rounds 80 = .ok (.iload 4, 2) := by decide +kernel
theorem dX11_rounds_82 : decode cX11_rounds 82 = .ok (.aload_n 0, 1) := by decide +kernel
theorem dX11_rounds_83 : decode cX11_rounds 83 = .ok (.getfield 21, 3) := by decide +kernel
theorem dX11_rounds_86 : decode cX11_rounds 86 = .ok (.bipush 12, 2) := by decide +kernel
theorem dX11_rounds_88 : decode cX11_rounds 88 = .ok (.aload_n 0, 1) := by decide +kernel
theorem dX11_rounds_89 : decode cX11_rounds 89 = .ok (.getfield 345, 3) := by decide +kernel
theorem dX11_rounds_92 : decode cX11_rounds 92 = .ok (.imul, 1) := by decide +kernel
theorem dX11_rounds_93 : decode cX11_rounds 93 = .ok (.iload_n 3, 1) := by decide +kernel
theorem dX11_rounds_94 : decode cX11_rounds 94 = .ok (.iadd, 1) := by decide +kernel
theorem dX11_rounds_95 : decode cX11_rounds 95 = .ok (.iaload, 1) := by decide +kernel
theorem dX11_rounds_96 : decode cX11_rounds 96 = .ok (.invokestatic 166, 3) := by decide +kernel
theorem dX11_rounds_99 : decode cX11_rounds 99 = .ok (.if_icmp .ge 33, 3) := by decide +kernel
theorem dX11_rounds_102 : decode cX11_rounds 102 = .ok (.aload_n 0, 1) := by decide +kernel
theorem dX11_rounds_103 : decode cX11_rounds 103 = .ok (.iload_n 3, 1) := by decide +kernel
theorem dX11_rounds_104 : decode cX11_rounds 104 = .ok (.iload 4, 2) := by decide +kernel
theorem dX11_rounds_106 : decode cX11_rounds 106 = .ok (.invokevirtual 381, 3) := by decide +kernel
theorem dX11_rounds_109 : decode cX11_rounds 109 = .ok (.istore 5, 2) := by decide +kernel
theorem dX11_rounds_111 : decode cX11_rounds 111 = .ok (.iload_n 2, 1) := by decide +kernel
theorem dX11_rounds_112 : decode cX11_rounds 112 = .ok (.ifCond .ne 8, 3) := by decide +kernel
theorem dX11_rounds_115 : decode cX11_rounds 115 = .ok (.iload 5, 2) := by decide +kernel
theorem dX11_rounds_117 : decode cX11_rounds 117 = .ok (.ifCond .eq 7, 3) := by decide +kernel
theorem dX11_rounds_120 : decode cX11_rounds 120 = .ok (.iconst 1, 1) := by decide +kernel
theorem dX11_rounds_121 : decode cX11_rounds 121 = .ok (.goto 4, 3) := by decide +kernel
theorem dX11_rounds_124 : decode cX11_rounds 124 = .ok (.iconst 0, 1) := by decide +kernel
theorem dX11_rounds_125 : decode cX11_rounds 125 = .ok (.istore_n 2, 1) := by decide +kernel
theorem dX11_rounds_126 : decode cX11_rounds 126 = .ok (.iinc 4 1, 3) := by decide +kernel
theorem dX11_rounds_129 : decode cX11_rounds 129 = .ok (.goto (-49), 3) := by decide +kernel
theorem dX11_rounds_132 : decode cX11_rounds 132 = .ok (.iinc 3 1, 3) := by decide +kernel
theorem dX11_rounds_135 : decode cX11_rounds 135 = .ok (.goto (-71), 3) := by decide +kernel
theorem dX11_rounds_138 : decode cX11_rounds 138 = .ok (.iinc 1 1, 3) := by decide +kernel
theorem dX11_rounds_141 : decode cX11_rounds 141 = .ok (.goto (-85), 3) := by decide +kernel
theorem dX11_rounds_144 : decode cX11_rounds 144 = .ok (.iload_n 1, 1) := by decide +kernel
theorem dX11_rounds_145 : decode cX11_rounds 145 = .ok (.ireturn, 1) := by decide +kernel
noncomputable def fX11_rounds_125 (x1 : Int32) (x3 : Int32) (x4 : Int32) (s0 : Int32) (M : mv_M) : Option (((Int32 × Int32 × Int32 × Int32) ⊕ ((Int32 × Int32 × Int32) ⊕ ((Int32 × Int32) ⊕ Int32))) × mv_M) :=
  mv_let (x4 + 1) fun v14 =>
  some (.inl (x1, s0, x3, v14), M)
set_option maxRecDepth 100000 in
set_option maxHeartbeats 4000000 in
theorem zX11_rounds_125 {l : Launch} {d : Nat} {Q : Int32 → mv_M → Prop} (hd : 6 ≤ d) (x1 : Int32) (x3 : Int32) (x4 : Int32) (s0 : Int32) (M : mv_M) (h : mv_ok (fX11_rounds_125 x1 x3 x4 s0 M) (mv_pq (fun (s : Int32 × Int32 × Int32 × Int32) M => mv l mX11_rounds d 0 80 [(0, .ref 62), (1, .int s.1), (2, .int s.2.1), (3, .int s.2.2.1), (4, .int s.2.2.2)] [] M (mv_qI Q)) (mv_pq (fun (s : Int32 × Int32 × Int32) M => mv l mX11_rounds d 0 64 [(0, .ref 62), (1, .int s.1), (2, .int s.2.1), (3, .int s.2.2)] [] M (mv_qI Q)) (mv_pq (fun (s : Int32 × Int32) M => mv l mX11_rounds d 0 56 [(0, .ref 62), (1, .int s.1), (2, .int s.2)] [] M (mv_qI Q)) Q)))) : mv l mX11_rounds d 0 125 [(0, .ref 62), (1, .int x1), (3, .int x3), (4, .int x4)] [.int s0] M (mv_qI Q) := by
  unfold fX11_rounds_125 at h
  refine mv_istore_n [(2, .int s0), (0, .ref 62), (1, .int x1), (3, .int x3), (4, .int x4)] dX11_rounds_125 (by decide) rfl ?_
  obtain ⟨v14, ev14⟩ : ∃ z : Int32, z = x4 + 1 := ⟨_, rfl⟩
  replace h := mv_letE h v14 ev14
  refine mv_iinc v14 4 [(4, .int v14), (2, .int s0), (0, .ref 62), (1, .int x1), (3, .int x3)] dX11_rounds_126 rfl (by rw [ev14]; rfl) (by decide) rfl ?_
  refine mv_goto 80 dX11_rounds_129 (by decide) ?_
  refine mv_sub [2, 3, 1, 4, 0] rfl ?_
  exact h
noncomputable def fX11_rounds_120 (x1 : Int32) (x3 : Int32) (x4 : Int32) (M : mv_M) : Option (((Int32 × Int32 × Int32 × Int32) ⊕ ((Int32 × Int32 × Int32) ⊕ ((Int32 × Int32) ⊕ Int32))) × mv_M) :=
  fX11_rounds_125 x1 x3 x4 1 M
set_option maxRecDepth 100000 in
set_option maxHeartbeats 4000000 in
theorem zX11_rounds_120 {l : Launch} {d : Nat} {Q : Int32 → mv_M → Prop} (hd : 6 ≤ d) (x1 : Int32) (x3 : Int32) (x4 : Int32) (M : mv_M) (h : mv_ok (fX11_rounds_120 x1 x3 x4 M) (mv_pq (fun (s : Int32 × Int32 × Int32 × Int32) M => mv l mX11_rounds d 0 80 [(0, .ref 62), (1, .int s.1), (2, .int s.2.1), (3, .int s.2.2.1), (4, .int s.2.2.2)] [] M (mv_qI Q)) (mv_pq (fun (s : Int32 × Int32 × Int32) M => mv l mX11_rounds d 0 64 [(0, .ref 62), (1, .int s.1), (2, .int s.2.1), (3, .int s.2.2)] [] M (mv_qI Q)) (mv_pq (fun (s : Int32 × Int32) M => mv l mX11_rounds d 0 56 [(0, .ref 62), (1, .int s.1), (2, .int s.2)] [] M (mv_qI Q)) Q)))) : mv l mX11_rounds d 0 120 [(0, .ref 62), (1, .int x1), (3, .int x3), (4, .int x4)] [] M (mv_qI Q) := by
  unfold fX11_rounds_120 at h
  refine mv_iconst 1 dX11_rounds_120 (by decide) ?_
  refine mv_goto 125 dX11_rounds_121 (by decide) ?_
  refine mv_sub [0, 1, 2, 3] rfl ?_
  exact zX11_rounds_125 hd x1 x3 x4 1 M h
noncomputable def gX11_rounds_80 (x1 : Int32) (x2 : Int32) (x3 : Int32) (x4 : Int32) (M : mv_M) : Option (((Int32 × Int32 × Int32 × Int32) ⊕ ((Int32 × Int32 × Int32) ⊕ ((Int32 × Int32) ⊕ Int32))) × mv_M) :=
  mv_chk (mv_inb ((12 * (M.1 62 47)) + x3) 24) <|
  mv_bind (fX11_demands (M.1 65 ((12 * (M.1 62 47)) + x3).toNatClampNeg) M) fun r9 M10 =>
  if r9 ≤ x4 then
    mv_let (x3 + 1) fun v11 =>
    some (.inr (.inl (x1, x2, v11)), M10)
  else
    mv_bind (fX11_renewed x3 x4 M10) fun r12 M13 =>
    if x2 = 0 then
      if r12 = 0 then
        fX11_rounds_125 x1 x3 x4 0 M13
      else
        fX11_rounds_120 x1 x3 x4 M13
    else
      fX11_rounds_120 x1 x3 x4 M13
noncomputable def fX11_rounds_80 (x1 : Int32) (x2 : Int32) (x3 : Int32) (x4 : Int32) (M : mv_M) : Option (((Int32 × Int32 × Int32) ⊕ ((Int32 × Int32) ⊕ Int32)) × mv_M) := mv_loop (fun (s : Int32 × Int32 × Int32 × Int32) M => gX11_rounds_80 s.1 s.2.1 s.2.2.1 s.2.2.2 M) (x1, x2, x3, x4) M
set_option maxRecDepth 100000 in
set_option maxHeartbeats 4000000 in
theorem zX11_rounds_80 {l : Launch} {d : Nat} {Q : Int32 → mv_M → Prop} (hd : 6 ≤ d) (x1 : Int32) (x2 : Int32) (x3 : Int32) (x4 : Int32) (M : mv_M) (h : mv_ok (fX11_rounds_80 x1 x2 x3 x4 M) (mv_pq (fun (s : Int32 × Int32 × Int32) M => mv l mX11_rounds d 0 64 [(0, .ref 62), (1, .int s.1), (2, .int s.2.1), (3, .int s.2.2)] [] M (mv_qI Q)) (mv_pq (fun (s : Int32 × Int32) M => mv l mX11_rounds d 0 56 [(0, .ref 62), (1, .int s.1), (2, .int s.2)] [] M (mv_qI Q)) Q))) : mv l mX11_rounds d 0 80 [(0, .ref 62), (1, .int x1), (2, .int x2), (3, .int x3), (4, .int x4)] [] M (mv_qI Q) := by
  unfold fX11_rounds_80 at h
  refine mv_loopE (A := (fun (s : Int32 × Int32 × Int32 × Int32) M => mv l mX11_rounds d 0 80 [(0, .ref 62), (1, .int s.1), (2, .int s.2.1), (3, .int s.2.2.1), (4, .int s.2.2.2)] [] M (mv_qI Q))) ?_ (x1, x2, x3, x4) M h
  · rintro ⟨x1, x2, x3, x4⟩ M h
    try dsimp only at h
    show mv l mX11_rounds d 0 80 [(0, .ref 62), (1, .int x1), (2, .int x2), (3, .int x3), (4, .int x4)] [] M (mv_qI Q)
    unfold gX11_rounds_80 at h
    refine mv_iload 4 dX11_rounds_80 rfl ?_
    refine mv_aload_n 0 dX11_rounds_82 rfl ?_
    refine mv_getR 65 fX11_21 (by decide) rfl rfl rfl dX11_rounds_83 ?_
    refine mv_bipush 12 dX11_rounds_86 (by decide) ?_
    refine mv_aload_n 0 dX11_rounds_88 rfl ?_
    refine mv_getI fX11_345 (by decide) rfl rfl dX11_rounds_89 ?_
    refine mv_imul dX11_rounds_92 ?_
    refine mv_iload_n 3 dX11_rounds_93 rfl ?_
    refine mv_iadd dX11_rounds_94 ?_
    obtain ⟨hi8, h⟩ := mv_chkE h
    refine mv_ild (by decide) rfl (mv_inE hi8) dX11_rounds_95 ?_
    refine mv_csI (As := [.int (M.1 65 ((12 * (M.1 62 47)) + x3).toNatClampNeg)]) (st := [.int x4]) okX11_demands lX11_166 rfl (Nat.le_of_ble_eq_true rfl) rfl (Nat.le_of_ble_eq_true rfl) dX11_rounds_96 (by omega) rfl (zX11_demands (d := d - 1) (by omega) (M.1 65 ((12 * (M.1 62 47)) + x3).toNatClampNeg) M (mv_bindE h)) (fun r9 M10 h => ?_)
    refine mv_icmp_ge 132 dX11_rounds_99 (by decide) (fun z => ?_) (fun z => ?_)
    · replace h := mv_ifT z h
      obtain ⟨v11, ev11⟩ : ∃ z : Int32, z = x3 + 1 := ⟨_, rfl⟩
      replace h := mv_letE h v11 ev11
      refine mv_iinc v11 3 [(3, .int v11), (0, .ref 62), (1, .int x1), (2, .int x2), (4, .int x4)] dX11_rounds_132 rfl (by rw [ev11]; rfl) (by decide) rfl ?_
      refine mv_goto 64 dX11_rounds_135 (by decide) ?_
      refine mv_sub [1, 2, 3, 0] rfl ?_
      exact h
    · replace h := mv_ifF z h
      refine mv_aload_n 0 dX11_rounds_102 rfl ?_
      refine mv_iload_n 3 dX11_rounds_103 rfl ?_
      refine mv_iload 4 dX11_rounds_104 rfl ?_
      refine mv_cvI (As := [.int x3, .int x4]) (st := []) okX11_renewed lX11_381 (by decide) rfl rfl rfl (Nat.le_of_ble_eq_true rfl) rfl (Nat.le_of_ble_eq_true rfl) dX11_rounds_106 (by omega) rfl (zX11_renewed (d := d - 1) (by omega) x3 x4 M10 (mv_bindE h)) (fun r12 M13 h => ?_)
      refine mv_istore [(5, .int r12), (0, .ref 62), (1, .int x1), (2, .int x2), (3, .int x3), (4, .int x4)] dX11_rounds_109 (by decide) rfl ?_
      refine mv_iload_n 3 dX11_rounds_111 rfl ?_
      refine mv_if_ne 120 dX11_rounds_112 (by decide) (fun z => ?_) (fun z => ?_)
      · replace h := mv_ifF z h
        refine mv_sub [1, 2, 4, 5] rfl ?_
        exact zX11_rounds_120 hd x1 x3 x4 M13 h
      · replace h := mv_ifT z h
        refine mv_iload 0 dX11_rounds_115 rfl ?_
        refine mv_if_eq 124 dX11_rounds_117 (by decide) (fun z => ?_) (fun z => ?_)
        · replace h := mv_ifT z h
          refine mv_iconst 0 dX11_rounds_124 (by decide) ?_
          refine mv_sub [1, 2, 4, 5] rfl ?_
          exact zX11_rounds_125 hd x1 x3 x4 0 M13 h
        · replace h := mv_ifF z h
          refine mv_sub [1, 2, 4, 5] rfl ?_
          exact zX11_rounds_120 hd x1 x3 x4 M13 h
noncomputable def gX11_rounds_64 (x1 : Int32) (x2 : Int32) (x3 : Int32) (M : mv_M) : Option (((Int32 × Int32 × Int32) ⊕ ((Int32 × Int32) ⊕ Int32)) × mv_M) :=
  mv_chk (mv_inb (M.1 62 47) 2) <|
  if (M.1 79 (M.1 62 47).toNatClampNeg) ≤ x3 then
    mv_let (x1 + 1) fun v7 =>
    some (.inr (.inl (v7, x2)), M)
  else
    fX11_rounds_80 x1 x2 x3 1 M
noncomputable def fX11_rounds_64 (x1 : Int32) (x2 : Int32) (x3 : Int32) (M : mv_M) : Option (((Int32 × Int32) ⊕ Int32) × mv_M) := mv_loop (fun (s : Int32 × Int32 × Int32) M => gX11_rounds_64 s.1 s.2.1 s.2.2 M) (x1, x2, x3) M
set_option maxRecDepth 100000 in
set_option maxHeartbeats 4000000 in
theorem zX11_rounds_64 {l : Launch} {d : Nat} {Q : Int32 → mv_M → Prop} (hd : 6 ≤ d) (x1 : Int32) (x2 : Int32) (x3 : Int32) (M : mv_M) (h : mv_ok (fX11_rounds_64 x1 x2 x3 M) (mv_pq (fun (s : Int32 × Int32) M => mv l mX11_rounds d 0 56 [(0, .ref 62), (1, .int s.1), (2, .int s.2)] [] M (mv_qI Q)) Q)) : mv l mX11_rounds d 0 64 [(0, .ref 62), (1, .int x1), (2, .int x2), (3, .int x3)] [] M (mv_qI Q) := by
  unfold fX11_rounds_64 at h
  refine mv_loopE (A := (fun (s : Int32 × Int32 × Int32) M => mv l mX11_rounds d 0 64 [(0, .ref 62), (1, .int s.1), (2, .int s.2.1), (3, .int s.2.2)] [] M (mv_qI Q))) ?_ (x1, x2, x3) M h
  · rintro ⟨x1, x2, x3⟩ M h
    try dsimp only at h
    show mv l mX11_rounds d 0 64 [(0, .ref 62), (1, .int x1), (2, .int x2), (3, .int x3)] [] M (mv_qI Q)
    unfold gX11_rounds_64 at h
    refine mv_iload_n 3 dX11_rounds_64 rfl ?_
    refine mv_aload_n 0 dX11_rounds_65 rfl ?_
    refine mv_getR 79 fX11_63 (by decide) rfl rfl rfl dX11_rounds_66 ?_
    refine mv_aload_n 0 dX11_rounds_69 rfl ?_
    refine mv_getI fX11_345 (by decide) rfl rfl dX11_rounds_70 ?_
    obtain ⟨hi6, h⟩ := mv_chkE h
    refine mv_ild (by decide) rfl (mv_inE hi6) dX11_rounds_73 ?_
    refine mv_icmp_ge 138 dX11_rounds_74 (by decide) (fun z => ?_) (fun z => ?_)
    · replace h := mv_ifT z h
      obtain ⟨v7, ev7⟩ : ∃ z : Int32, z = x1 + 1 := ⟨_, rfl⟩
      replace h := mv_letE h v7 ev7
      refine mv_iinc v7 1 [(1, .int v7), (0, .ref 62), (2, .int x2), (3, .int x3)] dX11_rounds_138 rfl (by rw [ev7]; rfl) (by decide) rfl ?_
      refine mv_goto 56 dX11_rounds_141 (by decide) ?_
      refine mv_sub [1, 0, 2] rfl ?_
      exact h
    · replace h := mv_ifF z h
      refine mv_iconst 1 dX11_rounds_77 (by decide) ?_
      refine mv_istore [(4, .int 1), (0, .ref 62), (1, .int x1), (2, .int x2), (3, .int x3)] dX11_rounds_78 (by decide) rfl ?_
      refine mv_sub [1, 2, 3, 4, 0] rfl ?_
      exact zX11_rounds_80 hd x1 x2 x3 1 M h
noncomputable def gX11_rounds_56 (x1 : Int32) (x2 : Int32) (M : mv_M) : Option (((Int32 × Int32) ⊕ Int32) × mv_M) :=
  if x2 = 0 then
    some (.inr (x1), M)
  else
    fX11_rounds_64 x1 0 0 M
noncomputable def fX11_rounds_56 (x1 : Int32) (x2 : Int32) (M : mv_M) : Option (Int32 × mv_M) := mv_loop (fun (s : Int32 × Int32) M => gX11_rounds_56 s.1 s.2 M) (x1, x2) M
set_option maxRecDepth 100000 in
set_option maxHeartbeats 4000000 in
theorem zX11_rounds_56 {l : Launch} {d : Nat} {Q : Int32 → mv_M → Prop} (hd : 6 ≤ d) (x1 : Int32) (x2 : Int32) (M : mv_M) (h : mv_ok (fX11_rounds_56 x1 x2 M) Q) : mv l mX11_rounds d 0 56 [(0, .ref 62), (1, .int x1), (2, .int x2)] [] M (mv_qI Q) := by
  unfold fX11_rounds_56 at h
  refine mv_loopE (A := (fun (s : Int32 × Int32) M => mv l mX11_rounds d 0 56 [(0, .ref 62), (1, .int s.1), (2, .int s.2)] [] M (mv_qI Q))) ?_ (x1, x2) M h
  · rintro ⟨x1, x2⟩ M h
    try dsimp only at h
    show mv l mX11_rounds d 0 56 [(0, .ref 62), (1, .int x1), (2, .int x2)] [] M (mv_qI Q)
    unfold gX11_rounds_56 at h
    refine mv_iload_n 2 dX11_rounds_56 rfl ?_
    refine mv_if_eq 144 dX11_rounds_57 (by decide) (fun z => ?_) (fun z => ?_)
    · replace h := mv_ifT z h
      refine mv_iload_n 1 dX11_rounds_144 rfl ?_
      exact mv_iret rfl dX11_rounds_145 ⟨_, rfl, h⟩
    · replace h := mv_ifF z h
      refine mv_iconst 0 dX11_rounds_60 (by decide) ?_
      refine mv_istore_n [(2, .int 0), (0, .ref 62), (1, .int x1)] dX11_rounds_61 (by decide) rfl ?_
      refine mv_iconst 0 dX11_rounds_62 (by decide) ?_
      refine mv_istore_n [(3, .int 0), (2, .int 0), (0, .ref 62), (1, .int x1)] dX11_rounds_63 (by decide) rfl ?_
      refine mv_sub [2, 3, 1, 0] rfl ?_
      exact zX11_rounds_64 hd x1 0 0 M h
noncomputable def gX11_rounds_32 (x1 : Int32) (M : mv_M) : Option (((Int32) ⊕ Int32) × mv_M) :=
  if 312 ≤ x1 then
    mv_inr (fX11_rounds_56 0 1 M)
  else
    mv_chk (mv_inb x1 312) <|
    mv_let (mv_si M 91 x1.toNatClampNeg (vp_nar .boolean 1)) fun M4 =>
    mv_let (x1 + 1) fun v5 =>
    some (.inl v5, M4)
noncomputable def fX11_rounds_32 (x1 : Int32) (M : mv_M) : Option (Int32 × mv_M) := mv_loop (fun (s : Int32) M => gX11_rounds_32 s M) x1 M
set_option maxRecDepth 100000 in
set_option maxHeartbeats 4000000 in
theorem zX11_rounds_32 {l : Launch} {d : Nat} {Q : Int32 → mv_M → Prop} (hd : 6 ≤ d) (x1 : Int32) (M : mv_M) (h : mv_ok (fX11_rounds_32 x1 M) Q) : mv l mX11_rounds d 0 32 [(0, .ref 62), (1, .int x1)] [] M (mv_qI Q) := by
  unfold fX11_rounds_32 at h
  refine mv_loopE (A := (fun (s : Int32) M => mv l mX11_rounds d 0 32 [(0, .ref 62), (1, .int s)] [] M (mv_qI Q))) ?_ x1 M h
  · intro x1 M h
    try dsimp only at h
    show mv l mX11_rounds d 0 32 [(0, .ref 62), (1, .int x1)] [] M (mv_qI Q)
    unfold gX11_rounds_32 at h
    refine mv_iload_n 1 dX11_rounds_32 rfl ?_
    refine mv_sipush 312 dX11_rounds_33 (by decide) ?_
    refine mv_icmp_ge 52 dX11_rounds_36 (by decide) (fun z => ?_) (fun z => ?_)
    · replace h := mv_ifT z h
      refine mv_iconst 0 dX11_rounds_52 (by decide) ?_
      refine mv_istore_n [(1, .int 0), (0, .ref 62)] dX11_rounds_53 (by decide) rfl ?_
      refine mv_iconst 1 dX11_rounds_54 (by decide) ?_
      refine mv_istore_n [(2, .int 1), (1, .int 0), (0, .ref 62)] dX11_rounds_55 (by decide) rfl ?_
      refine mv_sub [2, 1, 0] rfl ?_
      exact zX11_rounds_56 hd 0 1 M (mv_inrE h)
    · replace h := mv_ifF z h
      refine mv_aload_n 0 dX11_rounds_39 rfl ?_
      refine mv_getR 91 fX11_100 (by decide) rfl rfl rfl dX11_rounds_40 ?_
      refine mv_iload_n 1 dX11_rounds_43 rfl ?_
      refine mv_iconst 1 dX11_rounds_44 (by decide) ?_
      obtain ⟨hi3, h⟩ := mv_chkE h
      refine mv_zst (by decide) rfl (mv_inE hi3) dX11_rounds_45 (fun M4 eM4 => ?_)
      replace h := mv_letE h M4 eM4
      obtain ⟨v5, ev5⟩ : ∃ z : Int32, z = x1 + 1 := ⟨_, rfl⟩
      replace h := mv_letE h v5 ev5
      refine mv_iinc v5 1 [(1, .int v5), (0, .ref 62)] dX11_rounds_46 rfl (by rw [ev5]; rfl) (by decide) rfl ?_
      refine mv_goto 32 dX11_rounds_49 (by decide) ?_
      refine mv_sub [1, 0] rfl ?_
      exact h
noncomputable def fX11_rounds_13 (s0 : Int32) (M : mv_M) : Option (Int32 × mv_M) :=
  mv_let (mv_si M 62 0 s0) fun M1 =>
  if (M1.1 62 0) ≤ 0 then
    mv_let (mv_si M1 62 46 1) fun M2 =>
    fX11_rounds_32 0 M2
  else
    some (0, M1)
set_option maxRecDepth 100000 in
set_option maxHeartbeats 4000000 in
theorem zX11_rounds_13 {l : Launch} {d : Nat} {Q : Int32 → mv_M → Prop} (hd : 6 ≤ d) (s0 : Int32) (M : mv_M) (h : mv_ok (fX11_rounds_13 s0 M) Q) : mv l mX11_rounds d 0 13 [(0, .ref 62)] [.int s0, .ref 62] M (mv_qI Q) := by
  unfold fX11_rounds_13 at h
  refine mv_putI fX11_148 (by decide) rfl rfl dX11_rounds_13 (fun M1 eM1 => ?_)
  replace h := mv_letE h M1 eM1
  refine mv_aload_n 0 dX11_rounds_16 rfl ?_
  refine mv_getI fX11_148 (by decide) rfl rfl dX11_rounds_17 ?_
  refine mv_if_le 25 dX11_rounds_20 (by decide) (fun z => ?_) (fun z => ?_)
  · replace h := mv_ifT z h
    refine mv_aload_n 0 dX11_rounds_25 rfl ?_
    refine mv_iconst 1 dX11_rounds_26 (by decide) ?_
    refine mv_putZ fX11_354 (by decide) (by decide) rfl rfl dX11_rounds_27 (fun M2 eM2 => ?_)
    replace h := mv_letE h M2 eM2
    refine mv_iconst 0 dX11_rounds_30 (by decide) ?_
    refine mv_istore_n [(1, .int 0), (0, .ref 62)] dX11_rounds_31 (by decide) rfl ?_
    refine mv_sub [1, 0] rfl ?_
    exact zX11_rounds_32 hd 0 M2 h
  · replace h := mv_ifF z h
    refine mv_iconst 0 dX11_rounds_23 (by decide) ?_
    exact mv_iret rfl dX11_rounds_24 ⟨_, rfl, h⟩
noncomputable def fX11_rounds (M : mv_M) : Option (Int32 × mv_M) :=
  if (M.1 62 45) = 0 then
    fX11_rounds_13 1 M
  else
    fX11_rounds_13 0 M
set_option maxRecDepth 100000 in
set_option maxHeartbeats 4000000 in
theorem zX11_rounds {l : Launch} {d : Nat} {Q : Int32 → mv_M → Prop} (hd : 6 ≤ d) (M : mv_M) (h : mv_ok (fX11_rounds M) Q) : mv l mX11_rounds d 0 0 (lv_args 0 [.ref 62]) [] M (mv_qI Q) := by
  unfold fX11_rounds at h
  show mv l mX11_rounds d 0 0 [(0, .ref 62)] [] M (mv_qI Q)
  refine mv_aload_n 0 dX11_rounds_0 rfl ?_
  refine mv_aload_n 0 dX11_rounds_1 rfl ?_
  refine mv_getI fX11_341 (by decide) rfl rfl dX11_rounds_2 ?_
  refine mv_if_eq 12 dX11_rounds_5 (by decide) (fun z => ?_) (fun z => ?_)
  · replace h := mv_ifT z h
    refine mv_iconst 1 dX11_rounds_12 (by decide) ?_
    refine mv_sub [0] rfl ?_
    exact zX11_rounds_13 hd 1 M h
  · replace h := mv_ifF z h
    refine mv_iconst 0 dX11_rounds_8 (by decide) ?_
    refine mv_goto 13 dX11_rounds_9 (by decide) ?_
    refine mv_sub [0] rfl ?_
    exact zX11_rounds_13 hd 0 M h
theorem dX11_isRowThere_0 : decode cX11_isRowThere 0 = .ok (.aload_n 0, 1) := by decide +kernel
theorem dX11_isRowThere_1 : decode cX11_isRowThere 1 = .ok (.iload_n 1, 1) := by decide +kernel
theorem dX11_isRowThere_2 : decode cX11_isRowThere 2 = .ok (.invokevirtual 357, 3) := by decide +kernel
theorem dX11_isRowThere_5 : decode cX11_isRowThere 5 = .ok (.ifCond .eq 48, 3) := by decide +kernel
theorem dX11_isRowThere_8 : decode cX11_isRowThere 8 = .ok (.iload_n 2, 1) := by decide +kernel
theorem dX11_isRowThere_9 : decode cX11_isRowThere 9 = .ok (.i2l, 1) := by decide +kernel
theorem dX11_isRowThere_10 : decode cX11_isRowThere 10 = .ok (.lconst 1, 1) := by decide +kernel
theorem dX11_isRowThere_11 : decode cX11_isRowThere 11 = .ok (.aload_n 0, 1) := by decide +kernel
theorem dX11_isRowThere_12 : decode cX11_isRowThere 12 = .ok (.getfield 21, 3) := by decide +kernel
theorem dX11_isRowThere_15 : decode cX11_isRowThere 15 = .ok (.bipush 12, 2) := by decide +kernel
theorem dX11_isRowThere_17 : decode cX11_isRowThere 17 = .ok (.aload_n 0, 1) := by decide +kernel
theorem dX11_isRowThere_18 : decode cX11_isRowThere 18 = .ok (.getfield 345, 3) := by decide +kernel
theorem dX11_isRowThere_21 : decode cX11_isRowThere 21 = .ok (.imul, 1) := by decide +kernel
theorem dX11_isRowThere_22 : decode cX11_isRowThere 22 = .ok (.aload_n 0, 1) := by decide +kernel
theorem dX11_isRowThere_23 : decode cX11_isRowThere 23 = .ok (.iload_n 1, 1) := by decide +kernel
theorem dX11_isRowThere_24 : decode cX11_isRowThere 24 = .ok (.invokevirtual 357, 3) := by decide +kernel
theorem dX11_isRowThere_27 : decode cX11_isRowThere 27 = .ok (.ifCond .eq 7, 3) := by decide +kernel
theorem dX11_isRowThere_30 : decode cX11_isRowThere 30 = .ok (.iload_n 1, 1) := by decide +kernel
theorem dX11_isRowThere_31 : decode cX11_isRowThere 31 = .ok (.goto 4, 3) := by decide +kernel
theorem dX11_isRowThere_34 : decode cX11_isRowThere 34 = .ok (.iconst 0, 1) := by decide +kernel
theorem dX11_isRowThere_35 : decode cX11_isRowThere 35 = .ok (.iadd, 1) := by decide +kernel
theorem dX11_isRowThere_36 : decode cX11_isRowThere 36 = .ok (.iaload, 1) := by decide +kernel
theorem dX11_isRowThere_37 : decode cX11_isRowThere 37 = .ok (.invokestatic 166, 3) := by decide +kernel
theorem dX11_isRowThere_40 : decode cX11_isRowThere 40 = .ok (.iconst 1, 1) := by decide +kernel
theorem dX11_isRowThere_41 : decode cX11_isRowThere 41 = .ok (.isub, 1) := by decide +kernel
theorem dX11_isRowThere_42 : decode cX11_isRowThere 42 = .ok (.i2l, 1) := by decide +kernel
theorem dX11_isRowThere_43 : decode cX11_isRowThere 43 = .ok (.invokestatic 154, 3) := by decide +kernel
theorem dX11_isRowThere_46 : decode cX11_isRowThere 46 = .ok (.ifCond .eq 7, 3) := by decide +kernel
theorem dX11_isRowThere_49 : decode cX11_isRowThere 49 = .ok (.iconst 1, 1) := by decide +kernel
theorem dX11_isRowThere_50 : decode cX11_isRowThere 50 = .ok (.goto 4, 3) := by decide +kernel
theorem dX11_isRowThere_53 : decode cX11_isRowThere 53 = .ok (.iconst 0, 1) := by decide +kernel
theorem dX11_isRowThere_54 : decode cX11_isRowThere 54 = .ok (.ireturn, 1) := by decide +kernel
noncomputable def fX11_isRowThere_35 (s0 : Int32) (s1 : Int32) (s3 : Int64) (s4 : Int64) (M : mv_M) : Option (Int32 × mv_M) :=
  mv_chk (mv_inb (s1 + s0) 24) <|
  mv_bind (fX11_demands (M.1 65 (s1 + s0).toNatClampNeg) M) fun r6 M7 =>
  mv_bind (fX11_within s4 s3 ((r6 - 1).toInt64) M7) fun r8 M9 =>
  if r8 = 0 then
    some (0, M9)
  else
    some (1, M9)
set_option maxRecDepth 100000 in
set_option maxHeartbeats 4000000 in
theorem zX11_isRowThere_35 {l : Launch} {d : Nat} {Q : Int32 → mv_M → Prop} (hd : 2 ≤ d) (s0 : Int32) (s1 : Int32) (s3 : Int64) (s4 : Int64) (M : mv_M) (h : mv_ok (fX11_isRowThere_35 s0 s1 s3 s4 M) Q) : mv l mX11_isRowThere d 0 35 [] [.int s0, .int s1, .ref 65, .long s3, .long s4] M (mv_qI Q) := by
  unfold fX11_isRowThere_35 at h
  refine mv_iadd dX11_isRowThere_35 ?_
  obtain ⟨hi5, h⟩ := mv_chkE h
  refine mv_ild (by decide) rfl (mv_inE hi5) dX11_isRowThere_36 ?_
  refine mv_csI (As := [.int (M.1 65 (s1 + s0).toNatClampNeg)]) (st := [.long s3, .long s4]) okX11_demands lX11_166 rfl (Nat.le_of_ble_eq_true rfl) rfl (Nat.le_of_ble_eq_true rfl) dX11_isRowThere_37 (by omega) rfl (zX11_demands (d := d - 1) (by omega) (M.1 65 (s1 + s0).toNatClampNeg) M (mv_bindE h)) (fun r6 M7 h => ?_)
  refine mv_iconst 1 dX11_isRowThere_40 (by decide) ?_
  refine mv_isub dX11_isRowThere_41 ?_
  refine mv_i2l dX11_isRowThere_42 ?_
  refine mv_csI (As := [.long s4, .long s3, .long ((r6 - 1).toInt64)]) (st := []) okX11_within lX11_154 rfl (Nat.le_of_ble_eq_true rfl) rfl (Nat.le_of_ble_eq_true rfl) dX11_isRowThere_43 (by omega) rfl (zX11_within (d := d - 1) (by omega) s4 s3 ((r6 - 1).toInt64) M7 (mv_bindE h)) (fun r8 M9 h => ?_)
  refine mv_if_eq 53 dX11_isRowThere_46 (by decide) (fun z => ?_) (fun z => ?_)
  · replace h := mv_ifT z h
    refine mv_iconst 0 dX11_isRowThere_53 (by decide) ?_
    exact mv_zret (by decide) rfl dX11_isRowThere_54 ⟨_, rfl, h⟩
  · replace h := mv_ifF z h
    refine mv_iconst 1 dX11_isRowThere_49 (by decide) ?_
    refine mv_goto 54 dX11_isRowThere_50 (by decide) ?_
    exact mv_zret (by decide) rfl dX11_isRowThere_54 ⟨_, rfl, h⟩
noncomputable def fX11_isRowThere (a0 : Int32) (a1 : Int32) (M : mv_M) : Option (Int32 × mv_M) :=
  mv_bind (fX11_isFn a0 M) fun r1 M2 =>
  if r1 = 0 then
    some (0, M2)
  else
    mv_bind (fX11_isFn a0 M2) fun r3 M4 =>
    if r3 = 0 then
      fX11_isRowThere_35 0 (12 * (M2.1 62 47)) 1 (a1.toInt64) M4
    else
      fX11_isRowThere_35 a0 (12 * (M2.1 62 47)) 1 (a1.toInt64) M4
set_option maxRecDepth 100000 in
set_option maxHeartbeats 4000000 in
theorem zX11_isRowThere {l : Launch} {d : Nat} {Q : Int32 → mv_M → Prop} (hd : 2 ≤ d) (a0 : Int32) (a1 : Int32) (M : mv_M) (h : mv_ok (fX11_isRowThere a0 a1 M) Q) : mv l mX11_isRowThere d 0 0 (lv_args 0 [.ref 62, .int a0, .int a1]) [] M (mv_qI Q) := by
  unfold fX11_isRowThere at h
  show mv l mX11_isRowThere d 0 0 [(0, .ref 62), (1, .int a0), (2, .int a1)] [] M (mv_qI Q)
  refine mv_aload_n 0 dX11_isRowThere_0 rfl ?_
  refine mv_iload_n 1 dX11_isRowThere_1 rfl ?_
  refine mv_cvI (As := [.int a0]) (st := []) okX11_isFn lX11_357 (by decide) rfl rfl rfl (Nat.le_of_ble_eq_true rfl) rfl (Nat.le_of_ble_eq_true rfl) dX11_isRowThere_2 (by omega) rfl (zX11_isFn (d := d - 1) (by omega) a0 M (mv_bindE h)) (fun r1 M2 h => ?_)
  refine mv_if_eq 53 dX11_isRowThere_5 (by decide) (fun z => ?_) (fun z => ?_)
  · replace h := mv_ifT z h
    refine mv_iconst 0 dX11_isRowThere_53 (by decide) ?_
    exact mv_zret (by decide) rfl dX11_isRowThere_54 ⟨_, rfl, h⟩
  · replace h := mv_ifF z h
    refine mv_iload_n 2 dX11_isRowThere_8 rfl ?_
    refine mv_i2l dX11_isRowThere_9 ?_
    refine mv_lconst 1 dX11_isRowThere_10 (by decide) ?_
    refine mv_aload_n 0 dX11_isRowThere_11 rfl ?_
    refine mv_getR 65 fX11_21 (by decide) rfl rfl rfl dX11_isRowThere_12 ?_
    refine mv_bipush 12 dX11_isRowThere_15 (by decide) ?_
    refine mv_aload_n 0 dX11_isRowThere_17 rfl ?_
    refine mv_getI fX11_345 (by decide) rfl rfl dX11_isRowThere_18 ?_
    refine mv_imul dX11_isRowThere_21 ?_
    refine mv_aload_n 0 dX11_isRowThere_22 rfl ?_
    refine mv_iload_n 1 dX11_isRowThere_23 rfl ?_
    refine mv_cvI (As := [.int a0]) (st := [.int (12 * (M2.1 62 47)), .ref 65, .long 1, .long (a1.toInt64)]) okX11_isFn lX11_357 (by decide) rfl rfl rfl (Nat.le_of_ble_eq_true rfl) rfl (Nat.le_of_ble_eq_true rfl) dX11_isRowThere_24 (by omega) rfl (zX11_isFn (d := d - 1) (by omega) a0 M2 (mv_bindE h)) (fun r3 M4 h => ?_)
    refine mv_if_eq 34 dX11_isRowThere_27 (by decide) (fun z => ?_) (fun z => ?_)
    · replace h := mv_ifT z h
      refine mv_iconst 0 dX11_isRowThere_34 (by decide) ?_
      refine mv_sub [] rfl ?_
      exact zX11_isRowThere_35 hd 0 (12 * (M2.1 62 47)) 1 (a1.toInt64) M4 h
    · replace h := mv_ifF z h
      refine mv_iload_n 1 dX11_isRowThere_30 rfl ?_
      refine mv_goto 35 dX11_isRowThere_31 (by decide) ?_
      refine mv_sub [] rfl ?_
      exact zX11_isRowThere_35 hd a0 (12 * (M2.1 62 47)) 1 (a1.toInt64) M4 h
