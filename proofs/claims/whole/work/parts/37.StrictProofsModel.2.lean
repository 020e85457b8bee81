theorem dX11_onE_0 : decode cX11_onE 0 = .ok (.aload_n 0, 1) := by decide +kernel
theorem dX11_onE_1 : decode cX11_onE 1 = .ok (.invokevirtual 277, 3) := by decide +kernel
theorem dX11_onE_4 : decode cX11_onE 4 = .ok (.ifCond .ne 13, 3) := by decide +kernel
theorem dX11_onE_7 : decode cX11_onE 7 = .ok (.aload_n 0, 1) := by decide +kernel
theorem dX11_onE_8 : decode cX11_onE 8 = .ok (.iconst 2, 1) := by decide +kernel
theorem dX11_onE_9 : decode cX11_onE 9 = .ok (.aload_n 0, 1) := by decide +kernel
theorem dX11_onE_10 : decode cX11_onE 10 = .ok (.getfield 190, 3) := by decide +kernel
theorem dX11_onE_13 : decode cX11_onE 13 = .ok (.invokevirtual 205, 3) := by decide +kernel
theorem dX11_onE_16 : decode cX11_onE 16 = .ok (.return_, 1) := by decide +kernel
theorem dX11_onE_17 : decode cX11_onE 17 = .ok (.aload_n 0, 1) := by decide +kernel
theorem dX11_onE_18 : decode cX11_onE 18 = .ok (.getfield 251, 3) := by decide +kernel
theorem dX11_onE_21 : decode cX11_onE 21 = .ok (.bipush 20, 2) := by decide +kernel
theorem dX11_onE_23 : decode cX11_onE 23 = .ok (.if_icmp .ne 14, 3) := by decide +kernel
theorem dX11_onE_26 : decode cX11_onE 26 = .ok (.aload_n 0, 1) := by decide +kernel
theorem dX11_onE_27 : decode cX11_onE 27 = .ok (.bipush 6, 2) := by decide +kernel
theorem dX11_onE_29 : decode cX11_onE 29 = .ok (.aload_n 0, 1) := by decide +kernel
theorem dX11_onE_30 : decode cX11_onE 30 = .ok (.getfield 190, 3) := by decide +kernel
theorem dX11_onE_33 : decode cX11_onE 33 = .ok (.invokevirtual 205, 3) := by decide +kernel
theorem dX11_onE_36 : decode cX11_onE 36 = .ok (.return_, 1) := by decide +kernel
theorem dX11_onE_37 : decode cX11_onE 37 = .ok (.aload_n 0, 1) := by decide +kernel
theorem dX11_onE_38 : decode cX11_onE 38 = .ok (.dup, 1) := by decide +kernel
theorem dX11_onE_39 : decode cX11_onE 39 = .ok (.getfield 251, 3) := by decide +kernel
theorem dX11_onE_42 : decode cX11_onE 42 = .ok (.iconst 1, 1) := by decide +kernel
theorem dX11_onE_43 : decode cX11_onE 43 = .ok (.iadd, 1) := by decide +kernel
theorem dX11_onE_44 : decode cX11_onE 44 = .ok (.putfield 251, 3) := by decide +kernel
theorem dX11_onE_47 : decode cX11_onE 47 = .ok (.aload_n 0, 1) := by decide +kernel
theorem dX11_onE_48 : decode cX11_onE 48 = .ok (.iconst 5, 1) := by decide +kernel
theorem dX11_onE_49 : decode cX11_onE 49 = .ok (.iconst 0, 1) := by decide +kernel
theorem dX11_onE_50 : decode cX11_onE 50 = .ok (.invokevirtual 254, 3) := by decide +kernel
theorem dX11_onE_53 : decode cX11_onE 53 = .ok (.aload_n 0, 1) := by decide +kernel
theorem dX11_onE_54 : decode cX11_onE 54 = .ok (.getfield 193, 3) := by decide +kernel
theorem dX11_onE_57 : decode cX11_onE 57 = .ok (.iconst 5, 1) := by decide +kernel
theorem dX11_onE_58 : decode cX11_onE 58 = .ok (.if_icmp .ne 74, 3) := by decide +kernel
theorem dX11_onE_61 : decode cX11_onE 61 = .ok (.aload_n 0, 1) := by decide +kernel
theorem dX11_onE_62 : decode cX11_onE 62 = .ok (.iconst 3, 1) := by decide +kernel
theorem dX11_onE_63 : decode cX11_onE 63 = .ok (.aload_n 0, 1) := by decide +kernel
theorem dX11_onE_64 : decode cX11_onE 64 = .ok (.getfield 190, 3) := by decide +kernel
theorem dX11_onE_67 : decode cX11_onE 67 = .ok (.invokevirtual 281, 3) := by decide +kernel
theorem dX11_onE_70 : decode cX11_onE 70 = .ok (.istore_n 1, 1) := by decide +kernel
theorem dX11_onE_71 : decode cX11_onE 71 = .ok (.aload_n 0, 1) := by decide +kernel
theorem dX11_onE_72 : decode cX11_onE 72 = .ok (.bipush 18, 2) := by decide +kernel
theorem dX11_onE_74 : decode cX11_onE 74 = .ok (.iload_n 1, 1) := by decide +kernel
theorem dX11_onE_75 : decode cX11_onE 75 = .ok (.invokevirtual 254, 3) := by decide +kernel
theorem dX11_onE_78 : decode cX11_onE 78 = .ok (.aload_n 0, 1) := by decide +kernel
theorem dX11_onE_79 : decode cX11_onE 79 = .ok (.bipush 16, 2) := by decide +kernel
theorem dX11_onE_81 : decode cX11_onE 81 = .ok (.iload_n 1, 1) := by decide +kernel
theorem dX11_onE_82 : decode cX11_onE 82 = .ok (.invokevirtual 254, 3) := by decide +kernel
theorem dX11_onE_85 : decode cX11_onE 85 = .ok (.aload_n 0, 1) := by decide +kernel
theorem dX11_onE_86 : decode cX11_onE 86 = .ok (.iconst 4, 1) := by decide +kernel
theorem dX11_onE_87 : decode cX11_onE 87 = .ok (.iconst 0, 1) := by decide +kernel
theorem dX11_onE_88 : decode cX11_onE 88 = .ok (.invokevirtual 254, 3) := by decide +kernel
theorem dX11_onE_91 : decode cX11_onE 91 = .ok (.aload_n 0, 1) := by decide +kernel
theorem dX11_onE_92 : decode cX11_onE 92 = .ok (.iconst 1, 1) := by decide +kernel
theorem dX11_onE_93 : decode cX11_onE 93 = .ok (.bipush 6, 2) := by decide +kernel
theorem dX11_onE_95 : decode cX11_onE 95 = .ok (.invokevirtual 254, 3) := by decide +kernel
theorem dX11_onE_98 : decode cX11_onE 98 = .ok (.aload_n 0, 1) := by decide +kernel
theorem dX11_onE_99 : decode cX11_onE 99 = .ok (.bipush 15, 2) := by decide +kernel
theorem dX11_onE_101 : decode cX11_onE 101 = .ok (.iload_n 1, 1) := by decide +kernel
theorem dX11_onE_102 : decode cX11_onE 102 = .ok (.invokevirtual 254, 3) := by decide +kernel
theorem dX11_onE_105 : decode cX11_onE 105 = .ok (.aload_n 0, 1) := by decide +kernel
theorem dX11_onE_106 : decode cX11_onE 106 = .ok (.iconst 4, 1) := by decide +kernel
theorem dX11_onE_107 : decode cX11_onE 107 = .ok (.iconst 0, 1) := by decide +kernel
theorem dX11_onE_108 : decode cX11_onE 108 = .ok (.invokevirtual 254, 3) := by decide +kernel
theorem dX11_onE_111 : decode cX11_onE 111 = .ok (.aload_n 0, 1) := by decide +kernel
theorem dX11_onE_112 : decode cX11_onE 112 = .ok (.iconst 1, 1) := by decide +kernel
theorem dX11_onE_113 : decode cX11_onE 113 = .ok (.bipush 13, 2) := by decide +kernel
theorem dX11_onE_115 : decode cX11_onE 115 = .ok (.invokevirtual 254, 3) := by decide +kernel
theorem dX11_onE_118 : decode cX11_onE 118 = .ok (.aload_n 0, 1) := by decide +kernel
theorem dX11_onE_119 : decode cX11_onE 119 = .ok (.bipush 13, 2) := by decide +kernel
theorem dX11_onE_121 : decode cX11_onE 121 = .ok (.iload_n 1, 1) := by decide +kernel
theorem dX11_onE_122 : decode cX11_onE 122 = .ok (.invokevirtual 254, 3) := by decide +kernel
theorem dX11_onE_125 : decode cX11_onE 125 = .ok (.aload_n 0, 1) := by decide +kernel
theorem dX11_onE_126 : decode cX11_onE 126 = .ok (.invokevirtual 229, 3) := by decide +kernel
theorem dX11_onE_129 : decode cX11_onE 129 = .ok (.goto 208, 3) := by decide +kernel
theorem dX11_onE_132 : decode cX11_onE 132 = .ok (.aload_n 0, 1) := by decide +kernel
theorem dX11_onE_133 : decode cX11_onE 133 = .ok (.getfield 193, 3) := by decide +kernel
theorem dX11_onE_136 : decode cX11_onE 136 = .ok (.bipush 7, 2) := by decide +kernel
theorem dX11_onE_138 : decode cX11_onE 138 = .ok (.if_icmp .ne 102, 3) := by decide +kernel
theorem dX11_onE_141 : decode cX11_onE 141 = .ok (.aload_n 0, 1) := by decide +kernel
theorem dX11_onE_142 : decode cX11_onE 142 = .ok (.iconst 4, 1) := by decide +kernel
theorem dX11_onE_143 : decode cX11_onE 143 = .ok (.aload_n 0, 1) := by decide +kernel
theorem dX11_onE_144 : decode cX11_onE 144 = .ok (.getfield 190, 3) := by decide +kernel
theorem dX11_onE_147 : decode cX11_onE 147 = .ok (.invokevirtual 281, 3) := by decide +kernel
theorem dX11_onE_150 : decode cX11_onE 150 = .ok (.istore_n 1, 1) := by decide +kernel
theorem dX11_onE_151 : decode cX11_onE 151 = .ok (.aload_n 0, 1) := by decide +kernel
theorem dX11_onE_152 : decode cX11_onE 152 = .ok (.bipush 18, 2) := by decide +kernel
theorem dX11_onE_154 : decode cX11_onE 154 = .ok (.iload_n 1, 1) := by decide +kernel
theorem dX11_onE_155 : decode cX11_onE 155 = .ok (.invokevirtual 254, 3) := by decide +kernel
theorem dX11_onE_158 : decode cX11_onE 158 = .ok (.aload_n 0, 1) := by decide +kernel
theorem dX11_onE_159 : decode cX11_onE 159 = .ok (.bipush 16, 2) := by decide +kernel
theorem dX11_onE_161 : decode cX11_onE 161 = .ok (.iload_n 1, 1) := by decide +kernel
theorem dX11_onE_162 : decode cX11_onE 162 = .ok (.invokevirtual 254, 3) := by decide +kernel
theorem dX11_onE_165 : decode cX11_onE 165 = .ok (.aload_n 0, 1) := by decide +kernel
theorem dX11_onE_166 : decode cX11_onE 166 = .ok (.iconst 4, 1) := by decide +kernel
theorem dX11_onE_167 : decode cX11_onE 167 = .ok (.iconst 0, 1) := by decide +kernel
theorem dX11_onE_168 : decode cX11_onE 168 = .ok (.invokevirtual 254, 3) := by decide +kernel
theorem dX11_onE_171 : decode cX11_onE 171 = .ok (.aload_n 0, 1) := by decide +kernel
theorem dX11_onE_172 : decode cX11_onE 172 = .ok (.iconst 1, 1) := by decide +kernel
theorem dX11_onE_173 : decode cX11_onE 173 = .ok (.bipush 6, 2) := by decide +kernel
theorem dX11_onE_175 : decode cX11_onE 175 = .ok (.invokevirtual 254, 3) := by decide +kernel
theorem dX11_onE_178 : decode cX11_onE 178 = .ok (.aload_n 0, 1) := by decide +kernel
theorem dX11_onE_179 : decode cX11_onE 179 = .ok (.iconst 1, 1) := by decide +kernel
theorem dX11_onE_180 : decode cX11_onE 180 = .ok (.bipush 15, 2) := by decide +kernel
theorem dX11_onE_182 : decode cX11_onE 182 = .ok (.invokevirtual 254, 3) := by decide +kernel
theorem dX11_onE_185 : decode cX11_onE 185 = .ok (.aload_n 0, 1) := by decide +kernel
theorem dX11_onE_186 : decode cX11_onE 186 = .ok (.bipush 14, 2) := by decide +kernel
theorem dX11_onE_188 : decode cX11_onE 188 = .ok (.iload_n 1, 1) := by decide +kernel
theorem dX11_onE_189 : decode cX11_onE 189 = .ok (.invokevirtual 254, 3) := by decide +kernel
theorem dX11_onE_192 : decode cX11_onE 192 = .ok (.aload_n 0, 1) := by decide +kernel
theorem dX11_onE_193 : decode cX11_onE 193 = .ok (.iconst 1, 1) := by decide +kernel
theorem dX11_onE_194 : decode cX11_onE 194 = .ok (.bipush 16, 2) := by decide +kernel
theorem dX11_onE_196 : decode cX11_onE 196 = .ok (.invokevirtual 254, 3) := by decide +kernel
theorem dX11_onE_199 : decode cX11_onE 199 = .ok (.aload_n 0, 1) := by decide +kernel
theorem dX11_onE_200 : decode cX11_onE 200 = .ok (.bipush 13, 2) := by decide +kernel
theorem dX11_onE_202 : decode cX11_onE 202 = .ok (.iload_n 1, 1) := by decide +kernel
theorem dX11_onE_203 : decode cX11_onE 203 = .ok (.invokevirtual 254, 3) := by decide +kernel
theorem dX11_onE_206 : decode cX11_onE 206 = .ok (.aload_n 0, 1) := by decide +kernel
theorem dX11_onE_207 : decode cX11_onE 207 = .ok (.iconst 1, 1) := by decide +kernel
theorem dX11_onE_208 : decode cX11_onE 208 = .ok (.bipush 14, 2) := by decide +kernel
theorem dX11_onE_210 : decode cX11_onE 210 = .ok (.invokevirtual 254, 3) := by decide +kernel
theorem dX11_onE_213 : decode cX11_onE 213 = .ok (.aload_n 0, 1) := by decide +kernel
theorem dX11_onE_214 : decode cX11_onE 214 = .ok (.iconst 1, 1) := by decide +kernel
theorem dX11_onE_215 : decode cX11_onE 215 = .ok (.bipush 8, 2) := by decide +kernel
theorem dX11_onE_217 : decode cX11_onE 217 = .ok (.invokevirtual 254, 3) := by decide +kernel
theorem dX11_onE_220 : decode cX11_onE 220 = .ok (.aload_n 0, 1) := by decide +kernel
theorem dX11_onE_221 : decode cX11_onE 221 = .ok (.bipush 15, 2) := by decide +kernel
theorem dX11_onE_223 : decode cX11_onE 223 = .ok (.iload_n 1, 1) := by decide +kernel
theorem dX11_onE_224 : decode cX11_onE 224 = .ok (.invokevirtual 254, 3) := by decide +kernel
theorem dX11_onE_227 : decode cX11_onE 227 = .ok (.aload_n 0, 1) := by decide +kernel
theorem dX11_onE_228 : decode cX11_onE 228 = .ok (.iconst 4, 1) := by decide +kernel
theorem dX11_onE_229 : decode cX11_onE 229 = .ok (.iconst 0, 1) := by decide +kernel
theorem dX11_onE_230 : decode cX11_onE 230 = .ok (.invokevirtual 254, 3) := by decide +kernel
theorem dX11_onE_233 : decode cX11_onE 233 = .ok (.aload_n 0, 1) := by decide +kernel
theorem dX11_onE_234 : decode cX11_onE 234 = .ok (.invokevirtual 229, 3) := by decide +kernel
theorem dX11_onE_237 : decode cX11_onE 237 = .ok (.goto 100, 3) := by decide +kernel
theorem dX11_onE_240 : decode cX11_onE 240 = .ok (.aload_n 0, 1) := by decide +kernel
theorem dX11_onE_241 : decode cX11_onE 241 = .ok (.getfield 193, 3) := by decide +kernel
theorem dX11_onE_244 : decode cX11_onE 244 = .ok (.iconst 2, 1) := by decide +kernel
theorem dX11_onE_245 : decode cX11_onE 245 = .ok (.if_icmp .ne 78, 3) := by decide +kernel
theorem dX11_onE_248 : decode cX11_onE 248 = .ok (.aload_n 0, 1) := by decide +kernel
theorem dX11_onE_249 : decode cX11_onE 249 = .ok (.iconst 2, 1) := by decide +kernel
theorem dX11_onE_250 : decode cX11_onE 250 = .ok (.aload_n 0, 1) := by decide +kernel
theorem dX11_onE_251 : decode cX11_onE 251 = .ok (.getfield 190, 3) := by decide +kernel
theorem dX11_onE_254 : decode cX11_onE 254 = .ok (.invokevirtual 281, 3) := by decide +kernel
theorem dX11_onE_257 : decode cX11_onE 257 = .ok (.istore_n 1, 1) := by decide +kernel
theorem dX11_onE_258 : decode cX11_onE 258 = .ok (.aload_n 0, 1) := by decide +kernel
theorem dX11_onE_259 : decode cX11_onE 259 = .ok (.bipush 18, 2) := by decide +kernel
theorem dX11_onE_261 : decode cX11_onE 261 = .ok (.iload_n 1, 1) := by decide +kernel
theorem dX11_onE_262 : decode cX11_onE 262 = .ok (.invokevirtual 254, 3) := by decide +kernel
theorem dX11_onE_265 : decode cX11_onE 265 = .ok (.aload_n 0, 1) := by decide +kernel
theorem dX11_onE_266 : decode cX11_onE 266 = .ok (.bipush 17, 2) := by decide +kernel
theorem dX11_onE_268 : decode cX11_onE 268 = .ok (.iload_n 1, 1) := by decide +kernel
theorem dX11_onE_269 : decode cX11_onE 269 = .ok (.invokevirtual 254, 3) := by decide +kernel
theorem dX11_onE_272 : decode cX11_onE 272 = .ok (.aload_n 0, 1) := by decide +kernel
theorem dX11_onE_273 : decode cX11_onE 273 = .ok (.iconst 4, 1) := by decide +kernel
theorem dX11_onE_274 : decode cX11_onE 274 = .ok (.iconst 0, 1) := by decide +kernel
theorem dX11_onE_275 : decode cX11_onE 275 = .ok (.invokevirtual 254, 3) := by decide +kernel
theorem dX11_onE_278 : decode cX11_onE 278 = .ok (.aload_n 0, 1) := by decide +kernel
theorem dX11_onE_279 : decode cX11_onE 279 = .ok (.iconst 1, 1) := by decide +kernel
theorem dX11_onE_280 : decode cX11_onE 280 = .ok (.iconst 4, 1) := by decide +kernel
theorem dX11_onE_281 : decode cX11_onE 281 = .ok (.invokevirtual 254, 3) := by decide +kernel
theorem dX11_onE_284 : decode cX11_onE 284 = .ok (.aload_n 0, 1) := by decide +kernel
theorem dX11_onE_285 : decode cX11_onE 285 = .ok (.bipush 16, 2) := by decide +kernel
theorem dX11_onE_287 : decode cX11_onE 287 = .ok (.iload_n 1, 1) := by decide +kernel
theorem dX11_onE_288 : decode cX11_onE 288 = .ok (.invokevirtual 254, 3) := by decide +kernel
theorem dX11_onE_291 : decode cX11_onE 291 = .ok (.aload_n 0, 1) := by decide +kernel
theorem dX11_onE_292 : decode cX11_onE 292 = .ok (.iconst 4, 1) := by decide +kernel
theorem dX11_onE_293 : decode cX11_onE 293 = .ok (.iconst 0, 1) := by decide +kernel
theorem dX11_onE_294 : decode cX11_onE 294 = .ok (.invokevirtual 254, 3) := by decide +kernel
theorem dX11_onE_297 : decode cX11_onE 297 = .ok (.aload_n 0, 1) := by decide +kernel
theorem dX11_onE_298 : decode cX11_onE 298 = .ok (.iconst 1, 1) := by decide +kernel
theorem dX11_onE_299 : decode cX11_onE 299 = .ok (.iconst 3, 1) := by decide +kernel
theorem dX11_onE_300 : decode cX11_onE 300 = .ok (.invokevirtual 254, 3) := by decide +kernel
theorem dX11_onE_303 : decode cX11_onE 303 = .ok (.aload_n 0, 1) := by decide +kernel
theorem dX11_onE_304 : decode cX11_onE 304 = .ok (.bipush 15, 2) := by decide +kernel
theorem dX11_onE_306 : decode cX11_onE 306 = .ok (.iload_n 1, 1) := by decide +kernel
theorem dX11_onE_307 : decode cX11_onE 307 = .ok (.invokevirtual 254, 3) := by decide +kernel
theorem dX11_onE_310 : decode cX11_onE 310 = .ok (.aload_n 0, 1) := by decide +kernel
theorem dX11_onE_311 : decode cX11_onE 311 = .ok (.iconst 4, 1) := by decide +kernel
theorem dX11_onE_312 : decode cX11_onE 312 = .ok (.iconst 0, 1) := by decide +kernel
theorem dX11_onE_313 : decode cX11_onE 313 = .ok (.invokevirtual 254, 3) := by decide +kernel
theorem dX11_onE_316 : decode cX11_onE 316 = .ok (.aload_n 0, 1) := by decide +kernel
theorem dX11_onE_317 : decode cX11_onE 317 = .ok (.invokevirtual 229, 3) := by decide +kernel
theorem dX11_onE_320 : decode cX11_onE 320 = .ok (.goto 17, 3) := by decide +kernel
theorem dX11_onE_323 : decode cX11_onE 323 = .ok (.aload_n 0, 1) := by decide +kernel
theorem dX11_onE_324 : decode cX11_onE 324 = .ok (.bipush 11, 2) := by decide +kernel
theorem dX11_onE_326 : decode cX11_onE 326 = .ok (.iconst 0, 1) := by decide +kernel
theorem dX11_onE_327 : decode cX11_onE 327 = .ok (.invokevirtual 254, 3) := by decide +kernel
theorem dX11_onE_330 : decode cX11_onE 330 = .ok (.aload_n 0, 1) := by decide +kernel
theorem dX11_onE_331 : decode cX11_onE 331 = .ok (.bipush 6, 2) := by decide +kernel
theorem dX11_onE_333 : decode cX11_onE 333 = .ok (.iconst 0, 1) := by decide +kernel
theorem dX11_onE_334 : decode cX11_onE 334 = .ok (.invokevirtual 254, 3) := by decide +kernel
theorem dX11_onE_337 : decode cX11_onE 337 = .ok (.return_, 1) := by decide +kernel
noncomputable def fX11_onE (M : mv_M) : Option (Unit × mv_M) :=
  mv_bind (fX11_begins M) fun r1 M2 =>
  if r1 = 0 then
    mv_bind (fX11_stop 2 (M2.1 62 5) M2) fun _ M46 =>
    some ((), M46)
  else
    if (M2.1 62 41) = 20 then
      mv_bind (fX11_stop 6 (M2.1 62 5) M2) fun _ M45 =>
      some ((), M45)
    else
      mv_let (mv_si M2 62 41 ((M2.1 62 41) + 1)) fun M3 =>
      mv_bind (fX11_push 5 0 M3) fun _ M4 =>
      if (M4.1 62 4) = 5 then
        mv_bind (fX11_node 3 (M4.1 62 5) M4) fun r34 M35 =>
        mv_bind (fX11_push 18 r34 M35) fun _ M36 =>
        mv_bind (fX11_push 16 r34 M36) fun _ M37 =>
        mv_bind (fX11_push 4 0 M37) fun _ M38 =>
        mv_bind (fX11_push 1 6 M38) fun _ M39 =>
        mv_bind (fX11_push 15 r34 M39) fun _ M40 =>
        mv_bind (fX11_push 4 0 M40) fun _ M41 =>
        mv_bind (fX11_push 1 13 M41) fun _ M42 =>
        mv_bind (fX11_push 13 r34 M42) fun _ M43 =>
        mv_bind (fX11_pass M43) fun _ M44 =>
        some ((), M44)
      else
        if (M4.1 62 4) = 7 then
          mv_bind (fX11_node 4 (M4.1 62 5) M4) fun r19 M20 =>
          mv_bind (fX11_push 18 r19 M20) fun _ M21 =>
          mv_bind (fX11_push 16 r19 M21) fun _ M22 =>
          mv_bind (fX11_push 4 0 M22) fun _ M23 =>
          mv_bind (fX11_push 1 6 M23) fun _ M24 =>
          mv_bind (fX11_push 1 15 M24) fun _ M25 =>
          mv_bind (fX11_push 14 r19 M25) fun _ M26 =>
          mv_bind (fX11_push 1 16 M26) fun _ M27 =>
          mv_bind (fX11_push 13 r19 M27) fun _ M28 =>
          mv_bind (fX11_push 1 14 M28) fun _ M29 =>
          mv_bind (fX11_push 1 8 M29) fun _ M30 =>
          mv_bind (fX11_push 15 r19 M30) fun _ M31 =>
          mv_bind (fX11_push 4 0 M31) fun _ M32 =>
          mv_bind (fX11_pass M32) fun _ M33 =>
          some ((), M33)
        else
          if (M4.1 62 4) = 2 then
            mv_bind (fX11_node 2 (M4.1 62 5) M4) fun r7 M8 =>
            mv_bind (fX11_push 18 r7 M8) fun _ M9 =>
            mv_bind (fX11_push 17 r7 M9) fun _ M10 =>
            mv_bind (fX11_push 4 0 M10) fun _ M11 =>
            mv_bind (fX11_push 1 4 M11) fun _ M12 =>
            mv_bind (fX11_push 16 r7 M12) fun _ M13 =>
            mv_bind (fX11_push 4 0 M13) fun _ M14 =>
            mv_bind (fX11_push 1 3 M14) fun _ M15 =>
            mv_bind (fX11_push 15 r7 M15) fun _ M16 =>
            mv_bind (fX11_push 4 0 M16) fun _ M17 =>
            mv_bind (fX11_pass M17) fun _ M18 =>
            some ((), M18)
          else
            mv_bind (fX11_push 11 0 M4) fun _ M5 =>
            mv_bind (fX11_push 6 0 M5) fun _ M6 =>
            some ((), M6)
set_option maxRecDepth 100000 in
set_option maxHeartbeats 4000000 in
theorem zX11_onE {l : Launch} {d : Nat} {Q : Unit → mv_M → Prop} (hd : 5 ≤ d) (M : mv_M) (h : mv_ok (fX11_onE M) Q) : mv l mX11_onE d 0 0 (lv_args 0 [.ref 62]) [] M (mv_qV Q) := by
  unfold fX11_onE at h
  show mv l mX11_onE d 0 0 [(0, .ref 62)] [] M (mv_qV Q)
  refine mv_aload_n 0 dX11_onE_0 rfl ?_
  refine mv_cvI (As := []) (st := []) okX11_begins lX11_277 (by decide) rfl rfl rfl (Nat.le_of_ble_eq_true rfl) rfl (Nat.le_of_ble_eq_true rfl) dX11_onE_1 (by omega) rfl (zX11_begins (d := d - 1) (by omega) M (mv_bindE h)) (fun r1 M2 h => ?_)
  refine mv_if_ne 17 dX11_onE_4 (by decide) (fun z => ?_) (fun z => ?_)
  · replace h := mv_ifF z h
    refine mv_aload_n 0 dX11_onE_17 rfl ?_
    refine mv_getI fX11_251 (by decide) rfl rfl dX11_onE_18 ?_
    refine mv_bipush 20 dX11_onE_21 (by decide) ?_
    refine mv_icmp_ne 37 dX11_onE_23 (by decide) (fun z => ?_) (fun z => ?_)
    · replace h := mv_ifF z h
      refine mv_aload_n 0 dX11_onE_37 rfl ?_
      refine mv_dup dX11_onE_38 rfl ?_
      refine mv_getI fX11_251 (by decide) rfl rfl dX11_onE_39 ?_
      refine mv_iconst 1 dX11_onE_42 (by decide) ?_
      refine mv_iadd dX11_onE_43 ?_
      refine mv_putI fX11_251 (by decide) rfl rfl dX11_onE_44 (fun M3 eM3 => ?_)
      replace h := mv_letE h M3 eM3
      refine mv_aload_n 0 dX11_onE_47 rfl ?_
      refine mv_iconst 5 dX11_onE_48 (by decide) ?_
      refine mv_iconst 0 dX11_onE_49 (by decide) ?_
      refine mv_cvV (As := [.int 5, .int 0]) (st := []) okX11_push lX11_254 (by decide) rfl rfl rfl (Nat.le_of_ble_eq_true rfl) rfl (Nat.le_of_ble_eq_true rfl) dX11_onE_50 (by omega) rfl (zX11_push (d := d - 1) (by omega) 5 0 M3 (mv_bindE h)) (fun _ M4 h => ?_)
      refine mv_aload_n 0 dX11_onE_53 rfl ?_
      refine mv_getI fX11_193 (by decide) rfl rfl dX11_onE_54 ?_
      refine mv_iconst 5 dX11_onE_57 (by decide) ?_
      refine mv_icmp_ne 132 dX11_onE_58 (by decide) (fun z => ?_) (fun z => ?_)
      · replace h := mv_ifF z h
        refine mv_aload_n 0 dX11_onE_132 rfl ?_
        refine mv_getI fX11_193 (by decide) rfl rfl dX11_onE_133 ?_
        refine mv_bipush 7 dX11_onE_136 (by decide) ?_
        refine mv_icmp_ne 240 dX11_onE_138 (by decide) (fun z => ?_) (fun z => ?_)
        · replace h := mv_ifF z h
          refine mv_aload_n 0 dX11_onE_240 rfl ?_
          refine mv_getI fX11_193 (by decide) rfl rfl dX11_onE_241 ?_
          refine mv_iconst 2 dX11_onE_244 (by decide) ?_
          refine mv_icmp_ne 323 dX11_onE_245 (by decide) (fun z => ?_) (fun z => ?_)
          · replace h := mv_ifF z h
            refine mv_aload_n 0 dX11_onE_323 rfl ?_
            refine mv_bipush 11 dX11_onE_324 (by decide) ?_
            refine mv_iconst 0 dX11_onE_326 (by decide) ?_
            refine mv_cvV (As := [.int 11, .int 0]) (st := []) okX11_push lX11_254 (by decide) rfl rfl rfl (Nat.le_of_ble_eq_true rfl) rfl (Nat.le_of_ble_eq_true rfl) dX11_onE_327 (by omega) rfl (zX11_push (d := d - 1) (by omega) 11 0 M4 (mv_bindE h)) (fun _ M5 h => ?_)
            refine mv_aload_n 0 dX11_onE_330 rfl ?_
            refine mv_bipush 6 dX11_onE_331 (by decide) ?_
            refine mv_iconst 0 dX11_onE_333 (by decide) ?_
            refine mv_cvV (As := [.int 6, .int 0]) (st := []) okX11_push lX11_254 (by decide) rfl rfl rfl (Nat.le_of_ble_eq_true rfl) rfl (Nat.le_of_ble_eq_true rfl) dX11_onE_334 (by omega) rfl (zX11_push (d := d - 1) (by omega) 6 0 M5 (mv_bindE h)) (fun _ M6 h => ?_)
            exact mv_vret rfl dX11_onE_337 ⟨rfl, h⟩
          · replace h := mv_ifT z h
            refine mv_aload_n 0 dX11_onE_248 rfl ?_
            refine mv_iconst 2 dX11_onE_249 (by decide) ?_
            refine mv_aload_n 0 dX11_onE_250 rfl ?_
            refine mv_getI fX11_190 (by decide) rfl rfl dX11_onE_251 ?_
            refine mv_cvI (As := [.int 2, .int (M4.1 62 5)]) (st := []) okX11_node lX11_281 (by decide) rfl rfl rfl (Nat.le_of_ble_eq_true rfl) rfl (Nat.le_of_ble_eq_true rfl) dX11_onE_254 (by omega) rfl (zX11_node (d := d - 1) (by omega) 2 (M4.1 62 5) M4 (mv_bindE h)) (fun r7 M8 h => ?_)
            refine mv_istore_n [(1, .int r7), (0, .ref 62)] dX11_onE_257 (by decide) rfl ?_
            refine mv_aload_n 1 dX11_onE_258 rfl ?_
            refine mv_bipush 18 dX11_onE_259 (by decide) ?_
            refine mv_iload_n 0 dX11_onE_261 rfl ?_
            refine mv_cvV (As := [.int 18, .int r7]) (st := []) okX11_push lX11_254 (by decide) rfl rfl rfl (Nat.le_of_ble_eq_true rfl) rfl (Nat.le_of_ble_eq_true rfl) dX11_onE_262 (by omega) rfl (zX11_push (d := d - 1) (by omega) 18 r7 M8 (mv_bindE h)) (fun _ M9 h => ?_)
            refine mv_aload_n 1 dX11_onE_265 rfl ?_
            refine mv_bipush 17 dX11_onE_266 (by decide) ?_
            refine mv_iload_n 0 dX11_onE_268 rfl ?_
            refine mv_cvV (As := [.int 17, .int r7]) (st := []) okX11_push lX11_254 (by decide) rfl rfl rfl (Nat.le_of_ble_eq_true rfl) rfl (Nat.le_of_ble_eq_true rfl) dX11_onE_269 (by omega) rfl (zX11_push (d := d - 1) (by omega) 17 r7 M9 (mv_bindE h)) (fun _ M10 h => ?_)
            refine mv_aload_n 1 dX11_onE_272 rfl ?_
            refine mv_iconst 4 dX11_onE_273 (by decide) ?_
            refine mv_iconst 0 dX11_onE_274 (by decide) ?_
            refine mv_cvV (As := [.int 4, .int 0]) (st := []) okX11_push lX11_254 (by decide) rfl rfl rfl (Nat.le_of_ble_eq_true rfl) rfl (Nat.le_of_ble_eq_true rfl) dX11_onE_275 (by omega) rfl (zX11_push (d := d - 1) (by omega) 4 0 M10 (mv_bindE h)) (fun _ M11 h => ?_)
            refine mv_aload_n 1 dX11_onE_278 rfl ?_
            refine mv_iconst 1 dX11_onE_279 (by decide) ?_
            refine mv_iconst 4 dX11_onE_280 (by decide) ?_
            refine mv_cvV (As := [.int 1, .int 4]) (st := []) okX11_push lX11_254 (by decide) rfl rfl rfl (Nat.le_of_ble_eq_true rfl) rfl (Nat.le_of_ble_eq_true rfl) dX11_onE_281 (by omega) rfl (zX11_push (d := d - 1) (by omega) 1 4 M11 (mv_bindE h)) (fun _ M12 h => ?_)
            refine mv_aload_n 1 dX11_onE_284 rfl ?_
            refine mv_bipush 16 dX11_onE_285 (by decide) ?_
            refine mv_iload_n 0 dX11_onE_287 rfl ?_
            refine mv_cvV (As := [.int 16, .int r7]) (st := []) okX11_push lX11_254 (by decide) rfl rfl rfl (Nat.le_of_ble_eq_true rfl) rfl (Nat.le_of_ble_eq_true rfl) dX11_onE_288 (by omega) rfl (zX11_push (d := d - 1) (by omega) 16 r7 M12 (mv_bindE h)) (fun _ M13 h => ?_)
            refine mv_aload_n 1 dX11_onE_291 rfl ?_
            refine mv_iconst 4 dX11_onE_292 (by decide) ?_
            refine mv_iconst 0 dX11_onE_293 (by decide) ?_
            refine mv_cvV (As := [.int 4, .int 0]) (st := []) okX11_push lX11_254 (by decide) rfl rfl rfl (Nat.le_of_ble_eq_true rfl) rfl (Nat.le_of_ble_eq_true rfl) dX11_onE_294 (by omega) rfl (zX11_push (d := d - 1) (by omega) 4 0 M13 (mv_bindE h)) (fun _ M14 h => ?_)
            refine mv_aload_n 1 dX11_onE_297 rfl ?_
            refine mv_iconst 1 dX11_onE_298 (by decide) ?_
            refine mv_iconst 3 dX11_onE_299 (by decide) ?_
            refine mv_cvV (As := [.int 1, .int 3]) (st := []) okX11_push lX11_254 (by decide) rfl rfl rfl (Nat.le_of_ble_eq_true rfl) rfl (Nat.le_of_ble_eq_true rfl) dX11_onE_300 (by omega) rfl (zX11_push (d := d - 1) (by omega) 1 3 M14 (mv_bindE h)) (fun _ M15 h => ?_)
            refine mv_aload_n 1 dX11_onE_303 rfl ?_
            refine mv_bipush 15 dX11_onE_304 (by decide) ?_
            refine mv_iload_n 0 dX11_onE_306 rfl ?_
            refine mv_cvV (As := [.int 15, .int r7]) (st := []) okX11_push lX11_254 (by decide) rfl rfl rfl (Nat.le_of_ble_eq_true rfl) rfl (Nat.le_of_ble_eq_true rfl) dX11_onE_307 (by omega) rfl (zX11_push (d := d - 1) (by omega) 15 r7 M15 (mv_bindE h)) (fun _ M16 h => ?_)
            refine mv_aload_n 1 dX11_onE_310 rfl ?_
            refine mv_iconst 4 dX11_onE_311 (by decide) ?_
            refine mv_iconst 0 dX11_onE_312 (by decide) ?_
            refine mv_cvV (As := [.int 4, .int 0]) (st := []) okX11_push lX11_254 (by decide) rfl rfl rfl (Nat.le_of_ble_eq_true rfl) rfl (Nat.le_of_ble_eq_true rfl) dX11_onE_313 (by omega) rfl (zX11_push (d := d - 1) (by omega) 4 0 M16 (mv_bindE h)) (fun _ M17 h => ?_)
            refine mv_aload_n 1 dX11_onE_316 rfl ?_
            refine mv_cvV (As := []) (st := []) okX11_pass lX11_229 (by decide) rfl rfl rfl (Nat.le_of_ble_eq_true rfl) rfl (Nat.le_of_ble_eq_true rfl) dX11_onE_317 (by omega) rfl (zX11_pass (d := d - 1) (by omega) M17 (mv_bindE h)) (fun _ M18 h => ?_)
            refine mv_goto 337 dX11_onE_320 (by decide) ?_
            exact mv_vret rfl dX11_onE_337 ⟨rfl, h⟩
        · replace h := mv_ifT z h
          refine mv_aload_n 0 dX11_onE_141 rfl ?_
          refine mv_iconst 4 dX11_onE_142 (by decide) ?_
          refine mv_aload_n 0 dX11_onE_143 rfl ?_
          refine mv_getI fX11_190 (by decide) rfl rfl dX11_onE_144 ?_
          refine mv_cvI (As := [.int 4, .int (M4.1 62 5)]) (st := []) okX11_node lX11_281 (by decide) rfl rfl rfl (Nat.le_of_ble_eq_true rfl) rfl (Nat.le_of_ble_eq_true rfl) dX11_onE_147 (by omega) rfl (zX11_node (d := d - 1) (by omega) 4 (M4.1 62 5) M4 (mv_bindE h)) (fun r19 M20 h => ?_)
          refine mv_istore_n [(1, .int r19), (0, .ref 62)] dX11_onE_150 (by decide) rfl ?_
          refine mv_aload_n 1 dX11_onE_151 rfl ?_
          refine mv_bipush 18 dX11_onE_152 (by decide) ?_
          refine mv_iload_n 0 dX11_onE_154 rfl ?_
          refine mv_cvV (As := [.int 18, .int r19]) (st := []) okX11_push lX11_254 (by decide) rfl rfl rfl (Nat.le_of_ble_eq_true rfl) rfl (Nat.le_of_ble_eq_true rfl) dX11_onE_155 (by omega) rfl (zX11_push (d := d - 1) (by omega) 18 r19 M20 (mv_bindE h)) (fun _ M21 h => ?_)
          refine mv_aload_n 1 dX11_onE_158 rfl ?_
          refine mv_bipush 16 dX11_onE_159 (by decide) ?_
          refine mv_iload_n 0 dX11_onE_161 rfl ?_
          refine mv_cvV (As := [.int 16, .int r19]) (st := []) okX11_push lX11_254 (by decide) rfl rfl rfl (Nat.le_of_ble_eq_true rfl) rfl (Nat.le_of_ble_eq_true rfl) dX11_onE_162 (by omega) rfl (zX11_push (d := d - 1) (by omega) 16 r19 M21 (mv_bindE h)) (fun _ M22 h => ?_)
          refine mv_aload_n 1 dX11_onE_165 rfl ?_
          refine mv_iconst 4 dX11_onE_166 (by decide) ?_
          refine mv_iconst 0 dX11_onE_167 (by decide) ?_
          refine mv_cvV (As := [.int 4, .int 0]) (st := []) okX11_push lX11_254 (by decide) rfl rfl rfl (Nat.le_of_ble_eq_true rfl) rfl (Nat.le_of_ble_eq_true rfl) dX11_onE_168 (by omega) rfl (zX11_push (d := d - 1) (by omega) 4 0 M22 (mv_bindE h)) (fun _ M23 h => ?_)
          refine mv_aload_n 1 dX11_onE_171 rfl ?_
          refine mv_iconst 1 dX11_onE_172 (by decide) ?_
          refine mv_bipush 6 dX11_onE_173 (by decide) ?_
          refine mv_cvV (As := [.int 1, .int 6]) (st := []) okX11_push lX11_254 (by decide) rfl rfl rfl (Nat.le_of_ble_eq_true rfl) rfl (Nat.le_of_ble_eq_true rfl) dX11_onE_175 (by omega) rfl (zX11_push (d := d - 1) (by omega) 1 6 M23 (mv_bindE h)) (fun _ M24 h => ?_)
          refine mv_aload_n 1 dX11_onE_178 rfl ?_
          refine mv_iconst 1 dX11_onE_179 (by decide) ?_
          refine mv_bipush 15 dX11_onE_180 (by decide) ?_
          refine mv_cvV (As := [.int 1, .int 15]) (st := []) okX11_push lX11_254 (by decide) rfl rfl rfl (Nat.le_of_ble_eq_true rfl) rfl (Nat.le_of_ble_eq_true rfl) dX11_onE_182 (by omega) rfl (zX11_push (d := d - 1) (by omega) 1 15 M24 (mv_bindE h)) (fun _ M25 h => ?_)
          refine mv_aload_n 1 dX11_onE_185 rfl ?_
          refine mv_bipush 14 dX11_onE_186 (by decide) ?_
          refine mv_iload_n 0 dX11_onE_188 rfl ?_
          refine mv_cvV (As := [.int 14, .int r19]) (st := []) okX11_push lX11_254 (by decide) rfl rfl rfl (Nat.le_of_ble_eq_true rfl) rfl (Nat.le_of_ble_eq_true rfl) dX11_onE_189 (by omega) rfl (zX11_push (d := d - 1) (by omega) 14 r19 M25 (mv_bindE h)) (fun _ M26 h => ?_)
          refine mv_aload_n 1 dX11_onE_192 rfl ?_
          refine mv_iconst 1 dX11_onE_193 (by decide) ?_
          refine mv_bipush 16 dX11_onE_194 (by decide) ?_
          refine mv_cvV (As := [.int 1, .int 16]) (st := []) okX11_push lX11_254 (by decide) rfl rfl rfl (Nat.le_of_ble_eq_true rfl) rfl (Nat.le_of_ble_eq_true rfl) dX11_onE_196 (by omega) rfl (zX11_push (d := d - 1) (by omega) 1 16 M26 (mv_bindE h)) (fun _ M27 h => ?_)
          refine mv_aload_n 1 dX11_onE_199 rfl ?_
          refine mv_bipush 13 dX11_onE_200 (by decide) ?_
          refine mv_iload_n 0 dX11_onE_202 rfl ?_
          refine mv_cvV (As := [.int 13, .int r19]) (st := []) okX11_push lX11_254 (by decide) rfl rfl rfl (Nat.le_of_ble_eq_true rfl) rfl (Nat.le_of_ble_eq_true rfl) dX11_onE_203 (by omega) rfl (zX11_push (d := d - 1) (by omega) 13 r19 M27 (mv_bindE h)) (fun _ M28 h => ?_)
          refine mv_aload_n 1 dX11_onE_206 rfl ?_
          refine mv_iconst 1 dX11_onE_207 (by decide) ?_
          refine mv_bipush 14 dX11_onE_208 (by decide) ?_
          refine mv_cvV (As := [.int 1, .int 14]) (st := []) okX11_push lX11_254 (by decide) rfl rfl rfl (Nat.le_of_ble_eq_true rfl) rfl (Nat.le_of_ble_eq_true rfl) dX11_onE_210 (by omega) rfl (zX11_push (d := d - 1) (by omega) 1 14 M28 (mv_bindE h)) (fun _ M29 h => ?_)
          refine mv_aload_n 1 dX11_onE_213 rfl ?_
          refine mv_iconst 1 dX11_onE_214 (by decide) ?_
          refine mv_bipush 8 dX11_onE_215 (by decide) ?_
          refine mv_cvV (As := [.int 1, .int 8]) (st := []) okX11_push lX11_254 (by decide) rfl rfl rfl (Nat.le_of_ble_eq_true rfl) rfl (Nat.le_of_ble_eq_true rfl) dX11_onE_217 (by omega) rfl (zX11_push (d := d - 1) (by omega) 1 8 M29 (mv_bindE h)) (fun _ M30 h => ?_)
          refine mv_aload_n 1 dX11_onE_220 rfl ?_
          refine mv_bipush 15 dX11_onE_221 (by decide) ?_
          refine mv_iload_n 0 dX11_onE_223 rfl ?_
          refine mv_cvV (As := [.int 15, .int r19]) (st := []) okX11_push lX11_254 (by decide) rfl rfl rfl (Nat.le_of_ble_eq_true rfl) rfl (Nat.le_of_ble_eq_true rfl) dX11_onE_224 (by omega) rfl (zX11_push (d := d - 1) (by omega) 15 r19 M30 (mv_bindE h)) (fun _ M31 h => ?_)
          refine mv_aload_n 1 dX11_onE_227 rfl ?_
          refine mv_iconst 4 dX11_onE_228 (by decide) ?_
          refine mv_iconst 0 dX11_onE_229 (by decide) ?_
          refine mv_cvV (As := [.int 4, .int 0]) (st := []) okX11_push lX11_254 (by decide) rfl rfl rfl (Nat.le_of_ble_eq_true rfl) rfl (Nat.le_of_ble_eq_true rfl) dX11_onE_230 (by omega) rfl (zX11_push (d := d - 1) (by omega) 4 0 M31 (mv_bindE h)) (fun _ M32 h => ?_)
          refine mv_aload_n 1 dX11_onE_233 rfl ?_
          refine mv_cvV (As := []) (st := []) okX11_pass lX11_229 (by decide) rfl rfl rfl (Nat.le_of_ble_eq_true rfl) rfl (Nat.le_of_ble_eq_true rfl) dX11_onE_234 (by omega) rfl (zX11_pass (d := d - 1) (by omega) M32 (mv_bindE h)) (fun _ M33 h => ?_)
          refine mv_goto 337 dX11_onE_237 (by decide) ?_
          exact mv_vret rfl dX11_onE_337 ⟨rfl, h⟩
      · replace h := mv_ifT z h
        refine mv_aload_n 0 dX11_onE_61 rfl ?_
        refine mv_iconst 3 dX11_onE_62 (by decide) ?_
        refine mv_aload_n 0 dX11_onE_63 rfl ?_
        refine mv_getI fX11_190 (by decide) rfl rfl dX11_onE_64 ?_
        refine mv_cvI (As := [.int 3, .int (M4.1 62 5)]) (st := []) okX11_node lX11_281 (by decide) rfl rfl rfl (Nat.le_of_ble_eq_true rfl) rfl (Nat.le_of_ble_eq_true rfl) dX11_onE_67 (by omega) rfl (zX11_node (d := d - 1) (by omega) 3 (M4.1 62 5) M4 (mv_bindE h)) (fun r34 M35 h => ?_)
        refine mv_istore_n [(1, .int r34), (0, .ref 62)] dX11_onE_70 (by decide) rfl ?_
        refine mv_aload_n 1 dX11_onE_71 rfl ?_
        refine mv_bipush 18 dX11_onE_72 (by decide) ?_
        refine mv_iload_n 0 dX11_onE_74 rfl ?_
        refine mv_cvV (As := [.int 18, .int r34]) (st := []) okX11_push lX11_254 (by decide) rfl rfl rfl (Nat.le_of_ble_eq_true rfl) rfl (Nat.le_of_ble_eq_true rfl) dX11_onE_75 (by omega) rfl (zX11_push (d := d - 1) (by omega) 18 r34 M35 (mv_bindE h)) (fun _ M36 h => ?_)
        refine mv_aload_n 1 dX11_onE_78 rfl ?_
        refine mv_bipush 16 dX11_onE_79 (by decide) ?_
        refine mv_iload_n 0 dX11_onE_81 rfl ?_
        refine mv_cvV (As := [.int 16, .int r34]) (st := []) okX11_push lX11_254 (by decide) rfl rfl rfl (Nat.le_of_ble_eq_true rfl) rfl (Nat.le_of_ble_eq_true rfl) dX11_onE_82 (by omega) rfl (zX11_push (d := d - 1) (by omega) 16 r34 M36 (mv_bindE h)) (fun _ M37 h => ?_)
        refine mv_aload_n 1 dX11_onE_85 rfl ?_
        refine mv_iconst 4 dX11_onE_86 (by decide) ?_
        refine mv_iconst 0 dX11_onE_87 (by decide) ?_
        refine mv_cvV (As := [.int 4, .int 0]) (st := []) okX11_push lX11_254 (by decide) rfl rfl rfl (Nat.le_of_ble_eq_true rfl) rfl (Nat.le_of_ble_eq_true rfl) dX11_onE_88 (by omega) rfl (zX11_push (d := d - 1) (by omega) 4 0 M37 (mv_bindE h)) (fun _ M38 h => ?_)
        refine mv_aload_n 1 dX11_onE_91 rfl ?_
        refine mv_iconst 1 dX11_onE_92 (by decide) ?_
        refine mv_bipush 6 dX11_onE_93 (by decide) ?_
        refine mv_cvV (As := [.int 1, .int 6]) (st := []) okX11_push lX11_254 (by decide) rfl rfl rfl (Nat.le_of_ble_eq_true rfl) rfl (Nat.le_of_ble_eq_true rfl) dX11_onE_95 (by omega) rfl (zX11_push (d := d - 1) (by omega) 1 6 M38 (mv_bindE h)) (fun _ M39 h => ?_)
        refine mv_aload_n 1 dX11_onE_98 rfl ?_
        refine mv_bipush 15 dX11_onE_99 (by decide) ?_
        refine mv_iload_n 0 dX11_onE_101 rfl ?_
        refine mv_cvV (As := [.int 15, .int r34]) (st := []) okX11_push lX11_254 (by decide) rfl rfl rfl (Nat.le_of_ble_eq_true rfl) rfl (Nat.le_of_ble_eq_true rfl) dX11_onE_102 (by omega) rfl (zX11_push (d := d - 1) (by omega) 15 r34 M39 (mv_bindE h)) (fun _ M40 h => ?_)
        refine mv_aload_n 1 dX11_onE_105 rfl ?_
        refine mv_iconst 4 dX11_onE_106 (by decide) ?_
        refine mv_iconst 0 dX11_onE_107 (by decide) ?_
        refine mv_cvV (As := [.int 4, .int 0]) (st := []) okX11_push lX11_254 (by decide) rfl rfl rfl (Nat.le_of_ble_eq_true rfl) rfl (Nat.le_of_ble_eq_true rfl) dX11_onE_108 (by omega) rfl (zX11_push (d := d - 1) (by omega) 4 0 M40 (mv_bindE h)) (fun _ M41 h => ?_)
        refine mv_aload_n 1 dX11_onE_111 rfl ?_
        refine mv_iconst 1 dX11_onE_112 (by decide) ?_
        refine mv_bipush 13 dX11_onE_113 (by decide) ?_
        refine mv_cvV (As := [.int 1, .int 13]) (st := []) okX11_push lX11_254 (by decide) rfl rfl rfl (Nat.le_of_ble_eq_true rfl) rfl (Nat.le_of_ble_eq_true rfl) dX11_onE_115 (by omega) rfl (zX11_push (d := d - 1) (by omega) 1 13 M41 (mv_bindE h)) (fun _ M42 h => ?_)
        refine mv_aload_n 1 dX11_onE_118 rfl ?_
        refine mv_bipush 13 dX11_onE_119 (by decide) ?_
        refine mv_iload_n 0 dX11_onE_121 rfl ?_
        refine mv_cvV (As := [.int 13, .int r34]) (st := []) okX11_push lX11_254 (by decide) rfl rfl rfl (Nat.le_of_ble_eq_true rfl) rfl (Nat.le_of_ble_eq_true rfl) dX11_onE_122 (by omega) rfl (zX11_push (d := d - 1) (by omega) 13 r34 M42 (mv_bindE h)) (fun _ M43 h => ?_)
        refine mv_aload_n 1 dX11_onE_125 rfl ?_
        refine mv_cvV (As := []) (st := []) okX11_pass lX11_229 (by decide) rfl rfl rfl (Nat.le_of_ble_eq_true rfl) rfl (Nat.le_of_ble_eq_true rfl) dX11_onE_126 (by omega) rfl (zX11_pass (d := d - 1) (by omega) M43 (mv_bindE h)) (fun _ M44 h => ?_)
        refine mv_goto 337 dX11_onE_129 (by decide) ?_
        exact mv_vret rfl dX11_onE_337 ⟨rfl, h⟩
    · replace h := mv_ifT z h
      refine mv_aload_n 0 dX11_onE_26 rfl ?_
      refine mv_bipush 6 dX11_onE_27 (by decide) ?_
      refine mv_aload_n 0 dX11_onE_29 rfl ?_
      refine mv_getI fX11_190 (by decide) rfl rfl dX11_onE_30 ?_
      refine mv_cvV (As := [.int 6, .int (M2.1 62 5)]) (st := []) okX11_stop lX11_205 (by decide) rfl rfl rfl (Nat.le_of_ble_eq_true rfl) rfl (Nat.le_of_ble_eq_true rfl) dX11_onE_33 (by omega) rfl (zX11_stop (d := d - 1) (by omega) 6 (M2.1 62 5) M2 (mv_bindE h)) (fun _ M45 h => ?_)
      exact mv_vret rfl dX11_onE_36 ⟨rfl, h⟩
  · replace h := mv_ifT z h
    refine mv_aload_n 0 dX11_onE_7 rfl ?_
    refine mv_iconst 2 dX11_onE_8 (by decide) ?_
    refine mv_aload_n 0 dX11_onE_9 rfl ?_
    refine mv_getI fX11_190 (by decide) rfl rfl dX11_onE_10 ?_
    refine mv_cvV (As := [.int 2, .int (M2.1 62 5)]) (st := []) okX11_stop lX11_205 (by decide) rfl rfl rfl (Nat.le_of_ble_eq_true rfl) rfl (Nat.le_of_ble_eq_true rfl) dX11_onE_13 (by omega) rfl (zX11_stop (d := d - 1) (by omega) 2 (M2.1 62 5) M2 (mv_bindE h)) (fun _ M46 h => ?_)
    exact mv_vret rfl dX11_onE_16 ⟨rfl, h⟩
theorem dX11_onAtom_0 : decode cX11_onAtom 0 = .ok (.aload_n 0, 1) := by decide +kernel
theorem dX11_onAtom_1 : decode cX11_onAtom 1 = .ok (.getfield 190, 3) := by decide +kernel
theorem dX11_onAtom_4 : decode cX11_onAtom 4 = .ok (.istore_n 1, 1) := by decide +kernel
theorem dX11_onAtom_5 : decode cX11_onAtom 5 = .ok (.aload_n 0, 1) := by decide +kernel
theorem dX11_onAtom_6 : decode cX11_onAtom 6 = .ok (.getfield 193, 3) := by decide +kernel
theorem dX11_onAtom_9 : decode cX11_onAtom 9 = .ok (.bipush 11, 2) := by decide +kernel
theorem dX11_onAtom_11 : decode cX11_onAtom 11 = .ok (.if_icmp .ne 32, 3) := by decide +kernel
theorem dX11_onAtom_14 : decode cX11_onAtom 14 = .ok (.aload_n 0, 1) := by decide +kernel
theorem dX11_onAtom_15 : decode cX11_onAtom 15 = .ok (.iconst 5, 1) := by decide +kernel
theorem dX11_onAtom_16 : decode cX11_onAtom 16 = .ok (.iload_n 1, 1) := by decide +kernel
theorem dX11_onAtom_17 : decode cX11_onAtom 17 = .ok (.invokevirtual 281, 3) := by decide +kernel
theorem dX11_onAtom_20 : decode cX11_onAtom 20 = .ok (.istore_n 2, 1) := by decide +kernel
theorem dX11_onAtom_21 : decode cX11_onAtom 21 = .ok (.aload_n 0, 1) := by decide +kernel
theorem dX11_onAtom_22 : decode cX11_onAtom 22 = .ok (.getfield 42, 3) := by decide +kernel
theorem dX11_onAtom_25 : decode cX11_onAtom 25 = .ok (.iload_n 2, 1) := by decide +kernel
theorem dX11_onAtom_26 : decode cX11_onAtom 26 = .ok (.aload_n 0, 1) := by decide +kernel
theorem dX11_onAtom_27 : decode cX11_onAtom 27 = .ok (.getfield 215, 3) := by decide +kernel
theorem dX11_onAtom_30 : decode cX11_onAtom 30 = .ok (.iastore, 1) := by decide +kernel
theorem dX11_onAtom_31 : decode cX11_onAtom 31 = .ok (.aload_n 0, 1) := by decide +kernel
theorem dX11_onAtom_32 : decode cX11_onAtom 32 = .ok (.iload_n 2, 1) := by decide +kernel
theorem dX11_onAtom_33 : decode cX11_onAtom 33 = .ok (.invokevirtual 291, 3) := by decide +kernel
theorem dX11_onAtom_36 : decode cX11_onAtom 36 = .ok (.aload_n 0, 1) := by decide +kernel
theorem dX11_onAtom_37 : decode cX11_onAtom 37 = .ok (.invokevirtual 229, 3) := by decide +kernel
theorem dX11_onAtom_40 : decode cX11_onAtom 40 = .ok (.goto 204, 3) := by decide +kernel
theorem dX11_onAtom_43 : decode cX11_onAtom 43 = .ok (.aload_n 0, 1) := by decide +kernel
theorem dX11_onAtom_44 : decode cX11_onAtom 44 = .ok (.getfield 193, 3) := by decide +kernel
theorem dX11_onAtom_47 : decode cX11_onAtom 47 = .ok (.bipush 9, 2) := by decide +kernel
theorem dX11_onAtom_49 : decode cX11_onAtom 49 = .ok (.if_icmp .ne 31, 3) := by decide +kernel
theorem dX11_onAtom_52 : decode cX11_onAtom 52 = .ok (.aload_n 0, 1) := by decide +kernel
theorem dX11_onAtom_53 : decode cX11_onAtom 53 = .ok (.bipush 6, 2) := by decide +kernel
theorem dX11_onAtom_55 : decode cX11_onAtom 55 = .ok (.iload_n 1, 1) := by decide +kernel
theorem dX11_onAtom_56 : decode cX11_onAtom 56 = .ok (.invokevirtual 281, 3) := by decide +kernel
theorem dX11_onAtom_59 : decode cX11_onAtom 59 = .ok (.istore_n 2, 1) := by decide +kernel
theorem dX11_onAtom_60 : decode cX11_onAtom 60 = .ok (.aload_n 0, 1) := by decide +kernel
theorem dX11_onAtom_61 : decode cX11_onAtom 61 = .ok (.bipush 19, 2) := by decide +kernel
theorem dX11_onAtom_63 : decode cX11_onAtom 63 = .ok (.iload_n 2, 1) := by decide +kernel
theorem dX11_onAtom_64 : decode cX11_onAtom 64 = .ok (.invokevirtual 254, 3) := by decide +kernel
theorem dX11_onAtom_67 : decode cX11_onAtom 67 = .ok (.aload_n 0, 1) := by decide +kernel
theorem dX11_onAtom_68 : decode cX11_onAtom 68 = .ok (.iconst 2, 1) := by decide +kernel
theorem dX11_onAtom_69 : decode cX11_onAtom 69 = .ok (.iconst 0, 1) := by decide +kernel
theorem dX11_onAtom_70 : decode cX11_onAtom 70 = .ok (.invokevirtual 254, 3) := by decide +kernel
theorem dX11_onAtom_73 : decode cX11_onAtom 73 = .ok (.aload_n 0, 1) := by decide +kernel
theorem dX11_onAtom_74 : decode cX11_onAtom 74 = .ok (.invokevirtual 229, 3) := by decide +kernel
theorem dX11_onAtom_77 : decode cX11_onAtom 77 = .ok (.goto 167, 3) := by decide +kernel
theorem dX11_onAtom_80 : decode cX11_onAtom 80 = .ok (.aload_n 0, 1) := by decide +kernel
theorem dX11_onAtom_81 : decode cX11_onAtom 81 = .ok (.getfield 193, 3) := by decide +kernel
theorem dX11_onAtom_84 : decode cX11_onAtom 84 = .ok (.bipush 10, 2) := by decide +kernel
theorem dX11_onAtom_86 : decode cX11_onAtom 86 = .ok (.if_icmp .ne 120, 3) := by decide +kernel
theorem dX11_onAtom_89 : decode cX11_onAtom 89 = .ok (.aload_n 0, 1) := by decide +kernel
theorem dX11_onAtom_90 : decode cX11_onAtom 90 = .ok (.bipush 7, 2) := by decide +kernel
theorem dX11_onAtom_92 : decode cX11_onAtom 92 = .ok (.iload_n 1, 1) := by decide +kernel
theorem dX11_onAtom_93 : decode cX11_onAtom 93 = .ok (.invokevirtual 281, 3) := by decide +kernel
theorem dX11_onAtom_96 : decode cX11_onAtom 96 = .ok (.istore_n 2, 1) := by decide +kernel
theorem dX11_onAtom_97 : decode cX11_onAtom 97 = .ok (.aload_n 0, 1) := by decide +kernel
theorem dX11_onAtom_98 : decode cX11_onAtom 98 = .ok (.getfield 57, 3) := by decide +kernel
theorem dX11_onAtom_101 : decode cX11_onAtom 101 = .ok (.iload_n 2, 1) := by decide +kernel
theorem dX11_onAtom_102 : decode cX11_onAtom 102 = .ok (.aload_n 0, 1) := by decide +kernel
theorem dX11_onAtom_103 : decode cX11_onAtom 103 = .ok (.getfield 222, 3) := by decide +kernel
theorem dX11_onAtom_106 : decode cX11_onAtom 106 = .ok (.lastore, 1) := by decide +kernel
theorem dX11_onAtom_107 : decode cX11_onAtom 107 = .ok (.aload_n 0, 1) := by decide +kernel
theorem dX11_onAtom_108 : decode cX11_onAtom 108 = .ok (.invokevirtual 229, 3) := by decide +kernel
theorem dX11_onAtom_111 : decode cX11_onAtom 111 = .ok (.aload_n 0, 1) := by decide +kernel
theorem dX11_onAtom_112 : decode cX11_onAtom 112 = .ok (.getfield 176, 3) := by decide +kernel
theorem dX11_onAtom_115 : decode cX11_onAtom 115 = .ok (.ifCond .ne 83, 3) := by decide +kernel
theorem dX11_onAtom_118 : decode cX11_onAtom 118 = .ok (.aload_n 0, 1) := by decide +kernel
theorem dX11_onAtom_119 : decode cX11_onAtom 119 = .ok (.getfield 193, 3) := by decide +kernel
theorem dX11_onAtom_122 : decode cX11_onAtom 122 = .ok (.bipush 14, 2) := by decide +kernel
theorem dX11_onAtom_124 : decode cX11_onAtom 124 = .ok (.if_icmp .ne 74, 3) := by decide +kernel
theorem dX11_onAtom_127 : decode cX11_onAtom 127 = .ok (.aload_n 0, 1) := by decide +kernel
theorem dX11_onAtom_128 : decode cX11_onAtom 128 = .ok (.getfield 39, 3) := by decide +kernel
theorem dX11_onAtom_131 : decode cX11_onAtom 131 = .ok (.iload_n 2, 1) := by decide +kernel
theorem dX11_onAtom_132 : decode cX11_onAtom 132 = .ok (.bipush 8, 2) := by decide +kernel
theorem dX11_onAtom_134 : decode cX11_onAtom 134 = .ok (.iastore, 1) := by decide +kernel
theorem dX11_onAtom_135 : decode cX11_onAtom 135 = .ok (.aload_n 0, 1) := by decide +kernel
theorem dX11_onAtom_136 : decode cX11_onAtom 136 = .ok (.getfield 45, 3) := by decide +kernel
theorem dX11_onAtom_139 : decode cX11_onAtom 139 = .ok (.iload_n 2, 1) := by decide +kernel
theorem dX11_onAtom_140 : decode cX11_onAtom 140 = .ok (.aload_n 0, 1) := by decide +kernel
theorem dX11_onAtom_141 : decode cX11_onAtom 141 = .ok (.getfield 294, 3) := by decide +kernel
theorem dX11_onAtom_144 : decode cX11_onAtom 144 = .ok (.iastore, 1) := by decide +kernel
theorem dX11_onAtom_145 : decode cX11_onAtom 145 = .ok (.aload_n 0, 1) := by decide +kernel
theorem dX11_onAtom_146 : decode cX11_onAtom 146 = .ok (.invokevirtual 229, 3) := by decide +kernel
theorem dX11_onAtom_149 : decode cX11_onAtom 149 = .ok (.aload_n 0, 1) := by decide +kernel
theorem dX11_onAtom_150 : decode cX11_onAtom 150 = .ok (.getfield 176, 3) := by decide +kernel
theorem dX11_onAtom_153 : decode cX11_onAtom 153 = .ok (.ifCond .ne 28, 3) := by decide +kernel
theorem dX11_onAtom_156 : decode cX11_onAtom 156 = .ok (.aload_n 0, 1) := by decide +kernel
theorem dX11_onAtom_157 : decode cX11_onAtom 157 = .ok (.getfield 193, 3) := by decide +kernel
theorem dX11_onAtom_160 : decode cX11_onAtom 160 = .ok (.bipush 15, 2) := by decide +kernel
theorem dX11_onAtom_162 : decode cX11_onAtom 162 = .ok (.if_icmp .eq 19, 3) := by decide +kernel
theorem dX11_onAtom_165 : decode cX11_onAtom 165 = .ok (.aload_n 0, 1) := by decide +kernel
theorem dX11_onAtom_166 : decode cX11_onAtom 166 = .ok (.bipush 20, 2) := by decide +kernel
theorem dX11_onAtom_168 : decode cX11_onAtom 168 = .ok (.iload_n 2, 1) := by decide +kernel
theorem dX11_onAtom_169 : decode cX11_onAtom 169 = .ok (.invokevirtual 254, 3) := by decide +kernel
theorem dX11_onAtom_172 : decode cX11_onAtom 172 = .ok (.aload_n 0, 1) := by decide +kernel
theorem dX11_onAtom_173 : decode cX11_onAtom 173 = .ok (.iconst 4, 1) := by decide +kernel
theorem dX11_onAtom_174 : decode cX11_onAtom 174 = .ok (.iconst 0, 1) := by decide +kernel
theorem dX11_onAtom_175 : decode cX11_onAtom 175 = .ok (.invokevirtual 254, 3) := by decide +kernel
theorem dX11_onAtom_178 : decode cX11_onAtom 178 = .ok (.goto 25, 3) := by decide +kernel
theorem dX11_onAtom_181 : decode cX11_onAtom 181 = .ok (.aload_n 0, 1) := by decide +kernel
theorem dX11_onAtom_182 : decode cX11_onAtom 182 = .ok (.bipush 21, 2) := by decide +kernel
theorem dX11_onAtom_184 : decode cX11_onAtom 184 = .ok (.iload_n 2, 1) := by decide +kernel
theorem dX11_onAtom_185 : decode cX11_onAtom 185 = .ok (.invokevirtual 254, 3) := by decide +kernel
theorem dX11_onAtom_188 : decode cX11_onAtom 188 = .ok (.aload_n 0, 1) := by decide +kernel
theorem dX11_onAtom_189 : decode cX11_onAtom 189 = .ok (.iconst 1, 1) := by decide +kernel
theorem dX11_onAtom_190 : decode cX11_onAtom 190 = .ok (.bipush 15, 2) := by decide +kernel
theorem dX11_onAtom_192 : decode cX11_onAtom 192 = .ok (.invokevirtual 254, 3) := by decide +kernel
theorem dX11_onAtom_195 : decode cX11_onAtom 195 = .ok (.goto 8, 3) := by decide +kernel
theorem dX11_onAtom_198 : decode cX11_onAtom 198 = .ok (.aload_n 0, 1) := by decide +kernel
theorem dX11_onAtom_199 : decode cX11_onAtom 199 = .ok (.iload_n 2, 1) := by decide +kernel
theorem dX11_onAtom_200 : decode cX11_onAtom 200 = .ok (.invokevirtual 291, 3) := by decide +kernel
theorem dX11_onAtom_203 : decode cX11_onAtom 203 = .ok (.goto 41, 3) := by decide +kernel
theorem dX11_onAtom_206 : decode cX11_onAtom 206 = .ok (.aload_n 0, 1) := by decide +kernel
theorem dX11_onAtom_207 : decode cX11_onAtom 207 = .ok (.getfield 193, 3) := by decide +kernel
theorem dX11_onAtom_210 : decode cX11_onAtom 210 = .ok (.bipush 14, 2) := by decide +kernel
theorem dX11_onAtom_212 : decode cX11_onAtom 212 = .ok (.if_icmp .ne 23, 3) := by decide +kernel
theorem dX11_onAtom_215 : decode cX11_onAtom 215 = .ok (.aload_n 0, 1) := by decide +kernel
theorem dX11_onAtom_216 : decode cX11_onAtom 216 = .ok (.bipush 22, 2) := by decide +kernel
theorem dX11_onAtom_218 : decode cX11_onAtom 218 = .ok (.iload_n 1, 1) := by decide +kernel
theorem dX11_onAtom_219 : decode cX11_onAtom 219 = .ok (.invokevirtual 254, 3) := by decide +kernel
theorem dX11_onAtom_222 : decode cX11_onAtom 222 = .ok (.aload_n 0, 1) := by decide +kernel
theorem dX11_onAtom_223 : decode cX11_onAtom 223 = .ok (.iconst 4, 1) := by decide +kernel
theorem dX11_onAtom_224 : decode cX11_onAtom 224 = .ok (.iconst 0, 1) := by decide +kernel
theorem dX11_onAtom_225 : decode cX11_onAtom 225 = .ok (.invokevirtual 254, 3) := by decide +kernel
theorem dX11_onAtom_228 : decode cX11_onAtom 228 = .ok (.aload_n 0, 1) := by decide +kernel
theorem dX11_onAtom_229 : decode cX11_onAtom 229 = .ok (.invokevirtual 229, 3) := by decide +kernel
theorem dX11_onAtom_232 : decode cX11_onAtom 232 = .ok (.goto 12, 3) := by decide +kernel
theorem dX11_onAtom_235 : decode cX11_onAtom 235 = .ok (.aload_n 0, 1) := by decide +kernel
theorem dX11_onAtom_236 : decode cX11_onAtom 236 = .ok (.iconst 2, 1) := by decide +kernel
theorem dX11_onAtom_237 : decode cX11_onAtom 237 = .ok (.aload_n 0, 1) := by decide +kernel
theorem dX11_onAtom_238 : decode cX11_onAtom 238 = .ok (.getfield 190, 3) := by decide +kernel
theorem dX11_onAtom_241 : decode cX11_onAtom 241 = .ok (.invokevirtual 205, 3) := by decide +kernel
theorem dX11_onAtom_244 : decode cX11_onAtom 244 = .ok (.return_, 1) := by decide +kernel
noncomputable def fX11_onAtom_203 (M : mv_M) : Option (Unit × mv_M) :=
  some ((), M)
set_option maxRecDepth 100000 in
set_option maxHeartbeats 4000000 in
theorem zX11_onAtom_203 {l : Launch} {d : Nat} {Q : Unit → mv_M → Prop} (hd : 5 ≤ d) (M : mv_M) (h : mv_ok (fX11_onAtom_203 M) Q) : mv l mX11_onAtom d 0 203 [] [] M (mv_qV Q) := by
  unfold fX11_onAtom_203 at h
  refine mv_goto 244 dX11_onAtom_203 (by decide) ?_
  exact mv_vret rfl dX11_onAtom_244 ⟨rfl, h⟩
noncomputable def fX11_onAtom_181 (x2 : Int32) (M : mv_M) : Option (Unit × mv_M) :=
  mv_bind (fX11_push 21 x2 M) fun _ M30 =>
  mv_bind (fX11_push 1 15 M30) fun _ M31 =>
  fX11_onAtom_203 M31
set_option maxRecDepth 100000 in
set_option maxHeartbeats 4000000 in
theorem zX11_onAtom_181 {l : Launch} {d : Nat} {Q : Unit → mv_M → Prop} (hd : 5 ≤ d) (x2 : Int32) (M : mv_M) (h : mv_ok (fX11_onAtom_181 x2 M) Q) : mv l mX11_onAtom d 0 181 [(0, .ref 62), (2, .int x2)] [] M (mv_qV Q) := by
  unfold fX11_onAtom_181 at h
  refine mv_aload_n 0 dX11_onAtom_181 rfl ?_
  refine mv_bipush 21 dX11_onAtom_182 (by decide) ?_
  refine mv_iload_n 1 dX11_onAtom_184 rfl ?_
  refine mv_cvV (As := [.int 21, .int x2]) (st := []) okX11_push lX11_254 (by decide) rfl rfl rfl (Nat.le_of_ble_eq_true rfl) rfl (Nat.le_of_ble_eq_true rfl) dX11_onAtom_185 (by omega) rfl (zX11_push (d := d - 1) (by omega) 21 x2 M (mv_bindE h)) (fun _ M30 h => ?_)
  refine mv_aload_n 0 dX11_onAtom_188 rfl ?_
  refine mv_iconst 1 dX11_onAtom_189 (by decide) ?_
  refine mv_bipush 15 dX11_onAtom_190 (by decide) ?_
  refine mv_cvV (As := [.int 1, .int 15]) (st := []) okX11_push lX11_254 (by decide) rfl rfl rfl (Nat.le_of_ble_eq_true rfl) rfl (Nat.le_of_ble_eq_true rfl) dX11_onAtom_192 (by omega) rfl (zX11_push (d := d - 1) (by omega) 1 15 M30 (mv_bindE h)) (fun _ M31 h => ?_)
  refine mv_goto 203 dX11_onAtom_195 (by decide) ?_
  refine mv_sub [] rfl ?_
  exact zX11_onAtom_203 hd M31 h
noncomputable def fX11_onAtom_198 (x2 : Int32) (M : mv_M) : Option (Unit × mv_M) :=
  mv_bind (fX11_make x2 M) fun _ M29 =>
  fX11_onAtom_203 M29
set_option maxRecDepth 100000 in
set_option maxHeartbeats 4000000 in
theorem zX11_onAtom_198 {l : Launch} {d : Nat} {Q : Unit → mv_M → Prop} (hd : 5 ≤ d) (x2 : Int32) (M : mv_M) (h : mv_ok (fX11_onAtom_198 x2 M) Q) : mv l mX11_onAtom d 0 198 [(0, .ref 62), (2, .int x2)] [] M (mv_qV Q) := by
  unfold fX11_onAtom_198 at h
  refine mv_aload_n 0 dX11_onAtom_198 rfl ?_
  refine mv_iload_n 1 dX11_onAtom_199 rfl ?_
  refine mv_cvV (As := [.int x2]) (st := []) okX11_make lX11_291 (by decide) rfl rfl rfl (Nat.le_of_ble_eq_true rfl) rfl (Nat.le_of_ble_eq_true rfl) dX11_onAtom_200 (by omega) rfl (zX11_make (d := d - 1) (by omega) x2 M (mv_bindE h)) (fun _ M29 h => ?_)
  refine mv_sub [] rfl ?_
  exact zX11_onAtom_203 hd M29 h
noncomputable def fX11_onAtom (M : mv_M) : Option (Unit × mv_M) :=
  mv_let (M.1 62 5) fun v1 =>
  if (M.1 62 4) = 11 then
    mv_bind (fX11_node 5 v1 M) fun r23 M24 =>
    mv_chk (mv_inb r23 2002) <|
    mv_let (mv_si M24 72 r23.toNatClampNeg (M24.1 62 8)) fun M26 =>
    mv_bind (fX11_make r23 M26) fun _ M27 =>
    mv_bind (fX11_pass M27) fun _ M28 =>
    some ((), M28)
  else
    if (M.1 62 4) = 9 then
      mv_bind (fX11_node 6 v1 M) fun r18 M19 =>
      mv_bind (fX11_push 19 r18 M19) fun _ M20 =>
      mv_bind (fX11_push 2 0 M20) fun _ M21 =>
      mv_bind (fX11_pass M21) fun _ M22 =>
      some ((), M22)
    else
      if (M.1 62 4) = 10 then
        mv_bind (fX11_node 7 v1 M) fun r6 M7 =>
        mv_chk (mv_inb r6 2002) <|
        mv_let (mv_sl M7 77 r6.toNatClampNeg (M7.2.1 62 7)) fun M9 =>
        mv_bind (fX11_pass M9) fun _ M10 =>
        if (M10.1 62 9) = 0 then
          if (M10.1 62 4) = 14 then
            mv_chk (mv_inb r6 2002) <|
            mv_let (mv_si M10 71 r6.toNatClampNeg 8) fun M12 =>
            mv_chk (mv_inb r6 2002) <|
            mv_let (mv_si M12 73 r6.toNatClampNeg (M12.1 62 32)) fun M14 =>
            mv_bind (fX11_pass M14) fun _ M15 =>
            if (M15.1 62 9) = 0 then
              if (M15.1 62 4) = 15 then
                fX11_onAtom_181 r6 M15
              else
                mv_bind (fX11_push 20 r6 M15) fun _ M16 =>
                mv_bind (fX11_push 4 0 M16) fun _ M17 =>
                fX11_onAtom_203 M17
            else
              fX11_onAtom_181 r6 M15
          else
            fX11_onAtom_198 r6 M10
        else
          fX11_onAtom_198 r6 M10
      else
        if (M.1 62 4) = 14 then
          mv_bind (fX11_push 22 v1 M) fun _ M3 =>
          mv_bind (fX11_push 4 0 M3) fun _ M4 =>
          mv_bind (fX11_pass M4) fun _ M5 =>
          some ((), M5)
        else
          mv_bind (fX11_stop 2 (M.1 62 5) M) fun _ M2 =>
          some ((), M2)
set_option maxRecDepth 100000 in
set_option maxHeartbeats 4000000 in
theorem zX11_onAtom {l : Launch} {d : Nat} {Q : Unit → mv_M → Prop} (hd : 5 ≤ d) (M : mv_M) (h : mv_ok (fX11_onAtom M) Q) : mv l mX11_onAtom d 0 0 (lv_args 0 [.ref 62]) [] M (mv_qV Q) := by
  unfold fX11_onAtom at h
  show mv l mX11_onAtom d 0 0 [(0, .ref 62)] [] M (mv_qV Q)
  refine mv_aload_n 0 dX11_onAtom_0 rfl ?_
  refine mv_getI fX11_190 (by decide) rfl rfl dX11_onAtom_1 ?_
  refine mv_topi (fun v1 ev1 => ?_)
  replace h := mv_letE h v1 ev1
  refine mv_istore_n [(1, .int v1), (0, .ref 62)] dX11_onAtom_4 (by decide) rfl ?_
  refine mv_aload_n 1 dX11_onAtom_5 rfl ?_
  refine mv_getI fX11_193 (by decide) rfl rfl dX11_onAtom_6 ?_
  refine mv_bipush 11 dX11_onAtom_9 (by decide) ?_
  refine mv_icmp_ne 43 dX11_onAtom_11 (by decide) (fun z => ?_) (fun z => ?_)
  · replace h := mv_ifF z h
    refine mv_aload_n 1 dX11_onAtom_43 rfl ?_
    refine mv_getI fX11_193 (by decide) rfl rfl dX11_onAtom_44 ?_
    refine mv_bipush 9 dX11_onAtom_47 (by decide) ?_
    refine mv_icmp_ne 80 dX11_onAtom_49 (by decide) (fun z => ?_) (fun z => ?_)
    · replace h := mv_ifF z h
      refine mv_aload_n 1 dX11_onAtom_80 rfl ?_
      refine mv_getI fX11_193 (by decide) rfl rfl dX11_onAtom_81 ?_
      refine mv_bipush 10 dX11_onAtom_84 (by decide) ?_
      refine mv_icmp_ne 206 dX11_onAtom_86 (by decide) (fun z => ?_) (fun z => ?_)
      · replace h := mv_ifF z h
        refine mv_aload_n 1 dX11_onAtom_206 rfl ?_
        refine mv_getI fX11_193 (by decide) rfl rfl dX11_onAtom_207 ?_
        refine mv_bipush 14 dX11_onAtom_210 (by decide) ?_
        refine mv_icmp_ne 235 dX11_onAtom_212 (by decide) (fun z => ?_) (fun z => ?_)
        · replace h := mv_ifF z h
          refine mv_aload_n 1 dX11_onAtom_235 rfl ?_
          refine mv_iconst 2 dX11_onAtom_236 (by decide) ?_
          refine mv_aload_n 1 dX11_onAtom_237 rfl ?_
          refine mv_getI fX11_190 (by decide) rfl rfl dX11_onAtom_238 ?_
          refine mv_cvV (As := [.int 2, .int (M.1 62 5)]) (st := []) okX11_stop lX11_205 (by decide) rfl rfl rfl (Nat.le_of_ble_eq_true rfl) rfl (Nat.le_of_ble_eq_true rfl) dX11_onAtom_241 (by omega) rfl (zX11_stop (d := d - 1) (by omega) 2 (M.1 62 5) M (mv_bindE h)) (fun _ M2 h => ?_)
          exact mv_vret rfl dX11_onAtom_244 ⟨rfl, h⟩
        · replace h := mv_ifT z h
          refine mv_aload_n 1 dX11_onAtom_215 rfl ?_
          refine mv_bipush 22 dX11_onAtom_216 (by decide) ?_
          refine mv_iload_n 0 dX11_onAtom_218 rfl ?_
          refine mv_cvV (As := [.int 22, .int v1]) (st := []) okX11_push lX11_254 (by decide) rfl rfl rfl (Nat.le_of_ble_eq_true rfl) rfl (Nat.le_of_ble_eq_true rfl) dX11_onAtom_219 (by omega) rfl (zX11_push (d := d - 1) (by omega) 22 v1 M (mv_bindE h)) (fun _ M3 h => ?_)
          refine mv_aload_n 1 dX11_onAtom_222 rfl ?_
          refine mv_iconst 4 dX11_onAtom_223 (by decide) ?_
          refine mv_iconst 0 dX11_onAtom_224 (by decide) ?_
          refine mv_cvV (As := [.int 4, .int 0]) (st := []) okX11_push lX11_254 (by decide) rfl rfl rfl (Nat.le_of_ble_eq_true rfl) rfl (Nat.le_of_ble_eq_true rfl) dX11_onAtom_225 (by omega) rfl (zX11_push (d := d - 1) (by omega) 4 0 M3 (mv_bindE h)) (fun _ M4 h => ?_)
          refine mv_aload_n 1 dX11_onAtom_228 rfl ?_
          refine mv_cvV (As := []) (st := []) okX11_pass lX11_229 (by decide) rfl rfl rfl (Nat.le_of_ble_eq_true rfl) rfl (Nat.le_of_ble_eq_true rfl) dX11_onAtom_229 (by omega) rfl (zX11_pass (d := d - 1) (by omega) M4 (mv_bindE h)) (fun _ M5 h => ?_)
          refine mv_goto 244 dX11_onAtom_232 (by decide) ?_
          exact mv_vret rfl dX11_onAtom_244 ⟨rfl, h⟩
      · replace h := mv_ifT z h
        refine mv_aload_n 1 dX11_onAtom_89 rfl ?_
        refine mv_bipush 7 dX11_onAtom_90 (by decide) ?_
        refine mv_iload_n 0 dX11_onAtom_92 rfl ?_
        refine mv_cvI (As := [.int 7, .int v1]) (st := []) okX11_node lX11_281 (by decide) rfl rfl rfl (Nat.le_of_ble_eq_true rfl) rfl (Nat.le_of_ble_eq_true rfl) dX11_onAtom_93 (by omega) rfl (zX11_node (d := d - 1) (by omega) 7 v1 M (mv_bindE h)) (fun r6 M7 h => ?_)
        refine mv_istore_n [(2, .int r6), (1, .int v1), (0, .ref 62)] dX11_onAtom_96 (by decide) rfl ?_
        refine mv_aload_n 2 dX11_onAtom_97 rfl ?_
        refine mv_getR 77 fX11_57 (by decide) rfl rfl rfl dX11_onAtom_98 ?_
        refine mv_iload_n 0 dX11_onAtom_101 rfl ?_
        refine mv_aload_n 2 dX11_onAtom_102 rfl ?_
        refine mv_getL fX11_222 (by decide) rfl rfl dX11_onAtom_103 ?_
        obtain ⟨hi8, h⟩ := mv_chkE h
        refine mv_lst (by decide) rfl (mv_inE hi8) dX11_onAtom_106 (fun M9 eM9 => ?_)
        replace h := mv_letE h M9 eM9
        refine mv_aload_n 2 dX11_onAtom_107 rfl ?_
        refine mv_cvV (As := []) (st := []) okX11_pass lX11_229 (by decide) rfl rfl rfl (Nat.le_of_ble_eq_true rfl) rfl (Nat.le_of_ble_eq_true rfl) dX11_onAtom_108 (by omega) rfl (zX11_pass (d := d - 1) (by omega) M9 (mv_bindE h)) (fun _ M10 h => ?_)
        refine mv_aload_n 2 dX11_onAtom_111 rfl ?_
        refine mv_getI fX11_176 (by decide) rfl rfl dX11_onAtom_112 ?_
        refine mv_if_ne 198 dX11_onAtom_115 (by decide) (fun z => ?_) (fun z => ?_)
        · replace h := mv_ifF z h
          refine mv_sub [2, 0] rfl ?_
          exact zX11_onAtom_198 hd r6 M10 h
        · replace h := mv_ifT z h
          refine mv_aload_n 2 dX11_onAtom_118 rfl ?_
          refine mv_getI fX11_193 (by decide) rfl rfl dX11_onAtom_119 ?_
          refine mv_bipush 14 dX11_onAtom_122 (by decide) ?_
          refine mv_icmp_ne 198 dX11_onAtom_124 (by decide) (fun z => ?_) (fun z => ?_)
          · replace h := mv_ifF z h
            refine mv_sub [2, 0] rfl ?_
            exact zX11_onAtom_198 hd r6 M10 h
          · replace h := mv_ifT z h
            refine mv_aload_n 2 dX11_onAtom_127 rfl ?_
            refine mv_getR 71 fX11_39 (by decide) rfl rfl rfl dX11_onAtom_128 ?_
            refine mv_iload_n 0 dX11_onAtom_131 rfl ?_
            refine mv_bipush 8 dX11_onAtom_132 (by decide) ?_
            obtain ⟨hi11, h⟩ := mv_chkE h
            refine mv_ist (by decide) rfl (mv_inE hi11) dX11_onAtom_134 (fun M12 eM12 => ?_)
            replace h := mv_letE h M12 eM12
            refine mv_aload_n 2 dX11_onAtom_135 rfl ?_
            refine mv_getR 73 fX11_45 (by decide) rfl rfl rfl dX11_onAtom_136 ?_
            refine mv_iload_n 0 dX11_onAtom_139 rfl ?_
            refine mv_aload_n 2 dX11_onAtom_140 rfl ?_
            refine mv_getI fX11_294 (by decide) rfl rfl dX11_onAtom_141 ?_
            obtain ⟨hi13, h⟩ := mv_chkE h
            refine mv_ist (by decide) rfl (mv_inE hi13) dX11_onAtom_144 (fun M14 eM14 => ?_)
            replace h := mv_letE h M14 eM14
            refine mv_aload_n 2 dX11_onAtom_145 rfl ?_
            refine mv_cvV (As := []) (st := []) okX11_pass lX11_229 (by decide) rfl rfl rfl (Nat.le_of_ble_eq_true rfl) rfl (Nat.le_of_ble_eq_true rfl) dX11_onAtom_146 (by omega) rfl (zX11_pass (d := d - 1) (by omega) M14 (mv_bindE h)) (fun _ M15 h => ?_)
            refine mv_aload_n 2 dX11_onAtom_149 rfl ?_
            refine mv_getI fX11_176 (by decide) rfl rfl dX11_onAtom_150 ?_
            refine mv_if_ne 181 dX11_onAtom_153 (by decide) (fun z => ?_) (fun z => ?_)
            · replace h := mv_ifF z h
              refine mv_sub [2, 0] rfl ?_
              exact zX11_onAtom_181 hd r6 M15 h
            · replace h := mv_ifT z h
              refine mv_aload_n 2 dX11_onAtom_156 rfl ?_
              refine mv_getI fX11_193 (by decide) rfl rfl dX11_onAtom_157 ?_
              refine mv_bipush 15 dX11_onAtom_160 (by decide) ?_
              refine mv_icmp_eq 181 dX11_onAtom_162 (by decide) (fun z => ?_) (fun z => ?_)
              · replace h := mv_ifT z h
                refine mv_sub [2, 0] rfl ?_
                exact zX11_onAtom_181 hd r6 M15 h
              · replace h := mv_ifF z h
                refine mv_aload_n 2 dX11_onAtom_165 rfl ?_
                refine mv_bipush 20 dX11_onAtom_166 (by decide) ?_
                refine mv_iload_n 0 dX11_onAtom_168 rfl ?_
                refine mv_cvV (As := [.int 20, .int r6]) (st := []) okX11_push lX11_254 (by decide) rfl rfl rfl (Nat.le_of_ble_eq_true rfl) rfl (Nat.le_of_ble_eq_true rfl) dX11_onAtom_169 (by omega) rfl (zX11_push (d := d - 1) (by omega) 20 r6 M15 (mv_bindE h)) (fun _ M16 h => ?_)
                refine mv_aload_n 2 dX11_onAtom_172 rfl ?_
                refine mv_iconst 4 dX11_onAtom_173 (by decide) ?_
                refine mv_iconst 0 dX11_onAtom_174 (by decide) ?_
                refine mv_cvV (As := [.int 4, .int 0]) (st := []) okX11_push lX11_254 (by decide) rfl rfl rfl (Nat.le_of_ble_eq_true rfl) rfl (Nat.le_of_ble_eq_true rfl) dX11_onAtom_175 (by omega) rfl (zX11_push (d := d - 1) (by omega) 4 0 M16 (mv_bindE h)) (fun _ M17 h => ?_)
                refine mv_goto 203 dX11_onAtom_178 (by decide) ?_
                refine mv_sub [] rfl ?_
                exact zX11_onAtom_203 hd M17 h
    · replace h := mv_ifT z h
      refine mv_aload_n 1 dX11_onAtom_52 rfl ?_
      refine mv_bipush 6 dX11_onAtom_53 (by decide) ?_
      refine mv_iload_n 0 dX11_onAtom_55 rfl ?_
      refine mv_cvI (As := [.int 6, .int v1]) (st := []) okX11_node lX11_281 (by decide) rfl rfl rfl (Nat.le_of_ble_eq_true rfl) rfl (Nat.le_of_ble_eq_true rfl) dX11_onAtom_56 (by omega) rfl (zX11_node (d := d - 1) (by omega) 6 v1 M (mv_bindE h)) (fun r18 M19 h => ?_)
      refine mv_istore_n [(2, .int r18), (1, .int v1), (0, .ref 62)] dX11_onAtom_59 (by decide) rfl ?_
      refine mv_aload_n 2 dX11_onAtom_60 rfl ?_
      refine mv_bipush 19 dX11_onAtom_61 (by decide) ?_
      refine mv_iload_n 0 dX11_onAtom_63 rfl ?_
      refine mv_cvV (As := [.int 19, .int r18]) (st := []) okX11_push lX11_254 (by decide) rfl rfl rfl (Nat.le_of_ble_eq_true rfl) rfl (Nat.le_of_ble_eq_true rfl) dX11_onAtom_64 (by omega) rfl (zX11_push (d := d - 1) (by omega) 19 r18 M19 (mv_bindE h)) (fun _ M20 h => ?_)
      refine mv_aload_n 2 dX11_onAtom_67 rfl ?_
      refine mv_iconst 2 dX11_onAtom_68 (by decide) ?_
      refine mv_iconst 0 dX11_onAtom_69 (by decide) ?_
      refine mv_cvV (As := [.int 2, .int 0]) (st := []) okX11_push lX11_254 (by decide) rfl rfl rfl (Nat.le_of_ble_eq_true rfl) rfl (Nat.le_of_ble_eq_true rfl) dX11_onAtom_70 (by omega) rfl (zX11_push (d := d - 1) (by omega) 2 0 M20 (mv_bindE h)) (fun _ M21 h => ?_)
      refine mv_aload_n 2 dX11_onAtom_73 rfl ?_
      refine mv_cvV (As := []) (st := []) okX11_pass lX11_229 (by decide) rfl rfl rfl (Nat.le_of_ble_eq_true rfl) rfl (Nat.le_of_ble_eq_true rfl) dX11_onAtom_74 (by omega) rfl (zX11_pass (d := d - 1) (by omega) M21 (mv_bindE h)) (fun _ M22 h => ?_)
      refine mv_goto 244 dX11_onAtom_77 (by decide) ?_
      exact mv_vret rfl dX11_onAtom_244 ⟨rfl, h⟩
  · replace h := mv_ifT z h
    refine mv_aload_n 1 dX11_onAtom_14 rfl ?_
    refine mv_iconst 5 dX11_onAtom_15 (by decide) ?_
    refine mv_iload_n 0 dX11_onAtom_16 rfl ?_
    refine mv_cvI (As := [.int 5, .int v1]) (st := []) okX11_node lX11_281 (by decide) rfl rfl rfl (Nat.le_of_ble_eq_true rfl) rfl (Nat.le_of_ble_eq_true rfl) dX11_onAtom_17 (by omega) rfl (zX11_node (d := d - 1) (by omega) 5 v1 M (mv_bindE h)) (fun r23 M24 h => ?_)
    refine mv_istore_n [(2, .int r23), (1, .int v1), (0, .ref 62)] dX11_onAtom_20 (by decide) rfl ?_
    refine mv_aload_n 2 dX11_onAtom_21 rfl ?_
    refine mv_getR 72 fX11_42 (by decide) rfl rfl rfl dX11_onAtom_22 ?_
    refine mv_iload_n 0 dX11_onAtom_25 rfl ?_
    refine mv_aload_n 2 dX11_onAtom_26 rfl ?_
    refine mv_getI fX11_215 (by decide) rfl rfl dX11_onAtom_27 ?_
    obtain ⟨hi25, h⟩ := mv_chkE h
    refine mv_ist (by decide) rfl (mv_inE hi25) dX11_onAtom_30 (fun M26 eM26 => ?_)
    replace h := mv_letE h M26 eM26
    refine mv_aload_n 2 dX11_onAtom_31 rfl ?_
    refine mv_iload_n 0 dX11_onAtom_32 rfl ?_
    refine mv_cvV (As := [.int r23]) (st := []) okX11_make lX11_291 (by decide) rfl rfl rfl (Nat.le_of_ble_eq_true rfl) rfl (Nat.le_of_ble_eq_true rfl) dX11_onAtom_33 (by omega) rfl (zX11_make (d := d - 1) (by omega) r23 M26 (mv_bindE h)) (fun _ M27 h => ?_)
    refine mv_aload_n 2 dX11_onAtom_36 rfl ?_
    refine mv_cvV (As := []) (st := []) okX11_pass lX11_229 (by decide) rfl rfl rfl (Nat.le_of_ble_eq_true rfl) rfl (Nat.le_of_ble_eq_true rfl) dX11_onAtom_37 (by omega) rfl (zX11_pass (d := d - 1) (by omega) M27 (mv_bindE h)) (fun _ M28 h => ?_)
    refine mv_goto 244 dX11_onAtom_40 (by decide) ?_
    exact mv_vret rfl dX11_onAtom_244 ⟨rfl, h⟩
theorem dX11_onSum_0 : decode cX11_onSum 0 = .ok (.iload_n 1, 1) := by decide +kernel
theorem dX11_onSum_1 : decode cX11_onSum 1 = .ok (.iconst 5, 1) := by decide +kernel
theorem dX11_onSum_2 : decode cX11_onSum 2 = .ok (.if_icmp .ne 16, 3) := by decide +kernel
theorem dX11_onSum_5 : decode cX11_onSum 5 = .ok (.aload_n 0, 1) := by decide +kernel
theorem dX11_onSum_6 : decode cX11_onSum 6 = .ok (.dup, 1) := by decide +kernel
theorem dX11_onSum_7 : decode cX11_onSum 7 = .ok (.getfield 251, 3) := by decide +kernel
theorem dX11_onSum_10 : decode cX11_onSum 10 = .ok (.iconst 1, 1) := by decide +kernel
theorem dX11_onSum_11 : decode cX11_onSum 11 = .ok (.isub, 1) := by decide +kernel
theorem dX11_onSum_12 : decode cX11_onSum 12 = .ok (.putfield 251, 3) := by decide +kernel
theorem dX11_onSum_15 : decode cX11_onSum 15 = .ok (.goto 235, 3) := by decide +kernel
theorem dX11_onSum_18 : decode cX11_onSum 18 = .ok (.iload_n 1, 1) := by decide +kernel
theorem dX11_onSum_19 : decode cX11_onSum 19 = .ok (.bipush 6, 2) := by decide +kernel
theorem dX11_onSum_21 : decode cX11_onSum 21 = .ok (.if_icmp .ne 20, 3) := by decide +kernel
theorem dX11_onSum_24 : decode cX11_onSum 24 = .ok (.aload_n 0, 1) := by decide +kernel
theorem dX11_onSum_25 : decode cX11_onSum 25 = .ok (.bipush 7, 2) := by decide +kernel
theorem dX11_onSum_27 : decode cX11_onSum 27 = .ok (.iconst 0, 1) := by decide +kernel
theorem dX11_onSum_28 : decode cX11_onSum 28 = .ok (.invokevirtual 254, 3) := by decide +kernel
theorem dX11_onSum_31 : decode cX11_onSum 31 = .ok (.aload_n 0, 1) := by decide +kernel
theorem dX11_onSum_32 : decode cX11_onSum 32 = .ok (.bipush 8, 2) := by decide +kernel
theorem dX11_onSum_34 : decode cX11_onSum 34 = .ok (.iconst 0, 1) := by decide +kernel
theorem dX11_onSum_35 : decode cX11_onSum 35 = .ok (.invokevirtual 254, 3) := by decide +kernel
theorem dX11_onSum_38 : decode cX11_onSum 38 = .ok (.goto 212, 3) := by decide +kernel
theorem dX11_onSum_41 : decode cX11_onSum 41 = .ok (.iload_n 1, 1) := by decide +kernel
theorem dX11_onSum_42 : decode cX11_onSum 42 = .ok (.bipush 8, 2) := by decide +kernel
theorem dX11_onSum_44 : decode cX11_onSum 44 = .ok (.if_icmp .ne 20, 3) := by decide +kernel
theorem dX11_onSum_47 : decode cX11_onSum 47 = .ok (.aload_n 0, 1) := by decide +kernel
theorem dX11_onSum_48 : decode cX11_onSum 48 = .ok (.bipush 9, 2) := by decide +kernel
theorem dX11_onSum_50 : decode cX11_onSum 50 = .ok (.iconst 0, 1) := by decide +kernel
theorem dX11_onSum_51 : decode cX11_onSum 51 = .ok (.invokevirtual 254, 3) := by decide +kernel
theorem dX11_onSum_54 : decode cX11_onSum 54 = .ok (.aload_n 0, 1) := by decide +kernel
theorem dX11_onSum_55 : decode cX11_onSum 55 = .ok (.bipush 10, 2) := by decide +kernel
theorem dX11_onSum_57 : decode cX11_onSum 57 = .ok (.iconst 0, 1) := by decide +kernel
theorem dX11_onSum_58 : decode cX11_onSum 58 = .ok (.invokevirtual 254, 3) := by decide +kernel
theorem dX11_onSum_61 : decode cX11_onSum 61 = .ok (.goto 189, 3) := by decide +kernel
theorem dX11_onSum_64 : decode cX11_onSum 64 = .ok (.iload_n 1, 1) := by decide +kernel
theorem dX11_onSum_65 : decode cX11_onSum 65 = .ok (.bipush 10, 2) := by decide +kernel
theorem dX11_onSum_67 : decode cX11_onSum 67 = .ok (.if_icmp .ne 10, 3) := by decide +kernel
theorem dX11_onSum_70 : decode cX11_onSum 70 = .ok (.aload_n 0, 1) := by decide +kernel
theorem dX11_onSum_71 : decode cX11_onSum 71 = .ok (.invokevirtual 284, 3) := by decide +kernel
theorem dX11_onSum_74 : decode cX11_onSum 74 = .ok (.goto 176, 3) := by decide +kernel
theorem dX11_onSum_77 : decode cX11_onSum 77 = .ok (.iload_n 1, 1) := by decide +kernel
theorem dX11_onSum_78 : decode cX11_onSum 78 = .ok (.bipush 12, 2) := by decide +kernel
theorem dX11_onSum_80 : decode cX11_onSum 80 = .ok (.if_icmp .ne 62, 3) := by decide +kernel
theorem dX11_onSum_83 : decode cX11_onSum 83 = .ok (.aload_n 0, 1) := by decide +kernel
theorem dX11_onSum_84 : decode cX11_onSum 84 = .ok (.invokevirtual 287, 3) := by decide +kernel
theorem dX11_onSum_87 : decode cX11_onSum 87 = .ok (.istore_n 3, 1) := by decide +kernel
theorem dX11_onSum_88 : decode cX11_onSum 88 = .ok (.aload_n 0, 1) := by decide +kernel
theorem dX11_onSum_89 : decode cX11_onSum 89 = .ok (.invokevirtual 287, 3) := by decide +kernel
theorem dX11_onSum_92 : decode cX11_onSum 92 = .ok (.istore 4, 2) := by decide +kernel
theorem dX11_onSum_94 : decode cX11_onSum 94 = .ok (.aload_n 0, 1) := by decide +kernel
theorem dX11_onSum_95 : decode cX11_onSum 95 = .ok (.iconst 1, 1) := by decide +kernel
theorem dX11_onSum_96 : decode cX11_onSum 96 = .ok (.aload_n 0, 1) := by decide +kernel
theorem dX11_onSum_97 : decode cX11_onSum 97 = .ok (.getfield 51, 3) := by decide +kernel
theorem dX11_onSum_100 : decode cX11_onSum 100 = .ok (.iload 4, 2) := by decide +kernel
theorem dX11_onSum_102 : decode cX11_onSum 102 = .ok (.iaload, 1) := by decide +kernel
theorem dX11_onSum_103 : decode cX11_onSum 103 = .ok (.invokevirtual 281, 3) := by decide +kernel
theorem dX11_onSum_106 : decode cX11_onSum 106 = .ok (.istore 5, 2) := by decide +kernel
theorem dX11_onSum_108 : decode cX11_onSum 108 = .ok (.aload_n 0, 1) := by decide +kernel
theorem dX11_onSum_109 : decode cX11_onSum 109 = .ok (.getfield 42, 3) := by decide +kernel
theorem dX11_onSum_112 : decode cX11_onSum 112 = .ok (.iload 5, 2) := by decide +kernel
theorem dX11_onSum_114 : decode cX11_onSum 114 = .ok (.iload 4, 2) := by decide +kernel
theorem dX11_onSum_116 : decode cX11_onSum 116 = .ok (.iastore, 1) := by decide +kernel
theorem dX11_onSum_117 : decode cX11_onSum 117 = .ok (.aload_n 0, 1) := by decide +kernel
theorem dX11_onSum_118 : decode cX11_onSum 118 = .ok (.getfield 45, 3) := by decide +kernel
theorem dX11_onSum_121 : decode cX11_onSum 121 = .ok (.iload 5, 2) := by decide +kernel
theorem dX11_onSum_123 : decode cX11_onSum 123 = .ok (.iload_n 3, 1) := by decide +kernel
theorem dX11_onSum_124 : decode cX11_onSum 124 = .ok (.iastore, 1) := by decide +kernel
theorem dX11_onSum_125 : decode cX11_onSum 125 = .ok (.aload_n 0, 1) := by decide +kernel
theorem dX11_onSum_126 : decode cX11_onSum 126 = .ok (.getfield 48, 3) := by decide +kernel
theorem dX11_onSum_129 : decode cX11_onSum 129 = .ok (.iload 5, 2) := by decide +kernel
theorem dX11_onSum_131 : decode cX11_onSum 131 = .ok (.iload_n 2, 1) := by decide +kernel
theorem dX11_onSum_132 : decode cX11_onSum 132 = .ok (.iastore, 1) := by decide +kernel
theorem dX11_onSum_133 : decode cX11_onSum 133 = .ok (.aload_n 0, 1) := by decide +kernel
theorem dX11_onSum_134 : decode cX11_onSum 134 = .ok (.iload 5, 2) := by decide +kernel
theorem dX11_onSum_136 : decode cX11_onSum 136 = .ok (.invokevirtual 291, 3) := by decide +kernel
theorem dX11_onSum_139 : decode cX11_onSum 139 = .ok (.goto 111, 3) := by decide +kernel
theorem dX11_onSum_142 : decode cX11_onSum 142 = .ok (.iload_n 1, 1) := by decide +kernel
theorem dX11_onSum_143 : decode cX11_onSum 143 = .ok (.bipush 11, 2) := by decide +kernel
theorem dX11_onSum_145 : decode cX11_onSum 145 = .ok (.if_icmp .ne 24, 3) := by decide +kernel
theorem dX11_onSum_148 : decode cX11_onSum 148 = .ok (.aload_n 0, 1) := by decide +kernel
theorem dX11_onSum_149 : decode cX11_onSum 149 = .ok (.getfield 193, 3) := by decide +kernel
theorem dX11_onSum_152 : decode cX11_onSum 152 = .ok (.bipush 22, 2) := by decide +kernel
theorem dX11_onSum_154 : decode cX11_onSum 154 = .ok (.if_icmp .eq 51, 3) := by decide +kernel
theorem dX11_onSum_157 : decode cX11_onSum 157 = .ok (.aload_n 0, 1) := by decide +kernel
theorem dX11_onSum_158 : decode cX11_onSum 158 = .ok (.getfield 193, 3) := by decide +kernel
theorem dX11_onSum_161 : decode cX11_onSum 161 = .ok (.bipush 12, 2) := by decide +kernel
theorem dX11_onSum_163 : decode cX11_onSum 163 = .ok (.if_icmp .ne 87, 3) := by decide +kernel
theorem dX11_onSum_166 : decode cX11_onSum 166 = .ok (.goto 39, 3) := by decide +kernel
theorem dX11_onSum_169 : decode cX11_onSum 169 = .ok (.iload_n 1, 1) := by decide +kernel
theorem dX11_onSum_170 : decode cX11_onSum 170 = .ok (.bipush 7, 2) := by decide +kernel
theorem dX11_onSum_172 : decode cX11_onSum 172 = .ok (.if_icmp .ne 24, 3) := by decide +kernel
theorem dX11_onSum_175 : decode cX11_onSum 175 = .ok (.aload_n 0, 1) := by decide +kernel
theorem dX11_onSum_176 : decode cX11_onSum 176 = .ok (.getfield 193, 3) := by decide +kernel
theorem dX11_onSum_179 : decode cX11_onSum 179 = .ok (.bipush 19, 2) := by decide +kernel
theorem dX11_onSum_181 : decode cX11_onSum 181 = .ok (.if_icmp .eq 24, 3) := by decide +kernel
theorem dX11_onSum_184 : decode cX11_onSum 184 = .ok (.aload_n 0, 1) := by decide +kernel
theorem dX11_onSum_185 : decode cX11_onSum 185 = .ok (.getfield 193, 3) := by decide +kernel
theorem dX11_onSum_188 : decode cX11_onSum 188 = .ok (.bipush 20, 2) := by decide +kernel
theorem dX11_onSum_190 : decode cX11_onSum 190 = .ok (.if_icmp .ne 60, 3) := by decide +kernel
theorem dX11_onSum_193 : decode cX11_onSum 193 = .ok (.goto 12, 3) := by decide +kernel
theorem dX11_onSum_196 : decode cX11_onSum 196 = .ok (.aload_n 0, 1) := by decide +kernel
theorem dX11_onSum_197 : decode cX11_onSum 197 = .ok (.getfield 193, 3) := by decide +kernel
theorem dX11_onSum_200 : decode cX11_onSum 200 = .ok (.bipush 21, 2) := by decide +kernel
theorem dX11_onSum_202 : decode cX11_onSum 202 = .ok (.if_icmp .ne 48, 3) := by decide +kernel
theorem dX11_onSum_205 : decode cX11_onSum 205 = .ok (.aload_n 0, 1) := by decide +kernel
theorem dX11_onSum_206 : decode cX11_onSum 206 = .ok (.getfield 193, 3) := by decide +kernel
theorem dX11_onSum_209 : decode cX11_onSum 209 = .ok (.istore_n 3, 1) := by decide +kernel
theorem dX11_onSum_210 : decode cX11_onSum 210 = .ok (.aload_n 0, 1) := by decide +kernel
theorem dX11_onSum_211 : decode cX11_onSum 211 = .ok (.bipush 12, 2) := by decide +kernel
theorem dX11_onSum_213 : decode cX11_onSum 213 = .ok (.iload_n 3, 1) := by decide +kernel
theorem dX11_onSum_214 : decode cX11_onSum 214 = .ok (.invokevirtual 254, 3) := by decide +kernel
theorem dX11_onSum_217 : decode cX11_onSum 217 = .ok (.aload_n 0, 1) := by decide +kernel
theorem dX11_onSum_218 : decode cX11_onSum 218 = .ok (.iload_n 1, 1) := by decide +kernel
theorem dX11_onSum_219 : decode cX11_onSum 219 = .ok (.bipush 11, 2) := by decide +kernel
theorem dX11_onSum_221 : decode cX11_onSum 221 = .ok (.if_icmp .ne 8, 3) := by decide +kernel
theorem dX11_onSum_224 : decode cX11_onSum 224 = .ok (.bipush 6, 2) := by decide +kernel
theorem dX11_onSum_226 : decode cX11_onSum 226 = .ok (.goto 16, 3) := by decide +kernel
theorem dX11_onSum_229 : decode cX11_onSum 229 = .ok (.iload_n 1, 1) := by decide +kernel
theorem dX11_onSum_230 : decode cX11_onSum 230 = .ok (.bipush 7, 2) := by decide +kernel
theorem dX11_onSum_232 : decode cX11_onSum 232 = .ok (.if_icmp .ne 8, 3) := by decide +kernel
theorem dX11_onSum_235 : decode cX11_onSum 235 = .ok (.bipush 8, 2) := by decide +kernel
theorem dX11_onSum_237 : decode cX11_onSum 237 = .ok (.goto 5, 3) := by decide +kernel
theorem dX11_onSum_240 : decode cX11_onSum 240 = .ok (.bipush 10, 2) := by decide +kernel
theorem dX11_onSum_242 : decode cX11_onSum 242 = .ok (.iconst 0, 1) := by decide +kernel
theorem dX11_onSum_243 : decode cX11_onSum 243 = .ok (.invokevirtual 254, 3) := by decide +kernel
theorem dX11_onSum_246 : decode cX11_onSum 246 = .ok (.aload_n 0, 1) := by decide +kernel
theorem dX11_onSum_247 : decode cX11_onSum 247 = .ok (.invokevirtual 229, 3) := by decide +kernel
theorem dX11_onSum_250 : decode cX11_onSum 250 = .ok (.return_, 1) := by decide +kernel
noncomputable def fX11_onSum_242 (s0 : Int32) (M : mv_M) : Option (Unit × mv_M) :=
  mv_bind (fX11_push s0 0 M) fun _ M23 =>
  mv_bind (fX11_pass M23) fun _ M24 =>
  some ((), M24)
set_option maxRecDepth 100000 in
set_option maxHeartbeats 4000000 in
theorem zX11_onSum_242 {l : Launch} {d : Nat} {Q : Unit → mv_M → Prop} (hd : 6 ≤ d) (s0 : Int32) (M : mv_M) (h : mv_ok (fX11_onSum_242 s0 M) Q) : mv l mX11_onSum d 0 242 [(0, .ref 62)] [.int s0, .ref 62] M (mv_qV Q) := by
  unfold fX11_onSum_242 at h
  refine mv_iconst 0 dX11_onSum_242 (by decide) ?_
  refine mv_cvV (As := [.int s0, .int 0]) (st := []) okX11_push lX11_254 (by decide) rfl rfl rfl (Nat.le_of_ble_eq_true rfl) rfl (Nat.le_of_ble_eq_true rfl) dX11_onSum_243 (by omega) rfl (zX11_push (d := d - 1) (by omega) s0 0 M (mv_bindE h)) (fun _ M23 h => ?_)
  refine mv_aload_n 0 dX11_onSum_246 rfl ?_
  refine mv_cvV (As := []) (st := []) okX11_pass lX11_229 (by decide) rfl rfl rfl (Nat.le_of_ble_eq_true rfl) rfl (Nat.le_of_ble_eq_true rfl) dX11_onSum_247 (by omega) rfl (zX11_pass (d := d - 1) (by omega) M23 (mv_bindE h)) (fun _ M24 h => ?_)
  exact mv_vret rfl dX11_onSum_250 ⟨rfl, h⟩
noncomputable def fX11_onSum_205 (x1 : Int32) (M : mv_M) : Option (Unit × mv_M) :=
  mv_let (M.1 62 4) fun v21 =>
  mv_bind (fX11_push 12 v21 M) fun _ M22 =>
  if x1 = 11 then
    fX11_onSum_242 6 M22
  else
    if x1 = 7 then
      fX11_onSum_242 8 M22
    else
      fX11_onSum_242 10 M22
set_option maxRecDepth 100000 in
set_option maxHeartbeats 4000000 in
theorem zX11_onSum_205 {l : Launch} {d : Nat} {Q : Unit → mv_M → Prop} (hd : 6 ≤ d) (x1 : Int32) (M : mv_M) (h : mv_ok (fX11_onSum_205 x1 M) Q) : mv l mX11_onSum d 0 205 [(0, .ref 62), (1, .int x1)] [] M (mv_qV Q) := by
  unfold fX11_onSum_205 at h
  refine mv_aload_n 0 dX11_onSum_205 rfl ?_
  refine mv_getI fX11_193 (by decide) rfl rfl dX11_onSum_206 ?_
  refine mv_topi (fun v21 ev21 => ?_)
  replace h := mv_letE h v21 ev21
  refine mv_istore_n [(3, .int v21), (0, .ref 62), (1, .int x1)] dX11_onSum_209 (by decide) rfl ?_
  refine mv_aload_n 1 dX11_onSum_210 rfl ?_
  refine mv_bipush 12 dX11_onSum_211 (by decide) ?_
  refine mv_iload_n 0 dX11_onSum_213 rfl ?_
  refine mv_cvV (As := [.int 12, .int v21]) (st := []) okX11_push lX11_254 (by decide) rfl rfl rfl (Nat.le_of_ble_eq_true rfl) rfl (Nat.le_of_ble_eq_true rfl) dX11_onSum_214 (by omega) rfl (zX11_push (d := d - 1) (by omega) 12 v21 M (mv_bindE h)) (fun _ M22 h => ?_)
  refine mv_aload_n 1 dX11_onSum_217 rfl ?_
  refine mv_iload_n 2 dX11_onSum_218 rfl ?_
  refine mv_bipush 11 dX11_onSum_219 (by decide) ?_
  refine mv_icmp_ne 229 dX11_onSum_221 (by decide) (fun z => ?_) (fun z => ?_)
  · replace h := mv_ifF z h
    refine mv_iload_n 2 dX11_onSum_229 rfl ?_
    refine mv_bipush 7 dX11_onSum_230 (by decide) ?_
    refine mv_icmp_ne 240 dX11_onSum_232 (by decide) (fun z => ?_) (fun z => ?_)
    · replace h := mv_ifF z h
      refine mv_bipush 10 dX11_onSum_240 (by decide) ?_
      refine mv_sub [1] rfl ?_
      exact zX11_onSum_242 hd 10 M22 h
    · replace h := mv_ifT z h
      refine mv_bipush 8 dX11_onSum_235 (by decide) ?_
      refine mv_goto 242 dX11_onSum_237 (by decide) ?_
      refine mv_sub [1] rfl ?_
      exact zX11_onSum_242 hd 8 M22 h
  · replace h := mv_ifT z h
    refine mv_bipush 6 dX11_onSum_224 (by decide) ?_
    refine mv_goto 242 dX11_onSum_226 (by decide) ?_
    refine mv_sub [1] rfl ?_
    exact zX11_onSum_242 hd 6 M22 h
noncomputable def fX11_onSum (a0 : Int32) (a1 : Int32) (M : mv_M) : Option (Unit × mv_M) :=
  if a0 = 5 then
    mv_let (mv_si M 62 41 ((M.1 62 41) - 1)) fun M20 =>
    some ((), M20)
  else
    if a0 = 6 then
      mv_bind (fX11_push 7 0 M) fun _ M18 =>
      mv_bind (fX11_push 8 0 M18) fun _ M19 =>
      some ((), M19)
    else
      if a0 = 8 then
        mv_bind (fX11_push 9 0 M) fun _ M16 =>
        mv_bind (fX11_push 10 0 M16) fun _ M17 =>
        some ((), M17)
      else
        if a0 = 10 then
          mv_bind (fX11_onAtom M) fun _ M15 =>
          some ((), M15)
        else
          if a0 = 12 then
            mv_bind (fX11_last M) fun r1 M2 =>
            mv_bind (fX11_last M2) fun r3 M4 =>
            mv_chk (mv_inb r3 2002) <|
            mv_bind (fX11_node 1 (M4.1 75 r3.toNatClampNeg) M4) fun r6 M7 =>
            mv_chk (mv_inb r6 2002) <|
            mv_let (mv_si M7 72 r6.toNatClampNeg r3) fun M9 =>
            mv_chk (mv_inb r6 2002) <|
            mv_let (mv_si M9 73 r6.toNatClampNeg r1) fun M11 =>
            mv_chk (mv_inb r6 2002) <|
            mv_let (mv_si M11 74 r6.toNatClampNeg a1) fun M13 =>
            mv_bind (fX11_make r6 M13) fun _ M14 =>
            some ((), M14)
          else
            if a0 = 11 then
              if (M.1 62 4) = 22 then
                fX11_onSum_205 a0 M
              else
                if (M.1 62 4) = 12 then
                  fX11_onSum_205 a0 M
                else
                  some ((), M)
            else
              if a0 = 7 then
                if (M.1 62 4) = 19 then
                  fX11_onSum_205 a0 M
                else
                  if (M.1 62 4) = 20 then
                    fX11_onSum_205 a0 M
                  else
                    some ((), M)
              else
                if (M.1 62 4) = 21 then
                  fX11_onSum_205 a0 M
                else
                  some ((), M)
set_option maxRecDepth 100000 in
set_option maxHeartbeats 4000000 in
theorem zX11_onSum {l : Launch} {d : Nat} {Q : Unit → mv_M → Prop} (hd : 6 ≤ d) (a0 : Int32) (a1 : Int32) (M : mv_M) (h : mv_ok (fX11_onSum a0 a1 M) Q) : mv l mX11_onSum d 0 0 (lv_args 0 [.ref 62, .int a0, .int a1]) [] M (mv_qV Q) := by
  unfold fX11_onSum at h
  show mv l mX11_onSum d 0 0 [(0, .ref 62), (1, .int a0), (2, .int a1)] [] M (mv_qV Q)
  refine mv_iload_n 1 dX11_onSum_0 rfl ?_
  refine mv_iconst 5 dX11_onSum_1 (by decide) ?_
  refine mv_icmp_ne 18 dX11_onSum_2 (by decide) (fun z => ?_) (fun z => ?_)
  · replace h := mv_ifF z h
    refine mv_iload_n 1 dX11_onSum_18 rfl ?_
    refine mv_bipush 6 dX11_onSum_19 (by decide) ?_
    refine mv_icmp_ne 41 dX11_onSum_21 (by decide) (fun z => ?_) (fun z => ?_)
    · replace h := mv_ifF z h
      refine mv_iload_n 1 dX11_onSum_41 rfl ?_
      refine mv_bipush 8 dX11_onSum_42 (by decide) ?_
      refine mv_icmp_ne 64 dX11_onSum_44 (by decide) (fun z => ?_) (fun z => ?_)
      · replace h := mv_ifF z h
        refine mv_iload_n 1 dX11_onSum_64 rfl ?_
        refine mv_bipush 10 dX11_onSum_65 (by decide) ?_
        refine mv_icmp_ne 77 dX11_onSum_67 (by decide) (fun z => ?_) (fun z => ?_)
        · replace h := mv_ifF z h
          refine mv_iload_n 1 dX11_onSum_77 rfl ?_
          refine mv_bipush 12 dX11_onSum_78 (by decide) ?_
          refine mv_icmp_ne 142 dX11_onSum_80 (by decide) (fun z => ?_) (fun z => ?_)
          · replace h := mv_ifF z h
            refine mv_iload_n 1 dX11_onSum_142 rfl ?_
            refine mv_bipush 11 dX11_onSum_143 (by decide) ?_
            refine mv_icmp_ne 169 dX11_onSum_145 (by decide) (fun z => ?_) (fun z => ?_)
            · replace h := mv_ifF z h
              refine mv_iload_n 1 dX11_onSum_169 rfl ?_
              refine mv_bipush 7 dX11_onSum_170 (by decide) ?_
              refine mv_icmp_ne 196 dX11_onSum_172 (by decide) (fun z => ?_) (fun z => ?_)
              · replace h := mv_ifF z h
                refine mv_aload_n 0 dX11_onSum_196 rfl ?_
                refine mv_getI fX11_193 (by decide) rfl rfl dX11_onSum_197 ?_
                refine mv_bipush 21 dX11_onSum_200 (by decide) ?_
                refine mv_icmp_ne 250 dX11_onSum_202 (by decide) (fun z => ?_) (fun z => ?_)
                · replace h := mv_ifF z h
                  exact mv_vret rfl dX11_onSum_250 ⟨rfl, h⟩
                · replace h := mv_ifT z h
                  refine mv_sub [0, 1] rfl ?_
                  exact zX11_onSum_205 hd a0 M h
              · replace h := mv_ifT z h
                refine mv_aload_n 0 dX11_onSum_175 rfl ?_
                refine mv_getI fX11_193 (by decide) rfl rfl dX11_onSum_176 ?_
                refine mv_bipush 19 dX11_onSum_179 (by decide) ?_
                refine mv_icmp_eq 205 dX11_onSum_181 (by decide) (fun z => ?_) (fun z => ?_)
                · replace h := mv_ifT z h
                  refine mv_sub [0, 1] rfl ?_
                  exact zX11_onSum_205 hd a0 M h
                · replace h := mv_ifF z h
                  refine mv_aload_n 0 dX11_onSum_184 rfl ?_
                  refine mv_getI fX11_193 (by decide) rfl rfl dX11_onSum_185 ?_
                  refine mv_bipush 20 dX11_onSum_188 (by decide) ?_
                  refine mv_icmp_ne 250 dX11_onSum_190 (by decide) (fun z => ?_) (fun z => ?_)
                  · replace h := mv_ifF z h
                    exact mv_vret rfl dX11_onSum_250 ⟨rfl, h⟩
                  · replace h := mv_ifT z h
                    refine mv_goto 205 dX11_onSum_193 (by decide) ?_
                    refine mv_sub [0, 1] rfl ?_
                    exact zX11_onSum_205 hd a0 M h
            · replace h := mv_ifT z h
              refine mv_aload_n 0 dX11_onSum_148 rfl ?_
              refine mv_getI fX11_193 (by decide) rfl rfl dX11_onSum_149 ?_
              refine mv_bipush 22 dX11_onSum_152 (by decide) ?_
              refine mv_icmp_eq 205 dX11_onSum_154 (by decide) (fun z => ?_) (fun z => ?_)
              · replace h := mv_ifT z h
                refine mv_sub [0, 1] rfl ?_
                exact zX11_onSum_205 hd a0 M h
              · replace h := mv_ifF z h
                refine mv_aload_n 0 dX11_onSum_157 rfl ?_
                refine mv_getI fX11_193 (by decide) rfl rfl dX11_onSum_158 ?_
                refine mv_bipush 12 dX11_onSum_161 (by decide) ?_
                refine mv_icmp_ne 250 dX11_onSum_163 (by decide) (fun z => ?_) (fun z => ?_)
                · replace h := mv_ifF z h
                  exact mv_vret rfl dX11_onSum_250 ⟨rfl, h⟩
                · replace h := mv_ifT z h
                  refine mv_goto 205 dX11_onSum_166 (by decide) ?_
                  refine mv_sub [0, 1] rfl ?_
                  exact zX11_onSum_205 hd a0 M h
          · replace h := mv_ifT z h
            refine mv_aload_n 0 dX11_onSum_83 rfl ?_
            refine mv_cvI (As := []) (st := []) okX11_last lX11_287 (by decide) rfl rfl rfl (Nat.le_of_ble_eq_true rfl) rfl (Nat.le_of_ble_eq_true rfl) dX11_onSum_84 (by omega) rfl (zX11_last (d := d - 1) (by omega) M (mv_bindE h)) (fun r1 M2 h => ?_)
            refine mv_istore_n [(3, .int r1), (0, .ref 62), (1, .int a0), (2, .int a1)] dX11_onSum_87 (by decide) rfl ?_
            refine mv_aload_n 1 dX11_onSum_88 rfl ?_
            refine mv_cvI (As := []) (st := []) okX11_last lX11_287 (by decide) rfl rfl rfl (Nat.le_of_ble_eq_true rfl) rfl (Nat.le_of_ble_eq_true rfl) dX11_onSum_89 (by omega) rfl (zX11_last (d := d - 1) (by omega) M2 (mv_bindE h)) (fun r3 M4 h => ?_)
            refine mv_istore [(4, .int r3), (3, .int r1), (0, .ref 62), (1, .int a0), (2, .int a1)] dX11_onSum_92 (by decide) rfl ?_
            refine mv_aload_n 2 dX11_onSum_94 rfl ?_
            refine mv_iconst 1 dX11_onSum_95 (by decide) ?_
            refine mv_aload_n 2 dX11_onSum_96 rfl ?_
            refine mv_getR 75 fX11_51 (by decide) rfl rfl rfl dX11_onSum_97 ?_
            refine mv_iload 0 dX11_onSum_100 rfl ?_
            obtain ⟨hi5, h⟩ := mv_chkE h
            refine mv_ild (by decide) rfl (mv_inE hi5) dX11_onSum_102 ?_
            refine mv_cvI (As := [.int 1, .int (M4.1 75 r3.toNatClampNeg)]) (st := []) okX11_node lX11_281 (by decide) rfl rfl rfl (Nat.le_of_ble_eq_true rfl) rfl (Nat.le_of_ble_eq_true rfl) dX11_onSum_103 (by omega) rfl (zX11_node (d := d - 1) (by omega) 1 (M4.1 75 r3.toNatClampNeg) M4 (mv_bindE h)) (fun r6 M7 h => ?_)
            refine mv_istore [(5, .int r6), (4, .int r3), (3, .int r1), (0, .ref 62), (1, .int a0), (2, .int a1)] dX11_onSum_106 (by decide) rfl ?_
            refine mv_aload_n 3 dX11_onSum_108 rfl ?_
            refine mv_getR 72 fX11_42 (by decide) rfl rfl rfl dX11_onSum_109 ?_
            refine mv_iload 0 dX11_onSum_112 rfl ?_
            refine mv_iload 1 dX11_onSum_114 rfl ?_
            obtain ⟨hi8, h⟩ := mv_chkE h
            refine mv_ist (by decide) rfl (mv_inE hi8) dX11_onSum_116 (fun M9 eM9 => ?_)
            replace h := mv_letE h M9 eM9
            refine mv_aload_n 3 dX11_onSum_117 rfl ?_
            refine mv_getR 73 fX11_45 (by decide) rfl rfl rfl dX11_onSum_118 ?_
            refine mv_iload 0 dX11_onSum_121 rfl ?_
            refine mv_iload_n 2 dX11_onSum_123 rfl ?_
            obtain ⟨hi10, h⟩ := mv_chkE h
            refine mv_ist (by decide) rfl (mv_inE hi10) dX11_onSum_124 (fun M11 eM11 => ?_)
            replace h := mv_letE h M11 eM11
            refine mv_aload_n 3 dX11_onSum_125 rfl ?_
            refine mv_getR 74 fX11_48 (by decide) rfl rfl rfl dX11_onSum_126 ?_
            refine mv_iload 0 dX11_onSum_129 rfl ?_
            refine mv_iload_n 5 dX11_onSum_131 rfl ?_
            obtain ⟨hi12, h⟩ := mv_chkE h
            refine mv_ist (by decide) rfl (mv_inE hi12) dX11_onSum_132 (fun M13 eM13 => ?_)
            replace h := mv_letE h M13 eM13
            refine mv_aload_n 3 dX11_onSum_133 rfl ?_
            refine mv_iload 0 dX11_onSum_134 rfl ?_
            refine mv_cvV (As := [.int r6]) (st := []) okX11_make lX11_291 (by decide) rfl rfl rfl (Nat.le_of_ble_eq_true rfl) rfl (Nat.le_of_ble_eq_true rfl) dX11_onSum_136 (by omega) rfl (zX11_make (d := d - 1) (by omega) r6 M13 (mv_bindE h)) (fun _ M14 h => ?_)
            refine mv_goto 250 dX11_onSum_139 (by decide) ?_
            exact mv_vret rfl dX11_onSum_250 ⟨rfl, h⟩
        · replace h := mv_ifT z h
          refine mv_aload_n 0 dX11_onSum_70 rfl ?_
          refine mv_cvV (As := []) (st := []) okX11_onAtom lX11_284 (by decide) rfl rfl rfl (Nat.le_of_ble_eq_true rfl) rfl (Nat.le_of_ble_eq_true rfl) dX11_onSum_71 (by omega) rfl (zX11_onAtom (d := d - 1) (by omega) M (mv_bindE h)) (fun _ M15 h => ?_)
          refine mv_goto 250 dX11_onSum_74 (by decide) ?_
          exact mv_vret rfl dX11_onSum_250 ⟨rfl, h⟩
      · replace h := mv_ifT z h
        refine mv_aload_n 0 dX11_onSum_47 rfl ?_
        refine mv_bipush 9 dX11_onSum_48 (by decide) ?_
        refine mv_iconst 0 dX11_onSum_50 (by decide) ?_
        refine mv_cvV (As := [.int 9, .int 0]) (st := []) okX11_push lX11_254 (by decide) rfl rfl rfl (Nat.le_of_ble_eq_true rfl) rfl (Nat.le_of_ble_eq_true rfl) dX11_onSum_51 (by omega) rfl (zX11_push (d := d - 1) (by omega) 9 0 M (mv_bindE h)) (fun _ M16 h => ?_)
        refine mv_aload_n 0 dX11_onSum_54 rfl ?_
        refine mv_bipush 10 dX11_onSum_55 (by decide) ?_
        refine mv_iconst 0 dX11_onSum_57 (by decide) ?_
        refine mv_cvV (As := [.int 10, .int 0]) (st := []) okX11_push lX11_254 (by decide) rfl rfl rfl (Nat.le_of_ble_eq_true rfl) rfl (Nat.le_of_ble_eq_true rfl) dX11_onSum_58 (by omega) rfl (zX11_push (d := d - 1) (by omega) 10 0 M16 (mv_bindE h)) (fun _ M17 h => ?_)
        refine mv_goto 250 dX11_onSum_61 (by decide) ?_
        exact mv_vret rfl dX11_onSum_250 ⟨rfl, h⟩
    · replace h := mv_ifT z h
      refine mv_aload_n 0 dX11_onSum_24 rfl ?_
      refine mv_bipush 7 dX11_onSum_25 (by decide) ?_
      refine mv_iconst 0 dX11_onSum_27 (by decide) ?_
      refine mv_cvV (As := [.int 7, .int 0]) (st := []) okX11_push lX11_254 (by decide) rfl rfl rfl (Nat.le_of_ble_eq_true rfl) rfl (Nat.le_of_ble_eq_true rfl) dX11_onSum_28 (by omega) rfl (zX11_push (d := d - 1) (by omega) 7 0 M (mv_bindE h)) (fun _ M18 h => ?_)
      refine mv_aload_n 0 dX11_onSum_31 rfl ?_
      refine mv_bipush 8 dX11_onSum_32 (by decide) ?_
      refine mv_iconst 0 dX11_onSum_34 (by decide) ?_
      refine mv_cvV (As := [.int 8, .int 0]) (st := []) okX11_push lX11_254 (by decide) rfl rfl rfl (Nat.le_of_ble_eq_true rfl) rfl (Nat.le_of_ble_eq_true rfl) dX11_onSum_35 (by omega) rfl (zX11_push (d := d - 1) (by omega) 8 0 M18 (mv_bindE h)) (fun _ M19 h => ?_)
      refine mv_goto 250 dX11_onSum_38 (by decide) ?_
      exact mv_vret rfl dX11_onSum_250 ⟨rfl, h⟩
  · replace h := mv_ifT z h
    refine mv_aload_n 0 dX11_onSum_5 rfl ?_
    refine mv_dup dX11_onSum_6 rfl ?_
    refine mv_getI fX11_251 (by decide) rfl rfl dX11_onSum_7 ?_
    refine mv_iconst 1 dX11_onSum_10 (by decide) ?_
    refine mv_isub dX11_onSum_11 ?_
    refine mv_putI fX11_251 (by decide) rfl rfl dX11_onSum_12 (fun M20 eM20 => ?_)
    replace h := mv_letE h M20 eM20
    refine mv_goto 250 dX11_onSum_15 (by decide) ?_
    exact mv_vret rfl dX11_onSum_250 ⟨rfl, h⟩
theorem dX11_onCouple_0 : decode cX11_onCouple 0 = .ok (.aload_n 0, 1) := by decide +kernel
theorem dX11_onCouple_1 : decode cX11_onCouple 1 = .ok (.getfield 193, 3) := by decide +kernel
theorem dX11_onCouple_4 : decode cX11_onCouple 4 = .ok (.bipush 16, 2) := by decide +kernel
theorem dX11_onCouple_6 : decode cX11_onCouple 6 = .ok (.if_icmp .eq 11, 3) := by decide +kernel
theorem dX11_onCouple_9 : decode cX11_onCouple 9 = .ok (.aload_n 0, 1) := by decide +kernel
theorem dX11_onCouple_10 : decode cX11_onCouple 10 = .ok (.iconst 1, 1) := by decide +kernel
theorem dX11_onCouple_11 : decode cX11_onCouple 11 = .ok (.bipush 15, 2) := by decide +kernel
theorem dX11_onCouple_13 : decode cX11_onCouple 13 = .ok (.invokevirtual 254, 3) := by decide +kernel
theorem dX11_onCouple_16 : decode cX11_onCouple 16 = .ok (.return_, 1) := by decide +kernel
theorem dX11_onCouple_17 : decode cX11_onCouple 17 = .ok (.aload_n 0, 1) := by decide +kernel
theorem dX11_onCouple_18 : decode cX11_onCouple 18 = .ok (.bipush 9, 2) := by decide +kernel
theorem dX11_onCouple_20 : decode cX11_onCouple 20 = .ok (.iload_n 1, 1) := by decide +kernel
theorem dX11_onCouple_21 : decode cX11_onCouple 21 = .ok (.invokevirtual 281, 3) := by decide +kernel
theorem dX11_onCouple_24 : decode cX11_onCouple 24 = .ok (.istore_n 2, 1) := by decide +kernel
theorem dX11_onCouple_25 : decode cX11_onCouple 25 = .ok (.aload_n 0, 1) := by decide +kernel
theorem dX11_onCouple_26 : decode cX11_onCouple 26 = .ok (.getfield 42, 3) := by decide +kernel
theorem dX11_onCouple_29 : decode cX11_onCouple 29 = .ok (.iload_n 2, 1) := by decide +kernel
theorem dX11_onCouple_30 : decode cX11_onCouple 30 = .ok (.aload_n 0, 1) := by decide +kernel
theorem dX11_onCouple_31 : decode cX11_onCouple 31 = .ok (.invokevirtual 287, 3) := by decide +kernel
theorem dX11_onCouple_34 : decode cX11_onCouple 34 = .ok (.iastore, 1) := by decide +kernel
theorem dX11_onCouple_35 : decode cX11_onCouple 35 = .ok (.aload_n 0, 1) := by decide +kernel
theorem dX11_onCouple_36 : decode cX11_onCouple 36 = .ok (.bipush 18, 2) := by decide +kernel
theorem dX11_onCouple_38 : decode cX11_onCouple 38 = .ok (.iload_n 2, 1) := by decide +kernel
theorem dX11_onCouple_39 : decode cX11_onCouple 39 = .ok (.invokevirtual 254, 3) := by decide +kernel
theorem dX11_onCouple_42 : decode cX11_onCouple 42 = .ok (.aload_n 0, 1) := by decide +kernel
theorem dX11_onCouple_43 : decode cX11_onCouple 43 = .ok (.iconst 1, 1) := by decide +kernel
theorem dX11_onCouple_44 : decode cX11_onCouple 44 = .ok (.bipush 15, 2) := by decide +kernel
theorem dX11_onCouple_46 : decode cX11_onCouple 46 = .ok (.invokevirtual 254, 3) := by decide +kernel
theorem dX11_onCouple_49 : decode cX11_onCouple 49 = .ok (.aload_n 0, 1) := by decide +kernel
theorem dX11_onCouple_50 : decode cX11_onCouple 50 = .ok (.bipush 16, 2) := by decide +kernel
theorem dX11_onCouple_52 : decode cX11_onCouple 52 = .ok (.iload_n 2, 1) := by decide +kernel
theorem dX11_onCouple_53 : decode cX11_onCouple 53 = .ok (.invokevirtual 254, 3) := by decide +kernel
theorem dX11_onCouple_56 : decode cX11_onCouple 56 = .ok (.aload_n 0, 1) := by decide +kernel
theorem dX11_onCouple_57 : decode cX11_onCouple 57 = .ok (.iconst 4, 1) := by decide +kernel
theorem dX11_onCouple_58 : decode cX11_onCouple 58 = .ok (.iconst 0, 1) := by decide +kernel
theorem dX11_onCouple_59 : decode cX11_onCouple 59 = .ok (.invokevirtual 254, 3) := by decide +kernel
theorem dX11_onCouple_62 : decode cX11_onCouple 62 = .ok (.aload_n 0, 1) := by decide +kernel
theorem dX11_onCouple_63 : decode cX11_onCouple 63 = .ok (.invokevirtual 229, 3) := by decide +kernel
theorem dX11_onCouple_66 : decode cX11_onCouple 66 = .ok (.return_, 1) := by decide +kernel
noncomputable def fX11_onCouple (a0 : Int32) (M : mv_M) : Option (Unit × mv_M) :=
  if (M.1 62 4) = 16 then
    mv_bind (fX11_node 9 a0 M) fun r1 M2 =>
    mv_bind (fX11_last M2) fun r3 M4 =>
    mv_chk (mv_inb r1 2002) <|
    mv_let (mv_si M4 72 r1.toNatClampNeg r3) fun M6 =>
    mv_bind (fX11_push 18 r1 M6) fun _ M7 =>
    mv_bind (fX11_push 1 15 M7) fun _ M8 =>
    mv_bind (fX11_push 16 r1 M8) fun _ M9 =>
    mv_bind (fX11_push 4 0 M9) fun _ M10 =>
    mv_bind (fX11_pass M10) fun _ M11 =>
    some ((), M11)
  else
    mv_bind (fX11_push 1 15 M) fun _ M12 =>
    some ((), M12)
set_option maxRecDepth 100000 in
set_option maxHeartbeats 4000000 in
theorem zX11_onCouple {l : Launch} {d : Nat} {Q : Unit → mv_M → Prop} (hd : 5 ≤ d) (a0 : Int32) (M : mv_M) (h : mv_ok (fX11_onCouple a0 M) Q) : mv l mX11_onCouple d 0 0 (lv_args 0 [.ref 62, .int a0]) [] M (mv_qV Q) := by
  unfold fX11_onCouple at h
  show mv l mX11_onCouple d 0 0 [(0, .ref 62), (1, .int a0)] [] M (mv_qV Q)
  refine mv_aload_n 0 dX11_onCouple_0 rfl ?_
  refine mv_getI fX11_193 (by decide) rfl rfl dX11_onCouple_1 ?_
  refine mv_bipush 16 dX11_onCouple_4 (by decide) ?_
  refine mv_icmp_eq 17 dX11_onCouple_6 (by decide) (fun z => ?_) (fun z => ?_)
  · replace h := mv_ifT z h
    refine mv_aload_n 0 dX11_onCouple_17 rfl ?_
    refine mv_bipush 9 dX11_onCouple_18 (by decide) ?_
    refine mv_iload_n 1 dX11_onCouple_20 rfl ?_
    refine mv_cvI (As := [.int 9, .int a0]) (st := []) okX11_node lX11_281 (by decide) rfl rfl rfl (Nat.le_of_ble_eq_true rfl) rfl (Nat.le_of_ble_eq_true rfl) dX11_onCouple_21 (by omega) rfl (zX11_node (d := d - 1) (by omega) 9 a0 M (mv_bindE h)) (fun r1 M2 h => ?_)
    refine mv_istore_n [(2, .int r1), (0, .ref 62), (1, .int a0)] dX11_onCouple_24 (by decide) rfl ?_
    refine mv_aload_n 1 dX11_onCouple_25 rfl ?_
    refine mv_getR 72 fX11_42 (by decide) rfl rfl rfl dX11_onCouple_26 ?_
    refine mv_iload_n 0 dX11_onCouple_29 rfl ?_
    refine mv_aload_n 1 dX11_onCouple_30 rfl ?_
    refine mv_cvI (As := []) (st := [.int r1, .ref 72]) okX11_last lX11_287 (by decide) rfl rfl rfl (Nat.le_of_ble_eq_true rfl) rfl (Nat.le_of_ble_eq_true rfl) dX11_onCouple_31 (by omega) rfl (zX11_last (d := d - 1) (by omega) M2 (mv_bindE h)) (fun r3 M4 h => ?_)
    obtain ⟨hi5, h⟩ := mv_chkE h
    refine mv_ist (by decide) rfl (mv_inE hi5) dX11_onCouple_34 (fun M6 eM6 => ?_)
    replace h := mv_letE h M6 eM6
    refine mv_aload_n 1 dX11_onCouple_35 rfl ?_
    refine mv_bipush 18 dX11_onCouple_36 (by decide) ?_
    refine mv_iload_n 0 dX11_onCouple_38 rfl ?_
    refine mv_cvV (As := [.int 18, .int r1]) (st := []) okX11_push lX11_254 (by decide) rfl rfl rfl (Nat.le_of_ble_eq_true rfl) rfl (Nat.le_of_ble_eq_true rfl) dX11_onCouple_39 (by omega) rfl (zX11_push (d := d - 1) (by omega) 18 r1 M6 (mv_bindE h)) (fun _ M7 h => ?_)
    refine mv_aload_n 1 dX11_onCouple_42 rfl ?_
    refine mv_iconst 1 dX11_onCouple_43 (by decide) ?_
    refine mv_bipush 15 dX11_onCouple_44 (by decide) ?_
    refine mv_cvV (As := [.int 1, .int 15]) (st := []) okX11_push lX11_254 (by decide) rfl rfl rfl (Nat.le_of_ble_eq_true rfl) rfl (Nat.le_of_ble_eq_true rfl) dX11_onCouple_46 (by omega) rfl (zX11_push (d := d - 1) (by omega) 1 15 M7 (mv_bindE h)) (fun _ M8 h => ?_)
    refine mv_aload_n 1 dX11_onCouple_49 rfl ?_
    refine mv_bipush 16 dX11_onCouple_50 (by decide) ?_
    refine mv_iload_n 0 dX11_onCouple_52 rfl ?_
    refine mv_cvV (As := [.int 16, .int r1]) (st := []) okX11_push lX11_254 (by decide) rfl rfl rfl (Nat.le_of_ble_eq_true rfl) rfl (Nat.le_of_ble_eq_true rfl) dX11_onCouple_53 (by omega) rfl (zX11_push (d := d - 1) (by omega) 16 r1 M8 (mv_bindE h)) (fun _ M9 h => ?_)
    refine mv_aload_n 1 dX11_onCouple_56 rfl ?_
    refine mv_iconst 4 dX11_onCouple_57 (by decide) ?_
    refine mv_iconst 0 dX11_onCouple_58 (by decide) ?_
    refine mv_cvV (As := [.int 4, .int 0]) (st := []) okX11_push lX11_254 (by decide) rfl rfl rfl (Nat.le_of_ble_eq_true rfl) rfl (Nat.le_of_ble_eq_true rfl) dX11_onCouple_59 (by omega) rfl (zX11_push (d := d - 1) (by omega) 4 0 M9 (mv_bindE h)) (fun _ M10 h => ?_)
    refine mv_aload_n 1 dX11_onCouple_62 rfl ?_
    refine mv_cvV (As := []) (st := []) okX11_pass lX11_229 (by decide) rfl rfl rfl (Nat.le_of_ble_eq_true rfl) rfl (Nat.le_of_ble_eq_true rfl) dX11_onCouple_63 (by omega) rfl (zX11_pass (d := d - 1) (by omega) M10 (mv_bindE h)) (fun _ M11 h => ?_)
    exact mv_vret rfl dX11_onCouple_66 ⟨rfl, h⟩
  · replace h := mv_ifF z h
    refine mv_aload_n 0 dX11_onCouple_9 rfl ?_
    refine mv_iconst 1 dX11_onCouple_10 (by decide) ?_
    refine mv_bipush 15 dX11_onCouple_11 (by decide) ?_
    refine mv_cvV (As := [.int 1, .int 15]) (st := []) okX11_push lX11_254 (by decide) rfl rfl rfl (Nat.le_of_ble_eq_true rfl) rfl (Nat.le_of_ble_eq_true rfl) dX11_onCouple_13 (by omega) rfl (zX11_push (d := d - 1) (by omega) 1 15 M (mv_bindE h)) (fun _ M12 h => ?_)
    exact mv_vret rfl dX11_onCouple_16 ⟨rfl, h⟩
theorem dX11_onRest_0 : decode cX11_onRest 0 = .ok (.iload_n 1, 1) := by decide +kernel
theorem dX11_onRest_1 : decode cX11_onRest 1 = .ok (.tableswitch 358 13 21 #[51, 65, 119, 132, 145, 158, 166, 199, 268], 51) := by decide +kernel
theorem dX11_onRest_52 : decode cX11_onRest 52 = .ok (.aload_n 0, 1) := by decide +kernel
theorem dX11_onRest_53 : decode cX11_onRest 53 = .ok (.getfield 48, 3) := by decide +kernel
theorem dX11_onRest_56 : decode cX11_onRest 56 = .ok (.iload_n 2, 1) := by decide +kernel
theorem dX11_onRest_57 : decode cX11_onRest 57 = .ok (.aload_n 0, 1) := by decide +kernel
theorem dX11_onRest_58 : decode cX11_onRest 58 = .ok (.iconst 0, 1) := by decide +kernel
theorem dX11_onRest_59 : decode cX11_onRest 59 = .ok (.invokevirtual 297, 3) := by decide +kernel
theorem dX11_onRest_62 : decode cX11_onRest 62 = .ok (.iastore, 1) := by decide +kernel
theorem dX11_onRest_63 : decode cX11_onRest 63 = .ok (.goto 301, 3) := by decide +kernel
theorem dX11_onRest_66 : decode cX11_onRest 66 = .ok (.aload_n 0, 1) := by decide +kernel
theorem dX11_onRest_67 : decode cX11_onRest 67 = .ok (.getfield 193, 3) := by decide +kernel
theorem dX11_onRest_70 : decode cX11_onRest 70 = .ok (.bipush 10, 2) := by decide +kernel
theorem dX11_onRest_72 : decode cX11_onRest 72 = .ok (.if_icmp .ne 39, 3) := by decide +kernel
theorem dX11_onRest_75 : decode cX11_onRest 75 = .ok (.aload_n 0, 1) := by decide +kernel
theorem dX11_onRest_76 : decode cX11_onRest 76 = .ok (.getfield 222, 3) := by decide +kernel
theorem dX11_onRest_79 : decode cX11_onRest 79 = .ok (.aload_n 0, 1) := by decide +kernel
theorem dX11_onRest_80 : decode cX11_onRest 80 = .ok (.getfield 33, 3) := by decide +kernel
theorem dX11_onRest_83 : decode cX11_onRest 83 = .ok (.bipush 16, 2) := by decide +kernel
theorem dX11_onRest_85 : decode cX11_onRest 85 = .ok (.aload_n 0, 1) := by decide +kernel
theorem dX11_onRest_86 : decode cX11_onRest 86 = .ok (.getfield 239, 3) := by decide +kernel
theorem dX11_onRest_89 : decode cX11_onRest 89 = .ok (.imul, 1) := by decide +kernel
theorem dX11_onRest_90 : decode cX11_onRest 90 = .ok (.aload_n 0, 1) := by decide +kernel
theorem dX11_onRest_91 : decode cX11_onRest 91 = .ok (.getfield 48, 3) := by decide +kernel
theorem dX11_onRest_94 : decode cX11_onRest 94 = .ok (.iload_n 2, 1) := by decide +kernel
theorem dX11_onRest_95 : decode cX11_onRest 95 = .ok (.iaload, 1) := by decide +kernel
theorem dX11_onRest_96 : decode cX11_onRest 96 = .ok (.iadd, 1) := by decide +kernel
theorem dX11_onRest_97 : decode cX11_onRest 97 = .ok (.laload, 1) := by decide +kernel
theorem dX11_onRest_98 : decode cX11_onRest 98 = .ok (.lcmp, 1) := by decide +kernel
theorem dX11_onRest_99 : decode cX11_onRest 99 = .ok (.ifCond .ne 12, 3) := by decide +kernel
theorem dX11_onRest_102 : decode cX11_onRest 102 = .ok (.aload_n 0, 1) := by decide +kernel
theorem dX11_onRest_103 : decode cX11_onRest 103 = .ok (.iconst 3, 1) := by decide +kernel
theorem dX11_onRest_104 : decode cX11_onRest 104 = .ok (.aload_n 0, 1) := by decide +kernel
theorem dX11_onRest_105 : decode cX11_onRest 105 = .ok (.getfield 190, 3) := by decide +kernel
theorem dX11_onRest_108 : decode cX11_onRest 108 = .ok (.invokevirtual 205, 3) := by decide +kernel
theorem dX11_onRest_111 : decode cX11_onRest 111 = .ok (.aload_n 0, 1) := by decide +kernel
theorem dX11_onRest_112 : decode cX11_onRest 112 = .ok (.iconst 0, 1) := by decide +kernel
theorem dX11_onRest_113 : decode cX11_onRest 113 = .ok (.invokevirtual 297, 3) := by decide +kernel
theorem dX11_onRest_116 : decode cX11_onRest 116 = .ok (.istore_n 3, 1) := by decide +kernel
theorem dX11_onRest_117 : decode cX11_onRest 117 = .ok (.goto 247, 3) := by decide +kernel
theorem dX11_onRest_120 : decode cX11_onRest 120 = .ok (.aload_n 0, 1) := by decide +kernel
theorem dX11_onRest_121 : decode cX11_onRest 121 = .ok (.getfield 42, 3) := by decide +kernel
theorem dX11_onRest_124 : decode cX11_onRest 124 = .ok (.iload_n 2, 1) := by decide +kernel
theorem dX11_onRest_125 : decode cX11_onRest 125 = .ok (.aload_n 0, 1) := by decide +kernel
theorem dX11_onRest_126 : decode cX11_onRest 126 = .ok (.invokevirtual 287, 3) := by decide +kernel
theorem dX11_onRest_129 : decode cX11_onRest 129 = .ok (.iastore, 1) := by decide +kernel
theorem dX11_onRest_130 : decode cX11_onRest 130 = .ok (.goto 234, 3) := by decide +kernel
theorem dX11_onRest_133 : decode cX11_onRest 133 = .ok (.aload_n 0, 1) := by decide +kernel
theorem dX11_onRest_134 : decode cX11_onRest 134 = .ok (.getfield 45, 3) := by decide +kernel
theorem dX11_onRest_137 : decode cX11_onRest 137 = .ok (.iload_n 2, 1) := by decide +kernel
theorem dX11_onRest_138 : decode cX11_onRest 138 = .ok (.aload_n 0, 1) := by decide +kernel
theorem dX11_onRest_139 : decode cX11_onRest 139 = .ok (.invokevirtual 287, 3) := by decide +kernel
theorem dX11_onRest_142 : decode cX11_onRest 142 = .ok (.iastore, 1) := by decide +kernel
theorem dX11_onRest_143 : decode cX11_onRest 143 = .ok (.goto 221, 3) := by decide +kernel
theorem dX11_onRest_146 : decode cX11_onRest 146 = .ok (.aload_n 0, 1) := by decide +kernel
theorem dX11_onRest_147 : decode cX11_onRest 147 = .ok (.getfield 48, 3) := by decide +kernel
theorem dX11_onRest_150 : decode cX11_onRest 150 = .ok (.iload_n 2, 1) := by decide +kernel
theorem dX11_onRest_151 : decode cX11_onRest 151 = .ok (.aload_n 0, 1) := by decide +kernel
theorem dX11_onRest_152 : decode cX11_onRest 152 = .ok (.invokevirtual 287, 3) := by decide +kernel
theorem dX11_onRest_155 : decode cX11_onRest 155 = .ok (.iastore, 1) := by decide +kernel
theorem dX11_onRest_156 : decode cX11_onRest 156 = .ok (.goto 208, 3) := by decide +kernel
theorem dX11_onRest_159 : decode cX11_onRest 159 = .ok (.aload_n 0, 1) := by decide +kernel
theorem dX11_onRest_160 : decode cX11_onRest 160 = .ok (.iload_n 2, 1) := by decide +kernel
theorem dX11_onRest_161 : decode cX11_onRest 161 = .ok (.invokevirtual 291, 3) := by decide +kernel
theorem dX11_onRest_164 : decode cX11_onRest 164 = .ok (.goto 200, 3) := by decide +kernel
theorem dX11_onRest_167 : decode cX11_onRest 167 = .ok (.aload_n 0, 1) := by decide +kernel
theorem dX11_onRest_168 : decode cX11_onRest 168 = .ok (.dup, 1) := by decide +kernel
theorem dX11_onRest_169 : decode cX11_onRest 169 = .ok (.getfield 248, 3) := by decide +kernel
theorem dX11_onRest_172 : decode cX11_onRest 172 = .ok (.iconst 1, 1) := by decide +kernel
theorem dX11_onRest_173 : decode cX11_onRest 173 = .ok (.isub, 1) := by decide +kernel
theorem dX11_onRest_174 : decode cX11_onRest 174 = .ok (.putfield 248, 3) := by decide +kernel
theorem dX11_onRest_177 : decode cX11_onRest 177 = .ok (.aload_n 0, 1) := by decide +kernel
theorem dX11_onRest_178 : decode cX11_onRest 178 = .ok (.getfield 42, 3) := by decide +kernel
theorem dX11_onRest_181 : decode cX11_onRest 181 = .ok (.iload_n 2, 1) := by decide +kernel
theorem dX11_onRest_182 : decode cX11_onRest 182 = .ok (.aload_n 0, 1) := by decide +kernel
theorem dX11_onRest_183 : decode cX11_onRest 183 = .ok (.getfield 78, 3) := by decide +kernel
theorem dX11_onRest_186 : decode cX11_onRest 186 = .ok (.aload_n 0, 1) := by decide +kernel
theorem dX11_onRest_187 : decode cX11_onRest 187 = .ok (.getfield 248, 3) := by decide +kernel
theorem dX11_onRest_190 : decode cX11_onRest 190 = .ok (.iaload, 1) := by decide +kernel
theorem dX11_onRest_191 : decode cX11_onRest 191 = .ok (.iastore, 1) := by decide +kernel
theorem dX11_onRest_192 : decode cX11_onRest 192 = .ok (.aload_n 0, 1) := by decide +kernel
theorem dX11_onRest_193 : decode cX11_onRest 193 = .ok (.iload_n 2, 1) := by decide +kernel
theorem dX11_onRest_194 : decode cX11_onRest 194 = .ok (.invokevirtual 291, 3) := by decide +kernel
theorem dX11_onRest_197 : decode cX11_onRest 197 = .ok (.goto 167, 3) := by decide +kernel
theorem dX11_onRest_200 : decode cX11_onRest 200 = .ok (.aload_n 0, 1) := by decide +kernel
theorem dX11_onRest_201 : decode cX11_onRest 201 = .ok (.getfield 66, 3) := by decide +kernel
theorem dX11_onRest_204 : decode cX11_onRest 204 = .ok (.aload_n 0, 1) := by decide +kernel
theorem dX11_onRest_205 : decode cX11_onRest 205 = .ok (.getfield 294, 3) := by decide +kernel
theorem dX11_onRest_208 : decode cX11_onRest 208 = .ok (.aload_n 0, 1) := by decide +kernel
theorem dX11_onRest_209 : decode cX11_onRest 209 = .ok (.invokevirtual 287, 3) := by decide +kernel
theorem dX11_onRest_212 : decode cX11_onRest 212 = .ok (.iastore, 1) := by decide +kernel
theorem dX11_onRest_213 : decode cX11_onRest 213 = .ok (.aload_n 0, 1) := by decide +kernel
theorem dX11_onRest_214 : decode cX11_onRest 214 = .ok (.dup, 1) := by decide +kernel
theorem dX11_onRest_215 : decode cX11_onRest 215 = .ok (.getfield 294, 3) := by decide +kernel
theorem dX11_onRest_218 : decode cX11_onRest 218 = .ok (.iconst 1, 1) := by decide +kernel
theorem dX11_onRest_219 : decode cX11_onRest 219 = .ok (.iadd, 1) := by decide +kernel
theorem dX11_onRest_220 : decode cX11_onRest 220 = .ok (.putfield 294, 3) := by decide +kernel
theorem dX11_onRest_223 : decode cX11_onRest 223 = .ok (.aload_n 0, 1) := by decide +kernel
theorem dX11_onRest_224 : decode cX11_onRest 224 = .ok (.getfield 193, 3) := by decide +kernel
theorem dX11_onRest_227 : decode cX11_onRest 227 = .ok (.bipush 16, 2) := by decide +kernel
theorem dX11_onRest_229 : decode cX11_onRest 229 = .ok (.if_icmp .ne 23, 3) := by decide +kernel
theorem dX11_onRest_232 : decode cX11_onRest 232 = .ok (.aload_n 0, 1) := by decide +kernel
theorem dX11_onRest_233 : decode cX11_onRest 233 = .ok (.bipush 20, 2) := by decide +kernel
theorem dX11_onRest_235 : decode cX11_onRest 235 = .ok (.iload_n 2, 1) := by decide +kernel
theorem dX11_onRest_236 : decode cX11_onRest 236 = .ok (.invokevirtual 254, 3) := by decide +kernel
theorem dX11_onRest_239 : decode cX11_onRest 239 = .ok (.aload_n 0, 1) := by decide +kernel
theorem dX11_onRest_240 : decode cX11_onRest 240 = .ok (.iconst 4, 1) := by decide +kernel
theorem dX11_onRest_241 : decode cX11_onRest 241 = .ok (.iconst 0, 1) := by decide +kernel
theorem dX11_onRest_242 : decode cX11_onRest 242 = .ok (.invokevirtual 254, 3) := by decide +kernel
theorem dX11_onRest_245 : decode cX11_onRest 245 = .ok (.aload_n 0, 1) := by decide +kernel
theorem dX11_onRest_246 : decode cX11_onRest 246 = .ok (.invokevirtual 229, 3) := by decide +kernel
theorem dX11_onRest_249 : decode cX11_onRest 249 = .ok (.goto 115, 3) := by decide +kernel
theorem dX11_onRest_252 : decode cX11_onRest 252 = .ok (.aload_n 0, 1) := by decide +kernel
theorem dX11_onRest_253 : decode cX11_onRest 253 = .ok (.bipush 21, 2) := by decide +kernel
theorem dX11_onRest_255 : decode cX11_onRest 255 = .ok (.iload_n 2, 1) := by decide +kernel
theorem dX11_onRest_256 : decode cX11_onRest 256 = .ok (.invokevirtual 254, 3) := by decide +kernel
theorem dX11_onRest_259 : decode cX11_onRest 259 = .ok (.aload_n 0, 1) := by decide +kernel
theorem dX11_onRest_260 : decode cX11_onRest 260 = .ok (.iconst 1, 1) := by decide +kernel
theorem dX11_onRest_261 : decode cX11_onRest 261 = .ok (.bipush 15, 2) := by decide +kernel
theorem dX11_onRest_263 : decode cX11_onRest 263 = .ok (.invokevirtual 254, 3) := by decide +kernel
theorem dX11_onRest_266 : decode cX11_onRest 266 = .ok (.goto 98, 3) := by decide +kernel
theorem dX11_onRest_269 : decode cX11_onRest 269 = .ok (.aload_n 0, 1) := by decide +kernel
theorem dX11_onRest_270 : decode cX11_onRest 270 = .ok (.getfield 45, 3) := by decide +kernel
theorem dX11_onRest_273 : decode cX11_onRest 273 = .ok (.iload_n 2, 1) := by decide +kernel
theorem dX11_onRest_274 : decode cX11_onRest 274 = .ok (.iaload, 1) := by decide +kernel
theorem dX11_onRest_275 : decode cX11_onRest 275 = .ok (.istore 4, 2) := by decide +kernel
theorem dX11_onRest_277 : decode cX11_onRest 277 = .ok (.aload_n 0, 1) := by decide +kernel
theorem dX11_onRest_278 : decode cX11_onRest 278 = .ok (.getfield 42, 3) := by decide +kernel
theorem dX11_onRest_281 : decode cX11_onRest 281 = .ok (.iload_n 2, 1) := by decide +kernel
theorem dX11_onRest_282 : decode cX11_onRest 282 = .ok (.aload_n 0, 1) := by decide +kernel
theorem dX11_onRest_283 : decode cX11_onRest 283 = .ok (.getfield 301, 3) := by decide +kernel
theorem dX11_onRest_286 : decode cX11_onRest 286 = .ok (.iastore, 1) := by decide +kernel
theorem dX11_onRest_287 : decode cX11_onRest 287 = .ok (.aload_n 0, 1) := by decide +kernel
theorem dX11_onRest_288 : decode cX11_onRest 288 = .ok (.getfield 45, 3) := by decide +kernel
theorem dX11_onRest_291 : decode cX11_onRest 291 = .ok (.iload_n 2, 1) := by decide +kernel
theorem dX11_onRest_292 : decode cX11_onRest 292 = .ok (.aload_n 0, 1) := by decide +kernel
theorem dX11_onRest_293 : decode cX11_onRest 293 = .ok (.getfield 294, 3) := by decide +kernel
theorem dX11_onRest_296 : decode cX11_onRest 296 = .ok (.iload 4, 2) := by decide +kernel
theorem dX11_onRest_298 : decode cX11_onRest 298 = .ok (.isub, 1) := by decide +kernel
theorem dX11_onRest_299 : decode cX11_onRest 299 = .ok (.iastore, 1) := by decide +kernel
theorem dX11_onRest_300 : decode cX11_onRest 300 = .ok (.iload 4, 2) := by decide +kernel
theorem dX11_onRest_302 : decode cX11_onRest 302 = .ok (.istore 5, 2) := by decide +kernel
theorem dX11_onRest_304 : decode cX11_onRest 304 = .ok (.iload 5, 2) := by decide +kernel
theorem dX11_onRest_306 : decode cX11_onRest 306 = .ok (.aload_n 0, 1) := by decide +kernel
theorem dX11_onRest_307 : decode cX11_onRest 307 = .ok (.getfield 294, 3) := by decide +kernel
theorem dX11_onRest_310 : decode cX11_onRest 310 = .ok (.if_icmp .ge 35, 3) := by decide +kernel
theorem dX11_onRest_313 : decode cX11_onRest 313 = .ok (.aload_n 0, 1) := by decide +kernel
theorem dX11_onRest_314 : decode cX11_onRest 314 = .ok (.getfield 60, 3) := by decide +kernel
theorem dX11_onRest_317 : decode cX11_onRest 317 = .ok (.aload_n 0, 1) := by decide +kernel
theorem dX11_onRest_318 : decode cX11_onRest 318 = .ok (.getfield 301, 3) := by decide +kernel
theorem dX11_onRest_321 : decode cX11_onRest 321 = .ok (.aload_n 0, 1) := by decide +kernel
theorem dX11_onRest_322 : decode cX11_onRest 322 = .ok (.getfield 66, 3) := by decide +kernel
theorem dX11_onRest_325 : decode cX11_onRest 325 = .ok (.iload 5, 2) := by decide +kernel
theorem dX11_onRest_327 : decode cX11_onRest 327 = .ok (.iaload, 1) := by decide +kernel
theorem dX11_onRest_328 : decode cX11_onRest 328 = .ok (.iastore, 1) := by decide +kernel
theorem dX11_onRest_329 : decode cX11_onRest 329 = .ok (.aload_n 0, 1) := by decide +kernel
theorem dX11_onRest_330 : decode cX11_onRest 330 = .ok (.dup, 1) := by decide +kernel
theorem dX11_onRest_331 : decode cX11_onRest 331 = .ok (.getfield 301, 3) := by decide +kernel
theorem dX11_onRest_334 : decode cX11_onRest 334 = .ok (.iconst 1, 1) := by decide +kernel
theorem dX11_onRest_335 : decode cX11_onRest 335 = .ok (.iadd, 1) := by decide +kernel
theorem dX11_onRest_336 : decode cX11_onRest 336 = .ok (.putfield 301, 3) := by decide +kernel
theorem dX11_onRest_339 : decode cX11_onRest 339 = .ok (.iinc 5 1, 3) := by decide +kernel
theorem dX11_onRest_342 : decode cX11_onRest 342 = .ok (.goto (-38), 3) := by decide +kernel
theorem dX11_onRest_345 : decode cX11_onRest 345 = .ok (.aload_n 0, 1) := by decide +kernel
theorem dX11_onRest_346 : decode cX11_onRest 346 = .ok (.iload 4, 2) := by decide +kernel
theorem dX11_onRest_348 : decode cX11_onRest 348 = .ok (.putfield 294, 3) := by decide +kernel
theorem dX11_onRest_351 : decode cX11_onRest 351 = .ok (.aload_n 0, 1) := by decide +kernel
theorem dX11_onRest_352 : decode cX11_onRest 352 = .ok (.iload_n 2, 1) := by decide +kernel
theorem dX11_onRest_353 : decode cX11_onRest 353 = .ok (.invokevirtual 291, 3) := by decide +kernel
theorem dX11_onRest_356 : decode cX11_onRest 356 = .ok (.goto 8, 3) := by decide +kernel
theorem dX11_onRest_359 : decode cX11_onRest 359 = .ok (.aload_n 0, 1) := by decide +kernel
theorem dX11_onRest_360 : decode cX11_onRest 360 = .ok (.iload_n 2, 1) := by decide +kernel
theorem dX11_onRest_361 : decode cX11_onRest 361 = .ok (.invokevirtual 304, 3) := by decide +kernel
theorem dX11_onRest_364 : decode cX11_onRest 364 = .ok (.return_, 1) := by decide +kernel
noncomputable def fX11_onRest_111 (M : mv_M) : Option (Unit × mv_M) :=
  mv_bind (fX11_name 0 M) fun r52 M53 =>
  some ((), M53)
set_option maxRecDepth 100000 in
set_option maxHeartbeats 4000000 in
theorem zX11_onRest_111 {l : Launch} {d : Nat} {Q : Unit → mv_M → Prop} (hd : 6 ≤ d) (M : mv_M) (h : mv_ok (fX11_onRest_111 M) Q) : mv l mX11_onRest d 0 111 [(0, .ref 62)] [] M (mv_qV Q) := by
  unfold fX11_onRest_111 at h
  refine mv_aload_n 0 dX11_onRest_111 rfl ?_
  refine mv_iconst 0 dX11_onRest_112 (by decide) ?_
  refine mv_cvI (As := [.int 0]) (st := []) okX11_name lX11_297 (by decide) rfl rfl rfl (Nat.le_of_ble_eq_true rfl) rfl (Nat.le_of_ble_eq_true rfl) dX11_onRest_113 (by omega) rfl (zX11_name (d := d - 1) (by omega) 0 M (mv_bindE h)) (fun r52 M53 h => ?_)
  refine mv_istore_n [(3, .int r52), (0, .ref 62)] dX11_onRest_116 (by decide) rfl ?_
  refine mv_goto 364 dX11_onRest_117 (by decide) ?_
  exact mv_vret rfl dX11_onRest_364 ⟨rfl, h⟩
noncomputable def gX11_onRest_304 (x2 : Int32) (x4 : Int32) (x5 : Int32) (M : mv_M) : Option (((Int32 × Int32 × Int32) ⊕ Unit) × mv_M) :=
  if (M.1 62 32) ≤ x5 then
    mv_let (mv_si M 62 32 x4) fun M54 =>
    mv_bind (fX11_make x2 M54) fun _ M55 =>
    some (.inr (()), M55)
  else
    mv_chk (mv_inb x5 1100) <|
    mv_chk (mv_inb (M.1 62 30) 2002) <|
    mv_let (mv_si M 78 (M.1 62 30).toNatClampNeg (M.1 80 x5.toNatClampNeg)) fun M58 =>
    mv_let (mv_si M58 62 30 ((M58.1 62 30) + 1)) fun M59 =>
    mv_let (x5 + 1) fun v60 =>
    some (.inl (x2, x4, v60), M59)
noncomputable def fX11_onRest_304 (x2 : Int32) (x4 : Int32) (x5 : Int32) (M : mv_M) : Option (Unit × mv_M) := mv_loop (fun (s : Int32 × Int32 × Int32) M => gX11_onRest_304 s.1 s.2.1 s.2.2 M) (x2, x4, x5) M
set_option maxRecDepth 100000 in
set_option maxHeartbeats 4000000 in
theorem zX11_onRest_304 {l : Launch} {d : Nat} {Q : Unit → mv_M → Prop} (hd : 6 ≤ d) (x2 : Int32) (x4 : Int32) (x5 : Int32) (M : mv_M) (h : mv_ok (fX11_onRest_304 x2 x4 x5 M) Q) : mv l mX11_onRest d 0 304 [(0, .ref 62), (2, .int x2), (4, .int x4), (5, .int x5)] [] M (mv_qV Q) := by
  unfold fX11_onRest_304 at h
  refine mv_loopE (A := (fun (s : Int32 × Int32 × Int32) M => mv l mX11_onRest d 0 304 [(0, .ref 62), (2, .int s.1), (4, .int s.2.1), (5, .int s.2.2)] [] M (mv_qV Q))) ?_ (x2, x4, x5) M h
  · rintro ⟨x2, x4, x5⟩ M h
    try dsimp only at h
    show mv l mX11_onRest d 0 304 [(0, .ref 62), (2, .int x2), (4, .int x4), (5, .int x5)] [] M (mv_qV Q)
    unfold gX11_onRest_304 at h
    refine mv_iload 3 dX11_onRest_304 rfl ?_
    refine mv_aload_n 0 dX11_onRest_306 rfl ?_
    refine mv_getI fX11_294 (by decide) rfl rfl dX11_onRest_307 ?_
    refine mv_icmp_ge 345 dX11_onRest_310 (by decide) (fun z => ?_) (fun z => ?_)
    · replace h := mv_ifT z h
      refine mv_aload_n 0 dX11_onRest_345 rfl ?_
      refine mv_iload 2 dX11_onRest_346 rfl ?_
      refine mv_putI fX11_294 (by decide) rfl rfl dX11_onRest_348 (fun M54 eM54 => ?_)
      replace h := mv_letE h M54 eM54
      refine mv_aload_n 0 dX11_onRest_351 rfl ?_
      refine mv_iload_n 1 dX11_onRest_352 rfl ?_
      refine mv_cvV (As := [.int x2]) (st := []) okX11_make lX11_291 (by decide) rfl rfl rfl (Nat.le_of_ble_eq_true rfl) rfl (Nat.le_of_ble_eq_true rfl) dX11_onRest_353 (by omega) rfl (zX11_make (d := d - 1) (by omega) x2 M54 (mv_bindE h)) (fun _ M55 h => ?_)
      refine mv_goto 364 dX11_onRest_356 (by decide) ?_
      exact mv_vret rfl dX11_onRest_364 ⟨rfl, h⟩
    · replace h := mv_ifF z h
      refine mv_aload_n 0 dX11_onRest_313 rfl ?_
      refine mv_getR 78 fX11_60 (by decide) rfl rfl rfl dX11_onRest_314 ?_
      refine mv_aload_n 0 dX11_onRest_317 rfl ?_
      refine mv_getI fX11_301 (by decide) rfl rfl dX11_onRest_318 ?_
      refine mv_aload_n 0 dX11_onRest_321 rfl ?_
      refine mv_getR 80 fX11_66 (by decide) rfl rfl rfl dX11_onRest_322 ?_
      refine mv_iload 3 dX11_onRest_325 rfl ?_
      obtain ⟨hi56, h⟩ := mv_chkE h
      refine mv_ild (by decide) rfl (mv_inE hi56) dX11_onRest_327 ?_
      obtain ⟨hi57, h⟩ := mv_chkE h
      refine mv_ist (by decide) rfl (mv_inE hi57) dX11_onRest_328 (fun M58 eM58 => ?_)
      replace h := mv_letE h M58 eM58
      refine mv_aload_n 0 dX11_onRest_329 rfl ?_
      refine mv_dup dX11_onRest_330 rfl ?_
      refine mv_getI fX11_301 (by decide) rfl rfl dX11_onRest_331 ?_
      refine mv_iconst 1 dX11_onRest_334 (by decide) ?_
      refine mv_iadd dX11_onRest_335 ?_
      refine mv_putI fX11_301 (by decide) rfl rfl dX11_onRest_336 (fun M59 eM59 => ?_)
      replace h := mv_letE h M59 eM59
      obtain ⟨v60, ev60⟩ : ∃ z : Int32, z = x5 + 1 := ⟨_, rfl⟩
      replace h := mv_letE h v60 ev60
      refine mv_iinc v60 3 [(5, .int v60), (0, .ref 62), (2, .int x2), (4, .int x4)] dX11_onRest_339 rfl (by rw [ev60]; rfl) (by decide) rfl ?_
      refine mv_goto 304 dX11_onRest_342 (by decide) ?_
      refine mv_sub [1, 2, 3, 0] rfl ?_
      exact h
noncomputable def fX11_onRest (a0 : Int32) (a1 : Int32) (M : mv_M) : Option (Unit × mv_M) :=
  if a0 = 13 then
    mv_bind (fX11_name 0 M) fun r2 M3 =>
    mv_chk (mv_inb a1 2002) <|
    mv_let (mv_si M3 74 a1.toNatClampNeg r2) fun M5 =>
    some ((), M5)
  else
    if a0 = 14 then
      if (M.1 62 4) = 10 then
        mv_chk (mv_inb a1 2002) <|
        mv_chk (mv_inb ((16 * (M.1 62 33)) + (M.1 74 a1.toNatClampNeg)) 384) <|
        if (lg_cmp (M.2.1 62 7) (M.2.1 69 ((16 * (M.1 62 33)) + (M.1 74 a1.toNatClampNeg)).toNatClampNeg)) = 0 then
          mv_bind (fX11_stop 3 (M.1 62 5) M) fun _ M9 =>
          fX11_onRest_111 M9
        else
          fX11_onRest_111 M
      else
        fX11_onRest_111 M
    else
      if a0 = 15 then
        mv_bind (fX11_last M) fun r11 M12 =>
        mv_chk (mv_inb a1 2002) <|
        mv_let (mv_si M12 72 a1.toNatClampNeg r11) fun M14 =>
        some ((), M14)
      else
        if a0 = 16 then
          mv_bind (fX11_last M) fun r16 M17 =>
          mv_chk (mv_inb a1 2002) <|
          mv_let (mv_si M17 73 a1.toNatClampNeg r16) fun M19 =>
          some ((), M19)
        else
          if a0 = 17 then
            mv_bind (fX11_last M) fun r21 M22 =>
            mv_chk (mv_inb a1 2002) <|
            mv_let (mv_si M22 74 a1.toNatClampNeg r21) fun M24 =>
            some ((), M24)
          else
            if a0 = 18 then
              mv_bind (fX11_make a1 M) fun _ M26 =>
              some ((), M26)
            else
              if a0 = 19 then
                mv_let (mv_si M 62 40 ((M.1 62 40) - 1)) fun M28 =>
                mv_chk (mv_inb (M28.1 62 40) 16) <|
                mv_chk (mv_inb a1 2002) <|
                mv_let (mv_si M28 72 a1.toNatClampNeg (M28.1 84 (M28.1 62 40).toNatClampNeg)) fun M31 =>
                mv_bind (fX11_make a1 M31) fun _ M32 =>
                some ((), M32)
              else
                if a0 = 20 then
                  mv_bind (fX11_last M) fun r34 M35 =>
                  mv_chk (mv_inb (M.1 62 32) 1100) <|
                  mv_let (mv_si M35 80 (M.1 62 32).toNatClampNeg r34) fun M37 =>
                  mv_let (mv_si M37 62 32 ((M37.1 62 32) + 1)) fun M38 =>
                  if (M38.1 62 4) = 16 then
                    mv_bind (fX11_push 20 a1 M38) fun _ M41 =>
                    mv_bind (fX11_push 4 0 M41) fun _ M42 =>
                    mv_bind (fX11_pass M42) fun _ M43 =>
                    some ((), M43)
                  else
                    mv_bind (fX11_push 21 a1 M38) fun _ M39 =>
                    mv_bind (fX11_push 1 15 M39) fun _ M40 =>
                    some ((), M40)
                else
                  if a0 = 21 then
                    mv_chk (mv_inb a1 2002) <|
                    mv_let (M.1 73 a1.toNatClampNeg) fun v46 =>
                    mv_chk (mv_inb a1 2002) <|
                    mv_let (mv_si M 72 a1.toNatClampNeg (M.1 62 30)) fun M48 =>
                    mv_chk (mv_inb a1 2002) <|
                    mv_let (mv_si M48 73 a1.toNatClampNeg ((M48.1 62 32) - v46)) fun M50 =>
                    fX11_onRest_304 a1 v46 v46 M50
                  else
                    mv_bind (fX11_onCouple a1 M) fun _ M51 =>
                    some ((), M51)
set_option maxRecDepth 100000 in
set_option maxHeartbeats 4000000 in
theorem zX11_onRest {l : Launch} {d : Nat} {Q : Unit → mv_M → Prop} (hd : 6 ≤ d) (a0 : Int32) (a1 : Int32) (M : mv_M) (h : mv_ok (fX11_onRest a0 a1 M) Q) : mv l mX11_onRest d 0 0 (lv_args 0 [.ref 62, .int a0, .int a1]) [] M (mv_qV Q) := by
  unfold fX11_onRest at h
  show mv l mX11_onRest d 0 0 [(0, .ref 62), (1, .int a0), (2, .int a1)] [] M (mv_qV Q)
  refine mv_iload_n 1 dX11_onRest_0 rfl ?_
  by_cases z1 : a0 = 13
  · replace h := mv_ifT z1 h
    refine mv_tableIn (off := 51) 52 dX11_onRest_1 (by rw [z1]; decide) (by rw [z1]; decide) (by rw [z1]; rfl) (by decide) ?_
    refine mv_aload_n 0 dX11_onRest_52 rfl ?_
    refine mv_getR 74 fX11_48 (by decide) rfl rfl rfl dX11_onRest_53 ?_
    refine mv_iload_n 2 dX11_onRest_56 rfl ?_
    refine mv_aload_n 0 dX11_onRest_57 rfl ?_
    refine mv_iconst 0 dX11_onRest_58 (by decide) ?_
    refine mv_cvI (As := [.int 0]) (st := [.int a1, .ref 74]) okX11_name lX11_297 (by decide) rfl rfl rfl (Nat.le_of_ble_eq_true rfl) rfl (Nat.le_of_ble_eq_true rfl) dX11_onRest_59 (by omega) rfl (zX11_name (d := d - 1) (by omega) 0 M (mv_bindE h)) (fun r2 M3 h => ?_)
    obtain ⟨hi4, h⟩ := mv_chkE h
    refine mv_ist (by decide) rfl (mv_inE hi4) dX11_onRest_62 (fun M5 eM5 => ?_)
    replace h := mv_letE h M5 eM5
    refine mv_goto 364 dX11_onRest_63 (by decide) ?_
    exact mv_vret rfl dX11_onRest_364 ⟨rfl, h⟩
  · replace h := mv_ifF z1 h
    by_cases z6 : a0 = 14
    · replace h := mv_ifT z6 h
      refine mv_tableIn (off := 65) 66 dX11_onRest_1 (by rw [z6]; decide) (by rw [z6]; decide) (by rw [z6]; rfl) (by decide) ?_
      refine mv_aload_n 0 dX11_onRest_66 rfl ?_
      refine mv_getI fX11_193 (by decide) rfl rfl dX11_onRest_67 ?_
      refine mv_bipush 10 dX11_onRest_70 (by decide) ?_
      refine mv_icmp_ne 111 dX11_onRest_72 (by decide) (fun z => ?_) (fun z => ?_)
      · replace h := mv_ifF z h
        refine mv_sub [0] rfl ?_
        exact zX11_onRest_111 hd M h
      · replace h := mv_ifT z h
        refine mv_aload_n 0 dX11_onRest_75 rfl ?_
        refine mv_getL fX11_222 (by decide) rfl rfl dX11_onRest_76 ?_
        refine mv_aload_n 0 dX11_onRest_79 rfl ?_
        refine mv_getR 69 fX11_33 (by decide) rfl rfl rfl dX11_onRest_80 ?_
        refine mv_bipush 16 dX11_onRest_83 (by decide) ?_
        refine mv_aload_n 0 dX11_onRest_85 rfl ?_
        refine mv_getI fX11_239 (by decide) rfl rfl dX11_onRest_86 ?_
        refine mv_imul dX11_onRest_89 ?_
        refine mv_aload_n 0 dX11_onRest_90 rfl ?_
        refine mv_getR 74 fX11_48 (by decide) rfl rfl rfl dX11_onRest_91 ?_
        refine mv_iload_n 2 dX11_onRest_94 rfl ?_
        obtain ⟨hi7, h⟩ := mv_chkE h
        refine mv_ild (by decide) rfl (mv_inE hi7) dX11_onRest_95 ?_
        refine mv_iadd dX11_onRest_96 ?_
        obtain ⟨hi8, h⟩ := mv_chkE h
        refine mv_lld (by decide) rfl (mv_inE hi8) dX11_onRest_97 ?_
        refine mv_lcmp dX11_onRest_98 ?_
        refine mv_if_ne 111 dX11_onRest_99 (by decide) (fun z => ?_) (fun z => ?_)
        · replace h := mv_ifF z h
          refine mv_sub [0] rfl ?_
          exact zX11_onRest_111 hd M h
        · replace h := mv_ifT z h
          refine mv_aload_n 0 dX11_onRest_102 rfl ?_
          refine mv_iconst 3 dX11_onRest_103 (by decide) ?_
          refine mv_aload_n 0 dX11_onRest_104 rfl ?_
          refine mv_getI fX11_190 (by decide) rfl rfl dX11_onRest_105 ?_
          refine mv_cvV (As := [.int 3, .int (M.1 62 5)]) (st := []) okX11_stop lX11_205 (by decide) rfl rfl rfl (Nat.le_of_ble_eq_true rfl) rfl (Nat.le_of_ble_eq_true rfl) dX11_onRest_108 (by omega) rfl (zX11_stop (d := d - 1) (by omega) 3 (M.1 62 5) M (mv_bindE h)) (fun _ M9 h => ?_)
          refine mv_sub [0] rfl ?_
          exact zX11_onRest_111 hd M9 h
    · replace h := mv_ifF z6 h
      by_cases z10 : a0 = 15
      · replace h := mv_ifT z10 h
        refine mv_tableIn (off := 119) 120 dX11_onRest_1 (by rw [z10]; decide) (by rw [z10]; decide) (by rw [z10]; rfl) (by decide) ?_
        refine mv_aload_n 0 dX11_onRest_120 rfl ?_
        refine mv_getR 72 fX11_42 (by decide) rfl rfl rfl dX11_onRest_121 ?_
        refine mv_iload_n 2 dX11_onRest_124 rfl ?_
        refine mv_aload_n 0 dX11_onRest_125 rfl ?_
        refine mv_cvI (As := []) (st := [.int a1, .ref 72]) okX11_last lX11_287 (by decide) rfl rfl rfl (Nat.le_of_ble_eq_true rfl) rfl (Nat.le_of_ble_eq_true rfl) dX11_onRest_126 (by omega) rfl (zX11_last (d := d - 1) (by omega) M (mv_bindE h)) (fun r11 M12 h => ?_)
        obtain ⟨hi13, h⟩ := mv_chkE h
        refine mv_ist (by decide) rfl (mv_inE hi13) dX11_onRest_129 (fun M14 eM14 => ?_)
        replace h := mv_letE h M14 eM14
        refine mv_goto 364 dX11_onRest_130 (by decide) ?_
        exact mv_vret rfl dX11_onRest_364 ⟨rfl, h⟩
      · replace h := mv_ifF z10 h
        by_cases z15 : a0 = 16
        · replace h := mv_ifT z15 h
          refine mv_tableIn (off := 132) 133 dX11_onRest_1 (by rw [z15]; decide) (by rw [z15]; decide) (by rw [z15]; rfl) (by decide) ?_
          refine mv_aload_n 0 dX11_onRest_133 rfl ?_
          refine mv_getR 73 fX11_45 (by decide) rfl rfl rfl dX11_onRest_134 ?_
          refine mv_iload_n 2 dX11_onRest_137 rfl ?_
          refine mv_aload_n 0 dX11_onRest_138 rfl ?_
          refine mv_cvI (As := []) (st := [.int a1, .ref 73]) okX11_last lX11_287 (by decide) rfl rfl rfl (Nat.le_of_ble_eq_true rfl) rfl (Nat.le_of_ble_eq_true rfl) dX11_onRest_139 (by omega) rfl (zX11_last (d := d - 1) (by omega) M (mv_bindE h)) (fun r16 M17 h => ?_)
          obtain ⟨hi18, h⟩ := mv_chkE h
          refine mv_ist (by decide) rfl (mv_inE hi18) dX11_onRest_142 (fun M19 eM19 => ?_)
          replace h := mv_letE h M19 eM19
          refine mv_goto 364 dX11_onRest_143 (by decide) ?_
          exact mv_vret rfl dX11_onRest_364 ⟨rfl, h⟩
        · replace h := mv_ifF z15 h
          by_cases z20 : a0 = 17
          · replace h := mv_ifT z20 h
            refine mv_tableIn (off := 145) 146 dX11_onRest_1 (by rw [z20]; decide) (by rw [z20]; decide) (by rw [z20]; rfl) (by decide) ?_
            refine mv_aload_n 0 dX11_onRest_146 rfl ?_
            refine mv_getR 74 fX11_48 (by decide) rfl rfl rfl dX11_onRest_147 ?_
            refine mv_iload_n 2 dX11_onRest_150 rfl ?_
            refine mv_aload_n 0 dX11_onRest_151 rfl ?_
            refine mv_cvI (As := []) (st := [.int a1, .ref 74]) okX11_last lX11_287 (by decide) rfl rfl rfl (Nat.le_of_ble_eq_true rfl) rfl (Nat.le_of_ble_eq_true rfl) dX11_onRest_152 (by omega) rfl (zX11_last (d := d - 1) (by omega) M (mv_bindE h)) (fun r21 M22 h => ?_)
            obtain ⟨hi23, h⟩ := mv_chkE h
            refine mv_ist (by decide) rfl (mv_inE hi23) dX11_onRest_155 (fun M24 eM24 => ?_)
            replace h := mv_letE h M24 eM24
            refine mv_goto 364 dX11_onRest_156 (by decide) ?_
            exact mv_vret rfl dX11_onRest_364 ⟨rfl, h⟩
          · replace h := mv_ifF z20 h
            by_cases z25 : a0 = 18
            · replace h := mv_ifT z25 h
              refine mv_tableIn (off := 158) 159 dX11_onRest_1 (by rw [z25]; decide) (by rw [z25]; decide) (by rw [z25]; rfl) (by decide) ?_
              refine mv_aload_n 0 dX11_onRest_159 rfl ?_
              refine mv_iload_n 2 dX11_onRest_160 rfl ?_
              refine mv_cvV (As := [.int a1]) (st := []) okX11_make lX11_291 (by decide) rfl rfl rfl (Nat.le_of_ble_eq_true rfl) rfl (Nat.le_of_ble_eq_true rfl) dX11_onRest_161 (by omega) rfl (zX11_make (d := d - 1) (by omega) a1 M (mv_bindE h)) (fun _ M26 h => ?_)
              refine mv_goto 364 dX11_onRest_164 (by decide) ?_
              exact mv_vret rfl dX11_onRest_364 ⟨rfl, h⟩
            · replace h := mv_ifF z25 h
              by_cases z27 : a0 = 19
              · replace h := mv_ifT z27 h
                refine mv_tableIn (off := 166) 167 dX11_onRest_1 (by rw [z27]; decide) (by rw [z27]; decide) (by rw [z27]; rfl) (by decide) ?_
                refine mv_aload_n 0 dX11_onRest_167 rfl ?_
                refine mv_dup dX11_onRest_168 rfl ?_
                refine mv_getI fX11_248 (by decide) rfl rfl dX11_onRest_169 ?_
                refine mv_iconst 1 dX11_onRest_172 (by decide) ?_
                refine mv_isub dX11_onRest_173 ?_
                refine mv_putI fX11_248 (by decide) rfl rfl dX11_onRest_174 (fun M28 eM28 => ?_)
                replace h := mv_letE h M28 eM28
                refine mv_aload_n 0 dX11_onRest_177 rfl ?_
                refine mv_getR 72 fX11_42 (by decide) rfl rfl rfl dX11_onRest_178 ?_
                refine mv_iload_n 2 dX11_onRest_181 rfl ?_
                refine mv_aload_n 0 dX11_onRest_182 rfl ?_
                refine mv_getR 84 fX11_78 (by decide) rfl rfl rfl dX11_onRest_183 ?_
                refine mv_aload_n 0 dX11_onRest_186 rfl ?_
                refine mv_getI fX11_248 (by decide) rfl rfl dX11_onRest_187 ?_
                obtain ⟨hi29, h⟩ := mv_chkE h
                refine mv_ild (by decide) rfl (mv_inE hi29) dX11_onRest_190 ?_
                obtain ⟨hi30, h⟩ := mv_chkE h
                refine mv_ist (by decide) rfl (mv_inE hi30) dX11_onRest_191 (fun M31 eM31 => ?_)
                replace h := mv_letE h M31 eM31
                refine mv_aload_n 0 dX11_onRest_192 rfl ?_
                refine mv_iload_n 2 dX11_onRest_193 rfl ?_
                refine mv_cvV (As := [.int a1]) (st := []) okX11_make lX11_291 (by decide) rfl rfl rfl (Nat.le_of_ble_eq_true rfl) rfl (Nat.le_of_ble_eq_true rfl) dX11_onRest_194 (by omega) rfl (zX11_make (d := d - 1) (by omega) a1 M31 (mv_bindE h)) (fun _ M32 h => ?_)
                refine mv_goto 364 dX11_onRest_197 (by decide) ?_
                exact mv_vret rfl dX11_onRest_364 ⟨rfl, h⟩
              · replace h := mv_ifF z27 h
                by_cases z33 : a0 = 20
                · replace h := mv_ifT z33 h
                  refine mv_tableIn (off := 199) 200 dX11_onRest_1 (by rw [z33]; decide) (by rw [z33]; decide) (by rw [z33]; rfl) (by decide) ?_
                  refine mv_aload_n 0 dX11_onRest_200 rfl ?_
                  refine mv_getR 80 fX11_66 (by decide) rfl rfl rfl dX11_onRest_201 ?_
                  refine mv_aload_n 0 dX11_onRest_204 rfl ?_
                  refine mv_getI fX11_294 (by decide) rfl rfl dX11_onRest_205 ?_
                  refine mv_aload_n 0 dX11_onRest_208 rfl ?_
                  refine mv_cvI (As := []) (st := [.int (M.1 62 32), .ref 80]) okX11_last lX11_287 (by decide) rfl rfl rfl (Nat.le_of_ble_eq_true rfl) rfl (Nat.le_of_ble_eq_true rfl) dX11_onRest_209 (by omega) rfl (zX11_last (d := d - 1) (by omega) M (mv_bindE h)) (fun r34 M35 h => ?_)
                  obtain ⟨hi36, h⟩ := mv_chkE h
                  refine mv_ist (by decide) rfl (mv_inE hi36) dX11_onRest_212 (fun M37 eM37 => ?_)
                  replace h := mv_letE h M37 eM37
                  refine mv_aload_n 0 dX11_onRest_213 rfl ?_
                  refine mv_dup dX11_onRest_214 rfl ?_
                  refine mv_getI fX11_294 (by decide) rfl rfl dX11_onRest_215 ?_
                  refine mv_iconst 1 dX11_onRest_218 (by decide) ?_
                  refine mv_iadd dX11_onRest_219 ?_
                  refine mv_putI fX11_294 (by decide) rfl rfl dX11_onRest_220 (fun M38 eM38 => ?_)
                  replace h := mv_letE h M38 eM38
                  refine mv_aload_n 0 dX11_onRest_223 rfl ?_
                  refine mv_getI fX11_193 (by decide) rfl rfl dX11_onRest_224 ?_
                  refine mv_bipush 16 dX11_onRest_227 (by decide) ?_
                  refine mv_icmp_ne 252 dX11_onRest_229 (by decide) (fun z => ?_) (fun z => ?_)
                  · replace h := mv_ifF z h
                    refine mv_aload_n 0 dX11_onRest_252 rfl ?_
                    refine mv_bipush 21 dX11_onRest_253 (by decide) ?_
                    refine mv_iload_n 2 dX11_onRest_255 rfl ?_
                    refine mv_cvV (As := [.int 21, .int a1]) (st := []) okX11_push lX11_254 (by decide) rfl rfl rfl (Nat.le_of_ble_eq_true rfl) rfl (Nat.le_of_ble_eq_true rfl) dX11_onRest_256 (by omega) rfl (zX11_push (d := d - 1) (by omega) 21 a1 M38 (mv_bindE h)) (fun _ M39 h => ?_)
                    refine mv_aload_n 0 dX11_onRest_259 rfl ?_
                    refine mv_iconst 1 dX11_onRest_260 (by decide) ?_
                    refine mv_bipush 15 dX11_onRest_261 (by decide) ?_
                    refine mv_cvV (As := [.int 1, .int 15]) (st := []) okX11_push lX11_254 (by decide) rfl rfl rfl (Nat.le_of_ble_eq_true rfl) rfl (Nat.le_of_ble_eq_true rfl) dX11_onRest_263 (by omega) rfl (zX11_push (d := d - 1) (by omega) 1 15 M39 (mv_bindE h)) (fun _ M40 h => ?_)
                    refine mv_goto 364 dX11_onRest_266 (by decide) ?_
                    exact mv_vret rfl dX11_onRest_364 ⟨rfl, h⟩
                  · replace h := mv_ifT z h
                    refine mv_aload_n 0 dX11_onRest_232 rfl ?_
                    refine mv_bipush 20 dX11_onRest_233 (by decide) ?_
                    refine mv_iload_n 2 dX11_onRest_235 rfl ?_
                    refine mv_cvV (As := [.int 20, .int a1]) (st := []) okX11_push lX11_254 (by decide) rfl rfl rfl (Nat.le_of_ble_eq_true rfl) rfl (Nat.le_of_ble_eq_true rfl) dX11_onRest_236 (by omega) rfl (zX11_push (d := d - 1) (by omega) 20 a1 M38 (mv_bindE h)) (fun _ M41 h => ?_)
                    refine mv_aload_n 0 dX11_onRest_239 rfl ?_
                    refine mv_iconst 4 dX11_onRest_240 (by decide) ?_
                    refine mv_iconst 0 dX11_onRest_241 (by decide) ?_
                    refine mv_cvV (As := [.int 4, .int 0]) (st := []) okX11_push lX11_254 (by decide) rfl rfl rfl (Nat.le_of_ble_eq_true rfl) rfl (Nat.le_of_ble_eq_true rfl) dX11_onRest_242 (by omega) rfl (zX11_push (d := d - 1) (by omega) 4 0 M41 (mv_bindE h)) (fun _ M42 h => ?_)
                    refine mv_aload_n 0 dX11_onRest_245 rfl ?_
                    refine mv_cvV (As := []) (st := []) okX11_pass lX11_229 (by decide) rfl rfl rfl (Nat.le_of_ble_eq_true rfl) rfl (Nat.le_of_ble_eq_true rfl) dX11_onRest_246 (by omega) rfl (zX11_pass (d := d - 1) (by omega) M42 (mv_bindE h)) (fun _ M43 h => ?_)
                    refine mv_goto 364 dX11_onRest_249 (by decide) ?_
                    exact mv_vret rfl dX11_onRest_364 ⟨rfl, h⟩
                · replace h := mv_ifF z33 h
                  by_cases z44 : a0 = 21
                  · replace h := mv_ifT z44 h
                    refine mv_tableIn (off := 268) 269 dX11_onRest_1 (by rw [z44]; decide) (by rw [z44]; decide) (by rw [z44]; rfl) (by decide) ?_
                    refine mv_aload_n 0 dX11_onRest_269 rfl ?_
                    refine mv_getR 73 fX11_45 (by decide) rfl rfl rfl dX11_onRest_270 ?_
                    refine mv_iload_n 2 dX11_onRest_273 rfl ?_
                    obtain ⟨hi45, h⟩ := mv_chkE h
                    refine mv_ild (by decide) rfl (mv_inE hi45) dX11_onRest_274 ?_
                    refine mv_topi (fun v46 ev46 => ?_)
                    replace h := mv_letE h v46 ev46
                    refine mv_istore [(4, .int v46), (0, .ref 62), (1, .int a0), (2, .int a1)] dX11_onRest_275 (by decide) rfl ?_
                    refine mv_aload_n 1 dX11_onRest_277 rfl ?_
                    refine mv_getR 72 fX11_42 (by decide) rfl rfl rfl dX11_onRest_278 ?_
                    refine mv_iload_n 3 dX11_onRest_281 rfl ?_
                    refine mv_aload_n 1 dX11_onRest_282 rfl ?_
                    refine mv_getI fX11_301 (by decide) rfl rfl dX11_onRest_283 ?_
                    obtain ⟨hi47, h⟩ := mv_chkE h
                    refine mv_ist (by decide) rfl (mv_inE hi47) dX11_onRest_286 (fun M48 eM48 => ?_)
                    replace h := mv_letE h M48 eM48
                    refine mv_aload_n 1 dX11_onRest_287 rfl ?_
                    refine mv_getR 73 fX11_45 (by decide) rfl rfl rfl dX11_onRest_288 ?_
                    refine mv_iload_n 3 dX11_onRest_291 rfl ?_
                    refine mv_aload_n 1 dX11_onRest_292 rfl ?_
                    refine mv_getI fX11_294 (by decide) rfl rfl dX11_onRest_293 ?_
                    refine mv_iload 0 dX11_onRest_296 rfl ?_
                    refine mv_isub dX11_onRest_298 ?_
                    obtain ⟨hi49, h⟩ := mv_chkE h
                    refine mv_ist (by decide) rfl (mv_inE hi49) dX11_onRest_299 (fun M50 eM50 => ?_)
                    replace h := mv_letE h M50 eM50
                    refine mv_iload 0 dX11_onRest_300 rfl ?_
                    refine mv_istore [(5, .int v46), (4, .int v46), (0, .ref 62), (1, .int a0), (2, .int a1)] dX11_onRest_302 (by decide) rfl ?_
                    refine mv_sub [2, 4, 1, 0] rfl ?_
                    exact zX11_onRest_304 hd a1 v46 v46 M50 h
                  · replace h := mv_ifF z44 h
                    refine mv_tableOut 359 dX11_onRest_1 (by have q0 := mv_ne 13 (v := 13) (by decide) z1; have q1 := mv_ne 14 (v := 14) (by decide) z6; have q2 := mv_ne 15 (v := 15) (by decide) z10; have q3 := mv_ne 16 (v := 16) (by decide) z15; have q4 := mv_ne 17 (v := 17) (by decide) z20; have q5 := mv_ne 18 (v := 18) (by decide) z25; have q6 := mv_ne 19 (v := 19) (by decide) z27; have q7 := mv_ne 20 (v := 20) (by decide) z33; have q8 := mv_ne 21 (v := 21) (by decide) z44; omega) (by decide) ?_
                    refine mv_aload_n 0 dX11_onRest_359 rfl ?_
                    refine mv_iload_n 2 dX11_onRest_360 rfl ?_
                    refine mv_cvV (As := [.int a1]) (st := []) okX11_onCouple lX11_304 (by decide) rfl rfl rfl (Nat.le_of_ble_eq_true rfl) rfl (Nat.le_of_ble_eq_true rfl) dX11_onRest_361 (by omega) rfl (zX11_onCouple (d := d - 1) (by omega) a1 M (mv_bindE h)) (fun _ M51 h => ?_)
                    exact mv_vret rfl dX11_onRest_364 ⟨rfl, h⟩
