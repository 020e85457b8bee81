theorem dX11_run_0 : decode cX11_run 0 = .ok (.bipush 12, 2) := by decide +kernel
theorem dX11_run_2 : decode cX11_run 2 = .ok (.aload_n 0, 1) := by decide +kernel
theorem dX11_run_3 : decode cX11_run 3 = .ok (.getfield 345, 3) := by decide +kernel
theorem dX11_run_6 : decode cX11_run 6 = .ok (.imul, 1) := by decide +kernel
theorem dX11_run_7 : decode cX11_run 7 = .ok (.aload_n 0, 1) := by decide +kernel
theorem dX11_run_8 : decode cX11_run 8 = .ok (.iload_n 1, 1) := by decide +kernel
theorem dX11_run_9 : decode cX11_run 9 = .ok (.invokevirtual 357, 3) := by decide +kernel
theorem dX11_run_12 : decode cX11_run 12 = .ok (.ifCond .eq 7, 3) := by decide +kernel
theorem dX11_run_15 : decode cX11_run 15 = .ok (.iload_n 1, 1) := by decide +kernel
theorem dX11_run_16 : decode cX11_run 16 = .ok (.goto 4, 3) := by decide +kernel
theorem dX11_run_19 : decode cX11_run 19 = .ok (.iconst 0, 1) := by decide +kernel
theorem dX11_run_20 : decode cX11_run 20 = .ok (.iadd, 1) := by decide +kernel
theorem dX11_run_21 : decode cX11_run 21 = .ok (.istore 4, 2) := by decide +kernel
theorem dX11_run_23 : decode cX11_run 23 = .ok (.iconst 0, 1) := by decide +kernel
theorem dX11_run_24 : decode cX11_run 24 = .ok (.istore 5, 2) := by decide +kernel
theorem dX11_run_26 : decode cX11_run 26 = .ok (.iconst 0, 1) := by decide +kernel
theorem dX11_run_27 : decode cX11_run 27 = .ok (.istore 6, 2) := by decide +kernel
theorem dX11_run_29 : decode cX11_run 29 = .ok (.aload_n 0, 1) := by decide +kernel
theorem dX11_run_30 : decode cX11_run 30 = .ok (.getfield 341, 3) := by decide +kernel
theorem dX11_run_33 : decode cX11_run 33 = .ok (.ifCond .eq 42, 3) := by decide +kernel
theorem dX11_run_36 : decode cX11_run 36 = .ok (.iload 6, 2) := by decide +kernel
theorem dX11_run_38 : decode cX11_run 38 = .ok (.aload_n 0, 1) := by decide +kernel
theorem dX11_run_39 : decode cX11_run 39 = .ok (.getfield 24, 3) := by decide +kernel
theorem dX11_run_42 : decode cX11_run 42 = .ok (.iload 4, 2) := by decide +kernel
theorem dX11_run_44 : decode cX11_run 44 = .ok (.iaload, 1) := by decide +kernel
theorem dX11_run_45 : decode cX11_run 45 = .ok (.if_icmp .ge 30, 3) := by decide +kernel
theorem dX11_run_48 : decode cX11_run 48 = .ok (.aload_n 0, 1) := by decide +kernel
theorem dX11_run_49 : decode cX11_run 49 = .ok (.iload 5, 2) := by decide +kernel
theorem dX11_run_51 : decode cX11_run 51 = .ok (.aload_n 0, 1) := by decide +kernel
theorem dX11_run_52 : decode cX11_run 52 = .ok (.getfield 36, 3) := by decide +kernel
theorem dX11_run_55 : decode cX11_run 55 = .ok (.bipush 16, 2) := by decide +kernel
theorem dX11_run_57 : decode cX11_run 57 = .ok (.iload 4, 2) := by decide +kernel
theorem dX11_run_59 : decode cX11_run 59 = .ok (.imul, 1) := by decide +kernel
theorem dX11_run_60 : decode cX11_run 60 = .ok (.iload 6, 2) := by decide +kernel
theorem dX11_run_62 : decode cX11_run 62 = .ok (.iadd, 1) := by decide +kernel
theorem dX11_run_63 : decode cX11_run 63 = .ok (.iaload, 1) := by decide +kernel
theorem dX11_run_64 : decode cX11_run 64 = .ok (.invokevirtual 405, 3) := by decide +kernel
theorem dX11_run_67 : decode cX11_run 67 = .ok (.istore 5, 2) := by decide +kernel
theorem dX11_run_69 : decode cX11_run 69 = .ok (.iinc 6 1, 3) := by decide +kernel
theorem dX11_run_72 : decode cX11_run 72 = .ok (.goto (-43), 3) := by decide +kernel
theorem dX11_run_75 : decode cX11_run 75 = .ok (.aload_n 0, 1) := by decide +kernel
theorem dX11_run_76 : decode cX11_run 76 = .ok (.aload_n 0, 1) := by decide +kernel
theorem dX11_run_77 : decode cX11_run 77 = .ok (.getfield 341, 3) := by decide +kernel
theorem dX11_run_80 : decode cX11_run 80 = .ok (.ifCond .ne 7, 3) := by decide +kernel
theorem dX11_run_83 : decode cX11_run 83 = .ok (.iconst 1, 1) := by decide +kernel
theorem dX11_run_84 : decode cX11_run 84 = .ok (.goto 42, 3) := by decide +kernel
theorem dX11_run_87 : decode cX11_run 87 = .ok (.aload_n 0, 1) := by decide +kernel
theorem dX11_run_88 : decode cX11_run 88 = .ok (.iload_n 1, 1) := by decide +kernel
theorem dX11_run_89 : decode cX11_run 89 = .ok (.iload_n 2, 1) := by decide +kernel
theorem dX11_run_90 : decode cX11_run 90 = .ok (.invokevirtual 387, 3) := by decide +kernel
theorem dX11_run_93 : decode cX11_run 93 = .ok (.ifCond .ne 7, 3) := by decide +kernel
theorem dX11_run_96 : decode cX11_run 96 = .ok (.iconst 2, 1) := by decide +kernel
theorem dX11_run_97 : decode cX11_run 97 = .ok (.goto 29, 3) := by decide +kernel
theorem dX11_run_100 : decode cX11_run 100 = .ok (.iload_n 3, 1) := by decide +kernel
theorem dX11_run_101 : decode cX11_run 101 = .ok (.i2l, 1) := by decide +kernel
theorem dX11_run_102 : decode cX11_run 102 = .ok (.lconst 0, 1) := by decide +kernel
theorem dX11_run_103 : decode cX11_run 103 = .ok (.ldc2_w 462, 3) := by decide +kernel
theorem dX11_run_106 : decode cX11_run 106 = .ok (.invokestatic 154, 3) := by decide +kernel
theorem dX11_run_109 : decode cX11_run 109 = .ok (.ifCond .eq 12, 3) := by decide +kernel
theorem dX11_run_112 : decode cX11_run 112 = .ok (.iload 5, 2) := by decide +kernel
theorem dX11_run_114 : decode cX11_run 114 = .ok (.aload_n 0, 1) := by decide +kernel
theorem dX11_run_115 : decode cX11_run 115 = .ok (.getfield 402, 3) := by decide +kernel
theorem dX11_run_118 : decode cX11_run 118 = .ok (.if_icmp .eq 7, 3) := by decide +kernel
theorem dX11_run_121 : decode cX11_run 121 = .ok (.iconst 3, 1) := by decide +kernel
theorem dX11_run_122 : decode cX11_run 122 = .ok (.goto 4, 3) := by decide +kernel
theorem dX11_run_125 : decode cX11_run 125 = .ok (.iconst 0, 1) := by decide +kernel
theorem dX11_run_126 : decode cX11_run 126 = .ok (.putfield 148, 3) := by decide +kernel
theorem dX11_run_129 : decode cX11_run 129 = .ok (.aload_n 0, 1) := by decide +kernel
theorem dX11_run_130 : decode cX11_run 130 = .ok (.getfield 148, 3) := by decide +kernel
theorem dX11_run_133 : decode cX11_run 133 = .ok (.ifCond .le 5, 3) := by decide +kernel
theorem dX11_run_136 : decode cX11_run 136 = .ok (.iconst 0, 1) := by decide +kernel
theorem dX11_run_137 : decode cX11_run 137 = .ok (.ireturn, 1) := by decide +kernel
theorem dX11_run_138 : decode cX11_run 138 = .ok (.iconst 0, 1) := by decide +kernel
theorem dX11_run_139 : decode cX11_run 139 = .ok (.istore 5, 2) := by decide +kernel
theorem dX11_run_141 : decode cX11_run 141 = .ok (.iconst 0, 1) := by decide +kernel
theorem dX11_run_142 : decode cX11_run 142 = .ok (.istore 6, 2) := by decide +kernel
theorem dX11_run_144 : decode cX11_run 144 = .ok (.iload 6, 2) := by decide +kernel
theorem dX11_run_146 : decode cX11_run 146 = .ok (.aload_n 0, 1) := by decide +kernel
theorem dX11_run_147 : decode cX11_run 147 = .ok (.getfield 24, 3) := by decide +kernel
theorem dX11_run_150 : decode cX11_run 150 = .ok (.iload 4, 2) := by decide +kernel
theorem dX11_run_152 : decode cX11_run 152 = .ok (.iaload, 1) := by decide +kernel
theorem dX11_run_153 : decode cX11_run 153 = .ok (.if_icmp .ge 48, 3) := by decide +kernel
theorem dX11_run_156 : decode cX11_run 156 = .ok (.aload_n 0, 1) := by decide +kernel
theorem dX11_run_157 : decode cX11_run 157 = .ok (.getfield 139, 3) := by decide +kernel
theorem dX11_run_160 : decode cX11_run 160 = .ok (.iload 6, 2) := by decide +kernel
theorem dX11_run_162 : decode cX11_run 162 = .ok (.iload 5, 2) := by decide +kernel
theorem dX11_run_164 : decode cX11_run 164 = .ok (.iastore, 1) := by decide +kernel
theorem dX11_run_165 : decode cX11_run 165 = .ok (.aload_n 0, 1) := by decide +kernel
theorem dX11_run_166 : decode cX11_run 166 = .ok (.getfield 136, 3) := by decide +kernel
theorem dX11_run_169 : decode cX11_run 169 = .ok (.iload 6, 2) := by decide +kernel
theorem dX11_run_171 : decode cX11_run 171 = .ok (.iload 5, 2) := by decide +kernel
theorem dX11_run_173 : decode cX11_run 173 = .ok (.iastore, 1) := by decide +kernel
theorem dX11_run_174 : decode cX11_run 174 = .ok (.aload_n 0, 1) := by decide +kernel
theorem dX11_run_175 : decode cX11_run 175 = .ok (.iload 5, 2) := by decide +kernel
theorem dX11_run_177 : decode cX11_run 177 = .ok (.aload_n 0, 1) := by decide +kernel
theorem dX11_run_178 : decode cX11_run 178 = .ok (.getfield 36, 3) := by decide +kernel
theorem dX11_run_181 : decode cX11_run 181 = .ok (.bipush 16, 2) := by decide +kernel
theorem dX11_run_183 : decode cX11_run 183 = .ok (.iload 4, 2) := by decide +kernel
theorem dX11_run_185 : decode cX11_run 185 = .ok (.imul, 1) := by decide +kernel
theorem dX11_run_186 : decode cX11_run 186 = .ok (.iload 6, 2) := by decide +kernel
theorem dX11_run_188 : decode cX11_run 188 = .ok (.iadd, 1) := by decide +kernel
theorem dX11_run_189 : decode cX11_run 189 = .ok (.iaload, 1) := by decide +kernel
theorem dX11_run_190 : decode cX11_run 190 = .ok (.invokevirtual 464, 3) := by decide +kernel
theorem dX11_run_193 : decode cX11_run 193 = .ok (.istore 5, 2) := by decide +kernel
theorem dX11_run_195 : decode cX11_run 195 = .ok (.iinc 6 1, 3) := by decide +kernel
theorem dX11_run_198 : decode cX11_run 198 = .ok (.goto (-54), 3) := by decide +kernel
theorem dX11_run_201 : decode cX11_run 201 = .ok (.aload_n 0, 1) := by decide +kernel
theorem dX11_run_202 : decode cX11_run 202 = .ok (.iconst 0, 1) := by decide +kernel
theorem dX11_run_203 : decode cX11_run 203 = .ok (.putfield 402, 3) := by decide +kernel
theorem dX11_run_206 : decode cX11_run 206 = .ok (.aload_n 0, 1) := by decide +kernel
theorem dX11_run_207 : decode cX11_run 207 = .ok (.iconst 0, 1) := by decide +kernel
theorem dX11_run_208 : decode cX11_run 208 = .ok (.putfield 411, 3) := by decide +kernel
theorem dX11_run_211 : decode cX11_run 211 = .ok (.aload_n 0, 1) := by decide +kernel
theorem dX11_run_212 : decode cX11_run 212 = .ok (.iconst 0, 1) := by decide +kernel
theorem dX11_run_213 : decode cX11_run 213 = .ok (.putfield 459, 3) := by decide +kernel
theorem dX11_run_216 : decode cX11_run 216 = .ok (.aload_n 0, 1) := by decide +kernel
theorem dX11_run_217 : decode cX11_run 217 = .ok (.iconst 0, 1) := by decide +kernel
theorem dX11_run_218 : decode cX11_run 218 = .ok (.putfield 456, 3) := by decide +kernel
theorem dX11_run_221 : decode cX11_run 221 = .ok (.aload_n 0, 1) := by decide +kernel
theorem dX11_run_222 : decode cX11_run 222 = .ok (.iconst 0, 1) := by decide +kernel
theorem dX11_run_223 : decode cX11_run 223 = .ok (.putfield 438, 3) := by decide +kernel
theorem dX11_run_226 : decode cX11_run 226 = .ok (.aload_n 0, 1) := by decide +kernel
theorem dX11_run_227 : decode cX11_run 227 = .ok (.iload_n 3, 1) := by decide +kernel
theorem dX11_run_228 : decode cX11_run 228 = .ok (.putfield 441, 3) := by decide +kernel
theorem dX11_run_231 : decode cX11_run 231 = .ok (.aload_n 0, 1) := by decide +kernel
theorem dX11_run_232 : decode cX11_run 232 = .ok (.iconst 0, 1) := by decide +kernel
theorem dX11_run_233 : decode cX11_run 233 = .ok (.putfield 426, 3) := by decide +kernel
theorem dX11_run_236 : decode cX11_run 236 = .ok (.aload_n 0, 1) := by decide +kernel
theorem dX11_run_237 : decode cX11_run 237 = .ok (.iconst 0, 1) := by decide +kernel
theorem dX11_run_238 : decode cX11_run 238 = .ok (.putfield 444, 3) := by decide +kernel
theorem dX11_run_241 : decode cX11_run 241 = .ok (.aload_n 0, 1) := by decide +kernel
theorem dX11_run_242 : decode cX11_run 242 = .ok (.iconst 0, 1) := by decide +kernel
theorem dX11_run_243 : decode cX11_run 243 = .ok (.putfield 408, 3) := by decide +kernel
theorem dX11_run_246 : decode cX11_run 246 = .ok (.aload_n 0, 1) := by decide +kernel
theorem dX11_run_247 : decode cX11_run 247 = .ok (.iload_n 1, 1) := by decide +kernel
theorem dX11_run_248 : decode cX11_run 248 = .ok (.putfield 142, 3) := by decide +kernel
theorem dX11_run_251 : decode cX11_run 251 = .ok (.aload_n 0, 1) := by decide +kernel
theorem dX11_run_252 : decode cX11_run 252 = .ok (.iconst 0, 1) := by decide +kernel
theorem dX11_run_253 : decode cX11_run 253 = .ok (.putfield 429, 3) := by decide +kernel
theorem dX11_run_256 : decode cX11_run 256 = .ok (.aload_n 0, 1) := by decide +kernel
theorem dX11_run_257 : decode cX11_run 257 = .ok (.iconst 0, 1) := by decide +kernel
theorem dX11_run_258 : decode cX11_run 258 = .ok (.putfield 242, 3) := by decide +kernel
theorem dX11_run_261 : decode cX11_run 261 = .ok (.aload_n 0, 1) := by decide +kernel
theorem dX11_run_262 : decode cX11_run 262 = .ok (.iconst 1, 1) := by decide +kernel
theorem dX11_run_263 : decode cX11_run 263 = .ok (.aload_n 0, 1) := by decide +kernel
theorem dX11_run_264 : decode cX11_run 264 = .ok (.getfield 30, 3) := by decide +kernel
theorem dX11_run_267 : decode cX11_run 267 = .ok (.iload 4, 2) := by decide +kernel
theorem dX11_run_269 : decode cX11_run 269 = .ok (.iaload, 1) := by decide +kernel
theorem dX11_run_270 : decode cX11_run 270 = .ok (.iconst 0, 1) := by decide +kernel
theorem dX11_run_271 : decode cX11_run 271 = .ok (.invokevirtual 322, 3) := by decide +kernel
theorem dX11_run_274 : decode cX11_run 274 = .ok (.aload_n 0, 1) := by decide +kernel
theorem dX11_run_275 : decode cX11_run 275 = .ok (.invokevirtual 467, 3) := by decide +kernel
theorem dX11_run_278 : decode cX11_run 278 = .ok (.aload_n 0, 1) := by decide +kernel
theorem dX11_run_279 : decode cX11_run 279 = .ok (.aload_n 0, 1) := by decide +kernel
theorem dX11_run_280 : decode cX11_run 280 = .ok (.getfield 414, 3) := by decide +kernel
theorem dX11_run_283 : decode cX11_run 283 = .ok (.putfield 470, 3) := by decide +kernel
theorem dX11_run_286 : decode cX11_run 286 = .ok (.aload_n 0, 1) := by decide +kernel
theorem dX11_run_287 : decode cX11_run 287 = .ok (.aload_n 0, 1) := by decide +kernel
theorem dX11_run_288 : decode cX11_run 288 = .ok (.getfield 417, 3) := by decide +kernel
theorem dX11_run_291 : decode cX11_run 291 = .ok (.putfield 473, 3) := by decide +kernel
theorem dX11_run_294 : decode cX11_run 294 = .ok (.aload_n 0, 1) := by decide +kernel
theorem dX11_run_295 : decode cX11_run 295 = .ok (.getfield 408, 3) := by decide +kernel
theorem dX11_run_298 : decode cX11_run 298 = .ok (.ifCond .ne 19, 3) := by decide +kernel
theorem dX11_run_301 : decode cX11_run 301 = .ok (.aload_n 0, 1) := by decide +kernel
theorem dX11_run_302 : decode cX11_run 302 = .ok (.aload_n 0, 1) := by decide +kernel
theorem dX11_run_303 : decode cX11_run 303 = .ok (.getfield 21, 3) := by decide +kernel
theorem dX11_run_306 : decode cX11_run 306 = .ok (.iload 4, 2) := by decide +kernel
theorem dX11_run_308 : decode cX11_run 308 = .ok (.iaload, 1) := by decide +kernel
theorem dX11_run_309 : decode cX11_run 309 = .ok (.iload_n 2, 1) := by decide +kernel
theorem dX11_run_310 : decode cX11_run 310 = .ok (.invokevirtual 435, 3) := by decide +kernel
theorem dX11_run_313 : decode cX11_run 313 = .ok (.aload_n 0, 1) := by decide +kernel
theorem dX11_run_314 : decode cX11_run 314 = .ok (.invokevirtual 467, 3) := by decide +kernel
theorem dX11_run_317 : decode cX11_run 317 = .ok (.aload_n 0, 1) := by decide +kernel
theorem dX11_run_318 : decode cX11_run 318 = .ok (.aload_n 0, 1) := by decide +kernel
theorem dX11_run_319 : decode cX11_run 319 = .ok (.getfield 408, 3) := by decide +kernel
theorem dX11_run_322 : decode cX11_run 322 = .ok (.ifCond .ne 7, 3) := by decide +kernel
theorem dX11_run_325 : decode cX11_run 325 = .ok (.iconst 1, 1) := by decide +kernel
theorem dX11_run_326 : decode cX11_run 326 = .ok (.goto 7, 3) := by decide +kernel
theorem dX11_run_329 : decode cX11_run 329 = .ok (.aload_n 0, 1) := by decide +kernel
theorem dX11_run_330 : decode cX11_run 330 = .ok (.getfield 408, 3) := by decide +kernel
theorem dX11_run_333 : decode cX11_run 333 = .ok (.putfield 476, 3) := by decide +kernel
theorem dX11_run_336 : decode cX11_run 336 = .ok (.aload_n 0, 1) := by decide +kernel
theorem dX11_run_337 : decode cX11_run 337 = .ok (.getfield 476, 3) := by decide +kernel
theorem dX11_run_340 : decode cX11_run 340 = .ok (.ireturn, 1) := by decide +kernel
noncomputable def fX11_run_333 (s0 : Int32) (M : mv_M) : Option (Int32 × mv_M) :=
  mv_let (mv_si M 62 76 s0) fun M43 =>
  some (M43.1 62 76, M43)
set_option maxRecDepth 100000 in
set_option maxHeartbeats 4000000 in
theorem zX11_run_333 {l : Launch} {d : Nat} {Q : Int32 → mv_M → Prop} (hd : 5 ≤ d) (s0 : Int32) (M : mv_M) (h : mv_ok (fX11_run_333 s0 M) Q) : mv l mX11_run d 0 333 [(0, .ref 62)] [.int s0, .ref 62] M (mv_qI Q) := by
  unfold fX11_run_333 at h
  refine mv_putI fX11_476 (by decide) rfl rfl dX11_run_333 (fun M43 eM43 => ?_)
  replace h := mv_letE h M43 eM43
  refine mv_aload_n 0 dX11_run_336 rfl ?_
  refine mv_getI fX11_476 (by decide) rfl rfl dX11_run_337 ?_
  exact mv_iret rfl dX11_run_340 ⟨_, rfl, h⟩
noncomputable def fX11_run_317 (M : mv_M) : Option (Int32 × mv_M) :=
  if (M.1 62 74) = 0 then
    fX11_run_333 1 M
  else
    fX11_run_333 (M.1 62 74) M
set_option maxRecDepth 100000 in
set_option maxHeartbeats 4000000 in
theorem zX11_run_317 {l : Launch} {d : Nat} {Q : Int32 → mv_M → Prop} (hd : 5 ≤ d) (M : mv_M) (h : mv_ok (fX11_run_317 M) Q) : mv l mX11_run d 0 317 [(0, .ref 62)] [] M (mv_qI Q) := by
  unfold fX11_run_317 at h
  refine mv_aload_n 0 dX11_run_317 rfl ?_
  refine mv_aload_n 0 dX11_run_318 rfl ?_
  refine mv_getI fX11_408 (by decide) rfl rfl dX11_run_319 ?_
  refine mv_if_ne 329 dX11_run_322 (by decide) (fun z => ?_) (fun z => ?_)
  · replace h := mv_ifF z h
    refine mv_aload_n 0 dX11_run_329 rfl ?_
    refine mv_getI fX11_408 (by decide) rfl rfl dX11_run_330 ?_
    refine mv_sub [0] rfl ?_
    exact zX11_run_333 hd (M.1 62 74) M h
  · replace h := mv_ifT z h
    refine mv_iconst 1 dX11_run_325 (by decide) ?_
    refine mv_goto 333 dX11_run_326 (by decide) ?_
    refine mv_sub [0] rfl ?_
    exact zX11_run_333 hd 1 M h
noncomputable def gX11_run_144 (x1 : Int32) (x2 : Int32) (x3 : Int32) (x4 : Int32) (x5 : Int32) (x6 : Int32) (M : mv_M) : Option (((Int32 × Int32 × Int32 × Int32 × Int32 × Int32) ⊕ Int32) × mv_M) :=
  mv_chk (mv_inb x4 24) <|
  if (M.1 66 x4.toNatClampNeg) ≤ x6 then
    mv_let (mv_si M 62 55 0) fun M15 =>
    mv_let (mv_si M15 62 67 0) fun M16 =>
    mv_let (mv_si M16 62 68 0) fun M17 =>
    mv_let (mv_si M17 62 69 0) fun M18 =>
    mv_let (mv_si M18 62 70 0) fun M19 =>
    mv_let (mv_si M19 62 71 x3) fun M20 =>
    mv_let (mv_si M20 62 72 0) fun M21 =>
    mv_let (mv_si M21 62 73 0) fun M22 =>
    mv_let (mv_si M22 62 74 0) fun M23 =>
    mv_let (mv_si M23 62 75 x1) fun M24 =>
    mv_let (mv_si M24 62 82 0) fun M25 =>
    mv_let (mv_si M25 62 36 0) fun M26 =>
    mv_chk (mv_inb x4 24) <|
    mv_bind (fX11_task 1 (M26.1 68 x4.toNatClampNeg) 0 M26) fun _ M28 =>
    mv_bind (fX11_goes M28) fun _ M29 =>
    mv_let (mv_si M29 62 79 (M29.1 62 77)) fun M30 =>
    mv_let (mv_si M30 62 80 (M30.1 62 78)) fun M31 =>
    if (M31.1 62 74) = 0 then
      mv_chk (mv_inb x4 24) <|
      mv_bind (fX11_demand (M31.1 65 x4.toNatClampNeg) x2 M31) fun _ M33 =>
      mv_bind (fX11_goes M33) fun _ M34 =>
      mv_inr (fX11_run_317 M34)
    else
      mv_inr (fX11_run_317 M31)
  else
    mv_chk (mv_inb x6 4) <|
    mv_let (mv_si M 104 x6.toNatClampNeg x5) fun M36 =>
    mv_chk (mv_inb x6 24032) <|
    mv_let (mv_si M36 103 x6.toNatClampNeg x5) fun M38 =>
    mv_chk (mv_inb ((16 * x4) + x6) 384) <|
    mv_bind (fX11_lay x5 (M38.1 70 ((16 * x4) + x6).toNatClampNeg) M38) fun r40 M41 =>
    mv_let (x6 + 1) fun v42 =>
    some (.inl (x1, x2, x3, x4, r40, v42), M41)
noncomputable def fX11_run_144 (x1 : Int32) (x2 : Int32) (x3 : Int32) (x4 : Int32) (x5 : Int32) (x6 : Int32) (M : mv_M) : Option (Int32 × mv_M) := mv_loop (fun (s : Int32 × Int32 × Int32 × Int32 × Int32 × Int32) M => gX11_run_144 s.1 s.2.1 s.2.2.1 s.2.2.2.1 s.2.2.2.2.1 s.2.2.2.2.2 M) (x1, x2, x3, x4, x5, x6) M
set_option maxRecDepth 100000 in
set_option maxHeartbeats 4000000 in
theorem zX11_run_144 {l : Launch} {d : Nat} {Q : Int32 → mv_M → Prop} (hd : 5 ≤ d) (x1 : Int32) (x2 : Int32) (x3 : Int32) (x4 : Int32) (x5 : Int32) (x6 : Int32) (M : mv_M) (h : mv_ok (fX11_run_144 x1 x2 x3 x4 x5 x6 M) Q) : mv l mX11_run d 0 144 [(0, .ref 62), (1, .int x1), (2, .int x2), (3, .int x3), (4, .int x4), (5, .int x5), (6, .int x6)] [] M (mv_qI Q) := by
  unfold fX11_run_144 at h
  refine mv_loopE (A := (fun (s : Int32 × Int32 × Int32 × Int32 × Int32 × Int32) M => mv l mX11_run d 0 144 [(0, .ref 62), (1, .int s.1), (2, .int s.2.1), (3, .int s.2.2.1), (4, .int s.2.2.2.1), (5, .int s.2.2.2.2.1), (6, .int s.2.2.2.2.2)] [] M (mv_qI Q))) ?_ (x1, x2, x3, x4, x5, x6) M h
  · rintro ⟨x1, x2, x3, x4, x5, x6⟩ M h
    try dsimp only at h
    show mv l mX11_run d 0 144 [(0, .ref 62), (1, .int x1), (2, .int x2), (3, .int x3), (4, .int x4), (5, .int x5), (6, .int x6)] [] M (mv_qI Q)
    unfold gX11_run_144 at h
    refine mv_iload 6 dX11_run_144 rfl ?_
    refine mv_aload_n 0 dX11_run_146 rfl ?_
    refine mv_getR 66 fX11_24 (by decide) rfl rfl rfl dX11_run_147 ?_
    refine mv_iload 4 dX11_run_150 rfl ?_
    obtain ⟨hi14, h⟩ := mv_chkE h
    refine mv_ild (by decide) rfl (mv_inE hi14) dX11_run_152 ?_
    refine mv_icmp_ge 201 dX11_run_153 (by decide) (fun z => ?_) (fun z => ?_)
    · replace h := mv_ifT z h
      refine mv_aload_n 0 dX11_run_201 rfl ?_
      refine mv_iconst 0 dX11_run_202 (by decide) ?_
      refine mv_putI fX11_402 (by decide) rfl rfl dX11_run_203 (fun M15 eM15 => ?_)
      replace h := mv_letE h M15 eM15
      refine mv_aload_n 0 dX11_run_206 rfl ?_
      refine mv_iconst 0 dX11_run_207 (by decide) ?_
      refine mv_putI fX11_411 (by decide) rfl rfl dX11_run_208 (fun M16 eM16 => ?_)
      replace h := mv_letE h M16 eM16
      refine mv_aload_n 0 dX11_run_211 rfl ?_
      refine mv_iconst 0 dX11_run_212 (by decide) ?_
      refine mv_putI fX11_459 (by decide) rfl rfl dX11_run_213 (fun M17 eM17 => ?_)
      replace h := mv_letE h M17 eM17
      refine mv_aload_n 0 dX11_run_216 rfl ?_
      refine mv_iconst 0 dX11_run_217 (by decide) ?_
      refine mv_putI fX11_456 (by decide) rfl rfl dX11_run_218 (fun M18 eM18 => ?_)
      replace h := mv_letE h M18 eM18
      refine mv_aload_n 0 dX11_run_221 rfl ?_
      refine mv_iconst 0 dX11_run_222 (by decide) ?_
      refine mv_putI fX11_438 (by decide) rfl rfl dX11_run_223 (fun M19 eM19 => ?_)
      replace h := mv_letE h M19 eM19
      refine mv_aload_n 0 dX11_run_226 rfl ?_
      refine mv_iload_n 3 dX11_run_227 rfl ?_
      refine mv_putI fX11_441 (by decide) rfl rfl dX11_run_228 (fun M20 eM20 => ?_)
      replace h := mv_letE h M20 eM20
      refine mv_aload_n 0 dX11_run_231 rfl ?_
      refine mv_iconst 0 dX11_run_232 (by decide) ?_
      refine mv_putI fX11_426 (by decide) rfl rfl dX11_run_233 (fun M21 eM21 => ?_)
      replace h := mv_letE h M21 eM21
      refine mv_aload_n 0 dX11_run_236 rfl ?_
      refine mv_iconst 0 dX11_run_237 (by decide) ?_
      refine mv_putI fX11_444 (by decide) rfl rfl dX11_run_238 (fun M22 eM22 => ?_)
      replace h := mv_letE h M22 eM22
      refine mv_aload_n 0 dX11_run_241 rfl ?_
      refine mv_iconst 0 dX11_run_242 (by decide) ?_
      refine mv_putI fX11_408 (by decide) rfl rfl dX11_run_243 (fun M23 eM23 => ?_)
      replace h := mv_letE h M23 eM23
      refine mv_aload_n 0 dX11_run_246 rfl ?_
      refine mv_iload_n 1 dX11_run_247 rfl ?_
      refine mv_putI fX11_142 (by decide) rfl rfl dX11_run_248 (fun M24 eM24 => ?_)
      replace h := mv_letE h M24 eM24
      refine mv_aload_n 0 dX11_run_251 rfl ?_
      refine mv_iconst 0 dX11_run_252 (by decide) ?_
      refine mv_putI fX11_429 (by decide) rfl rfl dX11_run_253 (fun M25 eM25 => ?_)
      replace h := mv_letE h M25 eM25
      refine mv_aload_n 0 dX11_run_256 rfl ?_
      refine mv_iconst 0 dX11_run_257 (by decide) ?_
      refine mv_putI fX11_242 (by decide) rfl rfl dX11_run_258 (fun M26 eM26 => ?_)
      replace h := mv_letE h M26 eM26
      refine mv_aload_n 0 dX11_run_261 rfl ?_
      refine mv_iconst 1 dX11_run_262 (by decide) ?_
      refine mv_aload_n 0 dX11_run_263 rfl ?_
      refine mv_getR 68 fX11_30 (by decide) rfl rfl rfl dX11_run_264 ?_
      refine mv_iload 4 dX11_run_267 rfl ?_
      obtain ⟨hi27, h⟩ := mv_chkE h
      refine mv_ild (by decide) rfl (mv_inE hi27) dX11_run_269 ?_
      refine mv_iconst 0 dX11_run_270 (by decide) ?_
      refine mv_cvV (As := [.int 1, .int (M26.1 68 x4.toNatClampNeg), .int 0]) (st := []) okX11_task lX11_322 (by decide) rfl rfl rfl (Nat.le_of_ble_eq_true rfl) rfl (Nat.le_of_ble_eq_true rfl) dX11_run_271 (by omega) rfl (zX11_task (d := d - 1) (by omega) 1 (M26.1 68 x4.toNatClampNeg) 0 M26 (mv_bindE h)) (fun _ M28 h => ?_)
      refine mv_aload_n 0 dX11_run_274 rfl ?_
      refine mv_cvV (As := []) (st := []) okX11_goes lX11_467 (by decide) rfl rfl rfl (Nat.le_of_ble_eq_true rfl) rfl (Nat.le_of_ble_eq_true rfl) dX11_run_275 (by omega) rfl (zX11_goes (d := d - 1) (by omega) M28 (mv_bindE h)) (fun _ M29 h => ?_)
      refine mv_aload_n 0 dX11_run_278 rfl ?_
      refine mv_aload_n 0 dX11_run_279 rfl ?_
      refine mv_getI fX11_414 (by decide) rfl rfl dX11_run_280 ?_
      refine mv_putI fX11_470 (by decide) rfl rfl dX11_run_283 (fun M30 eM30 => ?_)
      replace h := mv_letE h M30 eM30
      refine mv_aload_n 0 dX11_run_286 rfl ?_
      refine mv_aload_n 0 dX11_run_287 rfl ?_
      refine mv_getI fX11_417 (by decide) rfl rfl dX11_run_288 ?_
      refine mv_putI fX11_473 (by decide) rfl rfl dX11_run_291 (fun M31 eM31 => ?_)
      replace h := mv_letE h M31 eM31
      refine mv_aload_n 0 dX11_run_294 rfl ?_
      refine mv_getI fX11_408 (by decide) rfl rfl dX11_run_295 ?_
      refine mv_if_ne 317 dX11_run_298 (by decide) (fun z => ?_) (fun z => ?_)
      · replace h := mv_ifF z h
        refine mv_sub [0] rfl ?_
        exact zX11_run_317 hd M31 (mv_inrE h)
      · replace h := mv_ifT z h
        refine mv_aload_n 0 dX11_run_301 rfl ?_
        refine mv_aload_n 0 dX11_run_302 rfl ?_
        refine mv_getR 65 fX11_21 (by decide) rfl rfl rfl dX11_run_303 ?_
        refine mv_iload 4 dX11_run_306 rfl ?_
        obtain ⟨hi32, h⟩ := mv_chkE h
        refine mv_ild (by decide) rfl (mv_inE hi32) dX11_run_308 ?_
        refine mv_iload_n 2 dX11_run_309 rfl ?_
        refine mv_cvV (As := [.int (M31.1 65 x4.toNatClampNeg), .int x2]) (st := []) okX11_demand lX11_435 (by decide) rfl rfl rfl (Nat.le_of_ble_eq_true rfl) rfl (Nat.le_of_ble_eq_true rfl) dX11_run_310 (by omega) rfl (zX11_demand (d := d - 1) (by omega) (M31.1 65 x4.toNatClampNeg) x2 M31 (mv_bindE h)) (fun _ M33 h => ?_)
        refine mv_aload_n 0 dX11_run_313 rfl ?_
        refine mv_cvV (As := []) (st := []) okX11_goes lX11_467 (by decide) rfl rfl rfl (Nat.le_of_ble_eq_true rfl) rfl (Nat.le_of_ble_eq_true rfl) dX11_run_314 (by omega) rfl (zX11_goes (d := d - 1) (by omega) M33 (mv_bindE h)) (fun _ M34 h => ?_)
        refine mv_sub [0] rfl ?_
        exact zX11_run_317 hd M34 (mv_inrE h)
    · replace h := mv_ifF z h
      refine mv_aload_n 0 dX11_run_156 rfl ?_
      refine mv_getR 104 fX11_139 (by decide) rfl rfl rfl dX11_run_157 ?_
      refine mv_iload 6 dX11_run_160 rfl ?_
      refine mv_iload 5 dX11_run_162 rfl ?_
      obtain ⟨hi35, h⟩ := mv_chkE h
      refine mv_ist (by decide) rfl (mv_inE hi35) dX11_run_164 (fun M36 eM36 => ?_)
      replace h := mv_letE h M36 eM36
      refine mv_aload_n 0 dX11_run_165 rfl ?_
      refine mv_getR 103 fX11_136 (by decide) rfl rfl rfl dX11_run_166 ?_
      refine mv_iload 6 dX11_run_169 rfl ?_
      refine mv_iload 5 dX11_run_171 rfl ?_
      obtain ⟨hi37, h⟩ := mv_chkE h
      refine mv_ist (by decide) rfl (mv_inE hi37) dX11_run_173 (fun M38 eM38 => ?_)
      replace h := mv_letE h M38 eM38
      refine mv_aload_n 0 dX11_run_174 rfl ?_
      refine mv_iload 5 dX11_run_175 rfl ?_
      refine mv_aload_n 0 dX11_run_177 rfl ?_
      refine mv_getR 70 fX11_36 (by decide) rfl rfl rfl dX11_run_178 ?_
      refine mv_bipush 16 dX11_run_181 (by decide) ?_
      refine mv_iload 4 dX11_run_183 rfl ?_
      refine mv_imul dX11_run_185 ?_
      refine mv_iload 6 dX11_run_186 rfl ?_
      refine mv_iadd dX11_run_188 ?_
      obtain ⟨hi39, h⟩ := mv_chkE h
      refine mv_ild (by decide) rfl (mv_inE hi39) dX11_run_189 ?_
      refine mv_cvI (As := [.int x5, .int (M38.1 70 ((16 * x4) + x6).toNatClampNeg)]) (st := []) okX11_lay lX11_464 (by decide) rfl rfl rfl (Nat.le_of_ble_eq_true rfl) rfl (Nat.le_of_ble_eq_true rfl) dX11_run_190 (by omega) rfl (zX11_lay (d := d - 1) (by omega) x5 (M38.1 70 ((16 * x4) + x6).toNatClampNeg) M38 (mv_bindE h)) (fun r40 M41 h => ?_)
      refine mv_istore [(5, .int r40), (0, .ref 62), (1, .int x1), (2, .int x2), (3, .int x3), (4, .int x4), (6, .int x6)] dX11_run_193 (by decide) rfl ?_
      obtain ⟨v42, ev42⟩ : ∃ z : Int32, z = x6 + 1 := ⟨_, rfl⟩
      replace h := mv_letE h v42 ev42
      refine mv_iinc v42 6 [(6, .int v42), (5, .int r40), (0, .ref 62), (1, .int x1), (2, .int x2), (3, .int x3), (4, .int x4)] dX11_run_195 rfl (by rw [ev42]; rfl) (by decide) rfl ?_
      refine mv_goto 144 dX11_run_198 (by decide) ?_
      refine mv_sub [2, 3, 4, 5, 6, 1, 0] rfl ?_
      exact h
noncomputable def fX11_run_126 (x1 : Int32) (x2 : Int32) (x3 : Int32) (x4 : Int32) (s0 : Int32) (M : mv_M) : Option (Int32 × mv_M) :=
  mv_let (mv_si M 62 0 s0) fun M13 =>
  if (M13.1 62 0) ≤ 0 then
    fX11_run_144 x1 x2 x3 x4 0 0 M13
  else
    some (0, M13)
set_option maxRecDepth 100000 in
set_option maxHeartbeats 4000000 in
theorem zX11_run_126 {l : Launch} {d : Nat} {Q : Int32 → mv_M → Prop} (hd : 5 ≤ d) (x1 : Int32) (x2 : Int32) (x3 : Int32) (x4 : Int32) (s0 : Int32) (M : mv_M) (h : mv_ok (fX11_run_126 x1 x2 x3 x4 s0 M) Q) : mv l mX11_run d 0 126 [(0, .ref 62), (1, .int x1), (2, .int x2), (3, .int x3), (4, .int x4)] [.int s0, .ref 62] M (mv_qI Q) := by
  unfold fX11_run_126 at h
  refine mv_putI fX11_148 (by decide) rfl rfl dX11_run_126 (fun M13 eM13 => ?_)
  replace h := mv_letE h M13 eM13
  refine mv_aload_n 0 dX11_run_129 rfl ?_
  refine mv_getI fX11_148 (by decide) rfl rfl dX11_run_130 ?_
  refine mv_if_le 138 dX11_run_133 (by decide) (fun z => ?_) (fun z => ?_)
  · replace h := mv_ifT z h
    refine mv_iconst 0 dX11_run_138 (by decide) ?_
    refine mv_istore [(5, .int 0), (0, .ref 62), (1, .int x1), (2, .int x2), (3, .int x3), (4, .int x4)] dX11_run_139 (by decide) rfl ?_
    refine mv_iconst 0 dX11_run_141 (by decide) ?_
    refine mv_istore [(6, .int 0), (5, .int 0), (0, .ref 62), (1, .int x1), (2, .int x2), (3, .int x3), (4, .int x4)] dX11_run_142 (by decide) rfl ?_
    refine mv_sub [2, 3, 4, 5, 6, 1, 0] rfl ?_
    exact zX11_run_144 hd x1 x2 x3 x4 0 0 M13 h
  · replace h := mv_ifF z h
    refine mv_iconst 0 dX11_run_136 (by decide) ?_
    exact mv_iret rfl dX11_run_137 ⟨_, rfl, h⟩
noncomputable def fX11_run_121 (x1 : Int32) (x2 : Int32) (x3 : Int32) (x4 : Int32) (M : mv_M) : Option (Int32 × mv_M) :=
  fX11_run_126 x1 x2 x3 x4 3 M
set_option maxRecDepth 100000 in
set_option maxHeartbeats 4000000 in
theorem zX11_run_121 {l : Launch} {d : Nat} {Q : Int32 → mv_M → Prop} (hd : 5 ≤ d) (x1 : Int32) (x2 : Int32) (x3 : Int32) (x4 : Int32) (M : mv_M) (h : mv_ok (fX11_run_121 x1 x2 x3 x4 M) Q) : mv l mX11_run d 0 121 [(0, .ref 62), (1, .int x1), (2, .int x2), (3, .int x3), (4, .int x4)] [.ref 62] M (mv_qI Q) := by
  unfold fX11_run_121 at h
  refine mv_iconst 3 dX11_run_121 (by decide) ?_
  refine mv_goto 126 dX11_run_122 (by decide) ?_
  refine mv_sub [0, 1, 2, 3, 4] rfl ?_
  exact zX11_run_126 hd x1 x2 x3 x4 3 M h
noncomputable def fX11_run_75 (x1 : Int32) (x2 : Int32) (x3 : Int32) (x4 : Int32) (x5 : Int32) (M : mv_M) : Option (Int32 × mv_M) :=
  if (M.1 62 45) = 0 then
    fX11_run_126 x1 x2 x3 x4 1 M
  else
    mv_bind (fX11_isRowThere x1 x2 M) fun r9 M10 =>
    if r9 = 0 then
      fX11_run_126 x1 x2 x3 x4 2 M10
    else
      mv_bind (fX11_within (x3.toInt64) 0 20000 M10) fun r11 M12 =>
      if r11 = 0 then
        fX11_run_121 x1 x2 x3 x4 M12
      else
        if x5 = (M12.1 62 55) then
          fX11_run_126 x1 x2 x3 x4 0 M12
        else
          fX11_run_121 x1 x2 x3 x4 M12
set_option maxRecDepth 100000 in
set_option maxHeartbeats 4000000 in
theorem zX11_run_75 {l : Launch} {d : Nat} {Q : Int32 → mv_M → Prop} (hd : 5 ≤ d) (x1 : Int32) (x2 : Int32) (x3 : Int32) (x4 : Int32) (x5 : Int32) (M : mv_M) (h : mv_ok (fX11_run_75 x1 x2 x3 x4 x5 M) Q) : mv l mX11_run d 0 75 [(0, .ref 62), (1, .int x1), (2, .int x2), (3, .int x3), (4, .int x4), (5, .int x5)] [] M (mv_qI Q) := by
  unfold fX11_run_75 at h
  refine mv_aload_n 0 dX11_run_75 rfl ?_
  refine mv_aload_n 0 dX11_run_76 rfl ?_
  refine mv_getI fX11_341 (by decide) rfl rfl dX11_run_77 ?_
  refine mv_if_ne 87 dX11_run_80 (by decide) (fun z => ?_) (fun z => ?_)
  · replace h := mv_ifF z h
    refine mv_aload_n 0 dX11_run_87 rfl ?_
    refine mv_iload_n 1 dX11_run_88 rfl ?_
    refine mv_iload_n 2 dX11_run_89 rfl ?_
    refine mv_cvI (As := [.int x1, .int x2]) (st := [.ref 62]) okX11_isRowThere lX11_387 (by decide) rfl rfl rfl (Nat.le_of_ble_eq_true rfl) rfl (Nat.le_of_ble_eq_true rfl) dX11_run_90 (by omega) rfl (zX11_isRowThere (d := d - 1) (by omega) x1 x2 M (mv_bindE h)) (fun r9 M10 h => ?_)
    refine mv_if_ne 100 dX11_run_93 (by decide) (fun z => ?_) (fun z => ?_)
    · replace h := mv_ifF z h
      refine mv_iload_n 3 dX11_run_100 rfl ?_
      refine mv_i2l dX11_run_101 ?_
      refine mv_lconst 0 dX11_run_102 (by decide) ?_
      refine mv_ldc2 kX11_462 dX11_run_103 ?_
      refine mv_csI (As := [.long (x3.toInt64), .long 0, .long 20000]) (st := [.ref 62]) okX11_within lX11_154 rfl (Nat.le_of_ble_eq_true rfl) rfl (Nat.le_of_ble_eq_true rfl) dX11_run_106 (by omega) rfl (zX11_within (d := d - 1) (by omega) (x3.toInt64) 0 20000 M10 (mv_bindE h)) (fun r11 M12 h => ?_)
      refine mv_if_eq 121 dX11_run_109 (by decide) (fun z => ?_) (fun z => ?_)
      · replace h := mv_ifT z h
        refine mv_sub [0, 1, 2, 3, 4] rfl ?_
        exact zX11_run_121 hd x1 x2 x3 x4 M12 h
      · replace h := mv_ifF z h
        refine mv_iload 5 dX11_run_112 rfl ?_
        refine mv_aload_n 0 dX11_run_114 rfl ?_
        refine mv_getI fX11_402 (by decide) rfl rfl dX11_run_115 ?_
        refine mv_icmp_eq 125 dX11_run_118 (by decide) (fun z => ?_) (fun z => ?_)
        · replace h := mv_ifT z h
          refine mv_iconst 0 dX11_run_125 (by decide) ?_
          refine mv_sub [0, 1, 2, 3, 4] rfl ?_
          exact zX11_run_126 hd x1 x2 x3 x4 0 M12 h
        · replace h := mv_ifF z h
          refine mv_sub [0, 1, 2, 3, 4] rfl ?_
          exact zX11_run_121 hd x1 x2 x3 x4 M12 h
    · replace h := mv_ifT z h
      refine mv_iconst 2 dX11_run_96 (by decide) ?_
      refine mv_goto 126 dX11_run_97 (by decide) ?_
      refine mv_sub [0, 1, 2, 3, 4] rfl ?_
      exact zX11_run_126 hd x1 x2 x3 x4 2 M10 h
  · replace h := mv_ifT z h
    refine mv_iconst 1 dX11_run_83 (by decide) ?_
    refine mv_goto 126 dX11_run_84 (by decide) ?_
    refine mv_sub [0, 1, 2, 3, 4] rfl ?_
    exact zX11_run_126 hd x1 x2 x3 x4 1 M h
noncomputable def gX11_run_29 (x1 : Int32) (x2 : Int32) (x3 : Int32) (x4 : Int32) (x5 : Int32) (x6 : Int32) (M : mv_M) : Option (((Int32 × Int32 × Int32 × Int32 × Int32 × Int32) ⊕ Int32) × mv_M) :=
  if (M.1 62 45) = 0 then
    mv_inr (fX11_run_75 x1 x2 x3 x4 x5 M)
  else
    mv_chk (mv_inb x4 24) <|
    if (M.1 66 x4.toNatClampNeg) ≤ x6 then
      mv_inr (fX11_run_75 x1 x2 x3 x4 x5 M)
    else
      mv_chk (mv_inb ((16 * x4) + x6) 384) <|
      mv_bind (fX11_behind x5 (M.1 70 ((16 * x4) + x6).toNatClampNeg) M) fun r6 M7 =>
      mv_let (x6 + 1) fun v8 =>
      some (.inl (x1, x2, x3, x4, r6, v8), M7)
noncomputable def fX11_run_29 (x1 : Int32) (x2 : Int32) (x3 : Int32) (x4 : Int32) (x5 : Int32) (x6 : Int32) (M : mv_M) : Option (Int32 × mv_M) := mv_loop (fun (s : Int32 × Int32 × Int32 × Int32 × Int32 × Int32) M => gX11_run_29 s.1 s.2.1 s.2.2.1 s.2.2.2.1 s.2.2.2.2.1 s.2.2.2.2.2 M) (x1, x2, x3, x4, x5, x6) M
set_option maxRecDepth 100000 in
set_option maxHeartbeats 4000000 in
theorem zX11_run_29 {l : Launch} {d : Nat} {Q : Int32 → mv_M → Prop} (hd : 5 ≤ d) (x1 : Int32) (x2 : Int32) (x3 : Int32) (x4 : Int32) (x5 : Int32) (x6 : Int32) (M : mv_M) (h : mv_ok (fX11_run_29 x1 x2 x3 x4 x5 x6 M) Q) : mv l mX11_run d 0 29 [(0, .ref 62), (1, .int x1), (2, .int x2), (3, .int x3), (4, .int x4), (5, .int x5), (6, .int x6)] [] M (mv_qI Q) := by
  unfold fX11_run_29 at h
  refine mv_loopE (A := (fun (s : Int32 × Int32 × Int32 × Int32 × Int32 × Int32) M => mv l mX11_run d 0 29 [(0, .ref 62), (1, .int s.1), (2, .int s.2.1), (3, .int s.2.2.1), (4, .int s.2.2.2.1), (5, .int s.2.2.2.2.1), (6, .int s.2.2.2.2.2)] [] M (mv_qI Q))) ?_ (x1, x2, x3, x4, x5, x6) M h
  · rintro ⟨x1, x2, x3, x4, x5, x6⟩ M h
    try dsimp only at h
    show mv l mX11_run d 0 29 [(0, .ref 62), (1, .int x1), (2, .int x2), (3, .int x3), (4, .int x4), (5, .int x5), (6, .int x6)] [] M (mv_qI Q)
    unfold gX11_run_29 at h
    refine mv_aload_n 0 dX11_run_29 rfl ?_
    refine mv_getI fX11_341 (by decide) rfl rfl dX11_run_30 ?_
    refine mv_if_eq 75 dX11_run_33 (by decide) (fun z => ?_) (fun z => ?_)
    · replace h := mv_ifT z h
      refine mv_sub [0, 1, 2, 3, 4, 5] rfl ?_
      exact zX11_run_75 hd x1 x2 x3 x4 x5 M (mv_inrE h)
    · replace h := mv_ifF z h
      refine mv_iload 6 dX11_run_36 rfl ?_
      refine mv_aload_n 0 dX11_run_38 rfl ?_
      refine mv_getR 66 fX11_24 (by decide) rfl rfl rfl dX11_run_39 ?_
      refine mv_iload 4 dX11_run_42 rfl ?_
      obtain ⟨hi4, h⟩ := mv_chkE h
      refine mv_ild (by decide) rfl (mv_inE hi4) dX11_run_44 ?_
      refine mv_icmp_ge 75 dX11_run_45 (by decide) (fun z => ?_) (fun z => ?_)
      · replace h := mv_ifT z h
        refine mv_sub [0, 1, 2, 3, 4, 5] rfl ?_
        exact zX11_run_75 hd x1 x2 x3 x4 x5 M (mv_inrE h)
      · replace h := mv_ifF z h
        refine mv_aload_n 0 dX11_run_48 rfl ?_
        refine mv_iload 5 dX11_run_49 rfl ?_
        refine mv_aload_n 0 dX11_run_51 rfl ?_
        refine mv_getR 70 fX11_36 (by decide) rfl rfl rfl dX11_run_52 ?_
        refine mv_bipush 16 dX11_run_55 (by decide) ?_
        refine mv_iload 4 dX11_run_57 rfl ?_
        refine mv_imul dX11_run_59 ?_
        refine mv_iload 6 dX11_run_60 rfl ?_
        refine mv_iadd dX11_run_62 ?_
        obtain ⟨hi5, h⟩ := mv_chkE h
        refine mv_ild (by decide) rfl (mv_inE hi5) dX11_run_63 ?_
        refine mv_cvI (As := [.int x5, .int (M.1 70 ((16 * x4) + x6).toNatClampNeg)]) (st := []) okX11_behind lX11_405 (by decide) rfl rfl rfl (Nat.le_of_ble_eq_true rfl) rfl (Nat.le_of_ble_eq_true rfl) dX11_run_64 (by omega) rfl (zX11_behind (d := d - 1) (by omega) x5 (M.1 70 ((16 * x4) + x6).toNatClampNeg) M (mv_bindE h)) (fun r6 M7 h => ?_)
        refine mv_istore [(5, .int r6), (0, .ref 62), (1, .int x1), (2, .int x2), (3, .int x3), (4, .int x4), (6, .int x6)] dX11_run_67 (by decide) rfl ?_
        obtain ⟨v8, ev8⟩ : ∃ z : Int32, z = x6 + 1 := ⟨_, rfl⟩
        replace h := mv_letE h v8 ev8
        refine mv_iinc v8 6 [(6, .int v8), (5, .int r6), (0, .ref 62), (1, .int x1), (2, .int x2), (3, .int x3), (4, .int x4)] dX11_run_69 rfl (by rw [ev8]; rfl) (by decide) rfl ?_
        refine mv_goto 29 dX11_run_72 (by decide) ?_
        refine mv_sub [2, 3, 4, 5, 6, 1, 0] rfl ?_
        exact h
noncomputable def fX11_run_20 (x1 : Int32) (x2 : Int32) (x3 : Int32) (s0 : Int32) (s1 : Int32) (M : mv_M) : Option (Int32 × mv_M) :=
  mv_let (s1 + s0) fun v3 =>
  fX11_run_29 x1 x2 x3 v3 0 0 M
set_option maxRecDepth 100000 in
set_option maxHeartbeats 4000000 in
theorem zX11_run_20 {l : Launch} {d : Nat} {Q : Int32 → mv_M → Prop} (hd : 5 ≤ d) (x1 : Int32) (x2 : Int32) (x3 : Int32) (s0 : Int32) (s1 : Int32) (M : mv_M) (h : mv_ok (fX11_run_20 x1 x2 x3 s0 s1 M) Q) : mv l mX11_run d 0 20 [(0, .ref 62), (1, .int x1), (2, .int x2), (3, .int x3)] [.int s0, .int s1] M (mv_qI Q) := by
  unfold fX11_run_20 at h
  refine mv_iadd dX11_run_20 ?_
  refine mv_topi (fun v3 ev3 => ?_)
  replace h := mv_letE h v3 ev3
  refine mv_istore [(4, .int v3), (0, .ref 62), (1, .int x1), (2, .int x2), (3, .int x3)] dX11_run_21 (by decide) rfl ?_
  refine mv_iconst 0 dX11_run_23 (by decide) ?_
  refine mv_istore [(5, .int 0), (4, .int v3), (0, .ref 62), (1, .int x1), (2, .int x2), (3, .int x3)] dX11_run_24 (by decide) rfl ?_
  refine mv_iconst 0 dX11_run_26 (by decide) ?_
  refine mv_istore [(6, .int 0), (5, .int 0), (4, .int v3), (0, .ref 62), (1, .int x1), (2, .int x2), (3, .int x3)] dX11_run_27 (by decide) rfl ?_
  refine mv_sub [3, 4, 5, 6, 2, 1, 0] rfl ?_
  exact zX11_run_29 hd x1 x2 x3 v3 0 0 M h
noncomputable def fX11_run (a0 : Int32) (a1 : Int32) (a2 : Int32) (M : mv_M) : Option (Int32 × mv_M) :=
  mv_bind (fX11_isFn a0 M) fun r1 M2 =>
  if r1 = 0 then
    fX11_run_20 a0 a1 a2 0 (12 * (M.1 62 47)) M2
  else
    fX11_run_20 a0 a1 a2 a0 (12 * (M.1 62 47)) M2
set_option maxRecDepth 100000 in
set_option maxHeartbeats 4000000 in
theorem zX11_run {l : Launch} {d : Nat} {Q : Int32 → mv_M → Prop} (hd : 5 ≤ d) (a0 : Int32) (a1 : Int32) (a2 : Int32) (M : mv_M) (h : mv_ok (fX11_run a0 a1 a2 M) Q) : mv l mX11_run d 0 0 (lv_args 0 [.ref 62, .int a0, .int a1, .int a2]) [] M (mv_qI Q) := by
  unfold fX11_run at h
  show mv l mX11_run d 0 0 [(0, .ref 62), (1, .int a0), (2, .int a1), (3, .int a2)] [] M (mv_qI Q)
  refine mv_bipush 12 dX11_run_0 (by decide) ?_
  refine mv_aload_n 0 dX11_run_2 rfl ?_
  refine mv_getI fX11_345 (by decide) rfl rfl dX11_run_3 ?_
  refine mv_imul dX11_run_6 ?_
  refine mv_aload_n 0 dX11_run_7 rfl ?_
  refine mv_iload_n 1 dX11_run_8 rfl ?_
  refine mv_cvI (As := [.int a0]) (st := [.int (12 * (M.1 62 47))]) okX11_isFn lX11_357 (by decide) rfl rfl rfl (Nat.le_of_ble_eq_true rfl) rfl (Nat.le_of_ble_eq_true rfl) dX11_run_9 (by omega) rfl (zX11_isFn (d := d - 1) (by omega) a0 M (mv_bindE h)) (fun r1 M2 h => ?_)
  refine mv_if_eq 19 dX11_run_12 (by decide) (fun z => ?_) (fun z => ?_)
  · replace h := mv_ifT z h
    refine mv_iconst 0 dX11_run_19 (by decide) ?_
    refine mv_sub [0, 1, 2, 3] rfl ?_
    exact zX11_run_20 hd a0 a1 a2 0 (12 * (M.1 62 47)) M2 h
  · replace h := mv_ifF z h
    refine mv_iload_n 1 dX11_run_15 rfl ?_
    refine mv_goto 20 dX11_run_16 (by decide) ?_
    refine mv_sub [0, 1, 2, 3] rfl ?_
    exact zX11_run_20 hd a0 a1 a2 a0 (12 * (M.1 62 47)) M2 h
theorem dX11_told_0 : decode cX11_told 0 = .ok (.aload_n 0, 1) := by decide +kernel
theorem dX11_told_1 : decode cX11_told 1 = .ok (.iload_n 1, 1) := by decide +kernel
theorem dX11_told_2 : decode cX11_told 2 = .ok (.i2l, 1) := by decide +kernel
theorem dX11_told_3 : decode cX11_told 3 = .ok (.lconst 0, 1) := by decide +kernel
theorem dX11_told_4 : decode cX11_told 4 = .ok (.ldc2_w 479, 3) := by decide +kernel
theorem dX11_told_7 : decode cX11_told 7 = .ok (.invokestatic 154, 3) := by decide +kernel
theorem dX11_told_10 : decode cX11_told 10 = .ok (.ifCond .eq 7, 3) := by decide +kernel
theorem dX11_told_13 : decode cX11_told 13 = .ok (.iconst 0, 1) := by decide +kernel
theorem dX11_told_14 : decode cX11_told 14 = .ok (.goto 4, 3) := by decide +kernel
theorem dX11_told_17 : decode cX11_told 17 = .ok (.iconst 1, 1) := by decide +kernel
theorem dX11_told_18 : decode cX11_told 18 = .ok (.putfield 148, 3) := by decide +kernel
theorem dX11_told_21 : decode cX11_told 21 = .ok (.aload_n 0, 1) := by decide +kernel
theorem dX11_told_22 : decode cX11_told 22 = .ok (.getfield 148, 3) := by decide +kernel
theorem dX11_told_25 : decode cX11_told 25 = .ok (.ifCond .gt 17, 3) := by decide +kernel
theorem dX11_told_28 : decode cX11_told 28 = .ok (.iload_n 1, 1) := by decide +kernel
theorem dX11_told_29 : decode cX11_told 29 = .ok (.bipush 6, 2) := by decide +kernel
theorem dX11_told_31 : decode cX11_told 31 = .ok (.if_icmp .ge 13, 3) := by decide +kernel
theorem dX11_told_34 : decode cX11_told 34 = .ok (.aload_n 0, 1) := by decide +kernel
theorem dX11_told_35 : decode cX11_told 35 = .ok (.getfield 142, 3) := by decide +kernel
theorem dX11_told_38 : decode cX11_told 38 = .ok (.iconst (-1), 1) := by decide +kernel
theorem dX11_told_39 : decode cX11_told 39 = .ok (.if_icmp .ne 5, 3) := by decide +kernel
theorem dX11_told_42 : decode cX11_told 42 = .ok (.iconst 0, 1) := by decide +kernel
theorem dX11_told_43 : decode cX11_told 43 = .ok (.ireturn, 1) := by decide +kernel
theorem dX11_told_44 : decode cX11_told 44 = .ok (.iconst 0, 1) := by decide +kernel
theorem dX11_told_45 : decode cX11_told 45 = .ok (.istore_n 2, 1) := by decide +kernel
theorem dX11_told_46 : decode cX11_told 46 = .ok (.bipush 40, 2) := by decide +kernel
theorem dX11_told_48 : decode cX11_told 48 = .ok (.istore_n 3, 1) := by decide +kernel
theorem dX11_told_49 : decode cX11_told 49 = .ok (.iload_n 3, 1) := by decide +kernel
theorem dX11_told_50 : decode cX11_told 50 = .ok (.bipush 40, 2) := by decide +kernel
theorem dX11_told_52 : decode cX11_told 52 = .ok (.aload_n 0, 1) := by decide +kernel
theorem dX11_told_53 : decode cX11_told 53 = .ok (.getfield 411, 3) := by decide +kernel
theorem dX11_told_56 : decode cX11_told 56 = .ok (.iadd, 1) := by decide +kernel
theorem dX11_told_57 : decode cX11_told 57 = .ok (.if_icmp .ge 34, 3) := by decide +kernel
theorem dX11_told_60 : decode cX11_told 60 = .ok (.aload_n 0, 1) := by decide +kernel
theorem dX11_told_61 : decode cX11_told 61 = .ok (.getfield 142, 3) := by decide +kernel
theorem dX11_told_64 : decode cX11_told 64 = .ok (.iconst (-1), 1) := by decide +kernel
theorem dX11_told_65 : decode cX11_told 65 = .ok (.if_icmp .eq 26, 3) := by decide +kernel
theorem dX11_told_68 : decode cX11_told 68 = .ok (.iload_n 2, 1) := by decide +kernel
theorem dX11_told_69 : decode cX11_told 69 = .ok (.aload_n 0, 1) := by decide +kernel
theorem dX11_told_70 : decode cX11_told 70 = .ok (.getfield 127, 3) := by decide +kernel
theorem dX11_told_73 : decode cX11_told 73 = .ok (.iload_n 3, 1) := by decide +kernel
theorem dX11_told_74 : decode cX11_told 74 = .ok (.baload, 1) := by decide +kernel
theorem dX11_told_75 : decode cX11_told 75 = .ok (.ifCond .eq 7, 3) := by decide +kernel
theorem dX11_told_78 : decode cX11_told 78 = .ok (.iconst 0, 1) := by decide +kernel
theorem dX11_told_79 : decode cX11_told 79 = .ok (.goto 4, 3) := by decide +kernel
theorem dX11_told_82 : decode cX11_told 82 = .ok (.iconst 1, 1) := by decide +kernel
theorem dX11_told_83 : decode cX11_told 83 = .ok (.iadd, 1) := by decide +kernel
theorem dX11_told_84 : decode cX11_told 84 = .ok (.istore_n 2, 1) := by decide +kernel
theorem dX11_told_85 : decode cX11_told 85 = .ok (.iinc 3 1, 3) := by decide +kernel
theorem dX11_told_88 : decode cX11_told 88 = .ok (.goto (-39), 3) := by decide +kernel
theorem dX11_told_91 : decode cX11_told 91 = .ok (.iload_n 1, 1) := by decide +kernel
theorem dX11_told_92 : decode cX11_told 92 = .ok (.ifCond .ne 10, 3) := by decide +kernel
theorem dX11_told_95 : decode cX11_told 95 = .ok (.aload_n 0, 1) := by decide +kernel
theorem dX11_told_96 : decode cX11_told 96 = .ok (.getfield 438, 3) := by decide +kernel
theorem dX11_told_99 : decode cX11_told 99 = .ok (.goto 64, 3) := by decide +kernel
theorem dX11_told_102 : decode cX11_told 102 = .ok (.iload_n 1, 1) := by decide +kernel
theorem dX11_told_103 : decode cX11_told 103 = .ok (.iconst 1, 1) := by decide +kernel
theorem dX11_told_104 : decode cX11_told 104 = .ok (.if_icmp .ne 10, 3) := by decide +kernel
theorem dX11_told_107 : decode cX11_told 107 = .ok (.aload_n 0, 1) := by decide +kernel
theorem dX11_told_108 : decode cX11_told 108 = .ok (.getfield 411, 3) := by decide +kernel
theorem dX11_told_111 : decode cX11_told 111 = .ok (.goto 52, 3) := by decide +kernel
theorem dX11_told_114 : decode cX11_told 114 = .ok (.iload_n 1, 1) := by decide +kernel
theorem dX11_told_115 : decode cX11_told 115 = .ok (.iconst 2, 1) := by decide +kernel
theorem dX11_told_116 : decode cX11_told 116 = .ok (.if_icmp .ne 10, 3) := by decide +kernel
theorem dX11_told_119 : decode cX11_told 119 = .ok (.aload_n 0, 1) := by decide +kernel
theorem dX11_told_120 : decode cX11_told 120 = .ok (.getfield 459, 3) := by decide +kernel
theorem dX11_told_123 : decode cX11_told 123 = .ok (.goto 40, 3) := by decide +kernel
theorem dX11_told_126 : decode cX11_told 126 = .ok (.iload_n 1, 1) := by decide +kernel
theorem dX11_told_127 : decode cX11_told 127 = .ok (.iconst 3, 1) := by decide +kernel
theorem dX11_told_128 : decode cX11_told 128 = .ok (.if_icmp .ne 10, 3) := by decide +kernel
theorem dX11_told_131 : decode cX11_told 131 = .ok (.aload_n 0, 1) := by decide +kernel
theorem dX11_told_132 : decode cX11_told 132 = .ok (.getfield 456, 3) := by decide +kernel
theorem dX11_told_135 : decode cX11_told 135 = .ok (.goto 28, 3) := by decide +kernel
theorem dX11_told_138 : decode cX11_told 138 = .ok (.iload_n 1, 1) := by decide +kernel
theorem dX11_told_139 : decode cX11_told 139 = .ok (.iconst 4, 1) := by decide +kernel
theorem dX11_told_140 : decode cX11_told 140 = .ok (.if_icmp .ne 10, 3) := by decide +kernel
theorem dX11_told_143 : decode cX11_told 143 = .ok (.aload_n 0, 1) := by decide +kernel
theorem dX11_told_144 : decode cX11_told 144 = .ok (.getfield 444, 3) := by decide +kernel
theorem dX11_told_147 : decode cX11_told 147 = .ok (.goto 16, 3) := by decide +kernel
theorem dX11_told_150 : decode cX11_told 150 = .ok (.iload_n 1, 1) := by decide +kernel
theorem dX11_told_151 : decode cX11_told 151 = .ok (.iconst 5, 1) := by decide +kernel
theorem dX11_told_152 : decode cX11_told 152 = .ok (.if_icmp .ne 7, 3) := by decide +kernel
theorem dX11_told_155 : decode cX11_told 155 = .ok (.iload_n 2, 1) := by decide +kernel
theorem dX11_told_156 : decode cX11_told 156 = .ok (.goto 7, 3) := by decide +kernel
theorem dX11_told_159 : decode cX11_told 159 = .ok (.aload_n 0, 1) := by decide +kernel
theorem dX11_told_160 : decode cX11_told 160 = .ok (.getfield 402, 3) := by decide +kernel
theorem dX11_told_163 : decode cX11_told 163 = .ok (.ireturn, 1) := by decide +kernel
noncomputable def fX11_told_83 (x1 : Int32) (x3 : Int32) (s0 : Int32) (s1 : Int32) (M : mv_M) : Option (((Int32 × Int32 × Int32) ⊕ Int32) × mv_M) :=
  mv_let (s1 + s0) fun v5 =>
  mv_let (x3 + 1) fun v6 =>
  some (.inl (x1, v5, v6), M)
set_option maxRecDepth 100000 in
set_option maxHeartbeats 4000000 in
theorem zX11_told_83 {l : Launch} {d : Nat} {Q : Int32 → mv_M → Prop} (hd : 1 ≤ d) (x1 : Int32) (x3 : Int32) (s0 : Int32) (s1 : Int32) (M : mv_M) (h : mv_ok (fX11_told_83 x1 x3 s0 s1 M) (mv_pq (fun (s : Int32 × Int32 × Int32) M => mv l mX11_told d 0 49 [(0, .ref 62), (1, .int s.1), (2, .int s.2.1), (3, .int s.2.2)] [] M (mv_qI Q)) Q)) : mv l mX11_told d 0 83 [(0, .ref 62), (1, .int x1), (3, .int x3)] [.int s0, .int s1] M (mv_qI Q) := by
  unfold fX11_told_83 at h
  refine mv_iadd dX11_told_83 ?_
  refine mv_topi (fun v5 ev5 => ?_)
  replace h := mv_letE h v5 ev5
  refine mv_istore_n [(2, .int v5), (0, .ref 62), (1, .int x1), (3, .int x3)] dX11_told_84 (by decide) rfl ?_
  obtain ⟨v6, ev6⟩ : ∃ z : Int32, z = x3 + 1 := ⟨_, rfl⟩
  replace h := mv_letE h v6 ev6
  refine mv_iinc v6 3 [(3, .int v6), (2, .int v5), (0, .ref 62), (1, .int x1)] dX11_told_85 rfl (by rw [ev6]; rfl) (by decide) rfl ?_
  refine mv_goto 49 dX11_told_88 (by decide) ?_
  refine mv_sub [2, 3, 1, 0] rfl ?_
  exact h
noncomputable def fX11_told_91 (x1 : Int32) (x2 : Int32) (M : mv_M) : Option (Int32 × mv_M) :=
  if x1 = 0 then
    some (M.1 62 70, M)
  else
    if x1 = 1 then
      some (M.1 62 67, M)
    else
      if x1 = 2 then
        some (M.1 62 68, M)
      else
        if x1 = 3 then
          some (M.1 62 69, M)
        else
          if x1 = 4 then
            some (M.1 62 73, M)
          else
            if x1 = 5 then
              some (x2, M)
            else
              some (M.1 62 55, M)
set_option maxRecDepth 100000 in
set_option maxHeartbeats 4000000 in
theorem zX11_told_91 {l : Launch} {d : Nat} {Q : Int32 → mv_M → Prop} (hd : 1 ≤ d) (x1 : Int32) (x2 : Int32) (M : mv_M) (h : mv_ok (fX11_told_91 x1 x2 M) Q) : mv l mX11_told d 0 91 [(0, .ref 62), (1, .int x1), (2, .int x2)] [] M (mv_qI Q) := by
  unfold fX11_told_91 at h
  refine mv_iload_n 1 dX11_told_91 rfl ?_
  refine mv_if_ne 102 dX11_told_92 (by decide) (fun z => ?_) (fun z => ?_)
  · replace h := mv_ifF z h
    refine mv_iload_n 1 dX11_told_102 rfl ?_
    refine mv_iconst 1 dX11_told_103 (by decide) ?_
    refine mv_icmp_ne 114 dX11_told_104 (by decide) (fun z => ?_) (fun z => ?_)
    · replace h := mv_ifF z h
      refine mv_iload_n 1 dX11_told_114 rfl ?_
      refine mv_iconst 2 dX11_told_115 (by decide) ?_
      refine mv_icmp_ne 126 dX11_told_116 (by decide) (fun z => ?_) (fun z => ?_)
      · replace h := mv_ifF z h
        refine mv_iload_n 1 dX11_told_126 rfl ?_
        refine mv_iconst 3 dX11_told_127 (by decide) ?_
        refine mv_icmp_ne 138 dX11_told_128 (by decide) (fun z => ?_) (fun z => ?_)
        · replace h := mv_ifF z h
          refine mv_iload_n 1 dX11_told_138 rfl ?_
          refine mv_iconst 4 dX11_told_139 (by decide) ?_
          refine mv_icmp_ne 150 dX11_told_140 (by decide) (fun z => ?_) (fun z => ?_)
          · replace h := mv_ifF z h
            refine mv_iload_n 1 dX11_told_150 rfl ?_
            refine mv_iconst 5 dX11_told_151 (by decide) ?_
            refine mv_icmp_ne 159 dX11_told_152 (by decide) (fun z => ?_) (fun z => ?_)
            · replace h := mv_ifF z h
              refine mv_aload_n 0 dX11_told_159 rfl ?_
              refine mv_getI fX11_402 (by decide) rfl rfl dX11_told_160 ?_
              exact mv_iret rfl dX11_told_163 ⟨_, rfl, h⟩
            · replace h := mv_ifT z h
              refine mv_iload_n 2 dX11_told_155 rfl ?_
              refine mv_goto 163 dX11_told_156 (by decide) ?_
              exact mv_iret rfl dX11_told_163 ⟨_, rfl, h⟩
          · replace h := mv_ifT z h
            refine mv_aload_n 0 dX11_told_143 rfl ?_
            refine mv_getI fX11_444 (by decide) rfl rfl dX11_told_144 ?_
            refine mv_goto 163 dX11_told_147 (by decide) ?_
            exact mv_iret rfl dX11_told_163 ⟨_, rfl, h⟩
        · replace h := mv_ifT z h
          refine mv_aload_n 0 dX11_told_131 rfl ?_
          refine mv_getI fX11_456 (by decide) rfl rfl dX11_told_132 ?_
          refine mv_goto 163 dX11_told_135 (by decide) ?_
          exact mv_iret rfl dX11_told_163 ⟨_, rfl, h⟩
      · replace h := mv_ifT z h
        refine mv_aload_n 0 dX11_told_119 rfl ?_
        refine mv_getI fX11_459 (by decide) rfl rfl dX11_told_120 ?_
        refine mv_goto 163 dX11_told_123 (by decide) ?_
        exact mv_iret rfl dX11_told_163 ⟨_, rfl, h⟩
    · replace h := mv_ifT z h
      refine mv_aload_n 0 dX11_told_107 rfl ?_
      refine mv_getI fX11_411 (by decide) rfl rfl dX11_told_108 ?_
      refine mv_goto 163 dX11_told_111 (by decide) ?_
      exact mv_iret rfl dX11_told_163 ⟨_, rfl, h⟩
  · replace h := mv_ifT z h
    refine mv_aload_n 0 dX11_told_95 rfl ?_
    refine mv_getI fX11_438 (by decide) rfl rfl dX11_told_96 ?_
    refine mv_goto 163 dX11_told_99 (by decide) ?_
    exact mv_iret rfl dX11_told_163 ⟨_, rfl, h⟩
noncomputable def gX11_told_49 (x1 : Int32) (x2 : Int32) (x3 : Int32) (M : mv_M) : Option (((Int32 × Int32 × Int32) ⊕ Int32) × mv_M) :=
  if (40 + (M.1 62 67)) ≤ x3 then
    mv_inr (fX11_told_91 x1 x2 M)
  else
    if (M.1 62 75) = (-1) then
      mv_inr (fX11_told_91 x1 x2 M)
    else
      mv_chk (mv_inb x3 1540) <|
      if (M.1 100 x3.toNatClampNeg) = 0 then
        fX11_told_83 x1 x3 1 x2 M
      else
        fX11_told_83 x1 x3 0 x2 M
noncomputable def fX11_told_49 (x1 : Int32) (x2 : Int32) (x3 : Int32) (M : mv_M) : Option (Int32 × mv_M) := mv_loop (fun (s : Int32 × Int32 × Int32) M => gX11_told_49 s.1 s.2.1 s.2.2 M) (x1, x2, x3) M
set_option maxRecDepth 100000 in
set_option maxHeartbeats 4000000 in
theorem zX11_told_49 {l : Launch} {d : Nat} {Q : Int32 → mv_M → Prop} (hd : 1 ≤ d) (x1 : Int32) (x2 : Int32) (x3 : Int32) (M : mv_M) (h : mv_ok (fX11_told_49 x1 x2 x3 M) Q) : mv l mX11_told d 0 49 [(0, .ref 62), (1, .int x1), (2, .int x2), (3, .int x3)] [] M (mv_qI Q) := by
  unfold fX11_told_49 at h
  refine mv_loopE (A := (fun (s : Int32 × Int32 × Int32) M => mv l mX11_told d 0 49 [(0, .ref 62), (1, .int s.1), (2, .int s.2.1), (3, .int s.2.2)] [] M (mv_qI Q))) ?_ (x1, x2, x3) M h
  · rintro ⟨x1, x2, x3⟩ M h
    try dsimp only at h
    show mv l mX11_told d 0 49 [(0, .ref 62), (1, .int x1), (2, .int x2), (3, .int x3)] [] M (mv_qI Q)
    unfold gX11_told_49 at h
    refine mv_iload_n 3 dX11_told_49 rfl ?_
    refine mv_bipush 40 dX11_told_50 (by decide) ?_
    refine mv_aload_n 0 dX11_told_52 rfl ?_
    refine mv_getI fX11_411 (by decide) rfl rfl dX11_told_53 ?_
    refine mv_iadd dX11_told_56 ?_
    refine mv_icmp_ge 91 dX11_told_57 (by decide) (fun z => ?_) (fun z => ?_)
    · replace h := mv_ifT z h
      refine mv_sub [0, 1, 2] rfl ?_
      exact zX11_told_91 hd x1 x2 M (mv_inrE h)
    · replace h := mv_ifF z h
      refine mv_aload_n 0 dX11_told_60 rfl ?_
      refine mv_getI fX11_142 (by decide) rfl rfl dX11_told_61 ?_
      refine mv_iconst (-1) dX11_told_64 (by decide) ?_
      refine mv_icmp_eq 91 dX11_told_65 (by decide) (fun z => ?_) (fun z => ?_)
      · replace h := mv_ifT z h
        refine mv_sub [0, 1, 2] rfl ?_
        exact zX11_told_91 hd x1 x2 M (mv_inrE h)
      · replace h := mv_ifF z h
        refine mv_iload_n 2 dX11_told_68 rfl ?_
        refine mv_aload_n 0 dX11_told_69 rfl ?_
        refine mv_getR 100 fX11_127 (by decide) rfl rfl rfl dX11_told_70 ?_
        refine mv_iload_n 3 dX11_told_73 rfl ?_
        obtain ⟨hi4, h⟩ := mv_chkE h
        refine mv_zld (by decide) rfl (mv_inE hi4) dX11_told_74 ?_
        refine mv_if_eq 82 dX11_told_75 (by decide) (fun z => ?_) (fun z => ?_)
        · replace h := mv_ifT z h
          refine mv_iconst 1 dX11_told_82 (by decide) ?_
          refine mv_sub [0, 1, 3] rfl ?_
          exact zX11_told_83 hd x1 x3 1 x2 M h
        · replace h := mv_ifF z h
          refine mv_iconst 0 dX11_told_78 (by decide) ?_
          refine mv_goto 83 dX11_told_79 (by decide) ?_
          refine mv_sub [0, 1, 3] rfl ?_
          exact zX11_told_83 hd x1 x3 0 x2 M h
noncomputable def fX11_told_44 (x1 : Int32) (M : mv_M) : Option (Int32 × mv_M) :=
  fX11_told_49 x1 0 40 M
set_option maxRecDepth 100000 in
set_option maxHeartbeats 4000000 in
theorem zX11_told_44 {l : Launch} {d : Nat} {Q : Int32 → mv_M → Prop} (hd : 1 ≤ d) (x1 : Int32) (M : mv_M) (h : mv_ok (fX11_told_44 x1 M) Q) : mv l mX11_told d 0 44 [(0, .ref 62), (1, .int x1)] [] M (mv_qI Q) := by
  unfold fX11_told_44 at h
  refine mv_iconst 0 dX11_told_44 (by decide) ?_
  refine mv_istore_n [(2, .int 0), (0, .ref 62), (1, .int x1)] dX11_told_45 (by decide) rfl ?_
  refine mv_bipush 40 dX11_told_46 (by decide) ?_
  refine mv_istore_n [(3, .int 40), (2, .int 0), (0, .ref 62), (1, .int x1)] dX11_told_48 (by decide) rfl ?_
  refine mv_sub [2, 3, 1, 0] rfl ?_
  exact zX11_told_49 hd x1 0 40 M h
noncomputable def fX11_told_18 (x1 : Int32) (s0 : Int32) (M : mv_M) : Option (Int32 × mv_M) :=
  mv_let (mv_si M 62 0 s0) fun M3 =>
  if 0 < (M3.1 62 0) then
    some (0, M3)
  else
    if 6 ≤ x1 then
      fX11_told_44 x1 M3
    else
      if (M3.1 62 75) = (-1) then
        some (0, M3)
      else
        fX11_told_44 x1 M3
set_option maxRecDepth 100000 in
set_option maxHeartbeats 4000000 in
theorem zX11_told_18 {l : Launch} {d : Nat} {Q : Int32 → mv_M → Prop} (hd : 1 ≤ d) (x1 : Int32) (s0 : Int32) (M : mv_M) (h : mv_ok (fX11_told_18 x1 s0 M) Q) : mv l mX11_told d 0 18 [(0, .ref 62), (1, .int x1)] [.int s0, .ref 62] M (mv_qI Q) := by
  unfold fX11_told_18 at h
  refine mv_putI fX11_148 (by decide) rfl rfl dX11_told_18 (fun M3 eM3 => ?_)
  replace h := mv_letE h M3 eM3
  refine mv_aload_n 0 dX11_told_21 rfl ?_
  refine mv_getI fX11_148 (by decide) rfl rfl dX11_told_22 ?_
  refine mv_if_gt 42 dX11_told_25 (by decide) (fun z => ?_) (fun z => ?_)
  · replace h := mv_ifT z h
    refine mv_iconst 0 dX11_told_42 (by decide) ?_
    exact mv_iret rfl dX11_told_43 ⟨_, rfl, h⟩
  · replace h := mv_ifF z h
    refine mv_iload_n 1 dX11_told_28 rfl ?_
    refine mv_bipush 6 dX11_told_29 (by decide) ?_
    refine mv_icmp_ge 44 dX11_told_31 (by decide) (fun z => ?_) (fun z => ?_)
    · replace h := mv_ifT z h
      refine mv_sub [0, 1] rfl ?_
      exact zX11_told_44 hd x1 M3 h
    · replace h := mv_ifF z h
      refine mv_aload_n 0 dX11_told_34 rfl ?_
      refine mv_getI fX11_142 (by decide) rfl rfl dX11_told_35 ?_
      refine mv_iconst (-1) dX11_told_38 (by decide) ?_
      refine mv_icmp_ne 44 dX11_told_39 (by decide) (fun z => ?_) (fun z => ?_)
      · replace h := mv_ifF z h
        refine mv_sub [0, 1] rfl ?_
        exact zX11_told_44 hd x1 M3 h
      · replace h := mv_ifT z h
        refine mv_iconst 0 dX11_told_42 (by decide) ?_
        exact mv_iret rfl dX11_told_43 ⟨_, rfl, h⟩
noncomputable def fX11_told (a0 : Int32) (M : mv_M) : Option (Int32 × mv_M) :=
  mv_bind (fX11_within (a0.toInt64) 0 6 M) fun r1 M2 =>
  if r1 = 0 then
    fX11_told_18 a0 1 M2
  else
    fX11_told_18 a0 0 M2
set_option maxRecDepth 100000 in
set_option maxHeartbeats 4000000 in
theorem zX11_told {l : Launch} {d : Nat} {Q : Int32 → mv_M → Prop} (hd : 1 ≤ d) (a0 : Int32) (M : mv_M) (h : mv_ok (fX11_told a0 M) Q) : mv l mX11_told d 0 0 (lv_args 0 [.ref 62, .int a0]) [] M (mv_qI Q) := by
  unfold fX11_told at h
  show mv l mX11_told d 0 0 [(0, .ref 62), (1, .int a0)] [] M (mv_qI Q)
  refine mv_aload_n 0 dX11_told_0 rfl ?_
  refine mv_iload_n 1 dX11_told_1 rfl ?_
  refine mv_i2l dX11_told_2 ?_
  refine mv_lconst 0 dX11_told_3 (by decide) ?_
  refine mv_ldc2 kX11_479 dX11_told_4 ?_
  refine mv_csI (As := [.long (a0.toInt64), .long 0, .long 6]) (st := [.ref 62]) okX11_within lX11_154 rfl (Nat.le_of_ble_eq_true rfl) rfl (Nat.le_of_ble_eq_true rfl) dX11_told_7 (by omega) rfl (zX11_within (d := d - 1) (by omega) (a0.toInt64) 0 6 M (mv_bindE h)) (fun r1 M2 h => ?_)
  refine mv_if_eq 17 dX11_told_10 (by decide) (fun z => ?_) (fun z => ?_)
  · replace h := mv_ifT z h
    refine mv_iconst 1 dX11_told_17 (by decide) ?_
    refine mv_sub [0, 1] rfl ?_
    exact zX11_told_18 hd a0 1 M2 h
  · replace h := mv_ifF z h
    refine mv_iconst 0 dX11_told_13 (by decide) ?_
    refine mv_goto 18 dX11_told_14 (by decide) ?_
    refine mv_sub [0, 1] rfl ?_
    exact zX11_told_18 hd a0 0 M2 h
theorem dX11_parted_0 : decode cX11_parted 0 = .ok (.iload_n 1, 1) := by decide +kernel
theorem dX11_parted_1 : decode cX11_parted 1 = .ok (.ifCond .eq 11, 3) := by decide +kernel
theorem dX11_parted_4 : decode cX11_parted 4 = .ok (.aload_n 0, 1) := by decide +kernel
theorem dX11_parted_5 : decode cX11_parted 5 = .ok (.getfield 414, 3) := by decide +kernel
theorem dX11_parted_8 : decode cX11_parted 8 = .ok (.iconst 1, 1) := by decide +kernel
theorem dX11_parted_9 : decode cX11_parted 9 = .ok (.if_icmp .eq 5, 3) := by decide +kernel
theorem dX11_parted_12 : decode cX11_parted 12 = .ok (.iconst 0, 1) := by decide +kernel
theorem dX11_parted_13 : decode cX11_parted 13 = .ok (.ireturn, 1) := by decide +kernel
theorem dX11_parted_14 : decode cX11_parted 14 = .ok (.iload_n 2, 1) := by decide +kernel
theorem dX11_parted_15 : decode cX11_parted 15 = .ok (.ifCond .eq 15, 3) := by decide +kernel
theorem dX11_parted_18 : decode cX11_parted 18 = .ok (.aload_n 0, 1) := by decide +kernel
theorem dX11_parted_19 : decode cX11_parted 19 = .ok (.getfield 133, 3) := by decide +kernel
theorem dX11_parted_22 : decode cX11_parted 22 = .ok (.aload_n 0, 1) := by decide +kernel
theorem dX11_parted_23 : decode cX11_parted 23 = .ok (.getfield 417, 3) := by decide +kernel
theorem dX11_parted_26 : decode cX11_parted 26 = .ok (.iaload, 1) := by decide +kernel
theorem dX11_parted_27 : decode cX11_parted 27 = .ok (.goto 12, 3) := by decide +kernel
theorem dX11_parted_30 : decode cX11_parted 30 = .ok (.aload_n 0, 1) := by decide +kernel
theorem dX11_parted_31 : decode cX11_parted 31 = .ok (.getfield 130, 3) := by decide +kernel
theorem dX11_parted_34 : decode cX11_parted 34 = .ok (.aload_n 0, 1) := by decide +kernel
theorem dX11_parted_35 : decode cX11_parted 35 = .ok (.getfield 417, 3) := by decide +kernel
theorem dX11_parted_38 : decode cX11_parted 38 = .ok (.iaload, 1) := by decide +kernel
theorem dX11_parted_39 : decode cX11_parted 39 = .ok (.istore_n 3, 1) := by decide +kernel
theorem dX11_parted_40 : decode cX11_parted 40 = .ok (.aload_n 0, 1) := by decide +kernel
theorem dX11_parted_41 : decode cX11_parted 41 = .ok (.getfield 118, 3) := by decide +kernel
theorem dX11_parted_44 : decode cX11_parted 44 = .ok (.iload_n 3, 1) := by decide +kernel
theorem dX11_parted_45 : decode cX11_parted 45 = .ok (.iaload, 1) := by decide +kernel
theorem dX11_parted_46 : decode cX11_parted 46 = .ok (.iconst 2, 1) := by decide +kernel
theorem dX11_parted_47 : decode cX11_parted 47 = .ok (.if_icmp .eq 5, 3) := by decide +kernel
theorem dX11_parted_50 : decode cX11_parted 50 = .ok (.iconst 0, 1) := by decide +kernel
theorem dX11_parted_51 : decode cX11_parted 51 = .ok (.ireturn, 1) := by decide +kernel
theorem dX11_parted_52 : decode cX11_parted 52 = .ok (.aload_n 0, 1) := by decide +kernel
theorem dX11_parted_53 : decode cX11_parted 53 = .ok (.aload_n 0, 1) := by decide +kernel
theorem dX11_parted_54 : decode cX11_parted 54 = .ok (.getfield 121, 3) := by decide +kernel
theorem dX11_parted_57 : decode cX11_parted 57 = .ok (.iload_n 3, 1) := by decide +kernel
theorem dX11_parted_58 : decode cX11_parted 58 = .ok (.iaload, 1) := by decide +kernel
theorem dX11_parted_59 : decode cX11_parted 59 = .ok (.putfield 414, 3) := by decide +kernel
theorem dX11_parted_62 : decode cX11_parted 62 = .ok (.aload_n 0, 1) := by decide +kernel
theorem dX11_parted_63 : decode cX11_parted 63 = .ok (.aload_n 0, 1) := by decide +kernel
theorem dX11_parted_64 : decode cX11_parted 64 = .ok (.getfield 124, 3) := by decide +kernel
theorem dX11_parted_67 : decode cX11_parted 67 = .ok (.iload_n 3, 1) := by decide +kernel
theorem dX11_parted_68 : decode cX11_parted 68 = .ok (.iaload, 1) := by decide +kernel
theorem dX11_parted_69 : decode cX11_parted 69 = .ok (.putfield 417, 3) := by decide +kernel
theorem dX11_parted_72 : decode cX11_parted 72 = .ok (.iconst 1, 1) := by decide +kernel
theorem dX11_parted_73 : decode cX11_parted 73 = .ok (.ireturn, 1) := by decide +kernel
noncomputable def fX11_parted_39 (s0 : Int32) (M : mv_M) : Option (Int32 × mv_M) :=
  mv_chk (mv_inb s0 1540) <|
  if (M.1 97 s0.toNatClampNeg) = 2 then
    mv_chk (mv_inb s0 1540) <|
    mv_let (mv_si M 62 77 (M.1 98 s0.toNatClampNeg)) fun M5 =>
    mv_chk (mv_inb s0 1540) <|
    mv_let (mv_si M5 62 78 (M5.1 99 s0.toNatClampNeg)) fun M7 =>
    some (1, M7)
  else
    some (0, M)
set_option maxRecDepth 100000 in
set_option maxHeartbeats 4000000 in
theorem zX11_parted_39 {l : Launch} {d : Nat} {Q : Int32 → mv_M → Prop} (hd : 0 ≤ d) (s0 : Int32) (M : mv_M) (h : mv_ok (fX11_parted_39 s0 M) Q) : mv l mX11_parted d 0 39 [(0, .ref 62)] [.int s0] M (mv_qI Q) := by
  unfold fX11_parted_39 at h
  refine mv_istore_n [(3, .int s0), (0, .ref 62)] dX11_parted_39 (by decide) rfl ?_
  refine mv_aload_n 1 dX11_parted_40 rfl ?_
  refine mv_getR 97 fX11_118 (by decide) rfl rfl rfl dX11_parted_41 ?_
  refine mv_iload_n 0 dX11_parted_44 rfl ?_
  obtain ⟨hi3, h⟩ := mv_chkE h
  refine mv_ild (by decide) rfl (mv_inE hi3) dX11_parted_45 ?_
  refine mv_iconst 2 dX11_parted_46 (by decide) ?_
  refine mv_icmp_eq 52 dX11_parted_47 (by decide) (fun z => ?_) (fun z => ?_)
  · replace h := mv_ifT z h
    refine mv_aload_n 1 dX11_parted_52 rfl ?_
    refine mv_aload_n 1 dX11_parted_53 rfl ?_
    refine mv_getR 98 fX11_121 (by decide) rfl rfl rfl dX11_parted_54 ?_
    refine mv_iload_n 0 dX11_parted_57 rfl ?_
    obtain ⟨hi4, h⟩ := mv_chkE h
    refine mv_ild (by decide) rfl (mv_inE hi4) dX11_parted_58 ?_
    refine mv_putI fX11_414 (by decide) rfl rfl dX11_parted_59 (fun M5 eM5 => ?_)
    replace h := mv_letE h M5 eM5
    refine mv_aload_n 1 dX11_parted_62 rfl ?_
    refine mv_aload_n 1 dX11_parted_63 rfl ?_
    refine mv_getR 99 fX11_124 (by decide) rfl rfl rfl dX11_parted_64 ?_
    refine mv_iload_n 0 dX11_parted_67 rfl ?_
    obtain ⟨hi6, h⟩ := mv_chkE h
    refine mv_ild (by decide) rfl (mv_inE hi6) dX11_parted_68 ?_
    refine mv_putI fX11_417 (by decide) rfl rfl dX11_parted_69 (fun M7 eM7 => ?_)
    replace h := mv_letE h M7 eM7
    refine mv_iconst 1 dX11_parted_72 (by decide) ?_
    exact mv_zret (by decide) rfl dX11_parted_73 ⟨_, rfl, h⟩
  · replace h := mv_ifF z h
    refine mv_iconst 0 dX11_parted_50 (by decide) ?_
    exact mv_zret (by decide) rfl dX11_parted_51 ⟨_, rfl, h⟩
noncomputable def fX11_parted (a0 : Int32) (a1 : Int32) (M : mv_M) : Option (Int32 × mv_M) :=
  if a0 = 0 then
    some (0, M)
  else
    if (M.1 62 77) = 1 then
      if a1 = 0 then
        mv_chk (mv_inb (M.1 62 78) 1540) <|
        fX11_parted_39 (M.1 101 (M.1 62 78).toNatClampNeg) M
      else
        mv_chk (mv_inb (M.1 62 78) 1540) <|
        fX11_parted_39 (M.1 102 (M.1 62 78).toNatClampNeg) M
    else
      some (0, M)
set_option maxRecDepth 100000 in
set_option maxHeartbeats 4000000 in
theorem zX11_parted {l : Launch} {d : Nat} {Q : Int32 → mv_M → Prop} (hd : 0 ≤ d) (a0 : Int32) (a1 : Int32) (M : mv_M) (h : mv_ok (fX11_parted a0 a1 M) Q) : mv l mX11_parted d 0 0 (lv_args 0 [.ref 62, .int a0, .int a1]) [] M (mv_qI Q) := by
  unfold fX11_parted at h
  show mv l mX11_parted d 0 0 [(0, .ref 62), (1, .int a0), (2, .int a1)] [] M (mv_qI Q)
  refine mv_iload_n 1 dX11_parted_0 rfl ?_
  refine mv_if_eq 12 dX11_parted_1 (by decide) (fun z => ?_) (fun z => ?_)
  · replace h := mv_ifT z h
    refine mv_iconst 0 dX11_parted_12 (by decide) ?_
    exact mv_zret (by decide) rfl dX11_parted_13 ⟨_, rfl, h⟩
  · replace h := mv_ifF z h
    refine mv_aload_n 0 dX11_parted_4 rfl ?_
    refine mv_getI fX11_414 (by decide) rfl rfl dX11_parted_5 ?_
    refine mv_iconst 1 dX11_parted_8 (by decide) ?_
    refine mv_icmp_eq 14 dX11_parted_9 (by decide) (fun z => ?_) (fun z => ?_)
    · replace h := mv_ifT z h
      refine mv_iload_n 2 dX11_parted_14 rfl ?_
      refine mv_if_eq 30 dX11_parted_15 (by decide) (fun z => ?_) (fun z => ?_)
      · replace h := mv_ifT z h
        refine mv_aload_n 0 dX11_parted_30 rfl ?_
        refine mv_getR 101 fX11_130 (by decide) rfl rfl rfl dX11_parted_31 ?_
        refine mv_aload_n 0 dX11_parted_34 rfl ?_
        refine mv_getI fX11_417 (by decide) rfl rfl dX11_parted_35 ?_
        obtain ⟨hi1, h⟩ := mv_chkE h
        refine mv_ild (by decide) rfl (mv_inE hi1) dX11_parted_38 ?_
        refine mv_sub [0] rfl ?_
        exact zX11_parted_39 hd (M.1 101 (M.1 62 78).toNatClampNeg) M h
      · replace h := mv_ifF z h
        refine mv_aload_n 0 dX11_parted_18 rfl ?_
        refine mv_getR 102 fX11_133 (by decide) rfl rfl rfl dX11_parted_19 ?_
        refine mv_aload_n 0 dX11_parted_22 rfl ?_
        refine mv_getI fX11_417 (by decide) rfl rfl dX11_parted_23 ?_
        obtain ⟨hi2, h⟩ := mv_chkE h
        refine mv_ild (by decide) rfl (mv_inE hi2) dX11_parted_26 ?_
        refine mv_goto 39 dX11_parted_27 (by decide) ?_
        refine mv_sub [0] rfl ?_
        exact zX11_parted_39 hd (M.1 102 (M.1 62 78).toNatClampNeg) M h
    · replace h := mv_ifF z h
      refine mv_iconst 0 dX11_parted_12 (by decide) ?_
      exact mv_zret (by decide) rfl dX11_parted_13 ⟨_, rfl, h⟩
theorem dX11_result_0 : decode cX11_result 0 = .ok (.aload_n 0, 1) := by decide +kernel
theorem dX11_result_1 : decode cX11_result 1 = .ok (.getfield 142, 3) := by decide +kernel
theorem dX11_result_4 : decode cX11_result 4 = .ok (.iconst (-1), 1) := by decide +kernel
theorem dX11_result_5 : decode cX11_result 5 = .ok (.if_icmp .eq 27, 3) := by decide +kernel
theorem dX11_result_8 : decode cX11_result 8 = .ok (.aload_n 0, 1) := by decide +kernel
theorem dX11_result_9 : decode cX11_result 9 = .ok (.getfield 476, 3) := by decide +kernel
theorem dX11_result_12 : decode cX11_result 12 = .ok (.iconst 1, 1) := by decide +kernel
theorem dX11_result_13 : decode cX11_result 13 = .ok (.if_icmp .ne 19, 3) := by decide +kernel
theorem dX11_result_16 : decode cX11_result 16 = .ok (.iload_n 1, 1) := by decide +kernel
theorem dX11_result_17 : decode cX11_result 17 = .ok (.i2l, 1) := by decide +kernel
theorem dX11_result_18 : decode cX11_result 18 = .ok (.lconst 0, 1) := by decide +kernel
theorem dX11_result_19 : decode cX11_result 19 = .ok (.ldc2_w 479, 3) := by decide +kernel
theorem dX11_result_22 : decode cX11_result 22 = .ok (.invokestatic 154, 3) := by decide +kernel
theorem dX11_result_25 : decode cX11_result 25 = .ok (.ifCond .eq 7, 3) := by decide +kernel
theorem dX11_result_28 : decode cX11_result 28 = .ok (.iconst 1, 1) := by decide +kernel
theorem dX11_result_29 : decode cX11_result 29 = .ok (.goto 4, 3) := by decide +kernel
theorem dX11_result_32 : decode cX11_result 32 = .ok (.iconst 0, 1) := by decide +kernel
theorem dX11_result_33 : decode cX11_result 33 = .ok (.istore_n 2, 1) := by decide +kernel
theorem dX11_result_34 : decode cX11_result 34 = .ok (.aload_n 0, 1) := by decide +kernel
theorem dX11_result_35 : decode cX11_result 35 = .ok (.aload_n 0, 1) := by decide +kernel
theorem dX11_result_36 : decode cX11_result 36 = .ok (.getfield 470, 3) := by decide +kernel
theorem dX11_result_39 : decode cX11_result 39 = .ok (.putfield 414, 3) := by decide +kernel
theorem dX11_result_42 : decode cX11_result 42 = .ok (.aload_n 0, 1) := by decide +kernel
theorem dX11_result_43 : decode cX11_result 43 = .ok (.aload_n 0, 1) := by decide +kernel
theorem dX11_result_44 : decode cX11_result 44 = .ok (.getfield 473, 3) := by decide +kernel
theorem dX11_result_47 : decode cX11_result 47 = .ok (.putfield 417, 3) := by decide +kernel
theorem dX11_result_50 : decode cX11_result 50 = .ok (.iload_n 1, 1) := by decide +kernel
theorem dX11_result_51 : decode cX11_result 51 = .ok (.ifCond .le 24, 3) := by decide +kernel
theorem dX11_result_54 : decode cX11_result 54 = .ok (.aload_n 0, 1) := by decide +kernel
theorem dX11_result_55 : decode cX11_result 55 = .ok (.iload_n 2, 1) := by decide +kernel
theorem dX11_result_56 : decode cX11_result 56 = .ok (.iload_n 1, 1) := by decide +kernel
theorem dX11_result_57 : decode cX11_result 57 = .ok (.iconst 2, 1) := by decide +kernel
theorem dX11_result_58 : decode cX11_result 58 = .ok (.if_icmp .eq 8, 3) := by decide +kernel
theorem dX11_result_61 : decode cX11_result 61 = .ok (.iload_n 1, 1) := by decide +kernel
theorem dX11_result_62 : decode cX11_result 62 = .ok (.iconst 5, 1) := by decide +kernel
theorem dX11_result_63 : decode cX11_result 63 = .ok (.if_icmp .lt 7, 3) := by decide +kernel
theorem dX11_result_66 : decode cX11_result 66 = .ok (.iconst 1, 1) := by decide +kernel
theorem dX11_result_67 : decode cX11_result 67 = .ok (.goto 4, 3) := by decide +kernel
theorem dX11_result_70 : decode cX11_result 70 = .ok (.iconst 0, 1) := by decide +kernel
theorem dX11_result_71 : decode cX11_result 71 = .ok (.invokevirtual 481, 3) := by decide +kernel
theorem dX11_result_74 : decode cX11_result 74 = .ok (.istore_n 2, 1) := by decide +kernel
theorem dX11_result_75 : decode cX11_result 75 = .ok (.iload_n 1, 1) := by decide +kernel
theorem dX11_result_76 : decode cX11_result 76 = .ok (.iconst 2, 1) := by decide +kernel
theorem dX11_result_77 : decode cX11_result 77 = .ok (.if_icmp .le 20, 3) := by decide +kernel
theorem dX11_result_80 : decode cX11_result 80 = .ok (.aload_n 0, 1) := by decide +kernel
theorem dX11_result_81 : decode cX11_result 81 = .ok (.iload_n 2, 1) := by decide +kernel
theorem dX11_result_82 : decode cX11_result 82 = .ok (.iload_n 1, 1) := by decide +kernel
theorem dX11_result_83 : decode cX11_result 83 = .ok (.iconst 2, 1) := by decide +kernel
theorem dX11_result_84 : decode cX11_result 84 = .ok (.irem, 1) := by decide +kernel
theorem dX11_result_85 : decode cX11_result 85 = .ok (.ifCond .ne 7, 3) := by decide +kernel
theorem dX11_result_88 : decode cX11_result 88 = .ok (.iconst 1, 1) := by decide +kernel
theorem dX11_result_89 : decode cX11_result 89 = .ok (.goto 4, 3) := by decide +kernel
theorem dX11_result_92 : decode cX11_result 92 = .ok (.iconst 0, 1) := by decide +kernel
theorem dX11_result_93 : decode cX11_result 93 = .ok (.invokevirtual 481, 3) := by decide +kernel
theorem dX11_result_96 : decode cX11_result 96 = .ok (.istore_n 2, 1) := by decide +kernel
theorem dX11_result_97 : decode cX11_result 97 = .ok (.aload_n 0, 1) := by decide +kernel
theorem dX11_result_98 : decode cX11_result 98 = .ok (.iload_n 2, 1) := by decide +kernel
theorem dX11_result_99 : decode cX11_result 99 = .ok (.ifCond .eq 14, 3) := by decide +kernel
theorem dX11_result_102 : decode cX11_result 102 = .ok (.aload_n 0, 1) := by decide +kernel
theorem dX11_result_103 : decode cX11_result 103 = .ok (.getfield 414, 3) := by decide +kernel
theorem dX11_result_106 : decode cX11_result 106 = .ok (.ifCond .ne 7, 3) := by decide +kernel
theorem dX11_result_109 : decode cX11_result 109 = .ok (.iconst 0, 1) := by decide +kernel
theorem dX11_result_110 : decode cX11_result 110 = .ok (.goto 4, 3) := by decide +kernel
theorem dX11_result_113 : decode cX11_result 113 = .ok (.iconst 1, 1) := by decide +kernel
theorem dX11_result_114 : decode cX11_result 114 = .ok (.putfield 148, 3) := by decide +kernel
theorem dX11_result_117 : decode cX11_result 117 = .ok (.aload_n 0, 1) := by decide +kernel
theorem dX11_result_118 : decode cX11_result 118 = .ok (.getfield 148, 3) := by decide +kernel
theorem dX11_result_121 : decode cX11_result 121 = .ok (.ifCond .le 7, 3) := by decide +kernel
theorem dX11_result_124 : decode cX11_result 124 = .ok (.iconst 0, 1) := by decide +kernel
theorem dX11_result_125 : decode cX11_result 125 = .ok (.goto 7, 3) := by decide +kernel
theorem dX11_result_128 : decode cX11_result 128 = .ok (.aload_n 0, 1) := by decide +kernel
theorem dX11_result_129 : decode cX11_result 129 = .ok (.getfield 417, 3) := by decide +kernel
theorem dX11_result_132 : decode cX11_result 132 = .ok (.ireturn, 1) := by decide +kernel
noncomputable def fX11_result_114 (s0 : Int32) (M : mv_M) : Option (Int32 × mv_M) :=
  mv_let (mv_si M 62 0 s0) fun M9 =>
  if (M9.1 62 0) ≤ 0 then
    some (M9.1 62 78, M9)
  else
    some (0, M9)
set_option maxRecDepth 100000 in
set_option maxHeartbeats 4000000 in
theorem zX11_result_114 {l : Launch} {d : Nat} {Q : Int32 → mv_M → Prop} (hd : 1 ≤ d) (s0 : Int32) (M : mv_M) (h : mv_ok (fX11_result_114 s0 M) Q) : mv l mX11_result d 0 114 [(0, .ref 62)] [.int s0, .ref 62] M (mv_qI Q) := by
  unfold fX11_result_114 at h
  refine mv_putI fX11_148 (by decide) rfl rfl dX11_result_114 (fun M9 eM9 => ?_)
  replace h := mv_letE h M9 eM9
  refine mv_aload_n 0 dX11_result_117 rfl ?_
  refine mv_getI fX11_148 (by decide) rfl rfl dX11_result_118 ?_
  refine mv_if_le 128 dX11_result_121 (by decide) (fun z => ?_) (fun z => ?_)
  · replace h := mv_ifT z h
    refine mv_aload_n 0 dX11_result_128 rfl ?_
    refine mv_getI fX11_417 (by decide) rfl rfl dX11_result_129 ?_
    exact mv_iret rfl dX11_result_132 ⟨_, rfl, h⟩
  · replace h := mv_ifF z h
    refine mv_iconst 0 dX11_result_124 (by decide) ?_
    refine mv_goto 132 dX11_result_125 (by decide) ?_
    exact mv_iret rfl dX11_result_132 ⟨_, rfl, h⟩
noncomputable def fX11_result_113 (M : mv_M) : Option (Int32 × mv_M) :=
  fX11_result_114 1 M
set_option maxRecDepth 100000 in
set_option maxHeartbeats 4000000 in
theorem zX11_result_113 {l : Launch} {d : Nat} {Q : Int32 → mv_M → Prop} (hd : 1 ≤ d) (M : mv_M) (h : mv_ok (fX11_result_113 M) Q) : mv l mX11_result d 0 113 [(0, .ref 62)] [.ref 62] M (mv_qI Q) := by
  unfold fX11_result_113 at h
  refine mv_iconst 1 dX11_result_113 (by decide) ?_
  refine mv_sub [0] rfl ?_
  exact zX11_result_114 hd 1 M h
noncomputable def fX11_result_97 (x2 : Int32) (M : mv_M) : Option (Int32 × mv_M) :=
  if x2 = 0 then
    fX11_result_113 M
  else
    if (M.1 62 77) = 0 then
      fX11_result_114 0 M
    else
      fX11_result_113 M
set_option maxRecDepth 100000 in
set_option maxHeartbeats 4000000 in
theorem zX11_result_97 {l : Launch} {d : Nat} {Q : Int32 → mv_M → Prop} (hd : 1 ≤ d) (x2 : Int32) (M : mv_M) (h : mv_ok (fX11_result_97 x2 M) Q) : mv l mX11_result d 0 97 [(0, .ref 62), (2, .int x2)] [] M (mv_qI Q) := by
  unfold fX11_result_97 at h
  refine mv_aload_n 0 dX11_result_97 rfl ?_
  refine mv_iload_n 1 dX11_result_98 rfl ?_
  refine mv_if_eq 113 dX11_result_99 (by decide) (fun z => ?_) (fun z => ?_)
  · replace h := mv_ifT z h
    refine mv_sub [0] rfl ?_
    exact zX11_result_113 hd M h
  · replace h := mv_ifF z h
    refine mv_aload_n 0 dX11_result_102 rfl ?_
    refine mv_getI fX11_414 (by decide) rfl rfl dX11_result_103 ?_
    refine mv_if_ne 113 dX11_result_106 (by decide) (fun z => ?_) (fun z => ?_)
    · replace h := mv_ifF z h
      refine mv_sub [0] rfl ?_
      exact zX11_result_113 hd M h
    · replace h := mv_ifT z h
      refine mv_iconst 0 dX11_result_109 (by decide) ?_
      refine mv_goto 114 dX11_result_110 (by decide) ?_
      refine mv_sub [0] rfl ?_
      exact zX11_result_114 hd 0 M h
noncomputable def fX11_result_93 (s0 : Int32) (s1 : Int32) (M : mv_M) : Option (Int32 × mv_M) :=
  mv_bind (fX11_parted s1 s0 M) fun r7 M8 =>
  fX11_result_97 r7 M8
set_option maxRecDepth 100000 in
set_option maxHeartbeats 4000000 in
theorem zX11_result_93 {l : Launch} {d : Nat} {Q : Int32 → mv_M → Prop} (hd : 1 ≤ d) (s0 : Int32) (s1 : Int32) (M : mv_M) (h : mv_ok (fX11_result_93 s0 s1 M) Q) : mv l mX11_result d 0 93 [(0, .ref 62)] [.int s0, .int s1, .ref 62] M (mv_qI Q) := by
  unfold fX11_result_93 at h
  refine mv_cvI (As := [.int s1, .int s0]) (st := []) okX11_parted lX11_481 (by decide) rfl rfl rfl (Nat.le_of_ble_eq_true rfl) rfl (Nat.le_of_ble_eq_true rfl) dX11_result_93 (by omega) rfl (zX11_parted (d := d - 1) (by omega) s1 s0 M (mv_bindE h)) (fun r7 M8 h => ?_)
  refine mv_istore_n [(2, .int r7), (0, .ref 62)] dX11_result_96 (by decide) rfl ?_
  refine mv_sub [1, 0] rfl ?_
  exact zX11_result_97 hd r7 M8 h
noncomputable def fX11_result_75 (x1 : Int32) (x2 : Int32) (M : mv_M) : Option (Int32 × mv_M) :=
  if x1 ≤ 2 then
    fX11_result_97 x2 M
  else
    if (x1 - x1 / 2 * 2) = 0 then
      fX11_result_93 1 x2 M
    else
      fX11_result_93 0 x2 M
set_option maxRecDepth 100000 in
set_option maxHeartbeats 4000000 in
theorem zX11_result_75 {l : Launch} {d : Nat} {Q : Int32 → mv_M → Prop} (hd : 1 ≤ d) (x1 : Int32) (x2 : Int32) (M : mv_M) (h : mv_ok (fX11_result_75 x1 x2 M) Q) : mv l mX11_result d 0 75 [(0, .ref 62), (1, .int x1), (2, .int x2)] [] M (mv_qI Q) := by
  unfold fX11_result_75 at h
  refine mv_iload_n 1 dX11_result_75 rfl ?_
  refine mv_iconst 2 dX11_result_76 (by decide) ?_
  refine mv_icmp_le 97 dX11_result_77 (by decide) (fun z => ?_) (fun z => ?_)
  · replace h := mv_ifT z h
    refine mv_sub [0, 2] rfl ?_
    exact zX11_result_97 hd x2 M h
  · replace h := mv_ifF z h
    refine mv_aload_n 0 dX11_result_80 rfl ?_
    refine mv_iload_n 2 dX11_result_81 rfl ?_
    refine mv_iload_n 1 dX11_result_82 rfl ?_
    refine mv_iconst 2 dX11_result_83 (by decide) ?_
    refine mv_irem dX11_result_84 (by decide) ?_
    refine mv_if_ne 92 dX11_result_85 (by decide) (fun z => ?_) (fun z => ?_)
    · replace h := mv_ifF z h
      refine mv_iconst 0 dX11_result_92 (by decide) ?_
      refine mv_sub [0] rfl ?_
      exact zX11_result_93 hd 0 x2 M h
    · replace h := mv_ifT z h
      refine mv_iconst 1 dX11_result_88 (by decide) ?_
      refine mv_goto 93 dX11_result_89 (by decide) ?_
      refine mv_sub [0] rfl ?_
      exact zX11_result_93 hd 1 x2 M h
noncomputable def fX11_result_71 (x1 : Int32) (s0 : Int32) (s1 : Int32) (M : mv_M) : Option (Int32 × mv_M) :=
  mv_bind (fX11_parted s1 s0 M) fun r5 M6 =>
  fX11_result_75 x1 r5 M6
set_option maxRecDepth 100000 in
set_option maxHeartbeats 4000000 in
theorem zX11_result_71 {l : Launch} {d : Nat} {Q : Int32 → mv_M → Prop} (hd : 1 ≤ d) (x1 : Int32) (s0 : Int32) (s1 : Int32) (M : mv_M) (h : mv_ok (fX11_result_71 x1 s0 s1 M) Q) : mv l mX11_result d 0 71 [(0, .ref 62), (1, .int x1)] [.int s0, .int s1, .ref 62] M (mv_qI Q) := by
  unfold fX11_result_71 at h
  refine mv_cvI (As := [.int s1, .int s0]) (st := []) okX11_parted lX11_481 (by decide) rfl rfl rfl (Nat.le_of_ble_eq_true rfl) rfl (Nat.le_of_ble_eq_true rfl) dX11_result_71 (by omega) rfl (zX11_parted (d := d - 1) (by omega) s1 s0 M (mv_bindE h)) (fun r5 M6 h => ?_)
  refine mv_istore_n [(2, .int r5), (0, .ref 62), (1, .int x1)] dX11_result_74 (by decide) rfl ?_
  refine mv_sub [1, 2, 0] rfl ?_
  exact zX11_result_75 hd x1 r5 M6 h
noncomputable def fX11_result_66 (x1 : Int32) (s0 : Int32) (M : mv_M) : Option (Int32 × mv_M) :=
  fX11_result_71 x1 1 s0 M
set_option maxRecDepth 100000 in
set_option maxHeartbeats 4000000 in
theorem zX11_result_66 {l : Launch} {d : Nat} {Q : Int32 → mv_M → Prop} (hd : 1 ≤ d) (x1 : Int32) (s0 : Int32) (M : mv_M) (h : mv_ok (fX11_result_66 x1 s0 M) Q) : mv l mX11_result d 0 66 [(0, .ref 62), (1, .int x1)] [.int s0, .ref 62] M (mv_qI Q) := by
  unfold fX11_result_66 at h
  refine mv_iconst 1 dX11_result_66 (by decide) ?_
  refine mv_goto 71 dX11_result_67 (by decide) ?_
  refine mv_sub [0, 1] rfl ?_
  exact zX11_result_71 hd x1 1 s0 M h
noncomputable def fX11_result_33 (x1 : Int32) (s0 : Int32) (M : mv_M) : Option (Int32 × mv_M) :=
  mv_let (mv_si M 62 77 (M.1 62 79)) fun M3 =>
  mv_let (mv_si M3 62 78 (M3.1 62 80)) fun M4 =>
  if x1 ≤ 0 then
    fX11_result_75 x1 s0 M4
  else
    if x1 = 2 then
      fX11_result_66 x1 s0 M4
    else
      if x1 < 5 then
        fX11_result_71 x1 0 s0 M4
      else
        fX11_result_66 x1 s0 M4
set_option maxRecDepth 100000 in
set_option maxHeartbeats 4000000 in
theorem zX11_result_33 {l : Launch} {d : Nat} {Q : Int32 → mv_M → Prop} (hd : 1 ≤ d) (x1 : Int32) (s0 : Int32) (M : mv_M) (h : mv_ok (fX11_result_33 x1 s0 M) Q) : mv l mX11_result d 0 33 [(0, .ref 62), (1, .int x1)] [.int s0] M (mv_qI Q) := by
  unfold fX11_result_33 at h
  refine mv_istore_n [(2, .int s0), (0, .ref 62), (1, .int x1)] dX11_result_33 (by decide) rfl ?_
  refine mv_aload_n 1 dX11_result_34 rfl ?_
  refine mv_aload_n 1 dX11_result_35 rfl ?_
  refine mv_getI fX11_470 (by decide) rfl rfl dX11_result_36 ?_
  refine mv_putI fX11_414 (by decide) rfl rfl dX11_result_39 (fun M3 eM3 => ?_)
  replace h := mv_letE h M3 eM3
  refine mv_aload_n 1 dX11_result_42 rfl ?_
  refine mv_aload_n 1 dX11_result_43 rfl ?_
  refine mv_getI fX11_473 (by decide) rfl rfl dX11_result_44 ?_
  refine mv_putI fX11_417 (by decide) rfl rfl dX11_result_47 (fun M4 eM4 => ?_)
  replace h := mv_letE h M4 eM4
  refine mv_iload_n 2 dX11_result_50 rfl ?_
  refine mv_if_le 75 dX11_result_51 (by decide) (fun z => ?_) (fun z => ?_)
  · replace h := mv_ifT z h
    refine mv_sub [1, 2, 0] rfl ?_
    exact zX11_result_75 hd x1 s0 M4 h
  · replace h := mv_ifF z h
    refine mv_aload_n 1 dX11_result_54 rfl ?_
    refine mv_iload_n 0 dX11_result_55 rfl ?_
    refine mv_iload_n 2 dX11_result_56 rfl ?_
    refine mv_iconst 2 dX11_result_57 (by decide) ?_
    refine mv_icmp_eq 66 dX11_result_58 (by decide) (fun z => ?_) (fun z => ?_)
    · replace h := mv_ifT z h
      refine mv_sub [1, 2] rfl ?_
      exact zX11_result_66 hd x1 s0 M4 h
    · replace h := mv_ifF z h
      refine mv_iload_n 2 dX11_result_61 rfl ?_
      refine mv_iconst 5 dX11_result_62 (by decide) ?_
      refine mv_icmp_lt 70 dX11_result_63 (by decide) (fun z => ?_) (fun z => ?_)
      · replace h := mv_ifT z h
        refine mv_iconst 0 dX11_result_70 (by decide) ?_
        refine mv_sub [1, 2] rfl ?_
        exact zX11_result_71 hd x1 0 s0 M4 h
      · replace h := mv_ifF z h
        refine mv_sub [1, 2] rfl ?_
        exact zX11_result_66 hd x1 s0 M4 h
noncomputable def fX11_result_32 (x1 : Int32) (M : mv_M) : Option (Int32 × mv_M) :=
  fX11_result_33 x1 0 M
set_option maxRecDepth 100000 in
set_option maxHeartbeats 4000000 in
theorem zX11_result_32 {l : Launch} {d : Nat} {Q : Int32 → mv_M → Prop} (hd : 1 ≤ d) (x1 : Int32) (M : mv_M) (h : mv_ok (fX11_result_32 x1 M) Q) : mv l mX11_result d 0 32 [(0, .ref 62), (1, .int x1)] [] M (mv_qI Q) := by
  unfold fX11_result_32 at h
  refine mv_iconst 0 dX11_result_32 (by decide) ?_
  refine mv_sub [0, 1] rfl ?_
  exact zX11_result_33 hd x1 0 M h
noncomputable def fX11_result (a0 : Int32) (M : mv_M) : Option (Int32 × mv_M) :=
  if (M.1 62 75) = (-1) then
    fX11_result_32 a0 M
  else
    if (M.1 62 76) = 1 then
      mv_bind (fX11_within (a0.toInt64) 0 6 M) fun r1 M2 =>
      if r1 = 0 then
        fX11_result_32 a0 M2
      else
        fX11_result_33 a0 1 M2
    else
      fX11_result_32 a0 M
set_option maxRecDepth 100000 in
set_option maxHeartbeats 4000000 in
theorem zX11_result {l : Launch} {d : Nat} {Q : Int32 → mv_M → Prop} (hd : 1 ≤ d) (a0 : Int32) (M : mv_M) (h : mv_ok (fX11_result a0 M) Q) : mv l mX11_result d 0 0 (lv_args 0 [.ref 62, .int a0]) [] M (mv_qI Q) := by
  unfold fX11_result at h
  show mv l mX11_result d 0 0 [(0, .ref 62), (1, .int a0)] [] M (mv_qI Q)
  refine mv_aload_n 0 dX11_result_0 rfl ?_
  refine mv_getI fX11_142 (by decide) rfl rfl dX11_result_1 ?_
  refine mv_iconst (-1) dX11_result_4 (by decide) ?_
  refine mv_icmp_eq 32 dX11_result_5 (by decide) (fun z => ?_) (fun z => ?_)
  · replace h := mv_ifT z h
    refine mv_sub [0, 1] rfl ?_
    exact zX11_result_32 hd a0 M h
  · replace h := mv_ifF z h
    refine mv_aload_n 0 dX11_result_8 rfl ?_
    refine mv_getI fX11_476 (by decide) rfl rfl dX11_result_9 ?_
    refine mv_iconst 1 dX11_result_12 (by decide) ?_
    refine mv_icmp_ne 32 dX11_result_13 (by decide) (fun z => ?_) (fun z => ?_)
    · replace h := mv_ifF z h
      refine mv_sub [0, 1] rfl ?_
      exact zX11_result_32 hd a0 M h
    · replace h := mv_ifT z h
      refine mv_iload_n 1 dX11_result_16 rfl ?_
      refine mv_i2l dX11_result_17 ?_
      refine mv_lconst 0 dX11_result_18 (by decide) ?_
      refine mv_ldc2 kX11_479 dX11_result_19 ?_
      refine mv_csI (As := [.long (a0.toInt64), .long 0, .long 6]) (st := []) okX11_within lX11_154 rfl (Nat.le_of_ble_eq_true rfl) rfl (Nat.le_of_ble_eq_true rfl) dX11_result_22 (by omega) rfl (zX11_within (d := d - 1) (by omega) (a0.toInt64) 0 6 M (mv_bindE h)) (fun r1 M2 h => ?_)
      refine mv_if_eq 32 dX11_result_25 (by decide) (fun z => ?_) (fun z => ?_)
      · replace h := mv_ifT z h
        refine mv_sub [0, 1] rfl ?_
        exact zX11_result_32 hd a0 M2 h
      · replace h := mv_ifF z h
        refine mv_iconst 1 dX11_result_28 (by decide) ?_
        refine mv_goto 33 dX11_result_29 (by decide) ?_
        refine mv_sub [0, 1] rfl ?_
        exact zX11_result_33 hd a0 1 M2 h
theorem dX11_needed_0 : decode cX11_needed 0 = .ok (.aload_n 0, 1) := by decide +kernel
theorem dX11_needed_1 : decode cX11_needed 1 = .ok (.aload_n 0, 1) := by decide +kernel
theorem dX11_needed_2 : decode cX11_needed 2 = .ok (.getfield 142, 3) := by decide +kernel
theorem dX11_needed_5 : decode cX11_needed 5 = .ok (.iconst (-1), 1) := by decide +kernel
theorem dX11_needed_6 : decode cX11_needed 6 = .ok (.if_icmp .eq 19, 3) := by decide +kernel
theorem dX11_needed_9 : decode cX11_needed 9 = .ok (.aload_n 0, 1) := by decide +kernel
theorem dX11_needed_10 : decode cX11_needed 10 = .ok (.aload_n 0, 1) := by decide +kernel
theorem dX11_needed_11 : decode cX11_needed 11 = .ok (.getfield 142, 3) := by decide +kernel
theorem dX11_needed_14 : decode cX11_needed 14 = .ok (.iload_n 1, 1) := by decide +kernel
theorem dX11_needed_15 : decode cX11_needed 15 = .ok (.invokevirtual 390, 3) := by decide +kernel
theorem dX11_needed_18 : decode cX11_needed 18 = .ok (.ifCond .eq 7, 3) := by decide +kernel
theorem dX11_needed_21 : decode cX11_needed 21 = .ok (.iconst 0, 1) := by decide +kernel
theorem dX11_needed_22 : decode cX11_needed 22 = .ok (.goto 4, 3) := by decide +kernel
theorem dX11_needed_25 : decode cX11_needed 25 = .ok (.iconst 1, 1) := by decide +kernel
theorem dX11_needed_26 : decode cX11_needed 26 = .ok (.putfield 148, 3) := by decide +kernel
theorem dX11_needed_29 : decode cX11_needed 29 = .ok (.aload_n 0, 1) := by decide +kernel
theorem dX11_needed_30 : decode cX11_needed 30 = .ok (.getfield 148, 3) := by decide +kernel
theorem dX11_needed_33 : decode cX11_needed 33 = .ok (.ifCond .ne 21, 3) := by decide +kernel
theorem dX11_needed_36 : decode cX11_needed 36 = .ok (.aload_n 0, 1) := by decide +kernel
theorem dX11_needed_37 : decode cX11_needed 37 = .ok (.getfield 127, 3) := by decide +kernel
theorem dX11_needed_40 : decode cX11_needed 40 = .ok (.aload_n 0, 1) := by decide +kernel
theorem dX11_needed_41 : decode cX11_needed 41 = .ok (.getfield 139, 3) := by decide +kernel
theorem dX11_needed_44 : decode cX11_needed 44 = .ok (.iload_n 1, 1) := by decide +kernel
theorem dX11_needed_45 : decode cX11_needed 45 = .ok (.iaload, 1) := by decide +kernel
theorem dX11_needed_46 : decode cX11_needed 46 = .ok (.baload, 1) := by decide +kernel
theorem dX11_needed_47 : decode cX11_needed 47 = .ok (.ifCond .eq 7, 3) := by decide +kernel
theorem dX11_needed_50 : decode cX11_needed 50 = .ok (.iconst 1, 1) := by decide +kernel
theorem dX11_needed_51 : decode cX11_needed 51 = .ok (.goto 4, 3) := by decide +kernel
theorem dX11_needed_54 : decode cX11_needed 54 = .ok (.iconst 0, 1) := by decide +kernel
theorem dX11_needed_55 : decode cX11_needed 55 = .ok (.ireturn, 1) := by decide +kernel
noncomputable def fX11_needed_26 (x1 : Int32) (s0 : Int32) (M : mv_M) : Option (Int32 × mv_M) :=
  mv_let (mv_si M 62 0 s0) fun M3 =>
  if (M3.1 62 0) = 0 then
    mv_chk (mv_inb x1 4) <|
    mv_chk (mv_inb (M3.1 104 x1.toNatClampNeg) 1540) <|
    if (M3.1 100 (M3.1 104 x1.toNatClampNeg).toNatClampNeg) = 0 then
      some (0, M3)
    else
      some (1, M3)
  else
    some (0, M3)
set_option maxRecDepth 100000 in
set_option maxHeartbeats 4000000 in
theorem zX11_needed_26 {l : Launch} {d : Nat} {Q : Int32 → mv_M → Prop} (hd : 3 ≤ d) (x1 : Int32) (s0 : Int32) (M : mv_M) (h : mv_ok (fX11_needed_26 x1 s0 M) Q) : mv l mX11_needed d 0 26 [(0, .ref 62), (1, .int x1)] [.int s0, .ref 62] M (mv_qI Q) := by
  unfold fX11_needed_26 at h
  refine mv_putI fX11_148 (by decide) rfl rfl dX11_needed_26 (fun M3 eM3 => ?_)
  replace h := mv_letE h M3 eM3
  refine mv_aload_n 0 dX11_needed_29 rfl ?_
  refine mv_getI fX11_148 (by decide) rfl rfl dX11_needed_30 ?_
  refine mv_if_ne 54 dX11_needed_33 (by decide) (fun z => ?_) (fun z => ?_)
  · replace h := mv_ifF z h
    refine mv_iconst 0 dX11_needed_54 (by decide) ?_
    exact mv_zret (by decide) rfl dX11_needed_55 ⟨_, rfl, h⟩
  · replace h := mv_ifT z h
    refine mv_aload_n 0 dX11_needed_36 rfl ?_
    refine mv_getR 100 fX11_127 (by decide) rfl rfl rfl dX11_needed_37 ?_
    refine mv_aload_n 0 dX11_needed_40 rfl ?_
    refine mv_getR 104 fX11_139 (by decide) rfl rfl rfl dX11_needed_41 ?_
    refine mv_iload_n 1 dX11_needed_44 rfl ?_
    obtain ⟨hi4, h⟩ := mv_chkE h
    refine mv_ild (by decide) rfl (mv_inE hi4) dX11_needed_45 ?_
    obtain ⟨hi5, h⟩ := mv_chkE h
    refine mv_zld (by decide) rfl (mv_inE hi5) dX11_needed_46 ?_
    refine mv_if_eq 54 dX11_needed_47 (by decide) (fun z => ?_) (fun z => ?_)
    · replace h := mv_ifT z h
      refine mv_iconst 0 dX11_needed_54 (by decide) ?_
      exact mv_zret (by decide) rfl dX11_needed_55 ⟨_, rfl, h⟩
    · replace h := mv_ifF z h
      refine mv_iconst 1 dX11_needed_50 (by decide) ?_
      refine mv_goto 55 dX11_needed_51 (by decide) ?_
      exact mv_zret (by decide) rfl dX11_needed_55 ⟨_, rfl, h⟩
noncomputable def fX11_needed_25 (x1 : Int32) (M : mv_M) : Option (Int32 × mv_M) :=
  fX11_needed_26 x1 1 M
set_option maxRecDepth 100000 in
set_option maxHeartbeats 4000000 in
theorem zX11_needed_25 {l : Launch} {d : Nat} {Q : Int32 → mv_M → Prop} (hd : 3 ≤ d) (x1 : Int32) (M : mv_M) (h : mv_ok (fX11_needed_25 x1 M) Q) : mv l mX11_needed d 0 25 [(0, .ref 62), (1, .int x1)] [.ref 62] M (mv_qI Q) := by
  unfold fX11_needed_25 at h
  refine mv_iconst 1 dX11_needed_25 (by decide) ?_
  refine mv_sub [0, 1] rfl ?_
  exact zX11_needed_26 hd x1 1 M h
noncomputable def fX11_needed (a0 : Int32) (M : mv_M) : Option (Int32 × mv_M) :=
  if (M.1 62 75) = (-1) then
    fX11_needed_25 a0 M
  else
    mv_bind (fX11_isParamOf (M.1 62 75) a0 M) fun r1 M2 =>
    if r1 = 0 then
      fX11_needed_25 a0 M2
    else
      fX11_needed_26 a0 0 M2
set_option maxRecDepth 100000 in
set_option maxHeartbeats 4000000 in
theorem zX11_needed {l : Launch} {d : Nat} {Q : Int32 → mv_M → Prop} (hd : 3 ≤ d) (a0 : Int32) (M : mv_M) (h : mv_ok (fX11_needed a0 M) Q) : mv l mX11_needed d 0 0 (lv_args 0 [.ref 62, .int a0]) [] M (mv_qI Q) := by
  unfold fX11_needed at h
  show mv l mX11_needed d 0 0 [(0, .ref 62), (1, .int a0)] [] M (mv_qI Q)
  refine mv_aload_n 0 dX11_needed_0 rfl ?_
  refine mv_aload_n 0 dX11_needed_1 rfl ?_
  refine mv_getI fX11_142 (by decide) rfl rfl dX11_needed_2 ?_
  refine mv_iconst (-1) dX11_needed_5 (by decide) ?_
  refine mv_icmp_eq 25 dX11_needed_6 (by decide) (fun z => ?_) (fun z => ?_)
  · replace h := mv_ifT z h
    refine mv_sub [0, 1] rfl ?_
    exact zX11_needed_25 hd a0 M h
  · replace h := mv_ifF z h
    refine mv_aload_n 0 dX11_needed_9 rfl ?_
    refine mv_aload_n 0 dX11_needed_10 rfl ?_
    refine mv_getI fX11_142 (by decide) rfl rfl dX11_needed_11 ?_
    refine mv_iload_n 1 dX11_needed_14 rfl ?_
    refine mv_cvI (As := [.int (M.1 62 75), .int a0]) (st := [.ref 62]) okX11_isParamOf lX11_390 (by decide) rfl rfl rfl (Nat.le_of_ble_eq_true rfl) rfl (Nat.le_of_ble_eq_true rfl) dX11_needed_15 (by omega) rfl (zX11_isParamOf (d := d - 1) (by omega) (M.1 62 75) a0 M (mv_bindE h)) (fun r1 M2 h => ?_)
    refine mv_if_eq 25 dX11_needed_18 (by decide) (fun z => ?_) (fun z => ?_)
    · replace h := mv_ifT z h
      refine mv_sub [0, 1] rfl ?_
      exact zX11_needed_25 hd a0 M2 h
    · replace h := mv_ifF z h
      refine mv_iconst 0 dX11_needed_21 (by decide) ?_
      refine mv_goto 26 dX11_needed_22 (by decide) ?_
      refine mv_sub [0, 1] rfl ?_
      exact zX11_needed_26 hd a0 0 M2 h
