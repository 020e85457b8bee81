theorem dX11_judge_0 : decode cX11_judge 0 = .ok (.aload_n 0, 1) := by decide +kernel
theorem dX11_judge_1 : decode cX11_judge 1 = .ok (.iconst 0, 1) := by decide +kernel
theorem dX11_judge_2 : decode cX11_judge 2 = .ok (.putfield 319, 3) := by decide +kernel
theorem dX11_judge_5 : decode cX11_judge 5 = .ok (.iconst 0, 1) := by decide +kernel
theorem dX11_judge_6 : decode cX11_judge 6 = .ok (.istore_n 1, 1) := by decide +kernel
theorem dX11_judge_7 : decode cX11_judge 7 = .ok (.iload_n 1, 1) := by decide +kernel
theorem dX11_judge_8 : decode cX11_judge 8 = .ok (.aload_n 0, 1) := by decide +kernel
theorem dX11_judge_9 : decode cX11_judge 9 = .ok (.getfield 24, 3) := by decide +kernel
theorem dX11_judge_12 : decode cX11_judge 12 = .ok (.aload_n 0, 1) := by decide +kernel
theorem dX11_judge_13 : decode cX11_judge 13 = .ok (.getfield 239, 3) := by decide +kernel
theorem dX11_judge_16 : decode cX11_judge 16 = .ok (.iaload, 1) := by decide +kernel
theorem dX11_judge_17 : decode cX11_judge 17 = .ok (.if_icmp .ge 26, 3) := by decide +kernel
theorem dX11_judge_20 : decode cX11_judge 20 = .ok (.aload_n 0, 1) := by decide +kernel
theorem dX11_judge_21 : decode cX11_judge 21 = .ok (.getfield 84, 3) := by decide +kernel
theorem dX11_judge_24 : decode cX11_judge 24 = .ok (.iload_n 1, 1) := by decide +kernel
theorem dX11_judge_25 : decode cX11_judge 25 = .ok (.iload_n 1, 1) := by decide +kernel
theorem dX11_judge_26 : decode cX11_judge 26 = .ok (.iastore, 1) := by decide +kernel
theorem dX11_judge_27 : decode cX11_judge 27 = .ok (.aload_n 0, 1) := by decide +kernel
theorem dX11_judge_28 : decode cX11_judge 28 = .ok (.dup, 1) := by decide +kernel
theorem dX11_judge_29 : decode cX11_judge 29 = .ok (.getfield 319, 3) := by decide +kernel
theorem dX11_judge_32 : decode cX11_judge 32 = .ok (.iconst 1, 1) := by decide +kernel
theorem dX11_judge_33 : decode cX11_judge 33 = .ok (.iadd, 1) := by decide +kernel
theorem dX11_judge_34 : decode cX11_judge 34 = .ok (.putfield 319, 3) := by decide +kernel
theorem dX11_judge_37 : decode cX11_judge 37 = .ok (.iinc 1 1, 3) := by decide +kernel
theorem dX11_judge_40 : decode cX11_judge 40 = .ok (.goto (-33), 3) := by decide +kernel
theorem dX11_judge_43 : decode cX11_judge 43 = .ok (.aload_n 0, 1) := by decide +kernel
theorem dX11_judge_44 : decode cX11_judge 44 = .ok (.iconst 0, 1) := by decide +kernel
theorem dX11_judge_45 : decode cX11_judge 45 = .ok (.putfield 242, 3) := by decide +kernel
theorem dX11_judge_48 : decode cX11_judge 48 = .ok (.aload_n 0, 1) := by decide +kernel
theorem dX11_judge_49 : decode cX11_judge 49 = .ok (.iconst 1, 1) := by decide +kernel
theorem dX11_judge_50 : decode cX11_judge 50 = .ok (.aload_n 0, 1) := by decide +kernel
theorem dX11_judge_51 : decode cX11_judge 51 = .ok (.getfield 30, 3) := by decide +kernel
theorem dX11_judge_54 : decode cX11_judge 54 = .ok (.aload_n 0, 1) := by decide +kernel
theorem dX11_judge_55 : decode cX11_judge 55 = .ok (.getfield 239, 3) := by decide +kernel
theorem dX11_judge_58 : decode cX11_judge 58 = .ok (.iaload, 1) := by decide +kernel
theorem dX11_judge_59 : decode cX11_judge 59 = .ok (.aload_n 0, 1) := by decide +kernel
theorem dX11_judge_60 : decode cX11_judge 60 = .ok (.getfield 21, 3) := by decide +kernel
theorem dX11_judge_63 : decode cX11_judge 63 = .ok (.aload_n 0, 1) := by decide +kernel
theorem dX11_judge_64 : decode cX11_judge 64 = .ok (.getfield 239, 3) := by decide +kernel
theorem dX11_judge_67 : decode cX11_judge 67 = .ok (.iaload, 1) := by decide +kernel
theorem dX11_judge_68 : decode cX11_judge 68 = .ok (.invokevirtual 322, 3) := by decide +kernel
theorem dX11_judge_71 : decode cX11_judge 71 = .ok (.aload_n 0, 1) := by decide +kernel
theorem dX11_judge_72 : decode cX11_judge 72 = .ok (.getfield 242, 3) := by decide +kernel
theorem dX11_judge_75 : decode cX11_judge 75 = .ok (.ifCond .le 199, 3) := by decide +kernel
theorem dX11_judge_78 : decode cX11_judge 78 = .ok (.aload_n 0, 1) := by decide +kernel
theorem dX11_judge_79 : decode cX11_judge 79 = .ok (.getfield 176, 3) := by decide +kernel
theorem dX11_judge_82 : decode cX11_judge 82 = .ok (.ifCond .ne 192, 3) := by decide +kernel
theorem dX11_judge_85 : decode cX11_judge 85 = .ok (.aload_n 0, 1) := by decide +kernel
theorem dX11_judge_86 : decode cX11_judge 86 = .ok (.dup, 1) := by decide +kernel
theorem dX11_judge_87 : decode cX11_judge 87 = .ok (.getfield 242, 3) := by decide +kernel
theorem dX11_judge_90 : decode cX11_judge 90 = .ok (.iconst 1, 1) := by decide +kernel
theorem dX11_judge_91 : decode cX11_judge 91 = .ok (.isub, 1) := by decide +kernel
theorem dX11_judge_92 : decode cX11_judge 92 = .ok (.putfield 242, 3) := by decide +kernel
theorem dX11_judge_95 : decode cX11_judge 95 = .ok (.aload_n 0, 1) := by decide +kernel
theorem dX11_judge_96 : decode cX11_judge 96 = .ok (.getfield 72, 3) := by decide +kernel
theorem dX11_judge_99 : decode cX11_judge 99 = .ok (.aload_n 0, 1) := by decide +kernel
theorem dX11_judge_100 : decode cX11_judge 100 = .ok (.getfield 242, 3) := by decide +kernel
theorem dX11_judge_103 : decode cX11_judge 103 = .ok (.iaload, 1) := by decide +kernel
theorem dX11_judge_104 : decode cX11_judge 104 = .ok (.istore_n 1, 1) := by decide +kernel
theorem dX11_judge_105 : decode cX11_judge 105 = .ok (.aload_n 0, 1) := by decide +kernel
theorem dX11_judge_106 : decode cX11_judge 106 = .ok (.getfield 81, 3) := by decide +kernel
theorem dX11_judge_109 : decode cX11_judge 109 = .ok (.aload_n 0, 1) := by decide +kernel
theorem dX11_judge_110 : decode cX11_judge 110 = .ok (.getfield 242, 3) := by decide +kernel
theorem dX11_judge_113 : decode cX11_judge 113 = .ok (.iaload, 1) := by decide +kernel
theorem dX11_judge_114 : decode cX11_judge 114 = .ok (.istore_n 2, 1) := by decide +kernel
theorem dX11_judge_115 : decode cX11_judge 115 = .ok (.aload_n 0, 1) := by decide +kernel
theorem dX11_judge_116 : decode cX11_judge 116 = .ok (.getfield 69, 3) := by decide +kernel
theorem dX11_judge_119 : decode cX11_judge 119 = .ok (.aload_n 0, 1) := by decide +kernel
theorem dX11_judge_120 : decode cX11_judge 120 = .ok (.getfield 242, 3) := by decide +kernel
theorem dX11_judge_123 : decode cX11_judge 123 = .ok (.iaload, 1) := by decide +kernel
theorem dX11_judge_124 : decode cX11_judge 124 = .ok (.iconst 1, 1) := by decide +kernel
theorem dX11_judge_125 : decode cX11_judge 125 = .ok (.if_icmp .ne 12, 3) := by decide +kernel
theorem dX11_judge_128 : decode cX11_judge 128 = .ok (.aload_n 0, 1) := by decide +kernel
theorem dX11_judge_129 : decode cX11_judge 129 = .ok (.iload_n 1, 1) := by decide +kernel
theorem dX11_judge_130 : decode cX11_judge 130 = .ok (.iload_n 2, 1) := by decide +kernel
theorem dX11_judge_131 : decode cX11_judge 131 = .ok (.invokevirtual 326, 3) := by decide +kernel
theorem dX11_judge_134 : decode cX11_judge 134 = .ok (.goto 137, 3) := by decide +kernel
theorem dX11_judge_137 : decode cX11_judge 137 = .ok (.aload_n 0, 1) := by decide +kernel
theorem dX11_judge_138 : decode cX11_judge 138 = .ok (.getfield 69, 3) := by decide +kernel
theorem dX11_judge_141 : decode cX11_judge 141 = .ok (.aload_n 0, 1) := by decide +kernel
theorem dX11_judge_142 : decode cX11_judge 142 = .ok (.getfield 242, 3) := by decide +kernel
theorem dX11_judge_145 : decode cX11_judge 145 = .ok (.iaload, 1) := by decide +kernel
theorem dX11_judge_146 : decode cX11_judge 146 = .ok (.iconst 2, 1) := by decide +kernel
theorem dX11_judge_147 : decode cX11_judge 147 = .ok (.if_icmp .ne 36, 3) := by decide +kernel
theorem dX11_judge_150 : decode cX11_judge 150 = .ok (.aload_n 0, 1) := by decide +kernel
theorem dX11_judge_151 : decode cX11_judge 151 = .ok (.iconst 1, 1) := by decide +kernel
theorem dX11_judge_152 : decode cX11_judge 152 = .ok (.aload_n 0, 1) := by decide +kernel
theorem dX11_judge_153 : decode cX11_judge 153 = .ok (.getfield 48, 3) := by decide +kernel
theorem dX11_judge_156 : decode cX11_judge 156 = .ok (.iload_n 1, 1) := by decide +kernel
theorem dX11_judge_157 : decode cX11_judge 157 = .ok (.iaload, 1) := by decide +kernel
theorem dX11_judge_158 : decode cX11_judge 158 = .ok (.iload_n 2, 1) := by decide +kernel
theorem dX11_judge_159 : decode cX11_judge 159 = .ok (.ifCond .ge 17, 3) := by decide +kernel
theorem dX11_judge_162 : decode cX11_judge 162 = .ok (.aload_n 0, 1) := by decide +kernel
theorem dX11_judge_163 : decode cX11_judge 163 = .ok (.getfield 54, 3) := by decide +kernel
theorem dX11_judge_166 : decode cX11_judge 166 = .ok (.aload_n 0, 1) := by decide +kernel
theorem dX11_judge_167 : decode cX11_judge 167 = .ok (.getfield 45, 3) := by decide +kernel
theorem dX11_judge_170 : decode cX11_judge 170 = .ok (.iload_n 1, 1) := by decide +kernel
theorem dX11_judge_171 : decode cX11_judge 171 = .ok (.iaload, 1) := by decide +kernel
theorem dX11_judge_172 : decode cX11_judge 172 = .ok (.iaload, 1) := by decide +kernel
theorem dX11_judge_173 : decode cX11_judge 173 = .ok (.goto 4, 3) := by decide +kernel
theorem dX11_judge_176 : decode cX11_judge 176 = .ok (.iload_n 2, 1) := by decide +kernel
theorem dX11_judge_177 : decode cX11_judge 177 = .ok (.invokevirtual 322, 3) := by decide +kernel
theorem dX11_judge_180 : decode cX11_judge 180 = .ok (.goto 91, 3) := by decide +kernel
theorem dX11_judge_183 : decode cX11_judge 183 = .ok (.aload_n 0, 1) := by decide +kernel
theorem dX11_judge_184 : decode cX11_judge 184 = .ok (.getfield 69, 3) := by decide +kernel
theorem dX11_judge_187 : decode cX11_judge 187 = .ok (.aload_n 0, 1) := by decide +kernel
theorem dX11_judge_188 : decode cX11_judge 188 = .ok (.getfield 242, 3) := by decide +kernel
theorem dX11_judge_191 : decode cX11_judge 191 = .ok (.iaload, 1) := by decide +kernel
theorem dX11_judge_192 : decode cX11_judge 192 = .ok (.iconst 3, 1) := by decide +kernel
theorem dX11_judge_193 : decode cX11_judge 193 = .ok (.if_icmp .ne 72, 3) := by decide +kernel
theorem dX11_judge_196 : decode cX11_judge 196 = .ok (.aload_n 0, 1) := by decide +kernel
theorem dX11_judge_197 : decode cX11_judge 197 = .ok (.getfield 54, 3) := by decide +kernel
theorem dX11_judge_200 : decode cX11_judge 200 = .ok (.aload_n 0, 1) := by decide +kernel
theorem dX11_judge_201 : decode cX11_judge 201 = .ok (.getfield 42, 3) := by decide +kernel
theorem dX11_judge_204 : decode cX11_judge 204 = .ok (.iload_n 1, 1) := by decide +kernel
theorem dX11_judge_205 : decode cX11_judge 205 = .ok (.iaload, 1) := by decide +kernel
theorem dX11_judge_206 : decode cX11_judge 206 = .ok (.iaload, 1) := by decide +kernel
theorem dX11_judge_207 : decode cX11_judge 207 = .ok (.istore_n 3, 1) := by decide +kernel
theorem dX11_judge_208 : decode cX11_judge 208 = .ok (.aload_n 0, 1) := by decide +kernel
theorem dX11_judge_209 : decode cX11_judge 209 = .ok (.aload_n 0, 1) := by decide +kernel
theorem dX11_judge_210 : decode cX11_judge 210 = .ok (.getfield 48, 3) := by decide +kernel
theorem dX11_judge_213 : decode cX11_judge 213 = .ok (.iload_n 1, 1) := by decide +kernel
theorem dX11_judge_214 : decode cX11_judge 214 = .ok (.iaload, 1) := by decide +kernel
theorem dX11_judge_215 : decode cX11_judge 215 = .ok (.aload_n 0, 1) := by decide +kernel
theorem dX11_judge_216 : decode cX11_judge 216 = .ok (.getfield 39, 3) := by decide +kernel
theorem dX11_judge_219 : decode cX11_judge 219 = .ok (.iload_n 1, 1) := by decide +kernel
theorem dX11_judge_220 : decode cX11_judge 220 = .ok (.iaload, 1) := by decide +kernel
theorem dX11_judge_221 : decode cX11_judge 221 = .ok (.iconst 3, 1) := by decide +kernel
theorem dX11_judge_222 : decode cX11_judge 222 = .ok (.if_icmp .ne 7, 3) := by decide +kernel
theorem dX11_judge_225 : decode cX11_judge 225 = .ok (.iload_n 3, 1) := by decide +kernel
theorem dX11_judge_226 : decode cX11_judge 226 = .ok (.goto 7, 3) := by decide +kernel
theorem dX11_judge_229 : decode cX11_judge 229 = .ok (.iload_n 3, 1) := by decide +kernel
theorem dX11_judge_230 : decode cX11_judge 230 = .ok (.invokestatic 169, 3) := by decide +kernel
theorem dX11_judge_233 : decode cX11_judge 233 = .ok (.invokevirtual 329, 3) := by decide +kernel
theorem dX11_judge_236 : decode cX11_judge 236 = .ok (.aload_n 0, 1) := by decide +kernel
theorem dX11_judge_237 : decode cX11_judge 237 = .ok (.getfield 39, 3) := by decide +kernel
theorem dX11_judge_240 : decode cX11_judge 240 = .ok (.iload_n 1, 1) := by decide +kernel
theorem dX11_judge_241 : decode cX11_judge 241 = .ok (.iaload, 1) := by decide +kernel
theorem dX11_judge_242 : decode cX11_judge 242 = .ok (.iconst 4, 1) := by decide +kernel
theorem dX11_judge_243 : decode cX11_judge 243 = .ok (.if_icmp .ne 19, 3) := by decide +kernel
theorem dX11_judge_246 : decode cX11_judge 246 = .ok (.aload_n 0, 1) := by decide +kernel
theorem dX11_judge_247 : decode cX11_judge 247 = .ok (.aload_n 0, 1) := by decide +kernel
theorem dX11_judge_248 : decode cX11_judge 248 = .ok (.getfield 48, 3) := by decide +kernel
theorem dX11_judge_251 : decode cX11_judge 251 = .ok (.iload_n 1, 1) := by decide +kernel
theorem dX11_judge_252 : decode cX11_judge 252 = .ok (.iaload, 1) := by decide +kernel
theorem dX11_judge_253 : decode cX11_judge 253 = .ok (.iconst 1, 1) := by decide +kernel
theorem dX11_judge_254 : decode cX11_judge 254 = .ok (.iadd, 1) := by decide +kernel
theorem dX11_judge_255 : decode cX11_judge 255 = .ok (.iload_n 3, 1) := by decide +kernel
theorem dX11_judge_256 : decode cX11_judge 256 = .ok (.invokestatic 162, 3) := by decide +kernel
theorem dX11_judge_259 : decode cX11_judge 259 = .ok (.invokevirtual 329, 3) := by decide +kernel
theorem dX11_judge_262 : decode cX11_judge 262 = .ok (.goto 9, 3) := by decide +kernel
theorem dX11_judge_265 : decode cX11_judge 265 = .ok (.aload_n 0, 1) := by decide +kernel
theorem dX11_judge_266 : decode cX11_judge 266 = .ok (.iload_n 1, 1) := by decide +kernel
theorem dX11_judge_267 : decode cX11_judge 267 = .ok (.iload_n 2, 1) := by decide +kernel
theorem dX11_judge_268 : decode cX11_judge 268 = .ok (.invokevirtual 332, 3) := by decide +kernel
theorem dX11_judge_271 : decode cX11_judge 271 = .ok (.goto (-200), 3) := by decide +kernel
theorem dX11_judge_274 : decode cX11_judge 274 = .ok (.return_, 1) := by decide +kernel
noncomputable def fX11_judge_271 (M : mv_M) : Option (((Unit) ⊕ Unit) × mv_M) :=
  some (.inl (), M)
set_option maxRecDepth 100000 in
set_option maxHeartbeats 4000000 in
theorem zX11_judge_271 {l : Launch} {d : Nat} {Q : Unit → mv_M → Prop} (hd : 4 ≤ d) (M : mv_M) (h : mv_ok (fX11_judge_271 M) (mv_pq (fun (s : Unit) M => mv l mX11_judge d 0 71 [(0, .ref 62)] [] M (mv_qV Q)) Q)) : mv l mX11_judge d 0 271 [(0, .ref 62)] [] M (mv_qV Q) := by
  unfold fX11_judge_271 at h
  refine mv_goto 71 dX11_judge_271 (by decide) ?_
  refine mv_sub [0] rfl ?_
  exact h
noncomputable def fX11_judge_177 (s0 : Int32) (s1 : Int32) (s2 : Int32) (M : mv_M) : Option (((Unit) ⊕ Unit) × mv_M) :=
  mv_bind (fX11_task s2 s1 s0 M) fun _ M37 =>
  fX11_judge_271 M37
set_option maxRecDepth 100000 in
set_option maxHeartbeats 4000000 in
theorem zX11_judge_177 {l : Launch} {d : Nat} {Q : Unit → mv_M → Prop} (hd : 4 ≤ d) (s0 : Int32) (s1 : Int32) (s2 : Int32) (M : mv_M) (h : mv_ok (fX11_judge_177 s0 s1 s2 M) (mv_pq (fun (s : Unit) M => mv l mX11_judge d 0 71 [(0, .ref 62)] [] M (mv_qV Q)) Q)) : mv l mX11_judge d 0 177 [(0, .ref 62)] [.int s0, .int s1, .int s2, .ref 62] M (mv_qV Q) := by
  unfold fX11_judge_177 at h
  refine mv_cvV (As := [.int s2, .int s1, .int s0]) (st := []) okX11_task lX11_322 (by decide) rfl rfl rfl (Nat.le_of_ble_eq_true rfl) rfl (Nat.le_of_ble_eq_true rfl) dX11_judge_177 (by omega) rfl (zX11_task (d := d - 1) (by omega) s2 s1 s0 M (mv_bindE h)) (fun _ M37 h => ?_)
  refine mv_goto 271 dX11_judge_180 (by decide) ?_
  refine mv_sub [0] rfl ?_
  exact zX11_judge_271 hd M37 h
noncomputable def fX11_judge_262 (M : mv_M) : Option (((Unit) ⊕ Unit) × mv_M) :=
  fX11_judge_271 M
set_option maxRecDepth 100000 in
set_option maxHeartbeats 4000000 in
theorem zX11_judge_262 {l : Launch} {d : Nat} {Q : Unit → mv_M → Prop} (hd : 4 ≤ d) (M : mv_M) (h : mv_ok (fX11_judge_262 M) (mv_pq (fun (s : Unit) M => mv l mX11_judge d 0 71 [(0, .ref 62)] [] M (mv_qV Q)) Q)) : mv l mX11_judge d 0 262 [(0, .ref 62)] [] M (mv_qV Q) := by
  unfold fX11_judge_262 at h
  refine mv_goto 271 dX11_judge_262 (by decide) ?_
  refine mv_sub [0] rfl ?_
  exact zX11_judge_271 hd M h
noncomputable def fX11_judge_233 (x1 : Int32) (x3 : Int32) (s0 : Int32) (s1 : Int32) (M : mv_M) : Option (((Unit) ⊕ Unit) × mv_M) :=
  mv_bind (fX11_tells s1 s0 M) fun _ M31 =>
  mv_chk (mv_inb x1 2002) <|
  if (M31.1 71 x1.toNatClampNeg) = 4 then
    mv_chk (mv_inb x1 2002) <|
    mv_bind (fX11_secondOf x3 M31) fun r34 M35 =>
    mv_bind (fX11_tells ((M31.1 74 x1.toNatClampNeg) + 1) r34 M35) fun _ M36 =>
    fX11_judge_262 M36
  else
    fX11_judge_262 M31
set_option maxRecDepth 100000 in
set_option maxHeartbeats 4000000 in
theorem zX11_judge_233 {l : Launch} {d : Nat} {Q : Unit → mv_M → Prop} (hd : 4 ≤ d) (x1 : Int32) (x3 : Int32) (s0 : Int32) (s1 : Int32) (M : mv_M) (h : mv_ok (fX11_judge_233 x1 x3 s0 s1 M) (mv_pq (fun (s : Unit) M => mv l mX11_judge d 0 71 [(0, .ref 62)] [] M (mv_qV Q)) Q)) : mv l mX11_judge d 0 233 [(0, .ref 62), (1, .int x1), (3, .int x3)] [.int s0, .int s1, .ref 62] M (mv_qV Q) := by
  unfold fX11_judge_233 at h
  refine mv_cvV (As := [.int s1, .int s0]) (st := []) okX11_tells lX11_329 (by decide) rfl rfl rfl (Nat.le_of_ble_eq_true rfl) rfl (Nat.le_of_ble_eq_true rfl) dX11_judge_233 (by omega) rfl (zX11_tells (d := d - 1) (by omega) s1 s0 M (mv_bindE h)) (fun _ M31 h => ?_)
  refine mv_aload_n 0 dX11_judge_236 rfl ?_
  refine mv_getR 71 fX11_39 (by decide) rfl rfl rfl dX11_judge_237 ?_
  refine mv_iload_n 1 dX11_judge_240 rfl ?_
  obtain ⟨hi32, h⟩ := mv_chkE h
  refine mv_ild (by decide) rfl (mv_inE hi32) dX11_judge_241 ?_
  refine mv_iconst 4 dX11_judge_242 (by decide) ?_
  refine mv_icmp_ne 262 dX11_judge_243 (by decide) (fun z => ?_) (fun z => ?_)
  · replace h := mv_ifF z h
    refine mv_sub [0] rfl ?_
    exact zX11_judge_262 hd M31 h
  · replace h := mv_ifT z h
    refine mv_aload_n 0 dX11_judge_246 rfl ?_
    refine mv_aload_n 0 dX11_judge_247 rfl ?_
    refine mv_getR 74 fX11_48 (by decide) rfl rfl rfl dX11_judge_248 ?_
    refine mv_iload_n 1 dX11_judge_251 rfl ?_
    obtain ⟨hi33, h⟩ := mv_chkE h
    refine mv_ild (by decide) rfl (mv_inE hi33) dX11_judge_252 ?_
    refine mv_iconst 1 dX11_judge_253 (by decide) ?_
    refine mv_iadd dX11_judge_254 ?_
    refine mv_iload_n 2 dX11_judge_255 rfl ?_
    refine mv_csI (As := [.int x3]) (st := [.int ((M31.1 74 x1.toNatClampNeg) + 1), .ref 62]) okX11_secondOf lX11_162 rfl (Nat.le_of_ble_eq_true rfl) rfl (Nat.le_of_ble_eq_true rfl) dX11_judge_256 (by omega) rfl (zX11_secondOf (d := d - 1) (by omega) x3 M31 (mv_bindE h)) (fun r34 M35 h => ?_)
    refine mv_cvV (As := [.int ((M31.1 74 x1.toNatClampNeg) + 1), .int r34]) (st := []) okX11_tells lX11_329 (by decide) rfl rfl rfl (Nat.le_of_ble_eq_true rfl) rfl (Nat.le_of_ble_eq_true rfl) dX11_judge_259 (by omega) rfl (zX11_tells (d := d - 1) (by omega) ((M31.1 74 x1.toNatClampNeg) + 1) r34 M35 (mv_bindE h)) (fun _ M36 h => ?_)
    refine mv_sub [0] rfl ?_
    exact zX11_judge_262 hd M36 h
noncomputable def gX11_judge_71 (M : mv_M) : Option (((Unit) ⊕ Unit) × mv_M) :=
  if (M.1 62 36) ≤ 0 then
    some (.inr (()), M)
  else
    if (M.1 62 9) = 0 then
      mv_let (mv_si M 62 36 ((M.1 62 36) - 1)) fun M11 =>
      mv_chk (mv_inb (M11.1 62 36) 3000) <|
      mv_let (M11.1 82 (M11.1 62 36).toNatClampNeg) fun v13 =>
      mv_chk (mv_inb (M11.1 62 36) 3000) <|
      mv_let (M11.1 85 (M11.1 62 36).toNatClampNeg) fun v15 =>
      mv_chk (mv_inb (M11.1 62 36) 3000) <|
      if (M11.1 81 (M11.1 62 36).toNatClampNeg) = 1 then
        mv_bind (fX11_onJudge v13 v15 M11) fun _ M30 =>
        fX11_judge_271 M30
      else
        mv_chk (mv_inb (M11.1 62 36) 3000) <|
        if (M11.1 81 (M11.1 62 36).toNatClampNeg) = 2 then
          mv_chk (mv_inb v13 2002) <|
          if 0 ≤ v15 then
            fX11_judge_177 v15 (M11.1 74 v13.toNatClampNeg) 1 M11
          else
            mv_chk (mv_inb v13 2002) <|
            mv_chk (mv_inb (M11.1 73 v13.toNatClampNeg) 2002) <|
            fX11_judge_177 (M11.1 76 (M11.1 73 v13.toNatClampNeg).toNatClampNeg) (M11.1 74 v13.toNatClampNeg) 1 M11
        else
          mv_chk (mv_inb (M11.1 62 36) 3000) <|
          if (M11.1 81 (M11.1 62 36).toNatClampNeg) = 3 then
            mv_chk (mv_inb v13 2002) <|
            mv_chk (mv_inb (M11.1 72 v13.toNatClampNeg) 2002) <|
            mv_let (M11.1 76 (M11.1 72 v13.toNatClampNeg).toNatClampNeg) fun v22 =>
            mv_chk (mv_inb v13 2002) <|
            mv_chk (mv_inb v13 2002) <|
            if (M11.1 71 v13.toNatClampNeg) = 3 then
              fX11_judge_233 v13 v22 v22 (M11.1 74 v13.toNatClampNeg) M11
            else
              mv_bind (fX11_firstOf v22 M11) fun r25 M26 =>
              fX11_judge_233 v13 v22 r25 (M11.1 74 v13.toNatClampNeg) M26
          else
            mv_bind (fX11_onShut v13 v15 M11) fun _ M19 =>
            fX11_judge_271 M19
    else
      some (.inr (()), M)
noncomputable def fX11_judge_71 (M : mv_M) : Option (Unit × mv_M) := mv_loop (fun (s : Unit) M => gX11_judge_71  M) () M
set_option maxRecDepth 100000 in
set_option maxHeartbeats 4000000 in
theorem zX11_judge_71 {l : Launch} {d : Nat} {Q : Unit → mv_M → Prop} (hd : 4 ≤ d) (M : mv_M) (h : mv_ok (fX11_judge_71 M) Q) : mv l mX11_judge d 0 71 [(0, .ref 62)] [] M (mv_qV Q) := by
  unfold fX11_judge_71 at h
  refine mv_loopE (A := (fun (s : Unit) M => mv l mX11_judge d 0 71 [(0, .ref 62)] [] M (mv_qV Q))) ?_ () M h
  · intro s M h
    try dsimp only at h
    show mv l mX11_judge d 0 71 [(0, .ref 62)] [] M (mv_qV Q)
    unfold gX11_judge_71 at h
    refine mv_aload_n 0 dX11_judge_71 rfl ?_
    refine mv_getI fX11_242 (by decide) rfl rfl dX11_judge_72 ?_
    refine mv_if_le 274 dX11_judge_75 (by decide) (fun z => ?_) (fun z => ?_)
    · replace h := mv_ifT z h
      exact mv_vret rfl dX11_judge_274 ⟨rfl, h⟩
    · replace h := mv_ifF z h
      refine mv_aload_n 0 dX11_judge_78 rfl ?_
      refine mv_getI fX11_176 (by decide) rfl rfl dX11_judge_79 ?_
      refine mv_if_ne 274 dX11_judge_82 (by decide) (fun z => ?_) (fun z => ?_)
      · replace h := mv_ifF z h
        exact mv_vret rfl dX11_judge_274 ⟨rfl, h⟩
      · replace h := mv_ifT z h
        refine mv_aload_n 0 dX11_judge_85 rfl ?_
        refine mv_dup dX11_judge_86 rfl ?_
        refine mv_getI fX11_242 (by decide) rfl rfl dX11_judge_87 ?_
        refine mv_iconst 1 dX11_judge_90 (by decide) ?_
        refine mv_isub dX11_judge_91 ?_
        refine mv_putI fX11_242 (by decide) rfl rfl dX11_judge_92 (fun M11 eM11 => ?_)
        replace h := mv_letE h M11 eM11
        refine mv_aload_n 0 dX11_judge_95 rfl ?_
        refine mv_getR 82 fX11_72 (by decide) rfl rfl rfl dX11_judge_96 ?_
        refine mv_aload_n 0 dX11_judge_99 rfl ?_
        refine mv_getI fX11_242 (by decide) rfl rfl dX11_judge_100 ?_
        obtain ⟨hi12, h⟩ := mv_chkE h
        refine mv_ild (by decide) rfl (mv_inE hi12) dX11_judge_103 ?_
        refine mv_topi (fun v13 ev13 => ?_)
        replace h := mv_letE h v13 ev13
        refine mv_istore_n [(1, .int v13), (0, .ref 62)] dX11_judge_104 (by decide) rfl ?_
        refine mv_aload_n 1 dX11_judge_105 rfl ?_
        refine mv_getR 85 fX11_81 (by decide) rfl rfl rfl dX11_judge_106 ?_
        refine mv_aload_n 1 dX11_judge_109 rfl ?_
        refine mv_getI fX11_242 (by decide) rfl rfl dX11_judge_110 ?_
        obtain ⟨hi14, h⟩ := mv_chkE h
        refine mv_ild (by decide) rfl (mv_inE hi14) dX11_judge_113 ?_
        refine mv_topi (fun v15 ev15 => ?_)
        replace h := mv_letE h v15 ev15
        refine mv_istore_n [(2, .int v15), (1, .int v13), (0, .ref 62)] dX11_judge_114 (by decide) rfl ?_
        refine mv_aload_n 2 dX11_judge_115 rfl ?_
        refine mv_getR 81 fX11_69 (by decide) rfl rfl rfl dX11_judge_116 ?_
        refine mv_aload_n 2 dX11_judge_119 rfl ?_
        refine mv_getI fX11_242 (by decide) rfl rfl dX11_judge_120 ?_
        obtain ⟨hi16, h⟩ := mv_chkE h
        refine mv_ild (by decide) rfl (mv_inE hi16) dX11_judge_123 ?_
        refine mv_iconst 1 dX11_judge_124 (by decide) ?_
        refine mv_icmp_ne 137 dX11_judge_125 (by decide) (fun z => ?_) (fun z => ?_)
        · replace h := mv_ifF z h
          refine mv_aload_n 2 dX11_judge_137 rfl ?_
          refine mv_getR 81 fX11_69 (by decide) rfl rfl rfl dX11_judge_138 ?_
          refine mv_aload_n 2 dX11_judge_141 rfl ?_
          refine mv_getI fX11_242 (by decide) rfl rfl dX11_judge_142 ?_
          obtain ⟨hi17, h⟩ := mv_chkE h
          refine mv_ild (by decide) rfl (mv_inE hi17) dX11_judge_145 ?_
          refine mv_iconst 2 dX11_judge_146 (by decide) ?_
          refine mv_icmp_ne 183 dX11_judge_147 (by decide) (fun z => ?_) (fun z => ?_)
          · replace h := mv_ifF z h
            refine mv_aload_n 2 dX11_judge_183 rfl ?_
            refine mv_getR 81 fX11_69 (by decide) rfl rfl rfl dX11_judge_184 ?_
            refine mv_aload_n 2 dX11_judge_187 rfl ?_
            refine mv_getI fX11_242 (by decide) rfl rfl dX11_judge_188 ?_
            obtain ⟨hi18, h⟩ := mv_chkE h
            refine mv_ild (by decide) rfl (mv_inE hi18) dX11_judge_191 ?_
            refine mv_iconst 3 dX11_judge_192 (by decide) ?_
            refine mv_icmp_ne 265 dX11_judge_193 (by decide) (fun z => ?_) (fun z => ?_)
            · replace h := mv_ifF z h
              refine mv_aload_n 2 dX11_judge_265 rfl ?_
              refine mv_iload_n 1 dX11_judge_266 rfl ?_
              refine mv_iload_n 0 dX11_judge_267 rfl ?_
              refine mv_cvV (As := [.int v13, .int v15]) (st := []) okX11_onShut lX11_332 (by decide) rfl rfl rfl (Nat.le_of_ble_eq_true rfl) rfl (Nat.le_of_ble_eq_true rfl) dX11_judge_268 (by omega) rfl (zX11_onShut (d := d - 1) (by omega) v13 v15 M11 (mv_bindE h)) (fun _ M19 h => ?_)
              refine mv_sub [2] rfl ?_
              exact zX11_judge_271 hd M19 h
            · replace h := mv_ifT z h
              refine mv_aload_n 2 dX11_judge_196 rfl ?_
              refine mv_getR 76 fX11_54 (by decide) rfl rfl rfl dX11_judge_197 ?_
              refine mv_aload_n 2 dX11_judge_200 rfl ?_
              refine mv_getR 72 fX11_42 (by decide) rfl rfl rfl dX11_judge_201 ?_
              refine mv_iload_n 1 dX11_judge_204 rfl ?_
              obtain ⟨hi20, h⟩ := mv_chkE h
              refine mv_ild (by decide) rfl (mv_inE hi20) dX11_judge_205 ?_
              obtain ⟨hi21, h⟩ := mv_chkE h
              refine mv_ild (by decide) rfl (mv_inE hi21) dX11_judge_206 ?_
              refine mv_topi (fun v22 ev22 => ?_)
              replace h := mv_letE h v22 ev22
              refine mv_istore_n [(3, .int v22), (2, .int v15), (1, .int v13), (0, .ref 62)] dX11_judge_207 (by decide) rfl ?_
              refine mv_aload_n 3 dX11_judge_208 rfl ?_
              refine mv_aload_n 3 dX11_judge_209 rfl ?_
              refine mv_getR 74 fX11_48 (by decide) rfl rfl rfl dX11_judge_210 ?_
              refine mv_iload_n 2 dX11_judge_213 rfl ?_
              obtain ⟨hi23, h⟩ := mv_chkE h
              refine mv_ild (by decide) rfl (mv_inE hi23) dX11_judge_214 ?_
              refine mv_aload_n 3 dX11_judge_215 rfl ?_
              refine mv_getR 71 fX11_39 (by decide) rfl rfl rfl dX11_judge_216 ?_
              refine mv_iload_n 2 dX11_judge_219 rfl ?_
              obtain ⟨hi24, h⟩ := mv_chkE h
              refine mv_ild (by decide) rfl (mv_inE hi24) dX11_judge_220 ?_
              refine mv_iconst 3 dX11_judge_221 (by decide) ?_
              refine mv_icmp_ne 229 dX11_judge_222 (by decide) (fun z => ?_) (fun z => ?_)
              · replace h := mv_ifF z h
                refine mv_iload_n 0 dX11_judge_229 rfl ?_
                refine mv_csI (As := [.int v22]) (st := [.int (M11.1 74 v13.toNatClampNeg), .ref 62]) okX11_firstOf lX11_169 rfl (Nat.le_of_ble_eq_true rfl) rfl (Nat.le_of_ble_eq_true rfl) dX11_judge_230 (by omega) rfl (zX11_firstOf (d := d - 1) (by omega) v22 M11 (mv_bindE h)) (fun r25 M26 h => ?_)
                refine mv_sub [3, 2, 0] rfl ?_
                exact zX11_judge_233 hd v13 v22 r25 (M11.1 74 v13.toNatClampNeg) M26 h
              · replace h := mv_ifT z h
                refine mv_iload_n 0 dX11_judge_225 rfl ?_
                refine mv_goto 233 dX11_judge_226 (by decide) ?_
                refine mv_sub [3, 2, 0] rfl ?_
                exact zX11_judge_233 hd v13 v22 v22 (M11.1 74 v13.toNatClampNeg) M11 h
          · replace h := mv_ifT z h
            refine mv_aload_n 2 dX11_judge_150 rfl ?_
            refine mv_iconst 1 dX11_judge_151 (by decide) ?_
            refine mv_aload_n 2 dX11_judge_152 rfl ?_
            refine mv_getR 74 fX11_48 (by decide) rfl rfl rfl dX11_judge_153 ?_
            refine mv_iload_n 1 dX11_judge_156 rfl ?_
            obtain ⟨hi27, h⟩ := mv_chkE h
            refine mv_ild (by decide) rfl (mv_inE hi27) dX11_judge_157 ?_
            refine mv_iload_n 0 dX11_judge_158 rfl ?_
            refine mv_if_ge 176 dX11_judge_159 (by decide) (fun z => ?_) (fun z => ?_)
            · replace h := mv_ifT z h
              refine mv_iload_n 0 dX11_judge_176 rfl ?_
              refine mv_sub [2] rfl ?_
              exact zX11_judge_177 hd v15 (M11.1 74 v13.toNatClampNeg) 1 M11 h
            · replace h := mv_ifF z h
              refine mv_aload_n 2 dX11_judge_162 rfl ?_
              refine mv_getR 76 fX11_54 (by decide) rfl rfl rfl dX11_judge_163 ?_
              refine mv_aload_n 2 dX11_judge_166 rfl ?_
              refine mv_getR 73 fX11_45 (by decide) rfl rfl rfl dX11_judge_167 ?_
              refine mv_iload_n 1 dX11_judge_170 rfl ?_
              obtain ⟨hi28, h⟩ := mv_chkE h
              refine mv_ild (by decide) rfl (mv_inE hi28) dX11_judge_171 ?_
              obtain ⟨hi29, h⟩ := mv_chkE h
              refine mv_ild (by decide) rfl (mv_inE hi29) dX11_judge_172 ?_
              refine mv_goto 177 dX11_judge_173 (by decide) ?_
              refine mv_sub [2] rfl ?_
              exact zX11_judge_177 hd (M11.1 76 (M11.1 73 v13.toNatClampNeg).toNatClampNeg) (M11.1 74 v13.toNatClampNeg) 1 M11 h
        · replace h := mv_ifT z h
          refine mv_aload_n 2 dX11_judge_128 rfl ?_
          refine mv_iload_n 1 dX11_judge_129 rfl ?_
          refine mv_iload_n 0 dX11_judge_130 rfl ?_
          refine mv_cvV (As := [.int v13, .int v15]) (st := []) okX11_onJudge lX11_326 (by decide) rfl rfl rfl (Nat.le_of_ble_eq_true rfl) rfl (Nat.le_of_ble_eq_true rfl) dX11_judge_131 (by omega) rfl (zX11_onJudge (d := d - 1) (by omega) v13 v15 M11 (mv_bindE h)) (fun _ M30 h => ?_)
          refine mv_goto 271 dX11_judge_134 (by decide) ?_
          refine mv_sub [2] rfl ?_
          exact zX11_judge_271 hd M30 h
noncomputable def gX11_judge_7 (x1 : Int32) (M : mv_M) : Option (((Int32) ⊕ Unit) × mv_M) :=
  mv_chk (mv_inb (M.1 62 33) 24) <|
  if (M.1 66 (M.1 62 33).toNatClampNeg) ≤ x1 then
    mv_let (mv_si M 62 36 0) fun M3 =>
    mv_chk (mv_inb (M3.1 62 33) 24) <|
    mv_chk (mv_inb (M3.1 62 33) 24) <|
    mv_bind (fX11_task 1 (M3.1 68 (M3.1 62 33).toNatClampNeg) (M3.1 65 (M3.1 62 33).toNatClampNeg) M3) fun _ M6 =>
    mv_inr (fX11_judge_71 M6)
  else
    mv_chk (mv_inb x1 16) <|
    mv_let (mv_si M 86 x1.toNatClampNeg x1) fun M8 =>
    mv_let (mv_si M8 62 44 ((M8.1 62 44) + 1)) fun M9 =>
    mv_let (x1 + 1) fun v10 =>
    some (.inl v10, M9)
noncomputable def fX11_judge_7 (x1 : Int32) (M : mv_M) : Option (Unit × mv_M) := mv_loop (fun (s : Int32) M => gX11_judge_7 s M) x1 M
set_option maxRecDepth 100000 in
set_option maxHeartbeats 4000000 in
theorem zX11_judge_7 {l : Launch} {d : Nat} {Q : Unit → mv_M → Prop} (hd : 4 ≤ d) (x1 : Int32) (M : mv_M) (h : mv_ok (fX11_judge_7 x1 M) Q) : mv l mX11_judge d 0 7 [(0, .ref 62), (1, .int x1)] [] M (mv_qV Q) := by
  unfold fX11_judge_7 at h
  refine mv_loopE (A := (fun (s : Int32) M => mv l mX11_judge d 0 7 [(0, .ref 62), (1, .int s)] [] M (mv_qV Q))) ?_ x1 M h
  · intro x1 M h
    try dsimp only at h
    show mv l mX11_judge d 0 7 [(0, .ref 62), (1, .int x1)] [] M (mv_qV Q)
    unfold gX11_judge_7 at h
    refine mv_iload_n 1 dX11_judge_7 rfl ?_
    refine mv_aload_n 0 dX11_judge_8 rfl ?_
    refine mv_getR 66 fX11_24 (by decide) rfl rfl rfl dX11_judge_9 ?_
    refine mv_aload_n 0 dX11_judge_12 rfl ?_
    refine mv_getI fX11_239 (by decide) rfl rfl dX11_judge_13 ?_
    obtain ⟨hi2, h⟩ := mv_chkE h
    refine mv_ild (by decide) rfl (mv_inE hi2) dX11_judge_16 ?_
    refine mv_icmp_ge 43 dX11_judge_17 (by decide) (fun z => ?_) (fun z => ?_)
    · replace h := mv_ifT z h
      refine mv_aload_n 0 dX11_judge_43 rfl ?_
      refine mv_iconst 0 dX11_judge_44 (by decide) ?_
      refine mv_putI fX11_242 (by decide) rfl rfl dX11_judge_45 (fun M3 eM3 => ?_)
      replace h := mv_letE h M3 eM3
      refine mv_aload_n 0 dX11_judge_48 rfl ?_
      refine mv_iconst 1 dX11_judge_49 (by decide) ?_
      refine mv_aload_n 0 dX11_judge_50 rfl ?_
      refine mv_getR 68 fX11_30 (by decide) rfl rfl rfl dX11_judge_51 ?_
      refine mv_aload_n 0 dX11_judge_54 rfl ?_
      refine mv_getI fX11_239 (by decide) rfl rfl dX11_judge_55 ?_
      obtain ⟨hi4, h⟩ := mv_chkE h
      refine mv_ild (by decide) rfl (mv_inE hi4) dX11_judge_58 ?_
      refine mv_aload_n 0 dX11_judge_59 rfl ?_
      refine mv_getR 65 fX11_21 (by decide) rfl rfl rfl dX11_judge_60 ?_
      refine mv_aload_n 0 dX11_judge_63 rfl ?_
      refine mv_getI fX11_239 (by decide) rfl rfl dX11_judge_64 ?_
      obtain ⟨hi5, h⟩ := mv_chkE h
      refine mv_ild (by decide) rfl (mv_inE hi5) dX11_judge_67 ?_
      refine mv_cvV (As := [.int 1, .int (M3.1 68 (M3.1 62 33).toNatClampNeg), .int (M3.1 65 (M3.1 62 33).toNatClampNeg)]) (st := []) okX11_task lX11_322 (by decide) rfl rfl rfl (Nat.le_of_ble_eq_true rfl) rfl (Nat.le_of_ble_eq_true rfl) dX11_judge_68 (by omega) rfl (zX11_task (d := d - 1) (by omega) 1 (M3.1 68 (M3.1 62 33).toNatClampNeg) (M3.1 65 (M3.1 62 33).toNatClampNeg) M3 (mv_bindE h)) (fun _ M6 h => ?_)
      refine mv_sub [0] rfl ?_
      exact zX11_judge_71 hd M6 (mv_inrE h)
    · replace h := mv_ifF z h
      refine mv_aload_n 0 dX11_judge_20 rfl ?_
      refine mv_getR 86 fX11_84 (by decide) rfl rfl rfl dX11_judge_21 ?_
      refine mv_iload_n 1 dX11_judge_24 rfl ?_
      refine mv_iload_n 1 dX11_judge_25 rfl ?_
      obtain ⟨hi7, h⟩ := mv_chkE h
      refine mv_ist (by decide) rfl (mv_inE hi7) dX11_judge_26 (fun M8 eM8 => ?_)
      replace h := mv_letE h M8 eM8
      refine mv_aload_n 0 dX11_judge_27 rfl ?_
      refine mv_dup dX11_judge_28 rfl ?_
      refine mv_getI fX11_319 (by decide) rfl rfl dX11_judge_29 ?_
      refine mv_iconst 1 dX11_judge_32 (by decide) ?_
      refine mv_iadd dX11_judge_33 ?_
      refine mv_putI fX11_319 (by decide) rfl rfl dX11_judge_34 (fun M9 eM9 => ?_)
      replace h := mv_letE h M9 eM9
      obtain ⟨v10, ev10⟩ : ∃ z : Int32, z = x1 + 1 := ⟨_, rfl⟩
      replace h := mv_letE h v10 ev10
      refine mv_iinc v10 1 [(1, .int v10), (0, .ref 62)] dX11_judge_37 rfl (by rw [ev10]; rfl) (by decide) rfl ?_
      refine mv_goto 7 dX11_judge_40 (by decide) ?_
      refine mv_sub [1, 0] rfl ?_
      exact h
noncomputable def fX11_judge (M : mv_M) : Option (Unit × mv_M) :=
  mv_let (mv_si M 62 44 0) fun M1 =>
  fX11_judge_7 0 M1
set_option maxRecDepth 100000 in
set_option maxHeartbeats 4000000 in
theorem zX11_judge {l : Launch} {d : Nat} {Q : Unit → mv_M → Prop} (hd : 4 ≤ d) (M : mv_M) (h : mv_ok (fX11_judge M) Q) : mv l mX11_judge d 0 0 (lv_args 0 [.ref 62]) [] M (mv_qV Q) := by
  unfold fX11_judge at h
  show mv l mX11_judge d 0 0 [(0, .ref 62)] [] M (mv_qV Q)
  refine mv_aload_n 0 dX11_judge_0 rfl ?_
  refine mv_iconst 0 dX11_judge_1 (by decide) ?_
  refine mv_putI fX11_319 (by decide) rfl rfl dX11_judge_2 (fun M1 eM1 => ?_)
  replace h := mv_letE h M1 eM1
  refine mv_iconst 0 dX11_judge_5 (by decide) ?_
  refine mv_istore_n [(1, .int 0), (0, .ref 62)] dX11_judge_6 (by decide) rfl ?_
  refine mv_sub [1, 0] rfl ?_
  exact zX11_judge_7 hd 0 M1 h
theorem dX11_read_0 : decode cX11_read 0 = .ok (.aload_n 0, 1) := by decide +kernel
theorem dX11_read_1 : decode cX11_read 1 = .ok (.iconst 0, 1) := by decide +kernel
theorem dX11_read_2 : decode cX11_read 2 = .ok (.putfield 148, 3) := by decide +kernel
theorem dX11_read_5 : decode cX11_read 5 = .ok (.aload_n 0, 1) := by decide +kernel
theorem dX11_read_6 : decode cX11_read 6 = .ok (.aload_n 0, 1) := by decide +kernel
theorem dX11_read_7 : decode cX11_read 7 = .ok (.getfield 341, 3) := by decide +kernel
theorem dX11_read_10 : decode cX11_read 10 = .ok (.ifCond .eq 12, 3) := by decide +kernel
theorem dX11_read_13 : decode cX11_read 13 = .ok (.iconst 1, 1) := by decide +kernel
theorem dX11_read_14 : decode cX11_read 14 = .ok (.aload_n 0, 1) := by decide +kernel
theorem dX11_read_15 : decode cX11_read 15 = .ok (.getfield 345, 3) := by decide +kernel
theorem dX11_read_18 : decode cX11_read 18 = .ok (.isub, 1) := by decide +kernel
theorem dX11_read_19 : decode cX11_read 19 = .ok (.goto 7, 3) := by decide +kernel
theorem dX11_read_22 : decode cX11_read 22 = .ok (.aload_n 0, 1) := by decide +kernel
theorem dX11_read_23 : decode cX11_read 23 = .ok (.getfield 345, 3) := by decide +kernel
theorem dX11_read_26 : decode cX11_read 26 = .ok (.putfield 310, 3) := by decide +kernel
theorem dX11_read_29 : decode cX11_read 29 = .ok (.aload_n 0, 1) := by decide +kernel
theorem dX11_read_30 : decode cX11_read 30 = .ok (.iconst 0, 1) := by decide +kernel
theorem dX11_read_31 : decode cX11_read 31 = .ok (.putfield 313, 3) := by decide +kernel
theorem dX11_read_34 : decode cX11_read 34 = .ok (.aload_n 0, 1) := by decide +kernel
theorem dX11_read_35 : decode cX11_read 35 = .ok (.sipush 1001, 3) := by decide +kernel
theorem dX11_read_38 : decode cX11_read 38 = .ok (.aload_n 0, 1) := by decide +kernel
theorem dX11_read_39 : decode cX11_read 39 = .ok (.getfield 310, 3) := by decide +kernel
theorem dX11_read_42 : decode cX11_read 42 = .ok (.imul, 1) := by decide +kernel
theorem dX11_read_43 : decode cX11_read 43 = .ok (.putfield 232, 3) := by decide +kernel
theorem dX11_read_46 : decode cX11_read 46 = .ok (.aload_n 0, 1) := by decide +kernel
theorem dX11_read_47 : decode cX11_read 47 = .ok (.sipush 1001, 3) := by decide +kernel
theorem dX11_read_50 : decode cX11_read 50 = .ok (.aload_n 0, 1) := by decide +kernel
theorem dX11_read_51 : decode cX11_read 51 = .ok (.getfield 310, 3) := by decide +kernel
theorem dX11_read_54 : decode cX11_read 54 = .ok (.imul, 1) := by decide +kernel
theorem dX11_read_55 : decode cX11_read 55 = .ok (.putfield 301, 3) := by decide +kernel
theorem dX11_read_58 : decode cX11_read 58 = .ok (.aload_n 0, 1) := by decide +kernel
theorem dX11_read_59 : decode cX11_read 59 = .ok (.iconst 0, 1) := by decide +kernel
theorem dX11_read_60 : decode cX11_read 60 = .ok (.putfield 294, 3) := by decide +kernel
theorem dX11_read_63 : decode cX11_read 63 = .ok (.aload_n 0, 1) := by decide +kernel
theorem dX11_read_64 : decode cX11_read 64 = .ok (.iconst 0, 1) := by decide +kernel
theorem dX11_read_65 : decode cX11_read 65 = .ok (.putfield 187, 3) := by decide +kernel
theorem dX11_read_68 : decode cX11_read 68 = .ok (.aload_n 0, 1) := by decide +kernel
theorem dX11_read_69 : decode cX11_read 69 = .ok (.iconst 0, 1) := by decide +kernel
theorem dX11_read_70 : decode cX11_read 70 = .ok (.putfield 196, 3) := by decide +kernel
theorem dX11_read_73 : decode cX11_read 73 = .ok (.aload_n 0, 1) := by decide +kernel
theorem dX11_read_74 : decode cX11_read 74 = .ok (.iconst 0, 1) := by decide +kernel
theorem dX11_read_75 : decode cX11_read 75 = .ok (.putfield 176, 3) := by decide +kernel
theorem dX11_read_78 : decode cX11_read 78 = .ok (.aload_n 0, 1) := by decide +kernel
theorem dX11_read_79 : decode cX11_read 79 = .ok (.iconst (-1), 1) := by decide +kernel
theorem dX11_read_80 : decode cX11_read 80 = .ok (.putfield 13, 3) := by decide +kernel
theorem dX11_read_83 : decode cX11_read 83 = .ok (.aload_n 0, 1) := by decide +kernel
theorem dX11_read_84 : decode cX11_read 84 = .ok (.invokevirtual 226, 3) := by decide +kernel
theorem dX11_read_87 : decode cX11_read 87 = .ok (.aload_n 0, 1) := by decide +kernel
theorem dX11_read_88 : decode cX11_read 88 = .ok (.invokevirtual 348, 3) := by decide +kernel
theorem dX11_read_91 : decode cX11_read 91 = .ok (.aload_n 0, 1) := by decide +kernel
theorem dX11_read_92 : decode cX11_read 92 = .ok (.getfield 176, 3) := by decide +kernel
theorem dX11_read_95 : decode cX11_read 95 = .ok (.ifCond .ne 19, 3) := by decide +kernel
theorem dX11_read_98 : decode cX11_read 98 = .ok (.aload_n 0, 1) := by decide +kernel
theorem dX11_read_99 : decode cX11_read 99 = .ok (.getfield 193, 3) := by decide +kernel
theorem dX11_read_102 : decode cX11_read 102 = .ok (.bipush 23, 2) := by decide +kernel
theorem dX11_read_104 : decode cX11_read 104 = .ok (.if_icmp .eq 10, 3) := by decide +kernel
theorem dX11_read_107 : decode cX11_read 107 = .ok (.aload_n 0, 1) := by decide +kernel
theorem dX11_read_108 : decode cX11_read 108 = .ok (.invokevirtual 348, 3) := by decide +kernel
theorem dX11_read_111 : decode cX11_read 111 = .ok (.goto (-20), 3) := by decide +kernel
theorem dX11_read_114 : decode cX11_read 114 = .ok (.aload_n 0, 1) := by decide +kernel
theorem dX11_read_115 : decode cX11_read 115 = .ok (.bipush 12, 2) := by decide +kernel
theorem dX11_read_117 : decode cX11_read 117 = .ok (.aload_n 0, 1) := by decide +kernel
theorem dX11_read_118 : decode cX11_read 118 = .ok (.getfield 310, 3) := by decide +kernel
theorem dX11_read_121 : decode cX11_read 121 = .ok (.imul, 1) := by decide +kernel
theorem dX11_read_122 : decode cX11_read 122 = .ok (.putfield 239, 3) := by decide +kernel
theorem dX11_read_125 : decode cX11_read 125 = .ok (.aload_n 0, 1) := by decide +kernel
theorem dX11_read_126 : decode cX11_read 126 = .ok (.getfield 239, 3) := by decide +kernel
theorem dX11_read_129 : decode cX11_read 129 = .ok (.bipush 12, 2) := by decide +kernel
theorem dX11_read_131 : decode cX11_read 131 = .ok (.aload_n 0, 1) := by decide +kernel
theorem dX11_read_132 : decode cX11_read 132 = .ok (.getfield 310, 3) := by decide +kernel
theorem dX11_read_135 : decode cX11_read 135 = .ok (.imul, 1) := by decide +kernel
theorem dX11_read_136 : decode cX11_read 136 = .ok (.aload_n 0, 1) := by decide +kernel
theorem dX11_read_137 : decode cX11_read 137 = .ok (.getfield 313, 3) := by decide +kernel
theorem dX11_read_140 : decode cX11_read 140 = .ok (.iadd, 1) := by decide +kernel
theorem dX11_read_141 : decode cX11_read 141 = .ok (.if_icmp .ge 27, 3) := by decide +kernel
theorem dX11_read_144 : decode cX11_read 144 = .ok (.aload_n 0, 1) := by decide +kernel
theorem dX11_read_145 : decode cX11_read 145 = .ok (.getfield 176, 3) := by decide +kernel
theorem dX11_read_148 : decode cX11_read 148 = .ok (.ifCond .ne 20, 3) := by decide +kernel
theorem dX11_read_151 : decode cX11_read 151 = .ok (.aload_n 0, 1) := by decide +kernel
theorem dX11_read_152 : decode cX11_read 152 = .ok (.invokevirtual 351, 3) := by decide +kernel
theorem dX11_read_155 : decode cX11_read 155 = .ok (.aload_n 0, 1) := by decide +kernel
theorem dX11_read_156 : decode cX11_read 156 = .ok (.dup, 1) := by decide +kernel
theorem dX11_read_157 : decode cX11_read 157 = .ok (.getfield 239, 3) := by decide +kernel
theorem dX11_read_160 : decode cX11_read 160 = .ok (.iconst 1, 1) := by decide +kernel
theorem dX11_read_161 : decode cX11_read 161 = .ok (.iadd, 1) := by decide +kernel
theorem dX11_read_162 : decode cX11_read 162 = .ok (.putfield 239, 3) := by decide +kernel
theorem dX11_read_165 : decode cX11_read 165 = .ok (.goto (-40), 3) := by decide +kernel
theorem dX11_read_168 : decode cX11_read 168 = .ok (.aload_n 0, 1) := by decide +kernel
theorem dX11_read_169 : decode cX11_read 169 = .ok (.iconst 0, 1) := by decide +kernel
theorem dX11_read_170 : decode cX11_read 170 = .ok (.putfield 151, 3) := by decide +kernel
theorem dX11_read_173 : decode cX11_read 173 = .ok (.aload_n 0, 1) := by decide +kernel
theorem dX11_read_174 : decode cX11_read 174 = .ok (.getfield 176, 3) := by decide +kernel
theorem dX11_read_177 : decode cX11_read 177 = .ok (.ifCond .eq 9, 3) := by decide +kernel
theorem dX11_read_180 : decode cX11_read 180 = .ok (.aload_n 0, 1) := by decide +kernel
theorem dX11_read_181 : decode cX11_read 181 = .ok (.getfield 176, 3) := by decide +kernel
theorem dX11_read_184 : decode cX11_read 184 = .ok (.ineg, 1) := by decide +kernel
theorem dX11_read_185 : decode cX11_read 185 = .ok (.ireturn, 1) := by decide +kernel
theorem dX11_read_186 : decode cX11_read 186 = .ok (.aload_n 0, 1) := by decide +kernel
theorem dX11_read_187 : decode cX11_read 187 = .ok (.aload_n 0, 1) := by decide +kernel
theorem dX11_read_188 : decode cX11_read 188 = .ok (.getfield 310, 3) := by decide +kernel
theorem dX11_read_191 : decode cX11_read 191 = .ok (.putfield 345, 3) := by decide +kernel
theorem dX11_read_194 : decode cX11_read 194 = .ok (.aload_n 0, 1) := by decide +kernel
theorem dX11_read_195 : decode cX11_read 195 = .ok (.getfield 63, 3) := by decide +kernel
theorem dX11_read_198 : decode cX11_read 198 = .ok (.aload_n 0, 1) := by decide +kernel
theorem dX11_read_199 : decode cX11_read 199 = .ok (.getfield 345, 3) := by decide +kernel
theorem dX11_read_202 : decode cX11_read 202 = .ok (.aload_n 0, 1) := by decide +kernel
theorem dX11_read_203 : decode cX11_read 203 = .ok (.getfield 313, 3) := by decide +kernel
theorem dX11_read_206 : decode cX11_read 206 = .ok (.iastore, 1) := by decide +kernel
theorem dX11_read_207 : decode cX11_read 207 = .ok (.aload_n 0, 1) := by decide +kernel
theorem dX11_read_208 : decode cX11_read 208 = .ok (.iconst 1, 1) := by decide +kernel
theorem dX11_read_209 : decode cX11_read 209 = .ok (.putfield 341, 3) := by decide +kernel
theorem dX11_read_212 : decode cX11_read 212 = .ok (.aload_n 0, 1) := by decide +kernel
theorem dX11_read_213 : decode cX11_read 213 = .ok (.iconst 0, 1) := by decide +kernel
theorem dX11_read_214 : decode cX11_read 214 = .ok (.putfield 354, 3) := by decide +kernel
theorem dX11_read_217 : decode cX11_read 217 = .ok (.aload_n 0, 1) := by decide +kernel
theorem dX11_read_218 : decode cX11_read 218 = .ok (.iconst (-1), 1) := by decide +kernel
theorem dX11_read_219 : decode cX11_read 219 = .ok (.putfield 142, 3) := by decide +kernel
theorem dX11_read_222 : decode cX11_read 222 = .ok (.aload_n 0, 1) := by decide +kernel
theorem dX11_read_223 : decode cX11_read 223 = .ok (.getfield 313, 3) := by decide +kernel
theorem dX11_read_226 : decode cX11_read 226 = .ok (.ireturn, 1) := by decide +kernel
noncomputable def fX11_read_168 (M : mv_M) : Option (Int32 × mv_M) :=
  mv_let (mv_si M 62 2 0) fun M17 =>
  if (M17.1 62 9) = 0 then
    mv_let (mv_si M17 62 47 (M17.1 62 27)) fun M18 =>
    mv_chk (mv_inb (M18.1 62 47) 2) <|
    mv_let (mv_si M18 79 (M18.1 62 47).toNatClampNeg (M18.1 62 28)) fun M20 =>
    mv_let (mv_si M20 62 45 1) fun M21 =>
    mv_let (mv_si M21 62 46 0) fun M22 =>
    mv_let (mv_si M22 62 75 (-1)) fun M23 =>
    some (M23.1 62 28, M23)
  else
    some (-(M17.1 62 9), M17)
set_option maxRecDepth 100000 in
set_option maxHeartbeats 4000000 in
theorem zX11_read_168 {l : Launch} {d : Nat} {Q : Int32 → mv_M → Prop} (hd : 10 ≤ d) (M : mv_M) (h : mv_ok (fX11_read_168 M) Q) : mv l mX11_read d 0 168 [(0, .ref 62)] [] M (mv_qI Q) := by
  unfold fX11_read_168 at h
  refine mv_aload_n 0 dX11_read_168 rfl ?_
  refine mv_iconst 0 dX11_read_169 (by decide) ?_
  refine mv_putI fX11_151 (by decide) rfl rfl dX11_read_170 (fun M17 eM17 => ?_)
  replace h := mv_letE h M17 eM17
  refine mv_aload_n 0 dX11_read_173 rfl ?_
  refine mv_getI fX11_176 (by decide) rfl rfl dX11_read_174 ?_
  refine mv_if_eq 186 dX11_read_177 (by decide) (fun z => ?_) (fun z => ?_)
  · replace h := mv_ifT z h
    refine mv_aload_n 0 dX11_read_186 rfl ?_
    refine mv_aload_n 0 dX11_read_187 rfl ?_
    refine mv_getI fX11_310 (by decide) rfl rfl dX11_read_188 ?_
    refine mv_putI fX11_345 (by decide) rfl rfl dX11_read_191 (fun M18 eM18 => ?_)
    replace h := mv_letE h M18 eM18
    refine mv_aload_n 0 dX11_read_194 rfl ?_
    refine mv_getR 79 fX11_63 (by decide) rfl rfl rfl dX11_read_195 ?_
    refine mv_aload_n 0 dX11_read_198 rfl ?_
    refine mv_getI fX11_345 (by decide) rfl rfl dX11_read_199 ?_
    refine mv_aload_n 0 dX11_read_202 rfl ?_
    refine mv_getI fX11_313 (by decide) rfl rfl dX11_read_203 ?_
    obtain ⟨hi19, h⟩ := mv_chkE h
    refine mv_ist (by decide) rfl (mv_inE hi19) dX11_read_206 (fun M20 eM20 => ?_)
    replace h := mv_letE h M20 eM20
    refine mv_aload_n 0 dX11_read_207 rfl ?_
    refine mv_iconst 1 dX11_read_208 (by decide) ?_
    refine mv_putZ fX11_341 (by decide) (by decide) rfl rfl dX11_read_209 (fun M21 eM21 => ?_)
    replace h := mv_letE h M21 eM21
    refine mv_aload_n 0 dX11_read_212 rfl ?_
    refine mv_iconst 0 dX11_read_213 (by decide) ?_
    refine mv_putZ fX11_354 (by decide) (by decide) rfl rfl dX11_read_214 (fun M22 eM22 => ?_)
    replace h := mv_letE h M22 eM22
    refine mv_aload_n 0 dX11_read_217 rfl ?_
    refine mv_iconst (-1) dX11_read_218 (by decide) ?_
    refine mv_putI fX11_142 (by decide) rfl rfl dX11_read_219 (fun M23 eM23 => ?_)
    replace h := mv_letE h M23 eM23
    refine mv_aload_n 0 dX11_read_222 rfl ?_
    refine mv_getI fX11_313 (by decide) rfl rfl dX11_read_223 ?_
    exact mv_iret rfl dX11_read_226 ⟨_, rfl, h⟩
  · replace h := mv_ifF z h
    refine mv_aload_n 0 dX11_read_180 rfl ?_
    refine mv_getI fX11_176 (by decide) rfl rfl dX11_read_181 ?_
    refine mv_ineg dX11_read_184 ?_
    exact mv_iret rfl dX11_read_185 ⟨_, rfl, h⟩
noncomputable def gX11_read_125 (M : mv_M) : Option (((Unit) ⊕ Int32) × mv_M) :=
  if ((12 * (M.1 62 27)) + (M.1 62 28)) ≤ (M.1 62 33) then
    mv_inr (fX11_read_168 M)
  else
    if (M.1 62 9) = 0 then
      mv_bind (fX11_judge M) fun _ M15 =>
      mv_let (mv_si M15 62 33 ((M15.1 62 33) + 1)) fun M16 =>
      some (.inl (), M16)
    else
      mv_inr (fX11_read_168 M)
noncomputable def fX11_read_125 (M : mv_M) : Option (Int32 × mv_M) := mv_loop (fun (s : Unit) M => gX11_read_125  M) () M
set_option maxRecDepth 100000 in
set_option maxHeartbeats 4000000 in
theorem zX11_read_125 {l : Launch} {d : Nat} {Q : Int32 → mv_M → Prop} (hd : 10 ≤ d) (M : mv_M) (h : mv_ok (fX11_read_125 M) Q) : mv l mX11_read d 0 125 [(0, .ref 62)] [] M (mv_qI Q) := by
  unfold fX11_read_125 at h
  refine mv_loopE (A := (fun (s : Unit) M => mv l mX11_read d 0 125 [(0, .ref 62)] [] M (mv_qI Q))) ?_ () M h
  · intro s M h
    try dsimp only at h
    show mv l mX11_read d 0 125 [(0, .ref 62)] [] M (mv_qI Q)
    unfold gX11_read_125 at h
    refine mv_aload_n 0 dX11_read_125 rfl ?_
    refine mv_getI fX11_239 (by decide) rfl rfl dX11_read_126 ?_
    refine mv_bipush 12 dX11_read_129 (by decide) ?_
    refine mv_aload_n 0 dX11_read_131 rfl ?_
    refine mv_getI fX11_310 (by decide) rfl rfl dX11_read_132 ?_
    refine mv_imul dX11_read_135 ?_
    refine mv_aload_n 0 dX11_read_136 rfl ?_
    refine mv_getI fX11_313 (by decide) rfl rfl dX11_read_137 ?_
    refine mv_iadd dX11_read_140 ?_
    refine mv_icmp_ge 168 dX11_read_141 (by decide) (fun z => ?_) (fun z => ?_)
    · replace h := mv_ifT z h
      refine mv_sub [0] rfl ?_
      exact zX11_read_168 hd M (mv_inrE h)
    · replace h := mv_ifF z h
      refine mv_aload_n 0 dX11_read_144 rfl ?_
      refine mv_getI fX11_176 (by decide) rfl rfl dX11_read_145 ?_
      refine mv_if_ne 168 dX11_read_148 (by decide) (fun z => ?_) (fun z => ?_)
      · replace h := mv_ifF z h
        refine mv_sub [0] rfl ?_
        exact zX11_read_168 hd M (mv_inrE h)
      · replace h := mv_ifT z h
        refine mv_aload_n 0 dX11_read_151 rfl ?_
        refine mv_cvV (As := []) (st := []) okX11_judge lX11_351 (by decide) rfl rfl rfl (Nat.le_of_ble_eq_true rfl) rfl (Nat.le_of_ble_eq_true rfl) dX11_read_152 (by omega) rfl (zX11_judge (d := d - 1) (by omega) M (mv_bindE h)) (fun _ M15 h => ?_)
        refine mv_aload_n 0 dX11_read_155 rfl ?_
        refine mv_dup dX11_read_156 rfl ?_
        refine mv_getI fX11_239 (by decide) rfl rfl dX11_read_157 ?_
        refine mv_iconst 1 dX11_read_160 (by decide) ?_
        refine mv_iadd dX11_read_161 ?_
        refine mv_putI fX11_239 (by decide) rfl rfl dX11_read_162 (fun M16 eM16 => ?_)
        replace h := mv_letE h M16 eM16
        refine mv_goto 125 dX11_read_165 (by decide) ?_
        refine mv_sub [0] rfl ?_
        exact h
noncomputable def fX11_read_114 (M : mv_M) : Option (Int32 × mv_M) :=
  mv_let (mv_si M 62 33 (12 * (M.1 62 27))) fun M14 =>
  fX11_read_125 M14
set_option maxRecDepth 100000 in
set_option maxHeartbeats 4000000 in
theorem zX11_read_114 {l : Launch} {d : Nat} {Q : Int32 → mv_M → Prop} (hd : 10 ≤ d) (M : mv_M) (h : mv_ok (fX11_read_114 M) Q) : mv l mX11_read d 0 114 [(0, .ref 62)] [] M (mv_qI Q) := by
  unfold fX11_read_114 at h
  refine mv_aload_n 0 dX11_read_114 rfl ?_
  refine mv_bipush 12 dX11_read_115 (by decide) ?_
  refine mv_aload_n 0 dX11_read_117 rfl ?_
  refine mv_getI fX11_310 (by decide) rfl rfl dX11_read_118 ?_
  refine mv_imul dX11_read_121 ?_
  refine mv_putI fX11_239 (by decide) rfl rfl dX11_read_122 (fun M14 eM14 => ?_)
  replace h := mv_letE h M14 eM14
  refine mv_sub [0] rfl ?_
  exact zX11_read_125 hd M14 h
noncomputable def gX11_read_91 (M : mv_M) : Option (((Unit) ⊕ Int32) × mv_M) :=
  if (M.1 62 9) = 0 then
    if (M.1 62 4) = 23 then
      mv_inr (fX11_read_114 M)
    else
      mv_bind (fX11_definition M) fun _ M13 =>
      some (.inl (), M13)
  else
    mv_inr (fX11_read_114 M)
noncomputable def fX11_read_91 (M : mv_M) : Option (Int32 × mv_M) := mv_loop (fun (s : Unit) M => gX11_read_91  M) () M
set_option maxRecDepth 100000 in
set_option maxHeartbeats 4000000 in
theorem zX11_read_91 {l : Launch} {d : Nat} {Q : Int32 → mv_M → Prop} (hd : 10 ≤ d) (M : mv_M) (h : mv_ok (fX11_read_91 M) Q) : mv l mX11_read d 0 91 [(0, .ref 62)] [] M (mv_qI Q) := by
  unfold fX11_read_91 at h
  refine mv_loopE (A := (fun (s : Unit) M => mv l mX11_read d 0 91 [(0, .ref 62)] [] M (mv_qI Q))) ?_ () M h
  · intro s M h
    try dsimp only at h
    show mv l mX11_read d 0 91 [(0, .ref 62)] [] M (mv_qI Q)
    unfold gX11_read_91 at h
    refine mv_aload_n 0 dX11_read_91 rfl ?_
    refine mv_getI fX11_176 (by decide) rfl rfl dX11_read_92 ?_
    refine mv_if_ne 114 dX11_read_95 (by decide) (fun z => ?_) (fun z => ?_)
    · replace h := mv_ifF z h
      refine mv_sub [0] rfl ?_
      exact zX11_read_114 hd M (mv_inrE h)
    · replace h := mv_ifT z h
      refine mv_aload_n 0 dX11_read_98 rfl ?_
      refine mv_getI fX11_193 (by decide) rfl rfl dX11_read_99 ?_
      refine mv_bipush 23 dX11_read_102 (by decide) ?_
      refine mv_icmp_eq 114 dX11_read_104 (by decide) (fun z => ?_) (fun z => ?_)
      · replace h := mv_ifT z h
        refine mv_sub [0] rfl ?_
        exact zX11_read_114 hd M (mv_inrE h)
      · replace h := mv_ifF z h
        refine mv_aload_n 0 dX11_read_107 rfl ?_
        refine mv_cvV (As := []) (st := []) okX11_definition lX11_348 (by decide) rfl rfl rfl (Nat.le_of_ble_eq_true rfl) rfl (Nat.le_of_ble_eq_true rfl) dX11_read_108 (by omega) rfl (zX11_definition (d := d - 1) (by omega) M (mv_bindE h)) (fun _ M13 h => ?_)
        refine mv_goto 91 dX11_read_111 (by decide) ?_
        refine mv_sub [0] rfl ?_
        exact h
noncomputable def fX11_read_26 (s0 : Int32) (M : mv_M) : Option (Int32 × mv_M) :=
  mv_let (mv_si M 62 27 s0) fun M2 =>
  mv_let (mv_si M2 62 28 0) fun M3 =>
  mv_let (mv_si M3 62 29 (1001 * (M3.1 62 27))) fun M4 =>
  mv_let (mv_si M4 62 30 (1001 * (M4.1 62 27))) fun M5 =>
  mv_let (mv_si M5 62 32 0) fun M6 =>
  mv_let (mv_si M6 62 3 0) fun M7 =>
  mv_let (mv_si M7 62 6 0) fun M8 =>
  mv_let (mv_si M8 62 9 0) fun M9 =>
  mv_let (mv_si M9 62 10 (-1)) fun M10 =>
  mv_bind (fX11_next M10) fun _ M11 =>
  mv_bind (fX11_definition M11) fun _ M12 =>
  fX11_read_91 M12
set_option maxRecDepth 100000 in
set_option maxHeartbeats 4000000 in
theorem zX11_read_26 {l : Launch} {d : Nat} {Q : Int32 → mv_M → Prop} (hd : 10 ≤ d) (s0 : Int32) (M : mv_M) (h : mv_ok (fX11_read_26 s0 M) Q) : mv l mX11_read d 0 26 [(0, .ref 62)] [.int s0, .ref 62] M (mv_qI Q) := by
  unfold fX11_read_26 at h
  refine mv_putI fX11_310 (by decide) rfl rfl dX11_read_26 (fun M2 eM2 => ?_)
  replace h := mv_letE h M2 eM2
  refine mv_aload_n 0 dX11_read_29 rfl ?_
  refine mv_iconst 0 dX11_read_30 (by decide) ?_
  refine mv_putI fX11_313 (by decide) rfl rfl dX11_read_31 (fun M3 eM3 => ?_)
  replace h := mv_letE h M3 eM3
  refine mv_aload_n 0 dX11_read_34 rfl ?_
  refine mv_sipush 1001 dX11_read_35 (by decide) ?_
  refine mv_aload_n 0 dX11_read_38 rfl ?_
  refine mv_getI fX11_310 (by decide) rfl rfl dX11_read_39 ?_
  refine mv_imul dX11_read_42 ?_
  refine mv_putI fX11_232 (by decide) rfl rfl dX11_read_43 (fun M4 eM4 => ?_)
  replace h := mv_letE h M4 eM4
  refine mv_aload_n 0 dX11_read_46 rfl ?_
  refine mv_sipush 1001 dX11_read_47 (by decide) ?_
  refine mv_aload_n 0 dX11_read_50 rfl ?_
  refine mv_getI fX11_310 (by decide) rfl rfl dX11_read_51 ?_
  refine mv_imul dX11_read_54 ?_
  refine mv_putI fX11_301 (by decide) rfl rfl dX11_read_55 (fun M5 eM5 => ?_)
  replace h := mv_letE h M5 eM5
  refine mv_aload_n 0 dX11_read_58 rfl ?_
  refine mv_iconst 0 dX11_read_59 (by decide) ?_
  refine mv_putI fX11_294 (by decide) rfl rfl dX11_read_60 (fun M6 eM6 => ?_)
  replace h := mv_letE h M6 eM6
  refine mv_aload_n 0 dX11_read_63 rfl ?_
  refine mv_iconst 0 dX11_read_64 (by decide) ?_
  refine mv_putI fX11_187 (by decide) rfl rfl dX11_read_65 (fun M7 eM7 => ?_)
  replace h := mv_letE h M7 eM7
  refine mv_aload_n 0 dX11_read_68 rfl ?_
  refine mv_iconst 0 dX11_read_69 (by decide) ?_
  refine mv_putI fX11_196 (by decide) rfl rfl dX11_read_70 (fun M8 eM8 => ?_)
  replace h := mv_letE h M8 eM8
  refine mv_aload_n 0 dX11_read_73 rfl ?_
  refine mv_iconst 0 dX11_read_74 (by decide) ?_
  refine mv_putI fX11_176 (by decide) rfl rfl dX11_read_75 (fun M9 eM9 => ?_)
  replace h := mv_letE h M9 eM9
  refine mv_aload_n 0 dX11_read_78 rfl ?_
  refine mv_iconst (-1) dX11_read_79 (by decide) ?_
  refine mv_putI fX11_13 (by decide) rfl rfl dX11_read_80 (fun M10 eM10 => ?_)
  replace h := mv_letE h M10 eM10
  refine mv_aload_n 0 dX11_read_83 rfl ?_
  refine mv_cvV (As := []) (st := []) okX11_next lX11_226 (by decide) rfl rfl rfl (Nat.le_of_ble_eq_true rfl) rfl (Nat.le_of_ble_eq_true rfl) dX11_read_84 (by omega) rfl (zX11_next (d := d - 1) (by omega) M10 (mv_bindE h)) (fun _ M11 h => ?_)
  refine mv_aload_n 0 dX11_read_87 rfl ?_
  refine mv_cvV (As := []) (st := []) okX11_definition lX11_348 (by decide) rfl rfl rfl (Nat.le_of_ble_eq_true rfl) rfl (Nat.le_of_ble_eq_true rfl) dX11_read_88 (by omega) rfl (zX11_definition (d := d - 1) (by omega) M11 (mv_bindE h)) (fun _ M12 h => ?_)
  refine mv_sub [0] rfl ?_
  exact zX11_read_91 hd M12 h
noncomputable def fX11_read (M : mv_M) : Option (Int32 × mv_M) :=
  mv_let (mv_si M 62 0 0) fun M1 =>
  if (M1.1 62 45) = 0 then
    fX11_read_26 (M1.1 62 47) M1
  else
    fX11_read_26 (1 - (M1.1 62 47)) M1
set_option maxRecDepth 100000 in
set_option maxHeartbeats 4000000 in
theorem zX11_read {l : Launch} {d : Nat} {Q : Int32 → mv_M → Prop} (hd : 10 ≤ d) (M : mv_M) (h : mv_ok (fX11_read M) Q) : mv l mX11_read d 0 0 (lv_args 0 [.ref 62]) [] M (mv_qI Q) := by
  unfold fX11_read at h
  show mv l mX11_read d 0 0 [(0, .ref 62)] [] M (mv_qI Q)
  refine mv_aload_n 0 dX11_read_0 rfl ?_
  refine mv_iconst 0 dX11_read_1 (by decide) ?_
  refine mv_putI fX11_148 (by decide) rfl rfl dX11_read_2 (fun M1 eM1 => ?_)
  replace h := mv_letE h M1 eM1
  refine mv_aload_n 0 dX11_read_5 rfl ?_
  refine mv_aload_n 0 dX11_read_6 rfl ?_
  refine mv_getI fX11_341 (by decide) rfl rfl dX11_read_7 ?_
  refine mv_if_eq 22 dX11_read_10 (by decide) (fun z => ?_) (fun z => ?_)
  · replace h := mv_ifT z h
    refine mv_aload_n 0 dX11_read_22 rfl ?_
    refine mv_getI fX11_345 (by decide) rfl rfl dX11_read_23 ?_
    refine mv_sub [0] rfl ?_
    exact zX11_read_26 hd (M1.1 62 47) M1 h
  · replace h := mv_ifF z h
    refine mv_iconst 1 dX11_read_13 (by decide) ?_
    refine mv_aload_n 0 dX11_read_14 rfl ?_
    refine mv_getI fX11_345 (by decide) rfl rfl dX11_read_15 ?_
    refine mv_isub dX11_read_18 ?_
    refine mv_goto 26 dX11_read_19 (by decide) ?_
    refine mv_sub [0] rfl ?_
    exact zX11_read_26 hd (1 - (M1.1 62 47)) M1 h
theorem dX11_place_0 : decode cX11_place 0 = .ok (.aload_n 0, 1) := by decide +kernel
theorem dX11_place_1 : decode cX11_place 1 = .ok (.iconst 0, 1) := by decide +kernel
theorem dX11_place_2 : decode cX11_place 2 = .ok (.putfield 148, 3) := by decide +kernel
theorem dX11_place_5 : decode cX11_place 5 = .ok (.aload_n 0, 1) := by decide +kernel
theorem dX11_place_6 : decode cX11_place 6 = .ok (.getfield 13, 3) := by decide +kernel
theorem dX11_place_9 : decode cX11_place 9 = .ok (.ireturn, 1) := by decide +kernel
noncomputable def fX11_place (M : mv_M) : Option (Int32 × mv_M) :=
  mv_let (mv_si M 62 0 0) fun M1 =>
  some (M1.1 62 10, M1)
set_option maxRecDepth 100000 in
set_option maxHeartbeats 4000000 in
theorem zX11_place {l : Launch} {d : Nat} {Q : Int32 → mv_M → Prop} (hd : 0 ≤ d) (M : mv_M) (h : mv_ok (fX11_place M) Q) : mv l mX11_place d 0 0 (lv_args 0 [.ref 62]) [] M (mv_qI Q) := by
  unfold fX11_place at h
  show mv l mX11_place d 0 0 [(0, .ref 62)] [] M (mv_qI Q)
  refine mv_aload_n 0 dX11_place_0 rfl ?_
  refine mv_iconst 0 dX11_place_1 (by decide) ?_
  refine mv_putI fX11_148 (by decide) rfl rfl dX11_place_2 (fun M1 eM1 => ?_)
  replace h := mv_letE h M1 eM1
  refine mv_aload_n 0 dX11_place_5 rfl ?_
  refine mv_getI fX11_13 (by decide) rfl rfl dX11_place_6 ?_
  exact mv_iret rfl dX11_place_9 ⟨_, rfl, h⟩
theorem dX11_isFn_0 : decode cX11_isFn 0 = .ok (.aload_n 0, 1) := by decide +kernel
theorem dX11_isFn_1 : decode cX11_isFn 1 = .ok (.getfield 341, 3) := by decide +kernel
theorem dX11_isFn_4 : decode cX11_isFn 4 = .ok (.ifCond .eq 28, 3) := by decide +kernel
theorem dX11_isFn_7 : decode cX11_isFn 7 = .ok (.iload_n 1, 1) := by decide +kernel
theorem dX11_isFn_8 : decode cX11_isFn 8 = .ok (.i2l, 1) := by decide +kernel
theorem dX11_isFn_9 : decode cX11_isFn 9 = .ok (.lconst 0, 1) := by decide +kernel
theorem dX11_isFn_10 : decode cX11_isFn 10 = .ok (.aload_n 0, 1) := by decide +kernel
theorem dX11_isFn_11 : decode cX11_isFn 11 = .ok (.getfield 63, 3) := by decide +kernel
theorem dX11_isFn_14 : decode cX11_isFn 14 = .ok (.aload_n 0, 1) := by decide +kernel
theorem dX11_isFn_15 : decode cX11_isFn 15 = .ok (.getfield 345, 3) := by decide +kernel
theorem dX11_isFn_18 : decode cX11_isFn 18 = .ok (.iaload, 1) := by decide +kernel
theorem dX11_isFn_19 : decode cX11_isFn 19 = .ok (.iconst 1, 1) := by decide +kernel
theorem dX11_isFn_20 : decode cX11_isFn 20 = .ok (.isub, 1) := by decide +kernel
theorem dX11_isFn_21 : decode cX11_isFn 21 = .ok (.i2l, 1) := by decide +kernel
theorem dX11_isFn_22 : decode cX11_isFn 22 = .ok (.invokestatic 154, 3) := by decide +kernel
theorem dX11_isFn_25 : decode cX11_isFn 25 = .ok (.ifCond .eq 7, 3) := by decide +kernel
theorem dX11_isFn_28 : decode cX11_isFn 28 = .ok (.iconst 1, 1) := by decide +kernel
theorem dX11_isFn_29 : decode cX11_isFn 29 = .ok (.goto 4, 3) := by decide +kernel
theorem dX11_isFn_32 : decode cX11_isFn 32 = .ok (.iconst 0, 1) := by decide +kernel
theorem dX11_isFn_33 : decode cX11_isFn 33 = .ok (.ireturn, 1) := by decide +kernel
noncomputable def fX11_isFn (a0 : Int32) (M : mv_M) : Option (Int32 × mv_M) :=
  if (M.1 62 45) = 0 then
    some (0, M)
  else
    mv_chk (mv_inb (M.1 62 47) 2) <|
    mv_bind (fX11_within (a0.toInt64) 0 (((M.1 79 (M.1 62 47).toNatClampNeg) - 1).toInt64) M) fun r2 M3 =>
    if r2 = 0 then
      some (0, M3)
    else
      some (1, M3)
set_option maxRecDepth 100000 in
set_option maxHeartbeats 4000000 in
theorem zX11_isFn {l : Launch} {d : Nat} {Q : Int32 → mv_M → Prop} (hd : 1 ≤ d) (a0 : Int32) (M : mv_M) (h : mv_ok (fX11_isFn a0 M) Q) : mv l mX11_isFn d 0 0 (lv_args 0 [.ref 62, .int a0]) [] M (mv_qI Q) := by
  unfold fX11_isFn at h
  show mv l mX11_isFn d 0 0 [(0, .ref 62), (1, .int a0)] [] M (mv_qI Q)
  refine mv_aload_n 0 dX11_isFn_0 rfl ?_
  refine mv_getI fX11_341 (by decide) rfl rfl dX11_isFn_1 ?_
  refine mv_if_eq 32 dX11_isFn_4 (by decide) (fun z => ?_) (fun z => ?_)
  · replace h := mv_ifT z h
    refine mv_iconst 0 dX11_isFn_32 (by decide) ?_
    exact mv_zret (by decide) rfl dX11_isFn_33 ⟨_, rfl, h⟩
  · replace h := mv_ifF z h
    refine mv_iload_n 1 dX11_isFn_7 rfl ?_
    refine mv_i2l dX11_isFn_8 ?_
    refine mv_lconst 0 dX11_isFn_9 (by decide) ?_
    refine mv_aload_n 0 dX11_isFn_10 rfl ?_
    refine mv_getR 79 fX11_63 (by decide) rfl rfl rfl dX11_isFn_11 ?_
    refine mv_aload_n 0 dX11_isFn_14 rfl ?_
    refine mv_getI fX11_345 (by decide) rfl rfl dX11_isFn_15 ?_
    obtain ⟨hi1, h⟩ := mv_chkE h
    refine mv_ild (by decide) rfl (mv_inE hi1) dX11_isFn_18 ?_
    refine mv_iconst 1 dX11_isFn_19 (by decide) ?_
    refine mv_isub dX11_isFn_20 ?_
    refine mv_i2l dX11_isFn_21 ?_
    refine mv_csI (As := [.long (a0.toInt64), .long 0, .long (((M.1 79 (M.1 62 47).toNatClampNeg) - 1).toInt64)]) (st := []) okX11_within lX11_154 rfl (Nat.le_of_ble_eq_true rfl) rfl (Nat.le_of_ble_eq_true rfl) dX11_isFn_22 (by omega) rfl (zX11_within (d := d - 1) (by omega) (a0.toInt64) 0 (((M.1 79 (M.1 62 47).toNatClampNeg) - 1).toInt64) M (mv_bindE h)) (fun r2 M3 h => ?_)
    refine mv_if_eq 32 dX11_isFn_25 (by decide) (fun z => ?_) (fun z => ?_)
    · replace h := mv_ifT z h
      refine mv_iconst 0 dX11_isFn_32 (by decide) ?_
      exact mv_zret (by decide) rfl dX11_isFn_33 ⟨_, rfl, h⟩
    · replace h := mv_ifF z h
      refine mv_iconst 1 dX11_isFn_28 (by decide) ?_
      refine mv_goto 33 dX11_isFn_29 (by decide) ?_
      exact mv_zret (by decide) rfl dX11_isFn_33 ⟨_, rfl, h⟩
theorem dX11_function_0 : decode cX11_function 0 = .ok (.bipush 12, 2) := by decide +kernel
theorem dX11_function_2 : decode cX11_function 2 = .ok (.aload_n 0, 1) := by decide +kernel
theorem dX11_function_3 : decode cX11_function 3 = .ok (.getfield 345, 3) := by decide +kernel
theorem dX11_function_6 : decode cX11_function 6 = .ok (.imul, 1) := by decide +kernel
theorem dX11_function_7 : decode cX11_function 7 = .ok (.iload_n 1, 1) := by decide +kernel
theorem dX11_function_8 : decode cX11_function 8 = .ok (.iadd, 1) := by decide +kernel
theorem dX11_function_9 : decode cX11_function 9 = .ok (.istore_n 3, 1) := by decide +kernel
theorem dX11_function_10 : decode cX11_function 10 = .ok (.aload_n 0, 1) := by decide +kernel
theorem dX11_function_11 : decode cX11_function 11 = .ok (.aload_n 0, 1) := by decide +kernel
theorem dX11_function_12 : decode cX11_function 12 = .ok (.iload_n 1, 1) := by decide +kernel
theorem dX11_function_13 : decode cX11_function 13 = .ok (.invokevirtual 357, 3) := by decide +kernel
theorem dX11_function_16 : decode cX11_function 16 = .ok (.ifCond .eq 37, 3) := by decide +kernel
theorem dX11_function_19 : decode cX11_function 19 = .ok (.iload_n 2, 1) := by decide +kernel
theorem dX11_function_20 : decode cX11_function 20 = .ok (.i2l, 1) := by decide +kernel
theorem dX11_function_21 : decode cX11_function 21 = .ok (.lconst 0, 1) := by decide +kernel
theorem dX11_function_22 : decode cX11_function 22 = .ok (.iconst 2, 1) := by decide +kernel
theorem dX11_function_23 : decode cX11_function 23 = .ok (.aload_n 0, 1) := by decide +kernel
theorem dX11_function_24 : decode cX11_function 24 = .ok (.getfield 24, 3) := by decide +kernel
theorem dX11_function_27 : decode cX11_function 27 = .ok (.aload_n 0, 1) := by decide +kernel
theorem dX11_function_28 : decode cX11_function 28 = .ok (.iload_n 1, 1) := by decide +kernel
theorem dX11_function_29 : decode cX11_function 29 = .ok (.invokevirtual 357, 3) := by decide +kernel
theorem dX11_function_32 : decode cX11_function 32 = .ok (.ifCond .eq 7, 3) := by decide +kernel
theorem dX11_function_35 : decode cX11_function 35 = .ok (.iload_n 3, 1) := by decide +kernel
theorem dX11_function_36 : decode cX11_function 36 = .ok (.goto 4, 3) := by decide +kernel
theorem dX11_function_39 : decode cX11_function 39 = .ok (.iconst 0, 1) := by decide +kernel
theorem dX11_function_40 : decode cX11_function 40 = .ok (.iaload, 1) := by decide +kernel
theorem dX11_function_41 : decode cX11_function 41 = .ok (.iadd, 1) := by decide +kernel
theorem dX11_function_42 : decode cX11_function 42 = .ok (.i2l, 1) := by decide +kernel
theorem dX11_function_43 : decode cX11_function 43 = .ok (.invokestatic 154, 3) := by decide +kernel
theorem dX11_function_46 : decode cX11_function 46 = .ok (.ifCond .eq 7, 3) := by decide +kernel
theorem dX11_function_49 : decode cX11_function 49 = .ok (.iconst 0, 1) := by decide +kernel
theorem dX11_function_50 : decode cX11_function 50 = .ok (.goto 4, 3) := by decide +kernel
theorem dX11_function_53 : decode cX11_function 53 = .ok (.iconst 1, 1) := by decide +kernel
theorem dX11_function_54 : decode cX11_function 54 = .ok (.putfield 148, 3) := by decide +kernel
theorem dX11_function_57 : decode cX11_function 57 = .ok (.aload_n 0, 1) := by decide +kernel
theorem dX11_function_58 : decode cX11_function 58 = .ok (.getfield 148, 3) := by decide +kernel
theorem dX11_function_61 : decode cX11_function 61 = .ok (.ifCond .le 5, 3) := by decide +kernel
theorem dX11_function_64 : decode cX11_function 64 = .ok (.iconst 0, 1) := by decide +kernel
theorem dX11_function_65 : decode cX11_function 65 = .ok (.ireturn, 1) := by decide +kernel
theorem dX11_function_66 : decode cX11_function 66 = .ok (.iload_n 2, 1) := by decide +kernel
theorem dX11_function_67 : decode cX11_function 67 = .ok (.ifCond .ne 12, 3) := by decide +kernel
theorem dX11_function_70 : decode cX11_function 70 = .ok (.aload_n 0, 1) := by decide +kernel
theorem dX11_function_71 : decode cX11_function 71 = .ok (.getfield 24, 3) := by decide +kernel
theorem dX11_function_74 : decode cX11_function 74 = .ok (.iload_n 3, 1) := by decide +kernel
theorem dX11_function_75 : decode cX11_function 75 = .ok (.iaload, 1) := by decide +kernel
theorem dX11_function_76 : decode cX11_function 76 = .ok (.goto 47, 3) := by decide +kernel
theorem dX11_function_79 : decode cX11_function 79 = .ok (.iload_n 2, 1) := by decide +kernel
theorem dX11_function_80 : decode cX11_function 80 = .ok (.iconst 1, 1) := by decide +kernel
theorem dX11_function_81 : decode cX11_function 81 = .ok (.if_icmp .ne 12, 3) := by decide +kernel
theorem dX11_function_84 : decode cX11_function 84 = .ok (.aload_n 0, 1) := by decide +kernel
theorem dX11_function_85 : decode cX11_function 85 = .ok (.getfield 27, 3) := by decide +kernel
theorem dX11_function_88 : decode cX11_function 88 = .ok (.iload_n 3, 1) := by decide +kernel
theorem dX11_function_89 : decode cX11_function 89 = .ok (.iaload, 1) := by decide +kernel
theorem dX11_function_90 : decode cX11_function 90 = .ok (.goto 33, 3) := by decide +kernel
theorem dX11_function_93 : decode cX11_function 93 = .ok (.iload_n 2, 1) := by decide +kernel
theorem dX11_function_94 : decode cX11_function 94 = .ok (.iconst 2, 1) := by decide +kernel
theorem dX11_function_95 : decode cX11_function 95 = .ok (.if_icmp .ne 12, 3) := by decide +kernel
theorem dX11_function_98 : decode cX11_function 98 = .ok (.aload_n 0, 1) := by decide +kernel
theorem dX11_function_99 : decode cX11_function 99 = .ok (.getfield 21, 3) := by decide +kernel
theorem dX11_function_102 : decode cX11_function 102 = .ok (.iload_n 3, 1) := by decide +kernel
theorem dX11_function_103 : decode cX11_function 103 = .ok (.iaload, 1) := by decide +kernel
theorem dX11_function_104 : decode cX11_function 104 = .ok (.goto 16, 3) := by decide +kernel
theorem dX11_function_107 : decode cX11_function 107 = .ok (.aload_n 0, 1) := by decide +kernel
theorem dX11_function_108 : decode cX11_function 108 = .ok (.getfield 36, 3) := by decide +kernel
theorem dX11_function_111 : decode cX11_function 111 = .ok (.bipush 16, 2) := by decide +kernel
theorem dX11_function_113 : decode cX11_function 113 = .ok (.iload_n 3, 1) := by decide +kernel
theorem dX11_function_114 : decode cX11_function 114 = .ok (.imul, 1) := by decide +kernel
theorem dX11_function_115 : decode cX11_function 115 = .ok (.iload_n 2, 1) := by decide +kernel
theorem dX11_function_116 : decode cX11_function 116 = .ok (.iadd, 1) := by decide +kernel
theorem dX11_function_117 : decode cX11_function 117 = .ok (.iconst 3, 1) := by decide +kernel
theorem dX11_function_118 : decode cX11_function 118 = .ok (.isub, 1) := by decide +kernel
theorem dX11_function_119 : decode cX11_function 119 = .ok (.iaload, 1) := by decide +kernel
theorem dX11_function_120 : decode cX11_function 120 = .ok (.invokestatic 166, 3) := by decide +kernel
theorem dX11_function_123 : decode cX11_function 123 = .ok (.ireturn, 1) := by decide +kernel
noncomputable def fX11_function_120 (s0 : Int32) (M : mv_M) : Option (Int32 × mv_M) :=
  mv_bind (fX11_demands s0 M) fun r14 M15 =>
  some (r14, M15)
set_option maxRecDepth 100000 in
set_option maxHeartbeats 4000000 in
theorem zX11_function_120 {l : Launch} {d : Nat} {Q : Int32 → mv_M → Prop} (hd : 2 ≤ d) (s0 : Int32) (M : mv_M) (h : mv_ok (fX11_function_120 s0 M) Q) : mv l mX11_function d 0 120 [] [.int s0] M (mv_qI Q) := by
  unfold fX11_function_120 at h
  refine mv_csI (As := [.int s0]) (st := []) okX11_demands lX11_166 rfl (Nat.le_of_ble_eq_true rfl) rfl (Nat.le_of_ble_eq_true rfl) dX11_function_120 (by omega) rfl (zX11_demands (d := d - 1) (by omega) s0 M (mv_bindE h)) (fun r14 M15 h => ?_)
  exact mv_iret rfl dX11_function_123 ⟨_, rfl, h⟩
noncomputable def fX11_function_54 (x2 : Int32) (x3 : Int32) (s0 : Int32) (M : mv_M) : Option (Int32 × mv_M) :=
  mv_let (mv_si M 62 0 s0) fun M9 =>
  if (M9.1 62 0) ≤ 0 then
    if x2 = 0 then
      mv_chk (mv_inb x3 24) <|
      some (M9.1 66 x3.toNatClampNeg, M9)
    else
      if x2 = 1 then
        mv_chk (mv_inb x3 24) <|
        some (M9.1 67 x3.toNatClampNeg, M9)
      else
        if x2 = 2 then
          mv_chk (mv_inb x3 24) <|
          fX11_function_120 (M9.1 65 x3.toNatClampNeg) M9
        else
          mv_chk (mv_inb (((16 * x3) + x2) - 3) 384) <|
          fX11_function_120 (M9.1 70 (((16 * x3) + x2) - 3).toNatClampNeg) M9
  else
    some (0, M9)
set_option maxRecDepth 100000 in
set_option maxHeartbeats 4000000 in
theorem zX11_function_54 {l : Launch} {d : Nat} {Q : Int32 → mv_M → Prop} (hd : 2 ≤ d) (x2 : Int32) (x3 : Int32) (s0 : Int32) (M : mv_M) (h : mv_ok (fX11_function_54 x2 x3 s0 M) Q) : mv l mX11_function d 0 54 [(0, .ref 62), (2, .int x2), (3, .int x3)] [.int s0, .ref 62] M (mv_qI Q) := by
  unfold fX11_function_54 at h
  refine mv_putI fX11_148 (by decide) rfl rfl dX11_function_54 (fun M9 eM9 => ?_)
  replace h := mv_letE h M9 eM9
  refine mv_aload_n 0 dX11_function_57 rfl ?_
  refine mv_getI fX11_148 (by decide) rfl rfl dX11_function_58 ?_
  refine mv_if_le 66 dX11_function_61 (by decide) (fun z => ?_) (fun z => ?_)
  · replace h := mv_ifT z h
    refine mv_iload_n 1 dX11_function_66 rfl ?_
    refine mv_if_ne 79 dX11_function_67 (by decide) (fun z => ?_) (fun z => ?_)
    · replace h := mv_ifF z h
      refine mv_iload_n 1 dX11_function_79 rfl ?_
      refine mv_iconst 1 dX11_function_80 (by decide) ?_
      refine mv_icmp_ne 93 dX11_function_81 (by decide) (fun z => ?_) (fun z => ?_)
      · replace h := mv_ifF z h
        refine mv_iload_n 1 dX11_function_93 rfl ?_
        refine mv_iconst 2 dX11_function_94 (by decide) ?_
        refine mv_icmp_ne 107 dX11_function_95 (by decide) (fun z => ?_) (fun z => ?_)
        · replace h := mv_ifF z h
          refine mv_aload_n 0 dX11_function_107 rfl ?_
          refine mv_getR 70 fX11_36 (by decide) rfl rfl rfl dX11_function_108 ?_
          refine mv_bipush 16 dX11_function_111 (by decide) ?_
          refine mv_iload_n 2 dX11_function_113 rfl ?_
          refine mv_imul dX11_function_114 ?_
          refine mv_iload_n 1 dX11_function_115 rfl ?_
          refine mv_iadd dX11_function_116 ?_
          refine mv_iconst 3 dX11_function_117 (by decide) ?_
          refine mv_isub dX11_function_118 ?_
          obtain ⟨hi10, h⟩ := mv_chkE h
          refine mv_ild (by decide) rfl (mv_inE hi10) dX11_function_119 ?_
          refine mv_sub [] rfl ?_
          exact zX11_function_120 hd (M9.1 70 (((16 * x3) + x2) - 3).toNatClampNeg) M9 h
        · replace h := mv_ifT z h
          refine mv_aload_n 0 dX11_function_98 rfl ?_
          refine mv_getR 65 fX11_21 (by decide) rfl rfl rfl dX11_function_99 ?_
          refine mv_iload_n 2 dX11_function_102 rfl ?_
          obtain ⟨hi11, h⟩ := mv_chkE h
          refine mv_ild (by decide) rfl (mv_inE hi11) dX11_function_103 ?_
          refine mv_goto 120 dX11_function_104 (by decide) ?_
          refine mv_sub [] rfl ?_
          exact zX11_function_120 hd (M9.1 65 x3.toNatClampNeg) M9 h
      · replace h := mv_ifT z h
        refine mv_aload_n 0 dX11_function_84 rfl ?_
        refine mv_getR 67 fX11_27 (by decide) rfl rfl rfl dX11_function_85 ?_
        refine mv_iload_n 2 dX11_function_88 rfl ?_
        obtain ⟨hi12, h⟩ := mv_chkE h
        refine mv_ild (by decide) rfl (mv_inE hi12) dX11_function_89 ?_
        refine mv_goto 123 dX11_function_90 (by decide) ?_
        exact mv_iret rfl dX11_function_123 ⟨_, rfl, h⟩
    · replace h := mv_ifT z h
      refine mv_aload_n 0 dX11_function_70 rfl ?_
      refine mv_getR 66 fX11_24 (by decide) rfl rfl rfl dX11_function_71 ?_
      refine mv_iload_n 2 dX11_function_74 rfl ?_
      obtain ⟨hi13, h⟩ := mv_chkE h
      refine mv_ild (by decide) rfl (mv_inE hi13) dX11_function_75 ?_
      refine mv_goto 123 dX11_function_76 (by decide) ?_
      exact mv_iret rfl dX11_function_123 ⟨_, rfl, h⟩
  · replace h := mv_ifF z h
    refine mv_iconst 0 dX11_function_64 (by decide) ?_
    exact mv_iret rfl dX11_function_65 ⟨_, rfl, h⟩
noncomputable def fX11_function_53 (x2 : Int32) (x3 : Int32) (M : mv_M) : Option (Int32 × mv_M) :=
  fX11_function_54 x2 x3 1 M
set_option maxRecDepth 100000 in
set_option maxHeartbeats 4000000 in
theorem zX11_function_53 {l : Launch} {d : Nat} {Q : Int32 → mv_M → Prop} (hd : 2 ≤ d) (x2 : Int32) (x3 : Int32) (M : mv_M) (h : mv_ok (fX11_function_53 x2 x3 M) Q) : mv l mX11_function d 0 53 [(0, .ref 62), (2, .int x2), (3, .int x3)] [.ref 62] M (mv_qI Q) := by
  unfold fX11_function_53 at h
  refine mv_iconst 1 dX11_function_53 (by decide) ?_
  refine mv_sub [0, 1, 2] rfl ?_
  exact zX11_function_54 hd x2 x3 1 M h
noncomputable def fX11_function_40 (x2 : Int32) (x3 : Int32) (s0 : Int32) (s2 : Int32) (s3 : Int64) (s4 : Int64) (M : mv_M) : Option (Int32 × mv_M) :=
  mv_chk (mv_inb s0 24) <|
  mv_bind (fX11_within s4 s3 ((s2 + (M.1 66 s0.toNatClampNeg)).toInt64) M) fun r7 M8 =>
  if r7 = 0 then
    fX11_function_53 x2 x3 M8
  else
    fX11_function_54 x2 x3 0 M8
set_option maxRecDepth 100000 in
set_option maxHeartbeats 4000000 in
theorem zX11_function_40 {l : Launch} {d : Nat} {Q : Int32 → mv_M → Prop} (hd : 2 ≤ d) (x2 : Int32) (x3 : Int32) (s0 : Int32) (s2 : Int32) (s3 : Int64) (s4 : Int64) (M : mv_M) (h : mv_ok (fX11_function_40 x2 x3 s0 s2 s3 s4 M) Q) : mv l mX11_function d 0 40 [(0, .ref 62), (2, .int x2), (3, .int x3)] [.int s0, .ref 66, .int s2, .long s3, .long s4, .ref 62] M (mv_qI Q) := by
  unfold fX11_function_40 at h
  obtain ⟨hi6, h⟩ := mv_chkE h
  refine mv_ild (by decide) rfl (mv_inE hi6) dX11_function_40 ?_
  refine mv_iadd dX11_function_41 ?_
  refine mv_i2l dX11_function_42 ?_
  refine mv_csI (As := [.long s4, .long s3, .long ((s2 + (M.1 66 s0.toNatClampNeg)).toInt64)]) (st := [.ref 62]) okX11_within lX11_154 rfl (Nat.le_of_ble_eq_true rfl) rfl (Nat.le_of_ble_eq_true rfl) dX11_function_43 (by omega) rfl (zX11_within (d := d - 1) (by omega) s4 s3 ((s2 + (M.1 66 s0.toNatClampNeg)).toInt64) M (mv_bindE h)) (fun r7 M8 h => ?_)
  refine mv_if_eq 53 dX11_function_46 (by decide) (fun z => ?_) (fun z => ?_)
  · replace h := mv_ifT z h
    refine mv_sub [0, 1, 2] rfl ?_
    exact zX11_function_53 hd x2 x3 M8 h
  · replace h := mv_ifF z h
    refine mv_iconst 0 dX11_function_49 (by decide) ?_
    refine mv_goto 54 dX11_function_50 (by decide) ?_
    refine mv_sub [0, 1, 2] rfl ?_
    exact zX11_function_54 hd x2 x3 0 M8 h
noncomputable def fX11_function (a0 : Int32) (a1 : Int32) (M : mv_M) : Option (Int32 × mv_M) :=
  mv_let ((12 * (M.1 62 47)) + a0) fun v1 =>
  mv_bind (fX11_isFn a0 M) fun r2 M3 =>
  if r2 = 0 then
    fX11_function_53 a1 v1 M3
  else
    mv_bind (fX11_isFn a0 M3) fun r4 M5 =>
    if r4 = 0 then
      fX11_function_40 a1 v1 0 2 0 (a1.toInt64) M5
    else
      fX11_function_40 a1 v1 v1 2 0 (a1.toInt64) M5
set_option maxRecDepth 100000 in
set_option maxHeartbeats 4000000 in
theorem zX11_function {l : Launch} {d : Nat} {Q : Int32 → mv_M → Prop} (hd : 2 ≤ d) (a0 : Int32) (a1 : Int32) (M : mv_M) (h : mv_ok (fX11_function a0 a1 M) Q) : mv l mX11_function d 0 0 (lv_args 0 [.ref 62, .int a0, .int a1]) [] M (mv_qI Q) := by
  unfold fX11_function at h
  show mv l mX11_function d 0 0 [(0, .ref 62), (1, .int a0), (2, .int a1)] [] M (mv_qI Q)
  refine mv_bipush 12 dX11_function_0 (by decide) ?_
  refine mv_aload_n 0 dX11_function_2 rfl ?_
  refine mv_getI fX11_345 (by decide) rfl rfl dX11_function_3 ?_
  refine mv_imul dX11_function_6 ?_
  refine mv_iload_n 1 dX11_function_7 rfl ?_
  refine mv_iadd dX11_function_8 ?_
  refine mv_topi (fun v1 ev1 => ?_)
  replace h := mv_letE h v1 ev1
  refine mv_istore_n [(3, .int v1), (0, .ref 62), (1, .int a0), (2, .int a1)] dX11_function_9 (by decide) rfl ?_
  refine mv_aload_n 1 dX11_function_10 rfl ?_
  refine mv_aload_n 1 dX11_function_11 rfl ?_
  refine mv_iload_n 2 dX11_function_12 rfl ?_
  refine mv_cvI (As := [.int a0]) (st := [.ref 62]) okX11_isFn lX11_357 (by decide) rfl rfl rfl (Nat.le_of_ble_eq_true rfl) rfl (Nat.le_of_ble_eq_true rfl) dX11_function_13 (by omega) rfl (zX11_isFn (d := d - 1) (by omega) a0 M (mv_bindE h)) (fun r2 M3 h => ?_)
  refine mv_if_eq 53 dX11_function_16 (by decide) (fun z => ?_) (fun z => ?_)
  · replace h := mv_ifT z h
    refine mv_sub [1, 3, 0] rfl ?_
    exact zX11_function_53 hd a1 v1 M3 h
  · replace h := mv_ifF z h
    refine mv_iload_n 3 dX11_function_19 rfl ?_
    refine mv_i2l dX11_function_20 ?_
    refine mv_lconst 0 dX11_function_21 (by decide) ?_
    refine mv_iconst 2 dX11_function_22 (by decide) ?_
    refine mv_aload_n 1 dX11_function_23 rfl ?_
    refine mv_getR 66 fX11_24 (by decide) rfl rfl rfl dX11_function_24 ?_
    refine mv_aload_n 1 dX11_function_27 rfl ?_
    refine mv_iload_n 2 dX11_function_28 rfl ?_
    refine mv_cvI (As := [.int a0]) (st := [.ref 66, .int 2, .long 0, .long (a1.toInt64), .ref 62]) okX11_isFn lX11_357 (by decide) rfl rfl rfl (Nat.le_of_ble_eq_true rfl) rfl (Nat.le_of_ble_eq_true rfl) dX11_function_29 (by omega) rfl (zX11_isFn (d := d - 1) (by omega) a0 M3 (mv_bindE h)) (fun r4 M5 h => ?_)
    refine mv_if_eq 39 dX11_function_32 (by decide) (fun z => ?_) (fun z => ?_)
    · replace h := mv_ifT z h
      refine mv_iconst 0 dX11_function_39 (by decide) ?_
      refine mv_sub [1, 3, 0] rfl ?_
      exact zX11_function_40 hd a1 v1 0 2 0 (a1.toInt64) M5 h
    · replace h := mv_ifF z h
      refine mv_iload_n 0 dX11_function_35 rfl ?_
      refine mv_goto 40 dX11_function_36 (by decide) ?_
      refine mv_sub [1, 3, 0] rfl ?_
      exact zX11_function_40 hd a1 v1 v1 2 0 (a1.toInt64) M5 h
theorem dX11_asking_0 : decode cX11_asking 0 = .ok (.aload_n 0, 1) := by decide +kernel
theorem dX11_asking_1 : decode cX11_asking 1 = .ok (.getfield 242, 3) := by decide +kernel
theorem dX11_asking_4 : decode cX11_asking 4 = .ok (.sipush 3000, 3) := by decide +kernel
theorem dX11_asking_7 : decode cX11_asking 7 = .ok (.if_icmp .ge 29, 3) := by decide +kernel
theorem dX11_asking_10 : decode cX11_asking 10 = .ok (.iload 4, 2) := by decide +kernel
theorem dX11_asking_12 : decode cX11_asking 12 = .ok (.sipush 7900, 3) := by decide +kernel
theorem dX11_asking_15 : decode cX11_asking 15 = .ok (.if_icmp .gt 21, 3) := by decide +kernel
theorem dX11_asking_18 : decode cX11_asking 18 = .ok (.aload_n 0, 1) := by decide +kernel
theorem dX11_asking_19 : decode cX11_asking 19 = .ok (.getfield 87, 3) := by decide +kernel
theorem dX11_asking_22 : decode cX11_asking 22 = .ok (.aload_n 0, 1) := by decide +kernel
theorem dX11_asking_23 : decode cX11_asking 23 = .ok (.getfield 242, 3) := by decide +kernel
theorem dX11_asking_26 : decode cX11_asking 26 = .ok (.iload_n 3, 1) := by decide +kernel
theorem dX11_asking_27 : decode cX11_asking 27 = .ok (.iastore, 1) := by decide +kernel
theorem dX11_asking_28 : decode cX11_asking 28 = .ok (.aload_n 0, 1) := by decide +kernel
theorem dX11_asking_29 : decode cX11_asking 29 = .ok (.iload_n 1, 1) := by decide +kernel
theorem dX11_asking_30 : decode cX11_asking 30 = .ok (.iload_n 2, 1) := by decide +kernel
theorem dX11_asking_31 : decode cX11_asking 31 = .ok (.iload 4, 2) := by decide +kernel
theorem dX11_asking_33 : decode cX11_asking 33 = .ok (.invokevirtual 322, 3) := by decide +kernel
theorem dX11_asking_36 : decode cX11_asking 36 = .ok (.return_, 1) := by decide +kernel
noncomputable def fX11_asking (a0 : Int32) (a1 : Int32) (a2 : Int32) (a3 : Int32) (M : mv_M) : Option (Unit × mv_M) :=
  if 3000 ≤ (M.1 62 36) then
    some ((), M)
  else
    if 7900 < a3 then
      some ((), M)
    else
      mv_chk (mv_inb (M.1 62 36) 3000) <|
      mv_let (mv_si M 87 (M.1 62 36).toNatClampNeg a2) fun M2 =>
      mv_bind (fX11_task a0 a1 a3 M2) fun _ M3 =>
      some ((), M3)
set_option maxRecDepth 100000 in
set_option maxHeartbeats 4000000 in
theorem zX11_asking {l : Launch} {d : Nat} {Q : Unit → mv_M → Prop} (hd : 2 ≤ d) (a0 : Int32) (a1 : Int32) (a2 : Int32) (a3 : Int32) (M : mv_M) (h : mv_ok (fX11_asking a0 a1 a2 a3 M) Q) : mv l mX11_asking d 0 0 (lv_args 0 [.ref 62, .int a0, .int a1, .int a2, .int a3]) [] M (mv_qV Q) := by
  unfold fX11_asking at h
  show mv l mX11_asking d 0 0 [(0, .ref 62), (1, .int a0), (2, .int a1), (3, .int a2), (4, .int a3)] [] M (mv_qV Q)
  refine mv_aload_n 0 dX11_asking_0 rfl ?_
  refine mv_getI fX11_242 (by decide) rfl rfl dX11_asking_1 ?_
  refine mv_sipush 3000 dX11_asking_4 (by decide) ?_
  refine mv_icmp_ge 36 dX11_asking_7 (by decide) (fun z => ?_) (fun z => ?_)
  · replace h := mv_ifT z h
    exact mv_vret rfl dX11_asking_36 ⟨rfl, h⟩
  · replace h := mv_ifF z h
    refine mv_iload 4 dX11_asking_10 rfl ?_
    refine mv_sipush 7900 dX11_asking_12 (by decide) ?_
    refine mv_icmp_gt 36 dX11_asking_15 (by decide) (fun z => ?_) (fun z => ?_)
    · replace h := mv_ifT z h
      exact mv_vret rfl dX11_asking_36 ⟨rfl, h⟩
    · replace h := mv_ifF z h
      refine mv_aload_n 0 dX11_asking_18 rfl ?_
      refine mv_getR 87 fX11_87 (by decide) rfl rfl rfl dX11_asking_19 ?_
      refine mv_aload_n 0 dX11_asking_22 rfl ?_
      refine mv_getI fX11_242 (by decide) rfl rfl dX11_asking_23 ?_
      refine mv_iload_n 3 dX11_asking_26 rfl ?_
      obtain ⟨hi1, h⟩ := mv_chkE h
      refine mv_ist (by decide) rfl (mv_inE hi1) dX11_asking_27 (fun M2 eM2 => ?_)
      replace h := mv_letE h M2 eM2
      refine mv_aload_n 0 dX11_asking_28 rfl ?_
      refine mv_iload_n 1 dX11_asking_29 rfl ?_
      refine mv_iload_n 2 dX11_asking_30 rfl ?_
      refine mv_iload 4 dX11_asking_31 rfl ?_
      refine mv_cvV (As := [.int a0, .int a1, .int a3]) (st := []) okX11_task lX11_322 (by decide) rfl rfl rfl (Nat.le_of_ble_eq_true rfl) rfl (Nat.le_of_ble_eq_true rfl) dX11_asking_33 (by omega) rfl (zX11_task (d := d - 1) (by omega) a0 a1 a3 M2 (mv_bindE h)) (fun _ M3 h => ?_)
      exact mv_vret rfl dX11_asking_36 ⟨rfl, h⟩
theorem dX11_join_0 : decode cX11_join 0 = .ok (.aload_n 0, 1) := by decide +kernel
theorem dX11_join_1 : decode cX11_join 1 = .ok (.getfield 93, 3) := by decide +kernel
theorem dX11_join_4 : decode cX11_join 4 = .ok (.iload_n 1, 1) := by decide +kernel
theorem dX11_join_5 : decode cX11_join 5 = .ok (.bipush 16, 2) := by decide +kernel
theorem dX11_join_7 : decode cX11_join 7 = .ok (.idiv, 1) := by decide +kernel
theorem dX11_join_8 : decode cX11_join 8 = .ok (.baload, 1) := by decide +kernel
theorem dX11_join_9 : decode cX11_join 9 = .ok (.istore_n 3, 1) := by decide +kernel
theorem dX11_join_10 : decode cX11_join 10 = .ok (.aload_n 0, 1) := by decide +kernel
theorem dX11_join_11 : decode cX11_join 11 = .ok (.getfield 93, 3) := by decide +kernel
theorem dX11_join_14 : decode cX11_join 14 = .ok (.iload_n 1, 1) := by decide +kernel
theorem dX11_join_15 : decode cX11_join 15 = .ok (.bipush 16, 2) := by decide +kernel
theorem dX11_join_17 : decode cX11_join 17 = .ok (.idiv, 1) := by decide +kernel
theorem dX11_join_18 : decode cX11_join 18 = .ok (.iconst 1, 1) := by decide +kernel
theorem dX11_join_19 : decode cX11_join 19 = .ok (.iadd, 1) := by decide +kernel
theorem dX11_join_20 : decode cX11_join 20 = .ok (.baload, 1) := by decide +kernel
theorem dX11_join_21 : decode cX11_join 21 = .ok (.istore 4, 2) := by decide +kernel
theorem dX11_join_23 : decode cX11_join 23 = .ok (.iconst 0, 1) := by decide +kernel
theorem dX11_join_24 : decode cX11_join 24 = .ok (.istore 5, 2) := by decide +kernel
theorem dX11_join_26 : decode cX11_join 26 = .ok (.iload 5, 2) := by decide +kernel
theorem dX11_join_28 : decode cX11_join 28 = .ok (.aload_n 0, 1) := by decide +kernel
theorem dX11_join_29 : decode cX11_join 29 = .ok (.getfield 27, 3) := by decide +kernel
theorem dX11_join_32 : decode cX11_join 32 = .ok (.aload_n 0, 1) := by decide +kernel
theorem dX11_join_33 : decode cX11_join 33 = .ok (.getfield 239, 3) := by decide +kernel
theorem dX11_join_36 : decode cX11_join 36 = .ok (.iaload, 1) := by decide +kernel
theorem dX11_join_37 : decode cX11_join 37 = .ok (.if_icmp .ge 93, 3) := by decide +kernel
theorem dX11_join_40 : decode cX11_join 40 = .ok (.aload_n 0, 1) := by decide +kernel
theorem dX11_join_41 : decode cX11_join 41 = .ok (.getfield 90, 3) := by decide +kernel
theorem dX11_join_44 : decode cX11_join 44 = .ok (.iload_n 1, 1) := by decide +kernel
theorem dX11_join_45 : decode cX11_join 45 = .ok (.iload 5, 2) := by decide +kernel
theorem dX11_join_47 : decode cX11_join 47 = .ok (.iadd, 1) := by decide +kernel
theorem dX11_join_48 : decode cX11_join 48 = .ok (.iaload, 1) := by decide +kernel
theorem dX11_join_49 : decode cX11_join 49 = .ok (.istore 6, 2) := by decide +kernel
theorem dX11_join_51 : decode cX11_join 51 = .ok (.aload_n 0, 1) := by decide +kernel
theorem dX11_join_52 : decode cX11_join 52 = .ok (.getfield 90, 3) := by decide +kernel
theorem dX11_join_55 : decode cX11_join 55 = .ok (.iload_n 1, 1) := by decide +kernel
theorem dX11_join_56 : decode cX11_join 56 = .ok (.bipush 16, 2) := by decide +kernel
theorem dX11_join_58 : decode cX11_join 58 = .ok (.iadd, 1) := by decide +kernel
theorem dX11_join_59 : decode cX11_join 59 = .ok (.iload 5, 2) := by decide +kernel
theorem dX11_join_61 : decode cX11_join 61 = .ok (.iadd, 1) := by decide +kernel
theorem dX11_join_62 : decode cX11_join 62 = .ok (.iaload, 1) := by decide +kernel
theorem dX11_join_63 : decode cX11_join 63 = .ok (.istore 7, 2) := by decide +kernel
theorem dX11_join_65 : decode cX11_join 65 = .ok (.aload_n 0, 1) := by decide +kernel
theorem dX11_join_66 : decode cX11_join 66 = .ok (.getfield 90, 3) := by decide +kernel
theorem dX11_join_69 : decode cX11_join 69 = .ok (.iload_n 1, 1) := by decide +kernel
theorem dX11_join_70 : decode cX11_join 70 = .ok (.iload 5, 2) := by decide +kernel
theorem dX11_join_72 : decode cX11_join 72 = .ok (.iadd, 1) := by decide +kernel
theorem dX11_join_73 : decode cX11_join 73 = .ok (.iload_n 2, 1) := by decide +kernel
theorem dX11_join_74 : decode cX11_join 74 = .ok (.ifCond .ne 12, 3) := by decide +kernel
theorem dX11_join_77 : decode cX11_join 77 = .ok (.iload_n 3, 1) := by decide +kernel
theorem dX11_join_78 : decode cX11_join 78 = .ok (.ifCond .eq 8, 3) := by decide +kernel
theorem dX11_join_81 : decode cX11_join 81 = .ok (.iload 7, 2) := by decide +kernel
theorem dX11_join_83 : decode cX11_join 83 = .ok (.goto 40, 3) := by decide +kernel
theorem dX11_join_86 : decode cX11_join 86 = .ok (.iload_n 2, 1) := by decide +kernel
theorem dX11_join_87 : decode cX11_join 87 = .ok (.ifCond .ne 13, 3) := by decide +kernel
theorem dX11_join_90 : decode cX11_join 90 = .ok (.iload 4, 2) := by decide +kernel
theorem dX11_join_92 : decode cX11_join 92 = .ok (.ifCond .eq 8, 3) := by decide +kernel
theorem dX11_join_95 : decode cX11_join 95 = .ok (.iload 6, 2) := by decide +kernel
theorem dX11_join_97 : decode cX11_join 97 = .ok (.goto 26, 3) := by decide +kernel
theorem dX11_join_100 : decode cX11_join 100 = .ok (.aload_n 0, 1) := by decide +kernel
theorem dX11_join_101 : decode cX11_join 101 = .ok (.getfield 36, 3) := by decide +kernel
theorem dX11_join_104 : decode cX11_join 104 = .ok (.bipush 16, 2) := by decide +kernel
theorem dX11_join_106 : decode cX11_join 106 = .ok (.aload_n 0, 1) := by decide +kernel
theorem dX11_join_107 : decode cX11_join 107 = .ok (.getfield 239, 3) := by decide +kernel
theorem dX11_join_110 : decode cX11_join 110 = .ok (.imul, 1) := by decide +kernel
theorem dX11_join_111 : decode cX11_join 111 = .ok (.iload 5, 2) := by decide +kernel
theorem dX11_join_113 : decode cX11_join 113 = .ok (.iadd, 1) := by decide +kernel
theorem dX11_join_114 : decode cX11_join 114 = .ok (.iaload, 1) := by decide +kernel
theorem dX11_join_115 : decode cX11_join 115 = .ok (.iload 6, 2) := by decide +kernel
theorem dX11_join_117 : decode cX11_join 117 = .ok (.iload 7, 2) := by decide +kernel
theorem dX11_join_119 : decode cX11_join 119 = .ok (.iload_n 2, 1) := by decide +kernel
theorem dX11_join_120 : decode cX11_join 120 = .ok (.invokestatic 360, 3) := by decide +kernel
theorem dX11_join_123 : decode cX11_join 123 = .ok (.iastore, 1) := by decide +kernel
theorem dX11_join_124 : decode cX11_join 124 = .ok (.iinc 5 1, 3) := by decide +kernel
theorem dX11_join_127 : decode cX11_join 127 = .ok (.goto (-101), 3) := by decide +kernel
theorem dX11_join_130 : decode cX11_join 130 = .ok (.aload_n 0, 1) := by decide +kernel
theorem dX11_join_131 : decode cX11_join 131 = .ok (.getfield 93, 3) := by decide +kernel
theorem dX11_join_134 : decode cX11_join 134 = .ok (.iload_n 1, 1) := by decide +kernel
theorem dX11_join_135 : decode cX11_join 135 = .ok (.bipush 16, 2) := by decide +kernel
theorem dX11_join_137 : decode cX11_join 137 = .ok (.idiv, 1) := by decide +kernel
theorem dX11_join_138 : decode cX11_join 138 = .ok (.iload_n 2, 1) := by decide +kernel
theorem dX11_join_139 : decode cX11_join 139 = .ok (.ifCond .eq 20, 3) := by decide +kernel
theorem dX11_join_142 : decode cX11_join 142 = .ok (.iload_n 3, 1) := by decide +kernel
theorem dX11_join_143 : decode cX11_join 143 = .ok (.ifCond .ne 8, 3) := by decide +kernel
theorem dX11_join_146 : decode cX11_join 146 = .ok (.iload 4, 2) := by decide +kernel
theorem dX11_join_148 : decode cX11_join 148 = .ok (.ifCond .eq 7, 3) := by decide +kernel
theorem dX11_join_151 : decode cX11_join 151 = .ok (.iconst 1, 1) := by decide +kernel
theorem dX11_join_152 : decode cX11_join 152 = .ok (.goto 21, 3) := by decide +kernel
theorem dX11_join_155 : decode cX11_join 155 = .ok (.iconst 0, 1) := by decide +kernel
theorem dX11_join_156 : decode cX11_join 156 = .ok (.goto 17, 3) := by decide +kernel
theorem dX11_join_159 : decode cX11_join 159 = .ok (.iload_n 3, 1) := by decide +kernel
theorem dX11_join_160 : decode cX11_join 160 = .ok (.ifCond .eq 12, 3) := by decide +kernel
theorem dX11_join_163 : decode cX11_join 163 = .ok (.iload 4, 2) := by decide +kernel
theorem dX11_join_165 : decode cX11_join 165 = .ok (.ifCond .eq 7, 3) := by decide +kernel
theorem dX11_join_168 : decode cX11_join 168 = .ok (.iconst 1, 1) := by decide +kernel
theorem dX11_join_169 : decode cX11_join 169 = .ok (.goto 4, 3) := by decide +kernel
theorem dX11_join_172 : decode cX11_join 172 = .ok (.iconst 0, 1) := by decide +kernel
theorem dX11_join_173 : decode cX11_join 173 = .ok (.bastore, 1) := by decide +kernel
theorem dX11_join_174 : decode cX11_join 174 = .ok (.return_, 1) := by decide +kernel
noncomputable def fX11_join_123 (x1 : Int32) (x2 : Int32) (x3 : Int32) (x4 : Int32) (x5 : Int32) (s0 : Int32) (s1 : Int32) (M : mv_M) : Option (((Int32 × Int32 × Int32 × Int32 × Int32) ⊕ Unit) × mv_M) :=
  mv_chk (mv_inb s1 8000) <|
  mv_let (mv_si M 88 s1.toNatClampNeg s0) fun M13 =>
  mv_let (x5 + 1) fun v14 =>
  some (.inl (x1, x2, x3, x4, v14), M13)
set_option maxRecDepth 100000 in
set_option maxHeartbeats 4000000 in
theorem zX11_join_123 {l : Launch} {d : Nat} {Q : Unit → mv_M → Prop} (hd : 3 ≤ d) (x1 : Int32) (x2 : Int32) (x3 : Int32) (x4 : Int32) (x5 : Int32) (s0 : Int32) (s1 : Int32) (M : mv_M) (h : mv_ok (fX11_join_123 x1 x2 x3 x4 x5 s0 s1 M) (mv_pq (fun (s : Int32 × Int32 × Int32 × Int32 × Int32) M => mv l mX11_join d 0 26 [(0, .ref 62), (1, .int s.1), (2, .int s.2.1), (3, .int s.2.2.1), (4, .int s.2.2.2.1), (5, .int s.2.2.2.2)] [] M (mv_qV Q)) Q)) : mv l mX11_join d 0 123 [(0, .ref 62), (1, .int x1), (2, .int x2), (3, .int x3), (4, .int x4), (5, .int x5)] [.int s0, .int s1, .ref 88] M (mv_qV Q) := by
  unfold fX11_join_123 at h
  obtain ⟨hi12, h⟩ := mv_chkE h
  refine mv_ist (by decide) rfl (mv_inE hi12) dX11_join_123 (fun M13 eM13 => ?_)
  replace h := mv_letE h M13 eM13
  obtain ⟨v14, ev14⟩ : ∃ z : Int32, z = x5 + 1 := ⟨_, rfl⟩
  replace h := mv_letE h v14 ev14
  refine mv_iinc v14 5 [(5, .int v14), (0, .ref 62), (1, .int x1), (2, .int x2), (3, .int x3), (4, .int x4)] dX11_join_124 rfl (by rw [ev14]; rfl) (by decide) rfl ?_
  refine mv_goto 26 dX11_join_127 (by decide) ?_
  refine mv_sub [1, 2, 3, 4, 5, 0] rfl ?_
  exact h
noncomputable def fX11_join_100 (x1 : Int32) (x2 : Int32) (x3 : Int32) (x4 : Int32) (x5 : Int32) (x6 : Int32) (x7 : Int32) (s0 : Int32) (M : mv_M) : Option (((Int32 × Int32 × Int32 × Int32 × Int32) ⊕ Unit) × mv_M) :=
  mv_chk (mv_inb ((16 * (M.1 62 33)) + x5) 384) <|
  mv_bind (fX11_joined (M.1 70 ((16 * (M.1 62 33)) + x5).toNatClampNeg) x6 x7 x2 M) fun r16 M17 =>
  fX11_join_123 x1 x2 x3 x4 x5 r16 s0 M17
set_option maxRecDepth 100000 in
set_option maxHeartbeats 4000000 in
theorem zX11_join_100 {l : Launch} {d : Nat} {Q : Unit → mv_M → Prop} (hd : 3 ≤ d) (x1 : Int32) (x2 : Int32) (x3 : Int32) (x4 : Int32) (x5 : Int32) (x6 : Int32) (x7 : Int32) (s0 : Int32) (M : mv_M) (h : mv_ok (fX11_join_100 x1 x2 x3 x4 x5 x6 x7 s0 M) (mv_pq (fun (s : Int32 × Int32 × Int32 × Int32 × Int32) M => mv l mX11_join d 0 26 [(0, .ref 62), (1, .int s.1), (2, .int s.2.1), (3, .int s.2.2.1), (4, .int s.2.2.2.1), (5, .int s.2.2.2.2)] [] M (mv_qV Q)) Q)) : mv l mX11_join d 0 100 [(0, .ref 62), (1, .int x1), (2, .int x2), (3, .int x3), (4, .int x4), (5, .int x5), (6, .int x6), (7, .int x7)] [.int s0, .ref 88] M (mv_qV Q) := by
  unfold fX11_join_100 at h
  refine mv_aload_n 0 dX11_join_100 rfl ?_
  refine mv_getR 70 fX11_36 (by decide) rfl rfl rfl dX11_join_101 ?_
  refine mv_bipush 16 dX11_join_104 (by decide) ?_
  refine mv_aload_n 0 dX11_join_106 rfl ?_
  refine mv_getI fX11_239 (by decide) rfl rfl dX11_join_107 ?_
  refine mv_imul dX11_join_110 ?_
  refine mv_iload 5 dX11_join_111 rfl ?_
  refine mv_iadd dX11_join_113 ?_
  obtain ⟨hi15, h⟩ := mv_chkE h
  refine mv_ild (by decide) rfl (mv_inE hi15) dX11_join_114 ?_
  refine mv_iload 6 dX11_join_115 rfl ?_
  refine mv_iload 7 dX11_join_117 rfl ?_
  refine mv_iload_n 2 dX11_join_119 rfl ?_
  refine mv_csI (As := [.int (M.1 70 ((16 * (M.1 62 33)) + x5).toNatClampNeg), .int x6, .int x7, .int x2]) (st := [.int s0, .ref 88]) okX11_joined lX11_360 rfl (Nat.le_of_ble_eq_true rfl) rfl (Nat.le_of_ble_eq_true rfl) dX11_join_120 (by omega) rfl (zX11_joined (d := d - 1) (by omega) (M.1 70 ((16 * (M.1 62 33)) + x5).toNatClampNeg) x6 x7 x2 M (mv_bindE h)) (fun r16 M17 h => ?_)
  refine mv_sub [0, 1, 2, 3, 4, 5] rfl ?_
  exact zX11_join_123 hd x1 x2 x3 x4 x5 r16 s0 M17 h
noncomputable def fX11_join_86 (x1 : Int32) (x2 : Int32) (x3 : Int32) (x4 : Int32) (x5 : Int32) (x6 : Int32) (x7 : Int32) (s0 : Int32) (M : mv_M) : Option (((Int32 × Int32 × Int32 × Int32 × Int32) ⊕ Unit) × mv_M) :=
  if x2 = 0 then
    if x4 = 0 then
      fX11_join_100 x1 x2 x3 x4 x5 x6 x7 s0 M
    else
      fX11_join_123 x1 x2 x3 x4 x5 x6 s0 M
  else
    fX11_join_100 x1 x2 x3 x4 x5 x6 x7 s0 M
set_option maxRecDepth 100000 in
set_option maxHeartbeats 4000000 in
theorem zX11_join_86 {l : Launch} {d : Nat} {Q : Unit → mv_M → Prop} (hd : 3 ≤ d) (x1 : Int32) (x2 : Int32) (x3 : Int32) (x4 : Int32) (x5 : Int32) (x6 : Int32) (x7 : Int32) (s0 : Int32) (M : mv_M) (h : mv_ok (fX11_join_86 x1 x2 x3 x4 x5 x6 x7 s0 M) (mv_pq (fun (s : Int32 × Int32 × Int32 × Int32 × Int32) M => mv l mX11_join d 0 26 [(0, .ref 62), (1, .int s.1), (2, .int s.2.1), (3, .int s.2.2.1), (4, .int s.2.2.2.1), (5, .int s.2.2.2.2)] [] M (mv_qV Q)) Q)) : mv l mX11_join d 0 86 [(0, .ref 62), (1, .int x1), (2, .int x2), (3, .int x3), (4, .int x4), (5, .int x5), (6, .int x6), (7, .int x7)] [.int s0, .ref 88] M (mv_qV Q) := by
  unfold fX11_join_86 at h
  refine mv_iload_n 2 dX11_join_86 rfl ?_
  refine mv_if_ne 100 dX11_join_87 (by decide) (fun z => ?_) (fun z => ?_)
  · replace h := mv_ifF z h
    refine mv_sub [0, 1, 2, 3, 4, 5, 6, 7] rfl ?_
    exact zX11_join_100 hd x1 x2 x3 x4 x5 x6 x7 s0 M h
  · replace h := mv_ifT z h
    refine mv_iload 4 dX11_join_90 rfl ?_
    refine mv_if_eq 100 dX11_join_92 (by decide) (fun z => ?_) (fun z => ?_)
    · replace h := mv_ifT z h
      refine mv_sub [0, 1, 2, 3, 4, 5, 6, 7] rfl ?_
      exact zX11_join_100 hd x1 x2 x3 x4 x5 x6 x7 s0 M h
    · replace h := mv_ifF z h
      refine mv_iload 6 dX11_join_95 rfl ?_
      refine mv_goto 123 dX11_join_97 (by decide) ?_
      refine mv_sub [0, 1, 2, 3, 4, 5] rfl ?_
      exact zX11_join_123 hd x1 x2 x3 x4 x5 x6 s0 M h
noncomputable def fX11_join_173 (s0 : Int32) (s1 : Int32) (M : mv_M) : Option (Unit × mv_M) :=
  mv_chk (mv_inb s1 500) <|
  mv_let (mv_si M 89 s1.toNatClampNeg (vp_nar .boolean s0)) fun M11 =>
  some ((), M11)
set_option maxRecDepth 100000 in
set_option maxHeartbeats 4000000 in
theorem zX11_join_173 {l : Launch} {d : Nat} {Q : Unit → mv_M → Prop} (hd : 3 ≤ d) (s0 : Int32) (s1 : Int32) (M : mv_M) (h : mv_ok (fX11_join_173 s0 s1 M) Q) : mv l mX11_join d 0 173 [] [.int s0, .int s1, .ref 89] M (mv_qV Q) := by
  unfold fX11_join_173 at h
  obtain ⟨hi10, h⟩ := mv_chkE h
  refine mv_zst (by decide) rfl (mv_inE hi10) dX11_join_173 (fun M11 eM11 => ?_)
  replace h := mv_letE h M11 eM11
  exact mv_vret rfl dX11_join_174 ⟨rfl, h⟩
noncomputable def fX11_join_151 (s0 : Int32) (M : mv_M) : Option (Unit × mv_M) :=
  fX11_join_173 1 s0 M
set_option maxRecDepth 100000 in
set_option maxHeartbeats 4000000 in
theorem zX11_join_151 {l : Launch} {d : Nat} {Q : Unit → mv_M → Prop} (hd : 3 ≤ d) (s0 : Int32) (M : mv_M) (h : mv_ok (fX11_join_151 s0 M) Q) : mv l mX11_join d 0 151 [] [.int s0, .ref 89] M (mv_qV Q) := by
  unfold fX11_join_151 at h
  refine mv_iconst 1 dX11_join_151 (by decide) ?_
  refine mv_goto 173 dX11_join_152 (by decide) ?_
  refine mv_sub [] rfl ?_
  exact zX11_join_173 hd 1 s0 M h
noncomputable def fX11_join_172 (s0 : Int32) (M : mv_M) : Option (Unit × mv_M) :=
  fX11_join_173 0 s0 M
set_option maxRecDepth 100000 in
set_option maxHeartbeats 4000000 in
theorem zX11_join_172 {l : Launch} {d : Nat} {Q : Unit → mv_M → Prop} (hd : 3 ≤ d) (s0 : Int32) (M : mv_M) (h : mv_ok (fX11_join_172 s0 M) Q) : mv l mX11_join d 0 172 [] [.int s0, .ref 89] M (mv_qV Q) := by
  unfold fX11_join_172 at h
  refine mv_iconst 0 dX11_join_172 (by decide) ?_
  refine mv_sub [] rfl ?_
  exact zX11_join_173 hd 0 s0 M h
noncomputable def gX11_join_26 (x1 : Int32) (x2 : Int32) (x3 : Int32) (x4 : Int32) (x5 : Int32) (M : mv_M) : Option (((Int32 × Int32 × Int32 × Int32 × Int32) ⊕ Unit) × mv_M) :=
  mv_chk (mv_inb (M.1 62 33) 24) <|
  if (M.1 67 (M.1 62 33).toNatClampNeg) ≤ x5 then
    if x2 = 0 then
      if x3 = 0 then
        mv_inr (fX11_join_172 (x1 / 16) M)
      else
        if x4 = 0 then
          mv_inr (fX11_join_172 (x1 / 16) M)
        else
          mv_inr (fX11_join_173 1 (x1 / 16) M)
    else
      if x3 = 0 then
        if x4 = 0 then
          mv_inr (fX11_join_173 0 (x1 / 16) M)
        else
          mv_inr (fX11_join_151 (x1 / 16) M)
      else
        mv_inr (fX11_join_151 (x1 / 16) M)
  else
    mv_chk (mv_inb (x1 + x5) 8000) <|
    mv_let (M.1 88 (x1 + x5).toNatClampNeg) fun v7 =>
    mv_chk (mv_inb ((x1 + 16) + x5) 8000) <|
    mv_let (M.1 88 ((x1 + 16) + x5).toNatClampNeg) fun v9 =>
    if x2 = 0 then
      if x3 = 0 then
        fX11_join_86 x1 x2 x3 x4 x5 v7 v9 (x1 + x5) M
      else
        fX11_join_123 x1 x2 x3 x4 x5 v9 (x1 + x5) M
    else
      fX11_join_86 x1 x2 x3 x4 x5 v7 v9 (x1 + x5) M
noncomputable def fX11_join_26 (x1 : Int32) (x2 : Int32) (x3 : Int32) (x4 : Int32) (x5 : Int32) (M : mv_M) : Option (Unit × mv_M) := mv_loop (fun (s : Int32 × Int32 × Int32 × Int32 × Int32) M => gX11_join_26 s.1 s.2.1 s.2.2.1 s.2.2.2.1 s.2.2.2.2 M) (x1, x2, x3, x4, x5) M
set_option maxRecDepth 100000 in
set_option maxHeartbeats 4000000 in
theorem zX11_join_26 {l : Launch} {d : Nat} {Q : Unit → mv_M → Prop} (hd : 3 ≤ d) (x1 : Int32) (x2 : Int32) (x3 : Int32) (x4 : Int32) (x5 : Int32) (M : mv_M) (h : mv_ok (fX11_join_26 x1 x2 x3 x4 x5 M) Q) : mv l mX11_join d 0 26 [(0, .ref 62), (1, .int x1), (2, .int x2), (3, .int x3), (4, .int x4), (5, .int x5)] [] M (mv_qV Q) := by
  unfold fX11_join_26 at h
  refine mv_loopE (A := (fun (s : Int32 × Int32 × Int32 × Int32 × Int32) M => mv l mX11_join d 0 26 [(0, .ref 62), (1, .int s.1), (2, .int s.2.1), (3, .int s.2.2.1), (4, .int s.2.2.2.1), (5, .int s.2.2.2.2)] [] M (mv_qV Q))) ?_ (x1, x2, x3, x4, x5) M h
  · rintro ⟨x1, x2, x3, x4, x5⟩ M h
    try dsimp only at h
    show mv l mX11_join d 0 26 [(0, .ref 62), (1, .int x1), (2, .int x2), (3, .int x3), (4, .int x4), (5, .int x5)] [] M (mv_qV Q)
    unfold gX11_join_26 at h
    refine mv_iload 5 dX11_join_26 rfl ?_
    refine mv_aload_n 0 dX11_join_28 rfl ?_
    refine mv_getR 67 fX11_27 (by decide) rfl rfl rfl dX11_join_29 ?_
    refine mv_aload_n 0 dX11_join_32 rfl ?_
    refine mv_getI fX11_239 (by decide) rfl rfl dX11_join_33 ?_
    obtain ⟨hi5, h⟩ := mv_chkE h
    refine mv_ild (by decide) rfl (mv_inE hi5) dX11_join_36 ?_
    refine mv_icmp_ge 130 dX11_join_37 (by decide) (fun z => ?_) (fun z => ?_)
    · replace h := mv_ifT z h
      refine mv_aload_n 0 dX11_join_130 rfl ?_
      refine mv_getR 89 fX11_93 (by decide) rfl rfl rfl dX11_join_131 ?_
      refine mv_iload_n 1 dX11_join_134 rfl ?_
      refine mv_bipush 16 dX11_join_135 (by decide) ?_
      refine mv_idiv dX11_join_137 (by decide) ?_
      refine mv_iload_n 2 dX11_join_138 rfl ?_
      refine mv_if_eq 159 dX11_join_139 (by decide) (fun z => ?_) (fun z => ?_)
      · replace h := mv_ifT z h
        refine mv_iload_n 3 dX11_join_159 rfl ?_
        refine mv_if_eq 172 dX11_join_160 (by decide) (fun z => ?_) (fun z => ?_)
        · replace h := mv_ifT z h
          refine mv_sub [] rfl ?_
          exact zX11_join_172 hd (x1 / 16) M (mv_inrE h)
        · replace h := mv_ifF z h
          refine mv_iload 4 dX11_join_163 rfl ?_
          refine mv_if_eq 172 dX11_join_165 (by decide) (fun z => ?_) (fun z => ?_)
          · replace h := mv_ifT z h
            refine mv_sub [] rfl ?_
            exact zX11_join_172 hd (x1 / 16) M (mv_inrE h)
          · replace h := mv_ifF z h
            refine mv_iconst 1 dX11_join_168 (by decide) ?_
            refine mv_goto 173 dX11_join_169 (by decide) ?_
            refine mv_sub [] rfl ?_
            exact zX11_join_173 hd 1 (x1 / 16) M (mv_inrE h)
      · replace h := mv_ifF z h
        refine mv_iload_n 3 dX11_join_142 rfl ?_
        refine mv_if_ne 151 dX11_join_143 (by decide) (fun z => ?_) (fun z => ?_)
        · replace h := mv_ifF z h
          refine mv_sub [] rfl ?_
          exact zX11_join_151 hd (x1 / 16) M (mv_inrE h)
        · replace h := mv_ifT z h
          refine mv_iload 4 dX11_join_146 rfl ?_
          refine mv_if_eq 155 dX11_join_148 (by decide) (fun z => ?_) (fun z => ?_)
          · replace h := mv_ifT z h
            refine mv_iconst 0 dX11_join_155 (by decide) ?_
            refine mv_goto 173 dX11_join_156 (by decide) ?_
            refine mv_sub [] rfl ?_
            exact zX11_join_173 hd 0 (x1 / 16) M (mv_inrE h)
          · replace h := mv_ifF z h
            refine mv_sub [] rfl ?_
            exact zX11_join_151 hd (x1 / 16) M (mv_inrE h)
    · replace h := mv_ifF z h
      refine mv_aload_n 0 dX11_join_40 rfl ?_
      refine mv_getR 88 fX11_90 (by decide) rfl rfl rfl dX11_join_41 ?_
      refine mv_iload_n 1 dX11_join_44 rfl ?_
      refine mv_iload 5 dX11_join_45 rfl ?_
      refine mv_iadd dX11_join_47 ?_
      obtain ⟨hi6, h⟩ := mv_chkE h
      refine mv_ild (by decide) rfl (mv_inE hi6) dX11_join_48 ?_
      refine mv_topi (fun v7 ev7 => ?_)
      replace h := mv_letE h v7 ev7
      refine mv_istore [(6, .int v7), (0, .ref 62), (1, .int x1), (2, .int x2), (3, .int x3), (4, .int x4), (5, .int x5)] dX11_join_49 (by decide) rfl ?_
      refine mv_aload_n 1 dX11_join_51 rfl ?_
      refine mv_getR 88 fX11_90 (by decide) rfl rfl rfl dX11_join_52 ?_
      refine mv_iload_n 2 dX11_join_55 rfl ?_
      refine mv_bipush 16 dX11_join_56 (by decide) ?_
      refine mv_iadd dX11_join_58 ?_
      refine mv_iload 6 dX11_join_59 rfl ?_
      refine mv_iadd dX11_join_61 ?_
      obtain ⟨hi8, h⟩ := mv_chkE h
      refine mv_ild (by decide) rfl (mv_inE hi8) dX11_join_62 ?_
      refine mv_topi (fun v9 ev9 => ?_)
      replace h := mv_letE h v9 ev9
      refine mv_istore [(7, .int v9), (6, .int v7), (0, .ref 62), (1, .int x1), (2, .int x2), (3, .int x3), (4, .int x4), (5, .int x5)] dX11_join_63 (by decide) rfl ?_
      refine mv_aload_n 2 dX11_join_65 rfl ?_
      refine mv_getR 88 fX11_90 (by decide) rfl rfl rfl dX11_join_66 ?_
      refine mv_iload_n 3 dX11_join_69 rfl ?_
      refine mv_iload 7 dX11_join_70 rfl ?_
      refine mv_iadd dX11_join_72 ?_
      refine mv_iload_n 4 dX11_join_73 rfl ?_
      refine mv_if_ne 86 dX11_join_74 (by decide) (fun z => ?_) (fun z => ?_)
      · replace h := mv_ifF z h
        refine mv_sub [2, 3, 4, 5, 6, 7, 1, 0] rfl ?_
        exact zX11_join_86 hd x1 x2 x3 x4 x5 v7 v9 (x1 + x5) M h
      · replace h := mv_ifT z h
        refine mv_iload_n 5 dX11_join_77 rfl ?_
        refine mv_if_eq 86 dX11_join_78 (by decide) (fun z => ?_) (fun z => ?_)
        · replace h := mv_ifT z h
          refine mv_sub [2, 3, 4, 5, 6, 7, 1, 0] rfl ?_
          exact zX11_join_86 hd x1 x2 x3 x4 x5 v7 v9 (x1 + x5) M h
        · replace h := mv_ifF z h
          refine mv_iload 0 dX11_join_81 rfl ?_
          refine mv_goto 123 dX11_join_83 (by decide) ?_
          refine mv_sub [2, 3, 4, 5, 6, 7] rfl ?_
          exact zX11_join_123 hd x1 x2 x3 x4 x5 v9 (x1 + x5) M h
noncomputable def fX11_join (a0 : Int32) (a1 : Int32) (M : mv_M) : Option (Unit × mv_M) :=
  mv_chk (mv_inb (a0 / 16) 500) <|
  mv_let (M.1 89 (a0 / 16).toNatClampNeg) fun v2 =>
  mv_chk (mv_inb ((a0 / 16) + 1) 500) <|
  mv_let (M.1 89 ((a0 / 16) + 1).toNatClampNeg) fun v4 =>
  fX11_join_26 a0 a1 v2 v4 0 M
set_option maxRecDepth 100000 in
set_option maxHeartbeats 4000000 in
theorem zX11_join {l : Launch} {d : Nat} {Q : Unit → mv_M → Prop} (hd : 3 ≤ d) (a0 : Int32) (a1 : Int32) (M : mv_M) (h : mv_ok (fX11_join a0 a1 M) Q) : mv l mX11_join d 0 0 (lv_args 0 [.ref 62, .int a0, .int a1]) [] M (mv_qV Q) := by
  unfold fX11_join at h
  show mv l mX11_join d 0 0 [(0, .ref 62), (1, .int a0), (2, .int a1)] [] M (mv_qV Q)
  refine mv_aload_n 0 dX11_join_0 rfl ?_
  refine mv_getR 89 fX11_93 (by decide) rfl rfl rfl dX11_join_1 ?_
  refine mv_iload_n 1 dX11_join_4 rfl ?_
  refine mv_bipush 16 dX11_join_5 (by decide) ?_
  refine mv_idiv dX11_join_7 (by decide) ?_
  obtain ⟨hi1, h⟩ := mv_chkE h
  refine mv_zld (by decide) rfl (mv_inE hi1) dX11_join_8 ?_
  refine mv_topi (fun v2 ev2 => ?_)
  replace h := mv_letE h v2 ev2
  refine mv_istore_n [(3, .int v2), (0, .ref 62), (1, .int a0), (2, .int a1)] dX11_join_9 (by decide) rfl ?_
  refine mv_aload_n 1 dX11_join_10 rfl ?_
  refine mv_getR 89 fX11_93 (by decide) rfl rfl rfl dX11_join_11 ?_
  refine mv_iload_n 2 dX11_join_14 rfl ?_
  refine mv_bipush 16 dX11_join_15 (by decide) ?_
  refine mv_idiv dX11_join_17 (by decide) ?_
  refine mv_iconst 1 dX11_join_18 (by decide) ?_
  refine mv_iadd dX11_join_19 ?_
  obtain ⟨hi3, h⟩ := mv_chkE h
  refine mv_zld (by decide) rfl (mv_inE hi3) dX11_join_20 ?_
  refine mv_topi (fun v4 ev4 => ?_)
  replace h := mv_letE h v4 ev4
  refine mv_istore [(4, .int v4), (3, .int v2), (0, .ref 62), (1, .int a0), (2, .int a1)] dX11_join_21 (by decide) rfl ?_
  refine mv_iconst 0 dX11_join_23 (by decide) ?_
  refine mv_istore [(5, .int 0), (4, .int v4), (3, .int v2), (0, .ref 62), (1, .int a0), (2, .int a1)] dX11_join_24 (by decide) rfl ?_
  refine mv_sub [3, 4, 5, 2, 1, 0] rfl ?_
  exact zX11_join_26 hd a0 a1 v2 v4 0 M h
