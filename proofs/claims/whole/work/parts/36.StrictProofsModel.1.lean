theorem dX11_next_0 : decode cX11_next 0 = .ok (.aload_n 0, 1) := by decide +kernel
theorem dX11_next_1 : decode cX11_next 1 = .ok (.getfield 187, 3) := by decide +kernel
theorem dX11_next_4 : decode cX11_next 4 = .ok (.aload_n 0, 1) := by decide +kernel
theorem dX11_next_5 : decode cX11_next 5 = .ok (.getfield 151, 3) := by decide +kernel
theorem dX11_next_8 : decode cX11_next 8 = .ok (.if_icmp .ge 44, 3) := by decide +kernel
theorem dX11_next_11 : decode cX11_next 11 = .ok (.aload_n 0, 1) := by decide +kernel
theorem dX11_next_12 : decode cX11_next 12 = .ok (.getfield 7, 3) := by decide +kernel
theorem dX11_next_15 : decode cX11_next 15 = .ok (.aload_n 0, 1) := by decide +kernel
theorem dX11_next_16 : decode cX11_next 16 = .ok (.getfield 187, 3) := by decide +kernel
theorem dX11_next_19 : decode cX11_next 19 = .ok (.iaload, 1) := by decide +kernel
theorem dX11_next_20 : decode cX11_next 20 = .ok (.bipush 32, 2) := by decide +kernel
theorem dX11_next_22 : decode cX11_next 22 = .ok (.if_icmp .eq 17, 3) := by decide +kernel
theorem dX11_next_25 : decode cX11_next 25 = .ok (.aload_n 0, 1) := by decide +kernel
theorem dX11_next_26 : decode cX11_next 26 = .ok (.getfield 7, 3) := by decide +kernel
theorem dX11_next_29 : decode cX11_next 29 = .ok (.aload_n 0, 1) := by decide +kernel
theorem dX11_next_30 : decode cX11_next 30 = .ok (.getfield 187, 3) := by decide +kernel
theorem dX11_next_33 : decode cX11_next 33 = .ok (.iaload, 1) := by decide +kernel
theorem dX11_next_34 : decode cX11_next 34 = .ok (.bipush 10, 2) := by decide +kernel
theorem dX11_next_36 : decode cX11_next 36 = .ok (.if_icmp .ne 16, 3) := by decide +kernel
theorem dX11_next_39 : decode cX11_next 39 = .ok (.aload_n 0, 1) := by decide +kernel
theorem dX11_next_40 : decode cX11_next 40 = .ok (.dup, 1) := by decide +kernel
theorem dX11_next_41 : decode cX11_next 41 = .ok (.getfield 187, 3) := by decide +kernel
theorem dX11_next_44 : decode cX11_next 44 = .ok (.iconst 1, 1) := by decide +kernel
theorem dX11_next_45 : decode cX11_next 45 = .ok (.iadd, 1) := by decide +kernel
theorem dX11_next_46 : decode cX11_next 46 = .ok (.putfield 187, 3) := by decide +kernel
theorem dX11_next_49 : decode cX11_next 49 = .ok (.goto (-49), 3) := by decide +kernel
theorem dX11_next_52 : decode cX11_next 52 = .ok (.aload_n 0, 1) := by decide +kernel
theorem dX11_next_53 : decode cX11_next 53 = .ok (.aload_n 0, 1) := by decide +kernel
theorem dX11_next_54 : decode cX11_next 54 = .ok (.getfield 187, 3) := by decide +kernel
theorem dX11_next_57 : decode cX11_next 57 = .ok (.putfield 190, 3) := by decide +kernel
theorem dX11_next_60 : decode cX11_next 60 = .ok (.aload_n 0, 1) := by decide +kernel
theorem dX11_next_61 : decode cX11_next 61 = .ok (.getfield 187, 3) := by decide +kernel
theorem dX11_next_64 : decode cX11_next 64 = .ok (.aload_n 0, 1) := by decide +kernel
theorem dX11_next_65 : decode cX11_next 65 = .ok (.getfield 151, 3) := by decide +kernel
theorem dX11_next_68 : decode cX11_next 68 = .ok (.if_icmp .ne 10, 3) := by decide +kernel
theorem dX11_next_71 : decode cX11_next 71 = .ok (.aload_n 0, 1) := by decide +kernel
theorem dX11_next_72 : decode cX11_next 72 = .ok (.bipush 23, 2) := by decide +kernel
theorem dX11_next_74 : decode cX11_next 74 = .ok (.putfield 193, 3) := by decide +kernel
theorem dX11_next_77 : decode cX11_next 77 = .ok (.return_, 1) := by decide +kernel
theorem dX11_next_78 : decode cX11_next 78 = .ok (.aload_n 0, 1) := by decide +kernel
theorem dX11_next_79 : decode cX11_next 79 = .ok (.dup, 1) := by decide +kernel
theorem dX11_next_80 : decode cX11_next 80 = .ok (.getfield 196, 3) := by decide +kernel
theorem dX11_next_83 : decode cX11_next 83 = .ok (.iconst 1, 1) := by decide +kernel
theorem dX11_next_84 : decode cX11_next 84 = .ok (.iadd, 1) := by decide +kernel
theorem dX11_next_85 : decode cX11_next 85 = .ok (.putfield 196, 3) := by decide +kernel
theorem dX11_next_88 : decode cX11_next 88 = .ok (.aload_n 0, 1) := by decide +kernel
theorem dX11_next_89 : decode cX11_next 89 = .ok (.getfield 7, 3) := by decide +kernel
theorem dX11_next_92 : decode cX11_next 92 = .ok (.aload_n 0, 1) := by decide +kernel
theorem dX11_next_93 : decode cX11_next 93 = .ok (.getfield 187, 3) := by decide +kernel
theorem dX11_next_96 : decode cX11_next 96 = .ok (.iaload, 1) := by decide +kernel
theorem dX11_next_97 : decode cX11_next 97 = .ok (.istore_n 1, 1) := by decide +kernel
theorem dX11_next_98 : decode cX11_next 98 = .ok (.iload_n 1, 1) := by decide +kernel
theorem dX11_next_99 : decode cX11_next 99 = .ok (.invokestatic 199, 3) := by decide +kernel
theorem dX11_next_102 : decode cX11_next 102 = .ok (.ifCond .eq 8, 3) := by decide +kernel
theorem dX11_next_105 : decode cX11_next 105 = .ok (.aload_n 0, 1) := by decide +kernel
theorem dX11_next_106 : decode cX11_next 106 = .ok (.invokevirtual 202, 3) := by decide +kernel
theorem dX11_next_109 : decode cX11_next 109 = .ok (.return_, 1) := by decide +kernel
theorem dX11_next_110 : decode cX11_next 110 = .ok (.aload_n 0, 1) := by decide +kernel
theorem dX11_next_111 : decode cX11_next 111 = .ok (.dup, 1) := by decide +kernel
theorem dX11_next_112 : decode cX11_next 112 = .ok (.getfield 187, 3) := by decide +kernel
theorem dX11_next_115 : decode cX11_next 115 = .ok (.iconst 1, 1) := by decide +kernel
theorem dX11_next_116 : decode cX11_next 116 = .ok (.iadd, 1) := by decide +kernel
theorem dX11_next_117 : decode cX11_next 117 = .ok (.putfield 187, 3) := by decide +kernel
theorem dX11_next_120 : decode cX11_next 120 = .ok (.iload_n 1, 1) := by decide +kernel
theorem dX11_next_121 : decode cX11_next 121 = .ok (.bipush 61, 2) := by decide +kernel
theorem dX11_next_123 : decode cX11_next 123 = .ok (.if_icmp .ne 45, 3) := by decide +kernel
theorem dX11_next_126 : decode cX11_next 126 = .ok (.aload_n 0, 1) := by decide +kernel
theorem dX11_next_127 : decode cX11_next 127 = .ok (.getfield 187, 3) := by decide +kernel
theorem dX11_next_130 : decode cX11_next 130 = .ok (.aload_n 0, 1) := by decide +kernel
theorem dX11_next_131 : decode cX11_next 131 = .ok (.getfield 151, 3) := by decide +kernel
theorem dX11_next_134 : decode cX11_next 134 = .ok (.if_icmp .ge 34, 3) := by decide +kernel
theorem dX11_next_137 : decode cX11_next 137 = .ok (.aload_n 0, 1) := by decide +kernel
theorem dX11_next_138 : decode cX11_next 138 = .ok (.getfield 7, 3) := by decide +kernel
theorem dX11_next_141 : decode cX11_next 141 = .ok (.aload_n 0, 1) := by decide +kernel
theorem dX11_next_142 : decode cX11_next 142 = .ok (.getfield 187, 3) := by decide +kernel
theorem dX11_next_145 : decode cX11_next 145 = .ok (.iaload, 1) := by decide +kernel
theorem dX11_next_146 : decode cX11_next 146 = .ok (.bipush 61, 2) := by decide +kernel
theorem dX11_next_148 : decode cX11_next 148 = .ok (.if_icmp .ne 20, 3) := by decide +kernel
theorem dX11_next_151 : decode cX11_next 151 = .ok (.aload_n 0, 1) := by decide +kernel
theorem dX11_next_152 : decode cX11_next 152 = .ok (.dup, 1) := by decide +kernel
theorem dX11_next_153 : decode cX11_next 153 = .ok (.getfield 187, 3) := by decide +kernel
theorem dX11_next_156 : decode cX11_next 156 = .ok (.iconst 1, 1) := by decide +kernel
theorem dX11_next_157 : decode cX11_next 157 = .ok (.iadd, 1) := by decide +kernel
theorem dX11_next_158 : decode cX11_next 158 = .ok (.putfield 187, 3) := by decide +kernel
theorem dX11_next_161 : decode cX11_next 161 = .ok (.aload_n 0, 1) := by decide +kernel
theorem dX11_next_162 : decode cX11_next 162 = .ok (.bipush 12, 2) := by decide +kernel
theorem dX11_next_164 : decode cX11_next 164 = .ok (.putfield 193, 3) := by decide +kernel
theorem dX11_next_167 : decode cX11_next 167 = .ok (.return_, 1) := by decide +kernel
theorem dX11_next_168 : decode cX11_next 168 = .ok (.aload_n 0, 1) := by decide +kernel
theorem dX11_next_169 : decode cX11_next 169 = .ok (.iload_n 1, 1) := by decide +kernel
theorem dX11_next_170 : decode cX11_next 170 = .ok (.bipush 61, 2) := by decide +kernel
theorem dX11_next_172 : decode cX11_next 172 = .ok (.if_icmp .ne 8, 3) := by decide +kernel
theorem dX11_next_175 : decode cX11_next 175 = .ok (.bipush 13, 2) := by decide +kernel
theorem dX11_next_177 : decode cX11_next 177 = .ok (.goto 103, 3) := by decide +kernel
theorem dX11_next_180 : decode cX11_next 180 = .ok (.iload_n 1, 1) := by decide +kernel
theorem dX11_next_181 : decode cX11_next 181 = .ok (.bipush 40, 2) := by decide +kernel
theorem dX11_next_183 : decode cX11_next 183 = .ok (.if_icmp .ne 8, 3) := by decide +kernel
theorem dX11_next_186 : decode cX11_next 186 = .ok (.bipush 14, 2) := by decide +kernel
theorem dX11_next_188 : decode cX11_next 188 = .ok (.goto 92, 3) := by decide +kernel
theorem dX11_next_191 : decode cX11_next 191 = .ok (.iload_n 1, 1) := by decide +kernel
theorem dX11_next_192 : decode cX11_next 192 = .ok (.bipush 41, 2) := by decide +kernel
theorem dX11_next_194 : decode cX11_next 194 = .ok (.if_icmp .ne 8, 3) := by decide +kernel
theorem dX11_next_197 : decode cX11_next 197 = .ok (.bipush 15, 2) := by decide +kernel
theorem dX11_next_199 : decode cX11_next 199 = .ok (.goto 81, 3) := by decide +kernel
theorem dX11_next_202 : decode cX11_next 202 = .ok (.iload_n 1, 1) := by decide +kernel
theorem dX11_next_203 : decode cX11_next 203 = .ok (.bipush 44, 2) := by decide +kernel
theorem dX11_next_205 : decode cX11_next 205 = .ok (.if_icmp .ne 8, 3) := by decide +kernel
theorem dX11_next_208 : decode cX11_next 208 = .ok (.bipush 16, 2) := by decide +kernel
theorem dX11_next_210 : decode cX11_next 210 = .ok (.goto 70, 3) := by decide +kernel
theorem dX11_next_213 : decode cX11_next 213 = .ok (.iload_n 1, 1) := by decide +kernel
theorem dX11_next_214 : decode cX11_next 214 = .ok (.bipush 59, 2) := by decide +kernel
theorem dX11_next_216 : decode cX11_next 216 = .ok (.if_icmp .ne 8, 3) := by decide +kernel
theorem dX11_next_219 : decode cX11_next 219 = .ok (.bipush 17, 2) := by decide +kernel
theorem dX11_next_221 : decode cX11_next 221 = .ok (.goto 59, 3) := by decide +kernel
theorem dX11_next_224 : decode cX11_next 224 = .ok (.iload_n 1, 1) := by decide +kernel
theorem dX11_next_225 : decode cX11_next 225 = .ok (.bipush 58, 2) := by decide +kernel
theorem dX11_next_227 : decode cX11_next 227 = .ok (.if_icmp .ne 8, 3) := by decide +kernel
theorem dX11_next_230 : decode cX11_next 230 = .ok (.bipush 18, 2) := by decide +kernel
theorem dX11_next_232 : decode cX11_next 232 = .ok (.goto 48, 3) := by decide +kernel
theorem dX11_next_235 : decode cX11_next 235 = .ok (.iload_n 1, 1) := by decide +kernel
theorem dX11_next_236 : decode cX11_next 236 = .ok (.bipush 43, 2) := by decide +kernel
theorem dX11_next_238 : decode cX11_next 238 = .ok (.if_icmp .ne 8, 3) := by decide +kernel
theorem dX11_next_241 : decode cX11_next 241 = .ok (.bipush 19, 2) := by decide +kernel
theorem dX11_next_243 : decode cX11_next 243 = .ok (.goto 37, 3) := by decide +kernel
theorem dX11_next_246 : decode cX11_next 246 = .ok (.iload_n 1, 1) := by decide +kernel
theorem dX11_next_247 : decode cX11_next 247 = .ok (.bipush 45, 2) := by decide +kernel
theorem dX11_next_249 : decode cX11_next 249 = .ok (.if_icmp .ne 8, 3) := by decide +kernel
theorem dX11_next_252 : decode cX11_next 252 = .ok (.bipush 20, 2) := by decide +kernel
theorem dX11_next_254 : decode cX11_next 254 = .ok (.goto 26, 3) := by decide +kernel
theorem dX11_next_257 : decode cX11_next 257 = .ok (.iload_n 1, 1) := by decide +kernel
theorem dX11_next_258 : decode cX11_next 258 = .ok (.bipush 42, 2) := by decide +kernel
theorem dX11_next_260 : decode cX11_next 260 = .ok (.if_icmp .ne 8, 3) := by decide +kernel
theorem dX11_next_263 : decode cX11_next 263 = .ok (.bipush 21, 2) := by decide +kernel
theorem dX11_next_265 : decode cX11_next 265 = .ok (.goto 15, 3) := by decide +kernel
theorem dX11_next_268 : decode cX11_next 268 = .ok (.iload_n 1, 1) := by decide +kernel
theorem dX11_next_269 : decode cX11_next 269 = .ok (.bipush 60, 2) := by decide +kernel
theorem dX11_next_271 : decode cX11_next 271 = .ok (.if_icmp .ne 8, 3) := by decide +kernel
theorem dX11_next_274 : decode cX11_next 274 = .ok (.bipush 22, 2) := by decide +kernel
theorem dX11_next_276 : decode cX11_next 276 = .ok (.goto 4, 3) := by decide +kernel
theorem dX11_next_279 : decode cX11_next 279 = .ok (.iconst 0, 1) := by decide +kernel
theorem dX11_next_280 : decode cX11_next 280 = .ok (.putfield 193, 3) := by decide +kernel
theorem dX11_next_283 : decode cX11_next 283 = .ok (.aload_n 0, 1) := by decide +kernel
theorem dX11_next_284 : decode cX11_next 284 = .ok (.getfield 193, 3) := by decide +kernel
theorem dX11_next_287 : decode cX11_next 287 = .ok (.ifCond .ne 12, 3) := by decide +kernel
theorem dX11_next_290 : decode cX11_next 290 = .ok (.aload_n 0, 1) := by decide +kernel
theorem dX11_next_291 : decode cX11_next 291 = .ok (.iconst 1, 1) := by decide +kernel
theorem dX11_next_292 : decode cX11_next 292 = .ok (.aload_n 0, 1) := by decide +kernel
theorem dX11_next_293 : decode cX11_next 293 = .ok (.getfield 190, 3) := by decide +kernel
theorem dX11_next_296 : decode cX11_next 296 = .ok (.invokevirtual 205, 3) := by decide +kernel
theorem dX11_next_299 : decode cX11_next 299 = .ok (.return_, 1) := by decide +kernel
noncomputable def fX11_next_39 (M : mv_M) : Option (((Unit) ⊕ Unit) × mv_M) :=
  mv_let (mv_si M 62 3 ((M.1 62 3) + 1)) fun M15 =>
  some (.inl (), M15)
set_option maxRecDepth 100000 in
set_option maxHeartbeats 4000000 in
theorem zX11_next_39 {l : Launch} {d : Nat} {Q : Unit → mv_M → Prop} (hd : 3 ≤ d) (M : mv_M) (h : mv_ok (fX11_next_39 M) (mv_pq (fun (s : Unit) M => mv l mX11_next d 0 0 [(0, .ref 62)] [] M (mv_qV Q)) Q)) : mv l mX11_next d 0 39 [(0, .ref 62)] [] M (mv_qV Q) := by
  unfold fX11_next_39 at h
  refine mv_aload_n 0 dX11_next_39 rfl ?_
  refine mv_dup dX11_next_40 rfl ?_
  refine mv_getI fX11_187 (by decide) rfl rfl dX11_next_41 ?_
  refine mv_iconst 1 dX11_next_44 (by decide) ?_
  refine mv_iadd dX11_next_45 ?_
  refine mv_putI fX11_187 (by decide) rfl rfl dX11_next_46 (fun M15 eM15 => ?_)
  replace h := mv_letE h M15 eM15
  refine mv_goto 0 dX11_next_49 (by decide) ?_
  refine mv_sub [0] rfl ?_
  exact h
noncomputable def fX11_next_280 (s0 : Int32) (M : mv_M) : Option (Unit × mv_M) :=
  mv_let (mv_si M 62 4 s0) fun M16 =>
  if (M16.1 62 4) = 0 then
    mv_bind (fX11_stop 1 (M16.1 62 5) M16) fun _ M17 =>
    some ((), M17)
  else
    some ((), M16)
set_option maxRecDepth 100000 in
set_option maxHeartbeats 4000000 in
theorem zX11_next_280 {l : Launch} {d : Nat} {Q : Unit → mv_M → Prop} (hd : 3 ≤ d) (s0 : Int32) (M : mv_M) (h : mv_ok (fX11_next_280 s0 M) Q) : mv l mX11_next d 0 280 [(0, .ref 62)] [.int s0, .ref 62] M (mv_qV Q) := by
  unfold fX11_next_280 at h
  refine mv_putI fX11_193 (by decide) rfl rfl dX11_next_280 (fun M16 eM16 => ?_)
  replace h := mv_letE h M16 eM16
  refine mv_aload_n 0 dX11_next_283 rfl ?_
  refine mv_getI fX11_193 (by decide) rfl rfl dX11_next_284 ?_
  refine mv_if_ne 299 dX11_next_287 (by decide) (fun z => ?_) (fun z => ?_)
  · replace h := mv_ifF z h
    exact mv_vret rfl dX11_next_299 ⟨rfl, h⟩
  · replace h := mv_ifT z h
    refine mv_aload_n 0 dX11_next_290 rfl ?_
    refine mv_iconst 1 dX11_next_291 (by decide) ?_
    refine mv_aload_n 0 dX11_next_292 rfl ?_
    refine mv_getI fX11_190 (by decide) rfl rfl dX11_next_293 ?_
    refine mv_cvV (As := [.int 1, .int (M16.1 62 5)]) (st := []) okX11_stop lX11_205 (by decide) rfl rfl rfl (Nat.le_of_ble_eq_true rfl) rfl (Nat.le_of_ble_eq_true rfl) dX11_next_296 (by omega) rfl (zX11_stop (d := d - 1) (by omega) 1 (M16.1 62 5) M16 (mv_bindE h)) (fun _ M17 h => ?_)
    exact mv_vret rfl dX11_next_299 ⟨rfl, h⟩
noncomputable def fX11_next_168 (x1 : Int32) (M : mv_M) : Option (Unit × mv_M) :=
  if x1 = 61 then
    fX11_next_280 13 M
  else
    if x1 = 40 then
      fX11_next_280 14 M
    else
      if x1 = 41 then
        fX11_next_280 15 M
      else
        if x1 = 44 then
          fX11_next_280 16 M
        else
          if x1 = 59 then
            fX11_next_280 17 M
          else
            if x1 = 58 then
              fX11_next_280 18 M
            else
              if x1 = 43 then
                fX11_next_280 19 M
              else
                if x1 = 45 then
                  fX11_next_280 20 M
                else
                  if x1 = 42 then
                    fX11_next_280 21 M
                  else
                    if x1 = 60 then
                      fX11_next_280 22 M
                    else
                      fX11_next_280 0 M
set_option maxRecDepth 100000 in
set_option maxHeartbeats 4000000 in
theorem zX11_next_168 {l : Launch} {d : Nat} {Q : Unit → mv_M → Prop} (hd : 3 ≤ d) (x1 : Int32) (M : mv_M) (h : mv_ok (fX11_next_168 x1 M) Q) : mv l mX11_next d 0 168 [(0, .ref 62), (1, .int x1)] [] M (mv_qV Q) := by
  unfold fX11_next_168 at h
  refine mv_aload_n 0 dX11_next_168 rfl ?_
  refine mv_iload_n 1 dX11_next_169 rfl ?_
  refine mv_bipush 61 dX11_next_170 (by decide) ?_
  refine mv_icmp_ne 180 dX11_next_172 (by decide) (fun z => ?_) (fun z => ?_)
  · replace h := mv_ifF z h
    refine mv_iload_n 1 dX11_next_180 rfl ?_
    refine mv_bipush 40 dX11_next_181 (by decide) ?_
    refine mv_icmp_ne 191 dX11_next_183 (by decide) (fun z => ?_) (fun z => ?_)
    · replace h := mv_ifF z h
      refine mv_iload_n 1 dX11_next_191 rfl ?_
      refine mv_bipush 41 dX11_next_192 (by decide) ?_
      refine mv_icmp_ne 202 dX11_next_194 (by decide) (fun z => ?_) (fun z => ?_)
      · replace h := mv_ifF z h
        refine mv_iload_n 1 dX11_next_202 rfl ?_
        refine mv_bipush 44 dX11_next_203 (by decide) ?_
        refine mv_icmp_ne 213 dX11_next_205 (by decide) (fun z => ?_) (fun z => ?_)
        · replace h := mv_ifF z h
          refine mv_iload_n 1 dX11_next_213 rfl ?_
          refine mv_bipush 59 dX11_next_214 (by decide) ?_
          refine mv_icmp_ne 224 dX11_next_216 (by decide) (fun z => ?_) (fun z => ?_)
          · replace h := mv_ifF z h
            refine mv_iload_n 1 dX11_next_224 rfl ?_
            refine mv_bipush 58 dX11_next_225 (by decide) ?_
            refine mv_icmp_ne 235 dX11_next_227 (by decide) (fun z => ?_) (fun z => ?_)
            · replace h := mv_ifF z h
              refine mv_iload_n 1 dX11_next_235 rfl ?_
              refine mv_bipush 43 dX11_next_236 (by decide) ?_
              refine mv_icmp_ne 246 dX11_next_238 (by decide) (fun z => ?_) (fun z => ?_)
              · replace h := mv_ifF z h
                refine mv_iload_n 1 dX11_next_246 rfl ?_
                refine mv_bipush 45 dX11_next_247 (by decide) ?_
                refine mv_icmp_ne 257 dX11_next_249 (by decide) (fun z => ?_) (fun z => ?_)
                · replace h := mv_ifF z h
                  refine mv_iload_n 1 dX11_next_257 rfl ?_
                  refine mv_bipush 42 dX11_next_258 (by decide) ?_
                  refine mv_icmp_ne 268 dX11_next_260 (by decide) (fun z => ?_) (fun z => ?_)
                  · replace h := mv_ifF z h
                    refine mv_iload_n 1 dX11_next_268 rfl ?_
                    refine mv_bipush 60 dX11_next_269 (by decide) ?_
                    refine mv_icmp_ne 279 dX11_next_271 (by decide) (fun z => ?_) (fun z => ?_)
                    · replace h := mv_ifF z h
                      refine mv_iconst 0 dX11_next_279 (by decide) ?_
                      refine mv_sub [0] rfl ?_
                      exact zX11_next_280 hd 0 M h
                    · replace h := mv_ifT z h
                      refine mv_bipush 22 dX11_next_274 (by decide) ?_
                      refine mv_goto 280 dX11_next_276 (by decide) ?_
                      refine mv_sub [0] rfl ?_
                      exact zX11_next_280 hd 22 M h
                  · replace h := mv_ifT z h
                    refine mv_bipush 21 dX11_next_263 (by decide) ?_
                    refine mv_goto 280 dX11_next_265 (by decide) ?_
                    refine mv_sub [0] rfl ?_
                    exact zX11_next_280 hd 21 M h
                · replace h := mv_ifT z h
                  refine mv_bipush 20 dX11_next_252 (by decide) ?_
                  refine mv_goto 280 dX11_next_254 (by decide) ?_
                  refine mv_sub [0] rfl ?_
                  exact zX11_next_280 hd 20 M h
              · replace h := mv_ifT z h
                refine mv_bipush 19 dX11_next_241 (by decide) ?_
                refine mv_goto 280 dX11_next_243 (by decide) ?_
                refine mv_sub [0] rfl ?_
                exact zX11_next_280 hd 19 M h
            · replace h := mv_ifT z h
              refine mv_bipush 18 dX11_next_230 (by decide) ?_
              refine mv_goto 280 dX11_next_232 (by decide) ?_
              refine mv_sub [0] rfl ?_
              exact zX11_next_280 hd 18 M h
          · replace h := mv_ifT z h
            refine mv_bipush 17 dX11_next_219 (by decide) ?_
            refine mv_goto 280 dX11_next_221 (by decide) ?_
            refine mv_sub [0] rfl ?_
            exact zX11_next_280 hd 17 M h
        · replace h := mv_ifT z h
          refine mv_bipush 16 dX11_next_208 (by decide) ?_
          refine mv_goto 280 dX11_next_210 (by decide) ?_
          refine mv_sub [0] rfl ?_
          exact zX11_next_280 hd 16 M h
      · replace h := mv_ifT z h
        refine mv_bipush 15 dX11_next_197 (by decide) ?_
        refine mv_goto 280 dX11_next_199 (by decide) ?_
        refine mv_sub [0] rfl ?_
        exact zX11_next_280 hd 15 M h
    · replace h := mv_ifT z h
      refine mv_bipush 14 dX11_next_186 (by decide) ?_
      refine mv_goto 280 dX11_next_188 (by decide) ?_
      refine mv_sub [0] rfl ?_
      exact zX11_next_280 hd 14 M h
  · replace h := mv_ifT z h
    refine mv_bipush 13 dX11_next_175 (by decide) ?_
    refine mv_goto 280 dX11_next_177 (by decide) ?_
    refine mv_sub [0] rfl ?_
    exact zX11_next_280 hd 13 M h
noncomputable def fX11_next_52 (M : mv_M) : Option (Unit × mv_M) :=
  mv_let (mv_si M 62 5 (M.1 62 3)) fun M3 =>
  if (M3.1 62 3) = (M3.1 62 2) then
    mv_let (mv_si M3 62 4 23) fun M14 =>
    some ((), M14)
  else
    mv_let (mv_si M3 62 6 ((M3.1 62 6) + 1)) fun M4 =>
    mv_chk (mv_inb (M4.1 62 3) 4000) <|
    mv_let (M4.1 63 (M4.1 62 3).toNatClampNeg) fun v6 =>
    mv_bind (fX11_isRow v6 M4) fun r7 M8 =>
    if r7 = 0 then
      mv_let (mv_si M8 62 3 ((M8.1 62 3) + 1)) fun M9 =>
      if v6 = 61 then
        if (M9.1 62 2) ≤ (M9.1 62 3) then
          fX11_next_168 v6 M9
        else
          mv_chk (mv_inb (M9.1 62 3) 4000) <|
          if (M9.1 63 (M9.1 62 3).toNatClampNeg) = 61 then
            mv_let (mv_si M9 62 3 ((M9.1 62 3) + 1)) fun M11 =>
            mv_let (mv_si M11 62 4 12) fun M12 =>
            some ((), M12)
          else
            fX11_next_168 v6 M9
      else
        fX11_next_168 v6 M9
    else
      mv_bind (fX11_row M8) fun _ M13 =>
      some ((), M13)
set_option maxRecDepth 100000 in
set_option maxHeartbeats 4000000 in
theorem zX11_next_52 {l : Launch} {d : Nat} {Q : Unit → mv_M → Prop} (hd : 3 ≤ d) (M : mv_M) (h : mv_ok (fX11_next_52 M) Q) : mv l mX11_next d 0 52 [(0, .ref 62)] [] M (mv_qV Q) := by
  unfold fX11_next_52 at h
  refine mv_aload_n 0 dX11_next_52 rfl ?_
  refine mv_aload_n 0 dX11_next_53 rfl ?_
  refine mv_getI fX11_187 (by decide) rfl rfl dX11_next_54 ?_
  refine mv_putI fX11_190 (by decide) rfl rfl dX11_next_57 (fun M3 eM3 => ?_)
  replace h := mv_letE h M3 eM3
  refine mv_aload_n 0 dX11_next_60 rfl ?_
  refine mv_getI fX11_187 (by decide) rfl rfl dX11_next_61 ?_
  refine mv_aload_n 0 dX11_next_64 rfl ?_
  refine mv_getI fX11_151 (by decide) rfl rfl dX11_next_65 ?_
  refine mv_icmp_ne 78 dX11_next_68 (by decide) (fun z => ?_) (fun z => ?_)
  · replace h := mv_ifF z h
    refine mv_aload_n 0 dX11_next_78 rfl ?_
    refine mv_dup dX11_next_79 rfl ?_
    refine mv_getI fX11_196 (by decide) rfl rfl dX11_next_80 ?_
    refine mv_iconst 1 dX11_next_83 (by decide) ?_
    refine mv_iadd dX11_next_84 ?_
    refine mv_putI fX11_196 (by decide) rfl rfl dX11_next_85 (fun M4 eM4 => ?_)
    replace h := mv_letE h M4 eM4
    refine mv_aload_n 0 dX11_next_88 rfl ?_
    refine mv_getR 63 fX11_7 (by decide) rfl rfl rfl dX11_next_89 ?_
    refine mv_aload_n 0 dX11_next_92 rfl ?_
    refine mv_getI fX11_187 (by decide) rfl rfl dX11_next_93 ?_
    obtain ⟨hi5, h⟩ := mv_chkE h
    refine mv_ild (by decide) rfl (mv_inE hi5) dX11_next_96 ?_
    refine mv_topi (fun v6 ev6 => ?_)
    replace h := mv_letE h v6 ev6
    refine mv_istore_n [(1, .int v6), (0, .ref 62)] dX11_next_97 (by decide) rfl ?_
    refine mv_iload_n 0 dX11_next_98 rfl ?_
    refine mv_csI (As := [.int v6]) (st := []) okX11_isRow lX11_199 rfl (Nat.le_of_ble_eq_true rfl) rfl (Nat.le_of_ble_eq_true rfl) dX11_next_99 (by omega) rfl (zX11_isRow (d := d - 1) (by omega) v6 M4 (mv_bindE h)) (fun r7 M8 h => ?_)
    refine mv_if_eq 110 dX11_next_102 (by decide) (fun z => ?_) (fun z => ?_)
    · replace h := mv_ifT z h
      refine mv_aload_n 1 dX11_next_110 rfl ?_
      refine mv_dup dX11_next_111 rfl ?_
      refine mv_getI fX11_187 (by decide) rfl rfl dX11_next_112 ?_
      refine mv_iconst 1 dX11_next_115 (by decide) ?_
      refine mv_iadd dX11_next_116 ?_
      refine mv_putI fX11_187 (by decide) rfl rfl dX11_next_117 (fun M9 eM9 => ?_)
      replace h := mv_letE h M9 eM9
      refine mv_iload_n 0 dX11_next_120 rfl ?_
      refine mv_bipush 61 dX11_next_121 (by decide) ?_
      refine mv_icmp_ne 168 dX11_next_123 (by decide) (fun z => ?_) (fun z => ?_)
      · replace h := mv_ifF z h
        refine mv_sub [1, 0] rfl ?_
        exact zX11_next_168 hd v6 M9 h
      · replace h := mv_ifT z h
        refine mv_aload_n 1 dX11_next_126 rfl ?_
        refine mv_getI fX11_187 (by decide) rfl rfl dX11_next_127 ?_
        refine mv_aload_n 1 dX11_next_130 rfl ?_
        refine mv_getI fX11_151 (by decide) rfl rfl dX11_next_131 ?_
        refine mv_icmp_ge 168 dX11_next_134 (by decide) (fun z => ?_) (fun z => ?_)
        · replace h := mv_ifT z h
          refine mv_sub [1, 0] rfl ?_
          exact zX11_next_168 hd v6 M9 h
        · replace h := mv_ifF z h
          refine mv_aload_n 1 dX11_next_137 rfl ?_
          refine mv_getR 63 fX11_7 (by decide) rfl rfl rfl dX11_next_138 ?_
          refine mv_aload_n 1 dX11_next_141 rfl ?_
          refine mv_getI fX11_187 (by decide) rfl rfl dX11_next_142 ?_
          obtain ⟨hi10, h⟩ := mv_chkE h
          refine mv_ild (by decide) rfl (mv_inE hi10) dX11_next_145 ?_
          refine mv_bipush 61 dX11_next_146 (by decide) ?_
          refine mv_icmp_ne 168 dX11_next_148 (by decide) (fun z => ?_) (fun z => ?_)
          · replace h := mv_ifF z h
            refine mv_sub [1, 0] rfl ?_
            exact zX11_next_168 hd v6 M9 h
          · replace h := mv_ifT z h
            refine mv_aload_n 1 dX11_next_151 rfl ?_
            refine mv_dup dX11_next_152 rfl ?_
            refine mv_getI fX11_187 (by decide) rfl rfl dX11_next_153 ?_
            refine mv_iconst 1 dX11_next_156 (by decide) ?_
            refine mv_iadd dX11_next_157 ?_
            refine mv_putI fX11_187 (by decide) rfl rfl dX11_next_158 (fun M11 eM11 => ?_)
            replace h := mv_letE h M11 eM11
            refine mv_aload_n 1 dX11_next_161 rfl ?_
            refine mv_bipush 12 dX11_next_162 (by decide) ?_
            refine mv_putI fX11_193 (by decide) rfl rfl dX11_next_164 (fun M12 eM12 => ?_)
            replace h := mv_letE h M12 eM12
            exact mv_vret rfl dX11_next_167 ⟨rfl, h⟩
    · replace h := mv_ifF z h
      refine mv_aload_n 1 dX11_next_105 rfl ?_
      refine mv_cvV (As := []) (st := []) okX11_row lX11_202 (by decide) rfl rfl rfl (Nat.le_of_ble_eq_true rfl) rfl (Nat.le_of_ble_eq_true rfl) dX11_next_106 (by omega) rfl (zX11_row (d := d - 1) (by omega) M8 (mv_bindE h)) (fun _ M13 h => ?_)
      exact mv_vret rfl dX11_next_109 ⟨rfl, h⟩
  · replace h := mv_ifT z h
    refine mv_aload_n 0 dX11_next_71 rfl ?_
    refine mv_bipush 23 dX11_next_72 (by decide) ?_
    refine mv_putI fX11_193 (by decide) rfl rfl dX11_next_74 (fun M14 eM14 => ?_)
    replace h := mv_letE h M14 eM14
    exact mv_vret rfl dX11_next_77 ⟨rfl, h⟩
noncomputable def gX11_next_0 (M : mv_M) : Option (((Unit) ⊕ Unit) × mv_M) :=
  if (M.1 62 2) ≤ (M.1 62 3) then
    mv_inr (fX11_next_52 M)
  else
    mv_chk (mv_inb (M.1 62 3) 4000) <|
    if (M.1 63 (M.1 62 3).toNatClampNeg) = 32 then
      fX11_next_39 M
    else
      mv_chk (mv_inb (M.1 62 3) 4000) <|
      if (M.1 63 (M.1 62 3).toNatClampNeg) = 10 then
        fX11_next_39 M
      else
        mv_inr (fX11_next_52 M)
noncomputable def fX11_next_0 (M : mv_M) : Option (Unit × mv_M) := mv_loop (fun (s : Unit) M => gX11_next_0  M) () M
set_option maxRecDepth 100000 in
set_option maxHeartbeats 4000000 in
theorem zX11_next_0 {l : Launch} {d : Nat} {Q : Unit → mv_M → Prop} (hd : 3 ≤ d) (M : mv_M) (h : mv_ok (fX11_next_0 M) Q) : mv l mX11_next d 0 0 [(0, .ref 62)] [] M (mv_qV Q) := by
  unfold fX11_next_0 at h
  refine mv_loopE (A := (fun (s : Unit) M => mv l mX11_next d 0 0 [(0, .ref 62)] [] M (mv_qV Q))) ?_ () M h
  · intro s M h
    try dsimp only at h
    show mv l mX11_next d 0 0 [(0, .ref 62)] [] M (mv_qV Q)
    unfold gX11_next_0 at h
    refine mv_aload_n 0 dX11_next_0 rfl ?_
    refine mv_getI fX11_187 (by decide) rfl rfl dX11_next_1 ?_
    refine mv_aload_n 0 dX11_next_4 rfl ?_
    refine mv_getI fX11_151 (by decide) rfl rfl dX11_next_5 ?_
    refine mv_icmp_ge 52 dX11_next_8 (by decide) (fun z => ?_) (fun z => ?_)
    · replace h := mv_ifT z h
      refine mv_sub [0] rfl ?_
      exact zX11_next_52 hd M (mv_inrE h)
    · replace h := mv_ifF z h
      refine mv_aload_n 0 dX11_next_11 rfl ?_
      refine mv_getR 63 fX11_7 (by decide) rfl rfl rfl dX11_next_12 ?_
      refine mv_aload_n 0 dX11_next_15 rfl ?_
      refine mv_getI fX11_187 (by decide) rfl rfl dX11_next_16 ?_
      obtain ⟨hi1, h⟩ := mv_chkE h
      refine mv_ild (by decide) rfl (mv_inE hi1) dX11_next_19 ?_
      refine mv_bipush 32 dX11_next_20 (by decide) ?_
      refine mv_icmp_eq 39 dX11_next_22 (by decide) (fun z => ?_) (fun z => ?_)
      · replace h := mv_ifT z h
        refine mv_sub [0] rfl ?_
        exact zX11_next_39 hd M h
      · replace h := mv_ifF z h
        refine mv_aload_n 0 dX11_next_25 rfl ?_
        refine mv_getR 63 fX11_7 (by decide) rfl rfl rfl dX11_next_26 ?_
        refine mv_aload_n 0 dX11_next_29 rfl ?_
        refine mv_getI fX11_187 (by decide) rfl rfl dX11_next_30 ?_
        obtain ⟨hi2, h⟩ := mv_chkE h
        refine mv_ild (by decide) rfl (mv_inE hi2) dX11_next_33 ?_
        refine mv_bipush 10 dX11_next_34 (by decide) ?_
        refine mv_icmp_ne 52 dX11_next_36 (by decide) (fun z => ?_) (fun z => ?_)
        · replace h := mv_ifF z h
          refine mv_sub [0] rfl ?_
          exact zX11_next_52 hd M (mv_inrE h)
        · replace h := mv_ifT z h
          refine mv_sub [0] rfl ?_
          exact zX11_next_39 hd M h
noncomputable def fX11_next (M : mv_M) : Option (Unit × mv_M) :=
  fX11_next_0 M
set_option maxRecDepth 100000 in
set_option maxHeartbeats 4000000 in
theorem zX11_next {l : Launch} {d : Nat} {Q : Unit → mv_M → Prop} (hd : 3 ≤ d) (M : mv_M) (h : mv_ok (fX11_next M) Q) : mv l mX11_next d 0 0 (lv_args 0 [.ref 62]) [] M (mv_qV Q) := by
  unfold fX11_next at h
  show mv l mX11_next d 0 0 [(0, .ref 62)] [] M (mv_qV Q)
  refine mv_sub [0] rfl ?_
  exact zX11_next_0 hd M h
theorem dX11_pass_0 : decode cX11_pass 0 = .ok (.aload_n 0, 1) := by decide +kernel
theorem dX11_pass_1 : decode cX11_pass 1 = .ok (.getfield 176, 3) := by decide +kernel
theorem dX11_pass_4 : decode cX11_pass 4 = .ok (.ifCond .ne 23, 3) := by decide +kernel
theorem dX11_pass_7 : decode cX11_pass 7 = .ok (.aload_n 0, 1) := by decide +kernel
theorem dX11_pass_8 : decode cX11_pass 8 = .ok (.getfield 196, 3) := by decide +kernel
theorem dX11_pass_11 : decode cX11_pass 11 = .ok (.sipush 1000, 3) := by decide +kernel
theorem dX11_pass_14 : decode cX11_pass 14 = .ok (.if_icmp .le 13, 3) := by decide +kernel
theorem dX11_pass_17 : decode cX11_pass 17 = .ok (.aload_n 0, 1) := by decide +kernel
theorem dX11_pass_18 : decode cX11_pass 18 = .ok (.bipush 6, 2) := by decide +kernel
theorem dX11_pass_20 : decode cX11_pass 20 = .ok (.aload_n 0, 1) := by decide +kernel
theorem dX11_pass_21 : decode cX11_pass 21 = .ok (.getfield 190, 3) := by decide +kernel
theorem dX11_pass_24 : decode cX11_pass 24 = .ok (.invokevirtual 205, 3) := by decide +kernel
theorem dX11_pass_27 : decode cX11_pass 27 = .ok (.aload_n 0, 1) := by decide +kernel
theorem dX11_pass_28 : decode cX11_pass 28 = .ok (.getfield 176, 3) := by decide +kernel
theorem dX11_pass_31 : decode cX11_pass 31 = .ok (.ifCond .ne 7, 3) := by decide +kernel
theorem dX11_pass_34 : decode cX11_pass 34 = .ok (.aload_n 0, 1) := by decide +kernel
theorem dX11_pass_35 : decode cX11_pass 35 = .ok (.invokevirtual 226, 3) := by decide +kernel
theorem dX11_pass_38 : decode cX11_pass 38 = .ok (.return_, 1) := by decide +kernel
noncomputable def fX11_pass_27 (M : mv_M) : Option (Unit × mv_M) :=
  if (M.1 62 9) = 0 then
    mv_bind (fX11_next M) fun _ M2 =>
    some ((), M2)
  else
    some ((), M)
set_option maxRecDepth 100000 in
set_option maxHeartbeats 4000000 in
theorem zX11_pass_27 {l : Launch} {d : Nat} {Q : Unit → mv_M → Prop} (hd : 4 ≤ d) (M : mv_M) (h : mv_ok (fX11_pass_27 M) Q) : mv l mX11_pass d 0 27 [(0, .ref 62)] [] M (mv_qV Q) := by
  unfold fX11_pass_27 at h
  refine mv_aload_n 0 dX11_pass_27 rfl ?_
  refine mv_getI fX11_176 (by decide) rfl rfl dX11_pass_28 ?_
  refine mv_if_ne 38 dX11_pass_31 (by decide) (fun z => ?_) (fun z => ?_)
  · replace h := mv_ifF z h
    exact mv_vret rfl dX11_pass_38 ⟨rfl, h⟩
  · replace h := mv_ifT z h
    refine mv_aload_n 0 dX11_pass_34 rfl ?_
    refine mv_cvV (As := []) (st := []) okX11_next lX11_226 (by decide) rfl rfl rfl (Nat.le_of_ble_eq_true rfl) rfl (Nat.le_of_ble_eq_true rfl) dX11_pass_35 (by omega) rfl (zX11_next (d := d - 1) (by omega) M (mv_bindE h)) (fun _ M2 h => ?_)
    exact mv_vret rfl dX11_pass_38 ⟨rfl, h⟩
noncomputable def fX11_pass (M : mv_M) : Option (Unit × mv_M) :=
  if (M.1 62 9) = 0 then
    if (M.1 62 6) ≤ 1000 then
      fX11_pass_27 M
    else
      mv_bind (fX11_stop 6 (M.1 62 5) M) fun _ M1 =>
      fX11_pass_27 M1
  else
    fX11_pass_27 M
set_option maxRecDepth 100000 in
set_option maxHeartbeats 4000000 in
theorem zX11_pass {l : Launch} {d : Nat} {Q : Unit → mv_M → Prop} (hd : 4 ≤ d) (M : mv_M) (h : mv_ok (fX11_pass M) Q) : mv l mX11_pass d 0 0 (lv_args 0 [.ref 62]) [] M (mv_qV Q) := by
  unfold fX11_pass at h
  show mv l mX11_pass d 0 0 [(0, .ref 62)] [] M (mv_qV Q)
  refine mv_aload_n 0 dX11_pass_0 rfl ?_
  refine mv_getI fX11_176 (by decide) rfl rfl dX11_pass_1 ?_
  refine mv_if_ne 27 dX11_pass_4 (by decide) (fun z => ?_) (fun z => ?_)
  · replace h := mv_ifF z h
    refine mv_sub [0] rfl ?_
    exact zX11_pass_27 hd M h
  · replace h := mv_ifT z h
    refine mv_aload_n 0 dX11_pass_7 rfl ?_
    refine mv_getI fX11_196 (by decide) rfl rfl dX11_pass_8 ?_
    refine mv_sipush 1000 dX11_pass_11 (by decide) ?_
    refine mv_icmp_le 27 dX11_pass_14 (by decide) (fun z => ?_) (fun z => ?_)
    · replace h := mv_ifT z h
      refine mv_sub [0] rfl ?_
      exact zX11_pass_27 hd M h
    · replace h := mv_ifF z h
      refine mv_aload_n 0 dX11_pass_17 rfl ?_
      refine mv_bipush 6 dX11_pass_18 (by decide) ?_
      refine mv_aload_n 0 dX11_pass_20 rfl ?_
      refine mv_getI fX11_190 (by decide) rfl rfl dX11_pass_21 ?_
      refine mv_cvV (As := [.int 6, .int (M.1 62 5)]) (st := []) okX11_stop lX11_205 (by decide) rfl rfl rfl (Nat.le_of_ble_eq_true rfl) rfl (Nat.le_of_ble_eq_true rfl) dX11_pass_24 (by omega) rfl (zX11_stop (d := d - 1) (by omega) 6 (M.1 62 5) M (mv_bindE h)) (fun _ M1 h => ?_)
      refine mv_sub [0] rfl ?_
      exact zX11_pass_27 hd M1 h
theorem dX11_want_0 : decode cX11_want 0 = .ok (.aload_n 0, 1) := by decide +kernel
theorem dX11_want_1 : decode cX11_want 1 = .ok (.getfield 176, 3) := by decide +kernel
theorem dX11_want_4 : decode cX11_want 4 = .ok (.ifCond .ne 20, 3) := by decide +kernel
theorem dX11_want_7 : decode cX11_want 7 = .ok (.aload_n 0, 1) := by decide +kernel
theorem dX11_want_8 : decode cX11_want 8 = .ok (.getfield 193, 3) := by decide +kernel
theorem dX11_want_11 : decode cX11_want 11 = .ok (.iload_n 1, 1) := by decide +kernel
theorem dX11_want_12 : decode cX11_want 12 = .ok (.if_icmp .eq 12, 3) := by decide +kernel
theorem dX11_want_15 : decode cX11_want 15 = .ok (.aload_n 0, 1) := by decide +kernel
theorem dX11_want_16 : decode cX11_want 16 = .ok (.iconst 2, 1) := by decide +kernel
theorem dX11_want_17 : decode cX11_want 17 = .ok (.aload_n 0, 1) := by decide +kernel
theorem dX11_want_18 : decode cX11_want 18 = .ok (.getfield 190, 3) := by decide +kernel
theorem dX11_want_21 : decode cX11_want 21 = .ok (.invokevirtual 205, 3) := by decide +kernel
theorem dX11_want_24 : decode cX11_want 24 = .ok (.aload_n 0, 1) := by decide +kernel
theorem dX11_want_25 : decode cX11_want 25 = .ok (.invokevirtual 229, 3) := by decide +kernel
theorem dX11_want_28 : decode cX11_want 28 = .ok (.return_, 1) := by decide +kernel
noncomputable def fX11_want_24 (M : mv_M) : Option (Unit × mv_M) :=
  mv_bind (fX11_pass M) fun _ M2 =>
  some ((), M2)
set_option maxRecDepth 100000 in
set_option maxHeartbeats 4000000 in
theorem zX11_want_24 {l : Launch} {d : Nat} {Q : Unit → mv_M → Prop} (hd : 5 ≤ d) (M : mv_M) (h : mv_ok (fX11_want_24 M) Q) : mv l mX11_want d 0 24 [(0, .ref 62)] [] M (mv_qV Q) := by
  unfold fX11_want_24 at h
  refine mv_aload_n 0 dX11_want_24 rfl ?_
  refine mv_cvV (As := []) (st := []) okX11_pass lX11_229 (by decide) rfl rfl rfl (Nat.le_of_ble_eq_true rfl) rfl (Nat.le_of_ble_eq_true rfl) dX11_want_25 (by omega) rfl (zX11_pass (d := d - 1) (by omega) M (mv_bindE h)) (fun _ M2 h => ?_)
  exact mv_vret rfl dX11_want_28 ⟨rfl, h⟩
noncomputable def fX11_want (a0 : Int32) (M : mv_M) : Option (Unit × mv_M) :=
  if (M.1 62 9) = 0 then
    if (M.1 62 4) = a0 then
      fX11_want_24 M
    else
      mv_bind (fX11_stop 2 (M.1 62 5) M) fun _ M1 =>
      fX11_want_24 M1
  else
    fX11_want_24 M
set_option maxRecDepth 100000 in
set_option maxHeartbeats 4000000 in
theorem zX11_want {l : Launch} {d : Nat} {Q : Unit → mv_M → Prop} (hd : 5 ≤ d) (a0 : Int32) (M : mv_M) (h : mv_ok (fX11_want a0 M) Q) : mv l mX11_want d 0 0 (lv_args 0 [.ref 62, .int a0]) [] M (mv_qV Q) := by
  unfold fX11_want at h
  show mv l mX11_want d 0 0 [(0, .ref 62), (1, .int a0)] [] M (mv_qV Q)
  refine mv_aload_n 0 dX11_want_0 rfl ?_
  refine mv_getI fX11_176 (by decide) rfl rfl dX11_want_1 ?_
  refine mv_if_ne 24 dX11_want_4 (by decide) (fun z => ?_) (fun z => ?_)
  · replace h := mv_ifF z h
    refine mv_sub [0] rfl ?_
    exact zX11_want_24 hd M h
  · replace h := mv_ifT z h
    refine mv_aload_n 0 dX11_want_7 rfl ?_
    refine mv_getI fX11_193 (by decide) rfl rfl dX11_want_8 ?_
    refine mv_iload_n 1 dX11_want_11 rfl ?_
    refine mv_icmp_eq 24 dX11_want_12 (by decide) (fun z => ?_) (fun z => ?_)
    · replace h := mv_ifT z h
      refine mv_sub [0] rfl ?_
      exact zX11_want_24 hd M h
    · replace h := mv_ifF z h
      refine mv_aload_n 0 dX11_want_15 rfl ?_
      refine mv_iconst 2 dX11_want_16 (by decide) ?_
      refine mv_aload_n 0 dX11_want_17 rfl ?_
      refine mv_getI fX11_190 (by decide) rfl rfl dX11_want_18 ?_
      refine mv_cvV (As := [.int 2, .int (M.1 62 5)]) (st := []) okX11_stop lX11_205 (by decide) rfl rfl rfl (Nat.le_of_ble_eq_true rfl) rfl (Nat.le_of_ble_eq_true rfl) dX11_want_21 (by omega) rfl (zX11_stop (d := d - 1) (by omega) 2 (M.1 62 5) M (mv_bindE h)) (fun _ M1 h => ?_)
      refine mv_sub [0] rfl ?_
      exact zX11_want_24 hd M1 h
theorem dX11_node_0 : decode cX11_node 0 = .ok (.aload_n 0, 1) := by decide +kernel
theorem dX11_node_1 : decode cX11_node 1 = .ok (.getfield 232, 3) := by decide +kernel
theorem dX11_node_4 : decode cX11_node 4 = .ok (.sipush 2001, 3) := by decide +kernel
theorem dX11_node_7 : decode cX11_node 7 = .ok (.if_icmp .ge 10, 3) := by decide +kernel
theorem dX11_node_10 : decode cX11_node 10 = .ok (.aload_n 0, 1) := by decide +kernel
theorem dX11_node_11 : decode cX11_node 11 = .ok (.getfield 232, 3) := by decide +kernel
theorem dX11_node_14 : decode cX11_node 14 = .ok (.goto 6, 3) := by decide +kernel
theorem dX11_node_17 : decode cX11_node 17 = .ok (.sipush 2001, 3) := by decide +kernel
theorem dX11_node_20 : decode cX11_node 20 = .ok (.istore_n 3, 1) := by decide +kernel
theorem dX11_node_21 : decode cX11_node 21 = .ok (.aload_n 0, 1) := by decide +kernel
theorem dX11_node_22 : decode cX11_node 22 = .ok (.iload_n 3, 1) := by decide +kernel
theorem dX11_node_23 : decode cX11_node 23 = .ok (.iconst 1, 1) := by decide +kernel
theorem dX11_node_24 : decode cX11_node 24 = .ok (.iadd, 1) := by decide +kernel
theorem dX11_node_25 : decode cX11_node 25 = .ok (.putfield 232, 3) := by decide +kernel
theorem dX11_node_28 : decode cX11_node 28 = .ok (.aload_n 0, 1) := by decide +kernel
theorem dX11_node_29 : decode cX11_node 29 = .ok (.getfield 39, 3) := by decide +kernel
theorem dX11_node_32 : decode cX11_node 32 = .ok (.iload_n 3, 1) := by decide +kernel
theorem dX11_node_33 : decode cX11_node 33 = .ok (.iload_n 1, 1) := by decide +kernel
theorem dX11_node_34 : decode cX11_node 34 = .ok (.iastore, 1) := by decide +kernel
theorem dX11_node_35 : decode cX11_node 35 = .ok (.aload_n 0, 1) := by decide +kernel
theorem dX11_node_36 : decode cX11_node 36 = .ok (.getfield 51, 3) := by decide +kernel
theorem dX11_node_39 : decode cX11_node 39 = .ok (.iload_n 3, 1) := by decide +kernel
theorem dX11_node_40 : decode cX11_node 40 = .ok (.iload_n 2, 1) := by decide +kernel
theorem dX11_node_41 : decode cX11_node 41 = .ok (.iastore, 1) := by decide +kernel
theorem dX11_node_42 : decode cX11_node 42 = .ok (.iload_n 3, 1) := by decide +kernel
theorem dX11_node_43 : decode cX11_node 43 = .ok (.ireturn, 1) := by decide +kernel
noncomputable def fX11_node_20 (x1 : Int32) (x2 : Int32) (s0 : Int32) (M : mv_M) : Option (Int32 × mv_M) :=
  mv_let (mv_si M 62 29 (s0 + 1)) fun M1 =>
  mv_chk (mv_inb s0 2002) <|
  mv_let (mv_si M1 71 s0.toNatClampNeg x1) fun M3 =>
  mv_chk (mv_inb s0 2002) <|
  mv_let (mv_si M3 75 s0.toNatClampNeg x2) fun M5 =>
  some (s0, M5)
set_option maxRecDepth 100000 in
set_option maxHeartbeats 4000000 in
theorem zX11_node_20 {l : Launch} {d : Nat} {Q : Int32 → mv_M → Prop} (hd : 0 ≤ d) (x1 : Int32) (x2 : Int32) (s0 : Int32) (M : mv_M) (h : mv_ok (fX11_node_20 x1 x2 s0 M) Q) : mv l mX11_node d 0 20 [(0, .ref 62), (1, .int x1), (2, .int x2)] [.int s0] M (mv_qI Q) := by
  unfold fX11_node_20 at h
  refine mv_istore_n [(3, .int s0), (0, .ref 62), (1, .int x1), (2, .int x2)] dX11_node_20 (by decide) rfl ?_
  refine mv_aload_n 1 dX11_node_21 rfl ?_
  refine mv_iload_n 0 dX11_node_22 rfl ?_
  refine mv_iconst 1 dX11_node_23 (by decide) ?_
  refine mv_iadd dX11_node_24 ?_
  refine mv_putI fX11_232 (by decide) rfl rfl dX11_node_25 (fun M1 eM1 => ?_)
  replace h := mv_letE h M1 eM1
  refine mv_aload_n 1 dX11_node_28 rfl ?_
  refine mv_getR 71 fX11_39 (by decide) rfl rfl rfl dX11_node_29 ?_
  refine mv_iload_n 0 dX11_node_32 rfl ?_
  refine mv_iload_n 2 dX11_node_33 rfl ?_
  obtain ⟨hi2, h⟩ := mv_chkE h
  refine mv_ist (by decide) rfl (mv_inE hi2) dX11_node_34 (fun M3 eM3 => ?_)
  replace h := mv_letE h M3 eM3
  refine mv_aload_n 1 dX11_node_35 rfl ?_
  refine mv_getR 75 fX11_51 (by decide) rfl rfl rfl dX11_node_36 ?_
  refine mv_iload_n 0 dX11_node_39 rfl ?_
  refine mv_iload_n 3 dX11_node_40 rfl ?_
  obtain ⟨hi4, h⟩ := mv_chkE h
  refine mv_ist (by decide) rfl (mv_inE hi4) dX11_node_41 (fun M5 eM5 => ?_)
  replace h := mv_letE h M5 eM5
  refine mv_iload_n 0 dX11_node_42 rfl ?_
  exact mv_iret rfl dX11_node_43 ⟨_, rfl, h⟩
noncomputable def fX11_node (a0 : Int32) (a1 : Int32) (M : mv_M) : Option (Int32 × mv_M) :=
  if 2001 ≤ (M.1 62 29) then
    fX11_node_20 a0 a1 2001 M
  else
    fX11_node_20 a0 a1 (M.1 62 29) M
set_option maxRecDepth 100000 in
set_option maxHeartbeats 4000000 in
theorem zX11_node {l : Launch} {d : Nat} {Q : Int32 → mv_M → Prop} (hd : 0 ≤ d) (a0 : Int32) (a1 : Int32) (M : mv_M) (h : mv_ok (fX11_node a0 a1 M) Q) : mv l mX11_node d 0 0 (lv_args 0 [.ref 62, .int a0, .int a1]) [] M (mv_qI Q) := by
  unfold fX11_node at h
  show mv l mX11_node d 0 0 [(0, .ref 62), (1, .int a0), (2, .int a1)] [] M (mv_qI Q)
  refine mv_aload_n 0 dX11_node_0 rfl ?_
  refine mv_getI fX11_232 (by decide) rfl rfl dX11_node_1 ?_
  refine mv_sipush 2001 dX11_node_4 (by decide) ?_
  refine mv_icmp_ge 17 dX11_node_7 (by decide) (fun z => ?_) (fun z => ?_)
  · replace h := mv_ifT z h
    refine mv_sipush 2001 dX11_node_17 (by decide) ?_
    refine mv_sub [0, 1, 2] rfl ?_
    exact zX11_node_20 hd a0 a1 2001 M h
  · replace h := mv_ifF z h
    refine mv_aload_n 0 dX11_node_10 rfl ?_
    refine mv_getI fX11_232 (by decide) rfl rfl dX11_node_11 ?_
    refine mv_goto 20 dX11_node_14 (by decide) ?_
    refine mv_sub [0, 1, 2] rfl ?_
    exact zX11_node_20 hd a0 a1 (M.1 62 29) M h
theorem dX11_isParam_0 : decode cX11_isParam 0 = .ok (.iconst 0, 1) := by decide +kernel
theorem dX11_isParam_1 : decode cX11_isParam 1 = .ok (.istore_n 3, 1) := by decide +kernel
theorem dX11_isParam_2 : decode cX11_isParam 2 = .ok (.iconst 0, 1) := by decide +kernel
theorem dX11_isParam_3 : decode cX11_isParam 3 = .ok (.istore 4, 2) := by decide +kernel
theorem dX11_isParam_5 : decode cX11_isParam 5 = .ok (.iload 4, 2) := by decide +kernel
theorem dX11_isParam_7 : decode cX11_isParam 7 = .ok (.aload_n 0, 1) := by decide +kernel
theorem dX11_isParam_8 : decode cX11_isParam 8 = .ok (.getfield 24, 3) := by decide +kernel
theorem dX11_isParam_11 : decode cX11_isParam 11 = .ok (.aload_n 0, 1) := by decide +kernel
theorem dX11_isParam_12 : decode cX11_isParam 12 = .ok (.getfield 239, 3) := by decide +kernel
theorem dX11_isParam_15 : decode cX11_isParam 15 = .ok (.iaload, 1) := by decide +kernel
theorem dX11_isParam_16 : decode cX11_isParam 16 = .ok (.if_icmp .ge 39, 3) := by decide +kernel
theorem dX11_isParam_19 : decode cX11_isParam 19 = .ok (.iload_n 3, 1) := by decide +kernel
theorem dX11_isParam_20 : decode cX11_isParam 20 = .ok (.ifCond .ne 23, 3) := by decide +kernel
theorem dX11_isParam_23 : decode cX11_isParam 23 = .ok (.aload_n 0, 1) := by decide +kernel
theorem dX11_isParam_24 : decode cX11_isParam 24 = .ok (.getfield 33, 3) := by decide +kernel
theorem dX11_isParam_27 : decode cX11_isParam 27 = .ok (.bipush 16, 2) := by decide +kernel
theorem dX11_isParam_29 : decode cX11_isParam 29 = .ok (.aload_n 0, 1) := by decide +kernel
theorem dX11_isParam_30 : decode cX11_isParam 30 = .ok (.getfield 239, 3) := by decide +kernel
theorem dX11_isParam_33 : decode cX11_isParam 33 = .ok (.imul, 1) := by decide +kernel
theorem dX11_isParam_34 : decode cX11_isParam 34 = .ok (.iload 4, 2) := by decide +kernel
theorem dX11_isParam_36 : decode cX11_isParam 36 = .ok (.iadd, 1) := by decide +kernel
theorem dX11_isParam_37 : decode cX11_isParam 37 = .ok (.laload, 1) := by decide +kernel
theorem dX11_isParam_38 : decode cX11_isParam 38 = .ok (.lload_n 1, 1) := by decide +kernel
theorem dX11_isParam_39 : decode cX11_isParam 39 = .ok (.lcmp, 1) := by decide +kernel
theorem dX11_isParam_40 : decode cX11_isParam 40 = .ok (.ifCond .ne 7, 3) := by decide +kernel
theorem dX11_isParam_43 : decode cX11_isParam 43 = .ok (.iconst 1, 1) := by decide +kernel
theorem dX11_isParam_44 : decode cX11_isParam 44 = .ok (.goto 4, 3) := by decide +kernel
theorem dX11_isParam_47 : decode cX11_isParam 47 = .ok (.iconst 0, 1) := by decide +kernel
theorem dX11_isParam_48 : decode cX11_isParam 48 = .ok (.istore_n 3, 1) := by decide +kernel
theorem dX11_isParam_49 : decode cX11_isParam 49 = .ok (.iinc 4 1, 3) := by decide +kernel
theorem dX11_isParam_52 : decode cX11_isParam 52 = .ok (.goto (-47), 3) := by decide +kernel
theorem dX11_isParam_55 : decode cX11_isParam 55 = .ok (.iload_n 3, 1) := by decide +kernel
theorem dX11_isParam_56 : decode cX11_isParam 56 = .ok (.ireturn, 1) := by decide +kernel
noncomputable def fX11_isParam_48 (x1 : Int64) (x4 : Int32) (s0 : Int32) (M : mv_M) : Option (((Int64 × Int32 × Int32) ⊕ Int32) × mv_M) :=
  mv_let (x4 + 1) fun v4 =>
  some (.inl (x1, s0, v4), M)
set_option maxRecDepth 100000 in
set_option maxHeartbeats 4000000 in
theorem zX11_isParam_48 {l : Launch} {d : Nat} {Q : Int32 → mv_M → Prop} (hd : 0 ≤ d) (x1 : Int64) (x4 : Int32) (s0 : Int32) (M : mv_M) (h : mv_ok (fX11_isParam_48 x1 x4 s0 M) (mv_pq (fun (s : Int64 × Int32 × Int32) M => mv l mX11_isParam d 0 5 [(0, .ref 62), (1, .long s.1), (3, .int s.2.1), (4, .int s.2.2)] [] M (mv_qI Q)) Q)) : mv l mX11_isParam d 0 48 [(0, .ref 62), (1, .long x1), (4, .int x4)] [.int s0] M (mv_qI Q) := by
  unfold fX11_isParam_48 at h
  refine mv_istore_n [(3, .int s0), (0, .ref 62), (1, .long x1), (4, .int x4)] dX11_isParam_48 (by decide) rfl ?_
  obtain ⟨v4, ev4⟩ : ∃ z : Int32, z = x4 + 1 := ⟨_, rfl⟩
  replace h := mv_letE h v4 ev4
  refine mv_iinc v4 3 [(4, .int v4), (3, .int s0), (0, .ref 62), (1, .long x1)] dX11_isParam_49 rfl (by rw [ev4]; rfl) (by decide) rfl ?_
  refine mv_goto 5 dX11_isParam_52 (by decide) ?_
  refine mv_sub [2, 3, 1, 0] rfl ?_
  exact h
noncomputable def fX11_isParam_43 (x1 : Int64) (x4 : Int32) (M : mv_M) : Option (((Int64 × Int32 × Int32) ⊕ Int32) × mv_M) :=
  fX11_isParam_48 x1 x4 1 M
set_option maxRecDepth 100000 in
set_option maxHeartbeats 4000000 in
theorem zX11_isParam_43 {l : Launch} {d : Nat} {Q : Int32 → mv_M → Prop} (hd : 0 ≤ d) (x1 : Int64) (x4 : Int32) (M : mv_M) (h : mv_ok (fX11_isParam_43 x1 x4 M) (mv_pq (fun (s : Int64 × Int32 × Int32) M => mv l mX11_isParam d 0 5 [(0, .ref 62), (1, .long s.1), (3, .int s.2.1), (4, .int s.2.2)] [] M (mv_qI Q)) Q)) : mv l mX11_isParam d 0 43 [(0, .ref 62), (1, .long x1), (4, .int x4)] [] M (mv_qI Q) := by
  unfold fX11_isParam_43 at h
  refine mv_iconst 1 dX11_isParam_43 (by decide) ?_
  refine mv_goto 48 dX11_isParam_44 (by decide) ?_
  refine mv_sub [0, 1, 2] rfl ?_
  exact zX11_isParam_48 hd x1 x4 1 M h
noncomputable def gX11_isParam_5 (x1 : Int64) (x3 : Int32) (x4 : Int32) (M : mv_M) : Option (((Int64 × Int32 × Int32) ⊕ Int32) × mv_M) :=
  mv_chk (mv_inb (M.1 62 33) 24) <|
  if (M.1 66 (M.1 62 33).toNatClampNeg) ≤ x4 then
    mv_chk (mv_bt x3) <|
    some (.inr (x3), M)
  else
    if x3 = 0 then
      mv_chk (mv_inb ((16 * (M.1 62 33)) + x4) 384) <|
      if (lg_cmp (M.2.1 69 ((16 * (M.1 62 33)) + x4).toNatClampNeg) x1) = 0 then
        fX11_isParam_43 x1 x4 M
      else
        fX11_isParam_48 x1 x4 0 M
    else
      fX11_isParam_43 x1 x4 M
noncomputable def fX11_isParam_5 (x1 : Int64) (x3 : Int32) (x4 : Int32) (M : mv_M) : Option (Int32 × mv_M) := mv_loop (fun (s : Int64 × Int32 × Int32) M => gX11_isParam_5 s.1 s.2.1 s.2.2 M) (x1, x3, x4) M
set_option maxRecDepth 100000 in
set_option maxHeartbeats 4000000 in
theorem zX11_isParam_5 {l : Launch} {d : Nat} {Q : Int32 → mv_M → Prop} (hd : 0 ≤ d) (x1 : Int64) (x3 : Int32) (x4 : Int32) (M : mv_M) (h : mv_ok (fX11_isParam_5 x1 x3 x4 M) Q) : mv l mX11_isParam d 0 5 [(0, .ref 62), (1, .long x1), (3, .int x3), (4, .int x4)] [] M (mv_qI Q) := by
  unfold fX11_isParam_5 at h
  refine mv_loopE (A := (fun (s : Int64 × Int32 × Int32) M => mv l mX11_isParam d 0 5 [(0, .ref 62), (1, .long s.1), (3, .int s.2.1), (4, .int s.2.2)] [] M (mv_qI Q))) ?_ (x1, x3, x4) M h
  · rintro ⟨x1, x3, x4⟩ M h
    try dsimp only at h
    show mv l mX11_isParam d 0 5 [(0, .ref 62), (1, .long x1), (3, .int x3), (4, .int x4)] [] M (mv_qI Q)
    unfold gX11_isParam_5 at h
    refine mv_iload 3 dX11_isParam_5 rfl ?_
    refine mv_aload_n 0 dX11_isParam_7 rfl ?_
    refine mv_getR 66 fX11_24 (by decide) rfl rfl rfl dX11_isParam_8 ?_
    refine mv_aload_n 0 dX11_isParam_11 rfl ?_
    refine mv_getI fX11_239 (by decide) rfl rfl dX11_isParam_12 ?_
    obtain ⟨hi1, h⟩ := mv_chkE h
    refine mv_ild (by decide) rfl (mv_inE hi1) dX11_isParam_15 ?_
    refine mv_icmp_ge 55 dX11_isParam_16 (by decide) (fun z => ?_) (fun z => ?_)
    · replace h := mv_ifT z h
      refine mv_iload_n 2 dX11_isParam_55 rfl ?_
      obtain ⟨hz2, h⟩ := mv_chkE h
      exact mv_zret (mv_btE hz2) rfl dX11_isParam_56 ⟨_, rfl, h⟩
    · replace h := mv_ifF z h
      refine mv_iload_n 2 dX11_isParam_19 rfl ?_
      refine mv_if_ne 43 dX11_isParam_20 (by decide) (fun z => ?_) (fun z => ?_)
      · replace h := mv_ifF z h
        refine mv_sub [0, 1, 3] rfl ?_
        exact zX11_isParam_43 hd x1 x4 M h
      · replace h := mv_ifT z h
        refine mv_aload_n 0 dX11_isParam_23 rfl ?_
        refine mv_getR 69 fX11_33 (by decide) rfl rfl rfl dX11_isParam_24 ?_
        refine mv_bipush 16 dX11_isParam_27 (by decide) ?_
        refine mv_aload_n 0 dX11_isParam_29 rfl ?_
        refine mv_getI fX11_239 (by decide) rfl rfl dX11_isParam_30 ?_
        refine mv_imul dX11_isParam_33 ?_
        refine mv_iload 3 dX11_isParam_34 rfl ?_
        refine mv_iadd dX11_isParam_36 ?_
        obtain ⟨hi3, h⟩ := mv_chkE h
        refine mv_lld (by decide) rfl (mv_inE hi3) dX11_isParam_37 ?_
        refine mv_lload_n 1 dX11_isParam_38 rfl ?_
        refine mv_lcmp dX11_isParam_39 ?_
        refine mv_if_ne 47 dX11_isParam_40 (by decide) (fun z => ?_) (fun z => ?_)
        · replace h := mv_ifF z h
          refine mv_iconst 0 dX11_isParam_47 (by decide) ?_
          refine mv_sub [0, 1, 3] rfl ?_
          exact zX11_isParam_48 hd x1 x4 0 M h
        · replace h := mv_ifT z h
          refine mv_sub [0, 1, 3] rfl ?_
          exact zX11_isParam_43 hd x1 x4 M h
noncomputable def fX11_isParam (a0 : Int64) (M : mv_M) : Option (Int32 × mv_M) :=
  fX11_isParam_5 a0 0 0 M
set_option maxRecDepth 100000 in
set_option maxHeartbeats 4000000 in
theorem zX11_isParam {l : Launch} {d : Nat} {Q : Int32 → mv_M → Prop} (hd : 0 ≤ d) (a0 : Int64) (M : mv_M) (h : mv_ok (fX11_isParam a0 M) Q) : mv l mX11_isParam d 0 0 (lv_args 0 [.ref 62, .long a0]) [] M (mv_qI Q) := by
  unfold fX11_isParam at h
  show mv l mX11_isParam d 0 0 [(0, .ref 62), (1, .long a0)] [] M (mv_qI Q)
  refine mv_iconst 0 dX11_isParam_0 (by decide) ?_
  refine mv_istore_n [(3, .int 0), (0, .ref 62), (1, .long a0)] dX11_isParam_1 (by decide) rfl ?_
  refine mv_iconst 0 dX11_isParam_2 (by decide) ?_
  refine mv_istore [(4, .int 0), (3, .int 0), (0, .ref 62), (1, .long a0)] dX11_isParam_3 (by decide) rfl ?_
  refine mv_sub [2, 3, 1, 0] rfl ?_
  exact zX11_isParam_5 hd a0 0 0 M h
theorem dX11_name_0 : decode cX11_name 0 = .ok (.aload_n 0, 1) := by decide +kernel
theorem dX11_name_1 : decode cX11_name 1 = .ok (.getfield 176, 3) := by decide +kernel
theorem dX11_name_4 : decode cX11_name 4 = .ok (.ifCond .ne 21, 3) := by decide +kernel
theorem dX11_name_7 : decode cX11_name 7 = .ok (.aload_n 0, 1) := by decide +kernel
theorem dX11_name_8 : decode cX11_name 8 = .ok (.getfield 193, 3) := by decide +kernel
theorem dX11_name_11 : decode cX11_name 11 = .ok (.bipush 10, 2) := by decide +kernel
theorem dX11_name_13 : decode cX11_name 13 = .ok (.if_icmp .eq 12, 3) := by decide +kernel
theorem dX11_name_16 : decode cX11_name 16 = .ok (.aload_n 0, 1) := by decide +kernel
theorem dX11_name_17 : decode cX11_name 17 = .ok (.iconst 2, 1) := by decide +kernel
theorem dX11_name_18 : decode cX11_name 18 = .ok (.aload_n 0, 1) := by decide +kernel
theorem dX11_name_19 : decode cX11_name 19 = .ok (.getfield 190, 3) := by decide +kernel
theorem dX11_name_22 : decode cX11_name 22 = .ok (.invokevirtual 205, 3) := by decide +kernel
theorem dX11_name_25 : decode cX11_name 25 = .ok (.aload_n 0, 1) := by decide +kernel
theorem dX11_name_26 : decode cX11_name 26 = .ok (.getfield 176, 3) := by decide +kernel
theorem dX11_name_29 : decode cX11_name 29 = .ok (.ifCond .ne 27, 3) := by decide +kernel
theorem dX11_name_32 : decode cX11_name 32 = .ok (.iload_n 1, 1) := by decide +kernel
theorem dX11_name_33 : decode cX11_name 33 = .ok (.ifCond .eq 23, 3) := by decide +kernel
theorem dX11_name_36 : decode cX11_name 36 = .ok (.aload_n 0, 1) := by decide +kernel
theorem dX11_name_37 : decode cX11_name 37 = .ok (.aload_n 0, 1) := by decide +kernel
theorem dX11_name_38 : decode cX11_name 38 = .ok (.getfield 222, 3) := by decide +kernel
theorem dX11_name_41 : decode cX11_name 41 = .ok (.invokevirtual 235, 3) := by decide +kernel
theorem dX11_name_44 : decode cX11_name 44 = .ok (.ifCond .eq 12, 3) := by decide +kernel
theorem dX11_name_47 : decode cX11_name 47 = .ok (.aload_n 0, 1) := by decide +kernel
theorem dX11_name_48 : decode cX11_name 48 = .ok (.iconst 3, 1) := by decide +kernel
theorem dX11_name_49 : decode cX11_name 49 = .ok (.aload_n 0, 1) := by decide +kernel
theorem dX11_name_50 : decode cX11_name 50 = .ok (.getfield 190, 3) := by decide +kernel
theorem dX11_name_53 : decode cX11_name 53 = .ok (.invokevirtual 205, 3) := by decide +kernel
theorem dX11_name_56 : decode cX11_name 56 = .ok (.aload_n 0, 1) := by decide +kernel
theorem dX11_name_57 : decode cX11_name 57 = .ok (.getfield 176, 3) := by decide +kernel
theorem dX11_name_60 : decode cX11_name 60 = .ok (.ifCond .ne 44, 3) := by decide +kernel
theorem dX11_name_63 : decode cX11_name 63 = .ok (.iload_n 1, 1) := by decide +kernel
theorem dX11_name_64 : decode cX11_name 64 = .ok (.ifCond .eq 16, 3) := by decide +kernel
theorem dX11_name_67 : decode cX11_name 67 = .ok (.aload_n 0, 1) := by decide +kernel
theorem dX11_name_68 : decode cX11_name 68 = .ok (.getfield 24, 3) := by decide +kernel
theorem dX11_name_71 : decode cX11_name 71 = .ok (.aload_n 0, 1) := by decide +kernel
theorem dX11_name_72 : decode cX11_name 72 = .ok (.getfield 239, 3) := by decide +kernel
theorem dX11_name_75 : decode cX11_name 75 = .ok (.iaload, 1) := by decide +kernel
theorem dX11_name_76 : decode cX11_name 76 = .ok (.iconst 4, 1) := by decide +kernel
theorem dX11_name_77 : decode cX11_name 77 = .ok (.if_icmp .eq 17, 3) := by decide +kernel
theorem dX11_name_80 : decode cX11_name 80 = .ok (.aload_n 0, 1) := by decide +kernel
theorem dX11_name_81 : decode cX11_name 81 = .ok (.getfield 27, 3) := by decide +kernel
theorem dX11_name_84 : decode cX11_name 84 = .ok (.aload_n 0, 1) := by decide +kernel
theorem dX11_name_85 : decode cX11_name 85 = .ok (.getfield 239, 3) := by decide +kernel
theorem dX11_name_88 : decode cX11_name 88 = .ok (.iaload, 1) := by decide +kernel
theorem dX11_name_89 : decode cX11_name 89 = .ok (.bipush 16, 2) := by decide +kernel
theorem dX11_name_91 : decode cX11_name 91 = .ok (.if_icmp .ne 13, 3) := by decide +kernel
theorem dX11_name_94 : decode cX11_name 94 = .ok (.aload_n 0, 1) := by decide +kernel
theorem dX11_name_95 : decode cX11_name 95 = .ok (.bipush 6, 2) := by decide +kernel
theorem dX11_name_97 : decode cX11_name 97 = .ok (.aload_n 0, 1) := by decide +kernel
theorem dX11_name_98 : decode cX11_name 98 = .ok (.getfield 190, 3) := by decide +kernel
theorem dX11_name_101 : decode cX11_name 101 = .ok (.invokevirtual 205, 3) := by decide +kernel
theorem dX11_name_104 : decode cX11_name 104 = .ok (.aload_n 0, 1) := by decide +kernel
theorem dX11_name_105 : decode cX11_name 105 = .ok (.getfield 176, 3) := by decide +kernel
theorem dX11_name_108 : decode cX11_name 108 = .ok (.ifCond .eq 5, 3) := by decide +kernel
theorem dX11_name_111 : decode cX11_name 111 = .ok (.iconst 0, 1) := by decide +kernel
theorem dX11_name_112 : decode cX11_name 112 = .ok (.ireturn, 1) := by decide +kernel
theorem dX11_name_113 : decode cX11_name 113 = .ok (.aload_n 0, 1) := by decide +kernel
theorem dX11_name_114 : decode cX11_name 114 = .ok (.getfield 27, 3) := by decide +kernel
theorem dX11_name_117 : decode cX11_name 117 = .ok (.aload_n 0, 1) := by decide +kernel
theorem dX11_name_118 : decode cX11_name 118 = .ok (.getfield 239, 3) := by decide +kernel
theorem dX11_name_121 : decode cX11_name 121 = .ok (.iaload, 1) := by decide +kernel
theorem dX11_name_122 : decode cX11_name 122 = .ok (.istore_n 2, 1) := by decide +kernel
theorem dX11_name_123 : decode cX11_name 123 = .ok (.aload_n 0, 1) := by decide +kernel
theorem dX11_name_124 : decode cX11_name 124 = .ok (.getfield 33, 3) := by decide +kernel
theorem dX11_name_127 : decode cX11_name 127 = .ok (.bipush 16, 2) := by decide +kernel
theorem dX11_name_129 : decode cX11_name 129 = .ok (.aload_n 0, 1) := by decide +kernel
theorem dX11_name_130 : decode cX11_name 130 = .ok (.getfield 239, 3) := by decide +kernel
theorem dX11_name_133 : decode cX11_name 133 = .ok (.imul, 1) := by decide +kernel
theorem dX11_name_134 : decode cX11_name 134 = .ok (.iload_n 2, 1) := by decide +kernel
theorem dX11_name_135 : decode cX11_name 135 = .ok (.iadd, 1) := by decide +kernel
theorem dX11_name_136 : decode cX11_name 136 = .ok (.aload_n 0, 1) := by decide +kernel
theorem dX11_name_137 : decode cX11_name 137 = .ok (.getfield 222, 3) := by decide +kernel
theorem dX11_name_140 : decode cX11_name 140 = .ok (.lastore, 1) := by decide +kernel
theorem dX11_name_141 : decode cX11_name 141 = .ok (.aload_n 0, 1) := by decide +kernel
theorem dX11_name_142 : decode cX11_name 142 = .ok (.getfield 27, 3) := by decide +kernel
theorem dX11_name_145 : decode cX11_name 145 = .ok (.aload_n 0, 1) := by decide +kernel
theorem dX11_name_146 : decode cX11_name 146 = .ok (.getfield 239, 3) := by decide +kernel
theorem dX11_name_149 : decode cX11_name 149 = .ok (.dup2, 1) := by decide +kernel
theorem dX11_name_150 : decode cX11_name 150 = .ok (.iaload, 1) := by decide +kernel
theorem dX11_name_151 : decode cX11_name 151 = .ok (.iconst 1, 1) := by decide +kernel
theorem dX11_name_152 : decode cX11_name 152 = .ok (.iadd, 1) := by decide +kernel
theorem dX11_name_153 : decode cX11_name 153 = .ok (.iastore, 1) := by decide +kernel
theorem dX11_name_154 : decode cX11_name 154 = .ok (.aload_n 0, 1) := by decide +kernel
theorem dX11_name_155 : decode cX11_name 155 = .ok (.invokevirtual 229, 3) := by decide +kernel
theorem dX11_name_158 : decode cX11_name 158 = .ok (.iload_n 2, 1) := by decide +kernel
theorem dX11_name_159 : decode cX11_name 159 = .ok (.ireturn, 1) := by decide +kernel
noncomputable def fX11_name_104 (M : mv_M) : Option (Int32 × mv_M) :=
  if (M.1 62 9) = 0 then
    mv_chk (mv_inb (M.1 62 33) 24) <|
    mv_let (M.1 67 (M.1 62 33).toNatClampNeg) fun v7 =>
    mv_chk (mv_inb ((16 * (M.1 62 33)) + v7) 384) <|
    mv_let (mv_sl M 69 ((16 * (M.1 62 33)) + v7).toNatClampNeg (M.2.1 62 7)) fun M9 =>
    mv_chk (mv_inb (M9.1 62 33) 24) <|
    mv_chk (mv_inb (M9.1 62 33) 24) <|
    mv_let (mv_si M9 67 (M9.1 62 33).toNatClampNeg ((M9.1 67 (M9.1 62 33).toNatClampNeg) + 1)) fun M12 =>
    mv_bind (fX11_pass M12) fun _ M13 =>
    some (v7, M13)
  else
    some (0, M)
set_option maxRecDepth 100000 in
set_option maxHeartbeats 4000000 in
theorem zX11_name_104 {l : Launch} {d : Nat} {Q : Int32 → mv_M → Prop} (hd : 5 ≤ d) (M : mv_M) (h : mv_ok (fX11_name_104 M) Q) : mv l mX11_name d 0 104 [(0, .ref 62)] [] M (mv_qI Q) := by
  unfold fX11_name_104 at h
  refine mv_aload_n 0 dX11_name_104 rfl ?_
  refine mv_getI fX11_176 (by decide) rfl rfl dX11_name_105 ?_
  refine mv_if_eq 113 dX11_name_108 (by decide) (fun z => ?_) (fun z => ?_)
  · replace h := mv_ifT z h
    refine mv_aload_n 0 dX11_name_113 rfl ?_
    refine mv_getR 67 fX11_27 (by decide) rfl rfl rfl dX11_name_114 ?_
    refine mv_aload_n 0 dX11_name_117 rfl ?_
    refine mv_getI fX11_239 (by decide) rfl rfl dX11_name_118 ?_
    obtain ⟨hi6, h⟩ := mv_chkE h
    refine mv_ild (by decide) rfl (mv_inE hi6) dX11_name_121 ?_
    refine mv_topi (fun v7 ev7 => ?_)
    replace h := mv_letE h v7 ev7
    refine mv_istore_n [(2, .int v7), (0, .ref 62)] dX11_name_122 (by decide) rfl ?_
    refine mv_aload_n 1 dX11_name_123 rfl ?_
    refine mv_getR 69 fX11_33 (by decide) rfl rfl rfl dX11_name_124 ?_
    refine mv_bipush 16 dX11_name_127 (by decide) ?_
    refine mv_aload_n 1 dX11_name_129 rfl ?_
    refine mv_getI fX11_239 (by decide) rfl rfl dX11_name_130 ?_
    refine mv_imul dX11_name_133 ?_
    refine mv_iload_n 0 dX11_name_134 rfl ?_
    refine mv_iadd dX11_name_135 ?_
    refine mv_aload_n 1 dX11_name_136 rfl ?_
    refine mv_getL fX11_222 (by decide) rfl rfl dX11_name_137 ?_
    obtain ⟨hi8, h⟩ := mv_chkE h
    refine mv_lst (by decide) rfl (mv_inE hi8) dX11_name_140 (fun M9 eM9 => ?_)
    replace h := mv_letE h M9 eM9
    refine mv_aload_n 1 dX11_name_141 rfl ?_
    refine mv_getR 67 fX11_27 (by decide) rfl rfl rfl dX11_name_142 ?_
    refine mv_aload_n 1 dX11_name_145 rfl ?_
    refine mv_getI fX11_239 (by decide) rfl rfl dX11_name_146 ?_
    refine mv_dup2 dX11_name_149 rfl rfl ?_
    obtain ⟨hi10, h⟩ := mv_chkE h
    refine mv_ild (by decide) rfl (mv_inE hi10) dX11_name_150 ?_
    refine mv_iconst 1 dX11_name_151 (by decide) ?_
    refine mv_iadd dX11_name_152 ?_
    obtain ⟨hi11, h⟩ := mv_chkE h
    refine mv_ist (by decide) rfl (mv_inE hi11) dX11_name_153 (fun M12 eM12 => ?_)
    replace h := mv_letE h M12 eM12
    refine mv_aload_n 1 dX11_name_154 rfl ?_
    refine mv_cvV (As := []) (st := []) okX11_pass lX11_229 (by decide) rfl rfl rfl (Nat.le_of_ble_eq_true rfl) rfl (Nat.le_of_ble_eq_true rfl) dX11_name_155 (by omega) rfl (zX11_pass (d := d - 1) (by omega) M12 (mv_bindE h)) (fun _ M13 h => ?_)
    refine mv_iload_n 0 dX11_name_158 rfl ?_
    exact mv_iret rfl dX11_name_159 ⟨_, rfl, h⟩
  · replace h := mv_ifF z h
    refine mv_iconst 0 dX11_name_111 (by decide) ?_
    exact mv_iret rfl dX11_name_112 ⟨_, rfl, h⟩
noncomputable def fX11_name_94 (M : mv_M) : Option (Int32 × mv_M) :=
  mv_bind (fX11_stop 6 (M.1 62 5) M) fun _ M15 =>
  fX11_name_104 M15
set_option maxRecDepth 100000 in
set_option maxHeartbeats 4000000 in
theorem zX11_name_94 {l : Launch} {d : Nat} {Q : Int32 → mv_M → Prop} (hd : 5 ≤ d) (M : mv_M) (h : mv_ok (fX11_name_94 M) Q) : mv l mX11_name d 0 94 [(0, .ref 62)] [] M (mv_qI Q) := by
  unfold fX11_name_94 at h
  refine mv_aload_n 0 dX11_name_94 rfl ?_
  refine mv_bipush 6 dX11_name_95 (by decide) ?_
  refine mv_aload_n 0 dX11_name_97 rfl ?_
  refine mv_getI fX11_190 (by decide) rfl rfl dX11_name_98 ?_
  refine mv_cvV (As := [.int 6, .int (M.1 62 5)]) (st := []) okX11_stop lX11_205 (by decide) rfl rfl rfl (Nat.le_of_ble_eq_true rfl) rfl (Nat.le_of_ble_eq_true rfl) dX11_name_101 (by omega) rfl (zX11_stop (d := d - 1) (by omega) 6 (M.1 62 5) M (mv_bindE h)) (fun _ M15 h => ?_)
  refine mv_sub [0] rfl ?_
  exact zX11_name_104 hd M15 h
noncomputable def fX11_name_80 (M : mv_M) : Option (Int32 × mv_M) :=
  mv_chk (mv_inb (M.1 62 33) 24) <|
  if (M.1 67 (M.1 62 33).toNatClampNeg) = 16 then
    fX11_name_94 M
  else
    fX11_name_104 M
set_option maxRecDepth 100000 in
set_option maxHeartbeats 4000000 in
theorem zX11_name_80 {l : Launch} {d : Nat} {Q : Int32 → mv_M → Prop} (hd : 5 ≤ d) (M : mv_M) (h : mv_ok (fX11_name_80 M) Q) : mv l mX11_name d 0 80 [(0, .ref 62)] [] M (mv_qI Q) := by
  unfold fX11_name_80 at h
  refine mv_aload_n 0 dX11_name_80 rfl ?_
  refine mv_getR 67 fX11_27 (by decide) rfl rfl rfl dX11_name_81 ?_
  refine mv_aload_n 0 dX11_name_84 rfl ?_
  refine mv_getI fX11_239 (by decide) rfl rfl dX11_name_85 ?_
  obtain ⟨hi14, h⟩ := mv_chkE h
  refine mv_ild (by decide) rfl (mv_inE hi14) dX11_name_88 ?_
  refine mv_bipush 16 dX11_name_89 (by decide) ?_
  refine mv_icmp_ne 104 dX11_name_91 (by decide) (fun z => ?_) (fun z => ?_)
  · replace h := mv_ifF z h
    refine mv_sub [0] rfl ?_
    exact zX11_name_104 hd M h
  · replace h := mv_ifT z h
    refine mv_sub [0] rfl ?_
    exact zX11_name_94 hd M h
noncomputable def fX11_name_56 (x1 : Int32) (M : mv_M) : Option (Int32 × mv_M) :=
  if (M.1 62 9) = 0 then
    if x1 = 0 then
      fX11_name_80 M
    else
      mv_chk (mv_inb (M.1 62 33) 24) <|
      if (M.1 66 (M.1 62 33).toNatClampNeg) = 4 then
        fX11_name_94 M
      else
        fX11_name_80 M
  else
    fX11_name_104 M
set_option maxRecDepth 100000 in
set_option maxHeartbeats 4000000 in
theorem zX11_name_56 {l : Launch} {d : Nat} {Q : Int32 → mv_M → Prop} (hd : 5 ≤ d) (x1 : Int32) (M : mv_M) (h : mv_ok (fX11_name_56 x1 M) Q) : mv l mX11_name d 0 56 [(0, .ref 62), (1, .int x1)] [] M (mv_qI Q) := by
  unfold fX11_name_56 at h
  refine mv_aload_n 0 dX11_name_56 rfl ?_
  refine mv_getI fX11_176 (by decide) rfl rfl dX11_name_57 ?_
  refine mv_if_ne 104 dX11_name_60 (by decide) (fun z => ?_) (fun z => ?_)
  · replace h := mv_ifF z h
    refine mv_sub [0] rfl ?_
    exact zX11_name_104 hd M h
  · replace h := mv_ifT z h
    refine mv_iload_n 1 dX11_name_63 rfl ?_
    refine mv_if_eq 80 dX11_name_64 (by decide) (fun z => ?_) (fun z => ?_)
    · replace h := mv_ifT z h
      refine mv_sub [0] rfl ?_
      exact zX11_name_80 hd M h
    · replace h := mv_ifF z h
      refine mv_aload_n 0 dX11_name_67 rfl ?_
      refine mv_getR 66 fX11_24 (by decide) rfl rfl rfl dX11_name_68 ?_
      refine mv_aload_n 0 dX11_name_71 rfl ?_
      refine mv_getI fX11_239 (by decide) rfl rfl dX11_name_72 ?_
      obtain ⟨hi5, h⟩ := mv_chkE h
      refine mv_ild (by decide) rfl (mv_inE hi5) dX11_name_75 ?_
      refine mv_iconst 4 dX11_name_76 (by decide) ?_
      refine mv_icmp_eq 94 dX11_name_77 (by decide) (fun z => ?_) (fun z => ?_)
      · replace h := mv_ifT z h
        refine mv_sub [0] rfl ?_
        exact zX11_name_94 hd M h
      · replace h := mv_ifF z h
        refine mv_sub [0] rfl ?_
        exact zX11_name_80 hd M h
noncomputable def fX11_name_25 (x1 : Int32) (M : mv_M) : Option (Int32 × mv_M) :=
  if (M.1 62 9) = 0 then
    if x1 = 0 then
      fX11_name_56 x1 M
    else
      mv_bind (fX11_isParam (M.2.1 62 7) M) fun r2 M3 =>
      if r2 = 0 then
        fX11_name_56 x1 M3
      else
        mv_bind (fX11_stop 3 (M3.1 62 5) M3) fun _ M4 =>
        fX11_name_56 x1 M4
  else
    fX11_name_56 x1 M
set_option maxRecDepth 100000 in
set_option maxHeartbeats 4000000 in
theorem zX11_name_25 {l : Launch} {d : Nat} {Q : Int32 → mv_M → Prop} (hd : 5 ≤ d) (x1 : Int32) (M : mv_M) (h : mv_ok (fX11_name_25 x1 M) Q) : mv l mX11_name d 0 25 [(0, .ref 62), (1, .int x1)] [] M (mv_qI Q) := by
  unfold fX11_name_25 at h
  refine mv_aload_n 0 dX11_name_25 rfl ?_
  refine mv_getI fX11_176 (by decide) rfl rfl dX11_name_26 ?_
  refine mv_if_ne 56 dX11_name_29 (by decide) (fun z => ?_) (fun z => ?_)
  · replace h := mv_ifF z h
    refine mv_sub [0, 1] rfl ?_
    exact zX11_name_56 hd x1 M h
  · replace h := mv_ifT z h
    refine mv_iload_n 1 dX11_name_32 rfl ?_
    refine mv_if_eq 56 dX11_name_33 (by decide) (fun z => ?_) (fun z => ?_)
    · replace h := mv_ifT z h
      refine mv_sub [0, 1] rfl ?_
      exact zX11_name_56 hd x1 M h
    · replace h := mv_ifF z h
      refine mv_aload_n 0 dX11_name_36 rfl ?_
      refine mv_aload_n 0 dX11_name_37 rfl ?_
      refine mv_getL fX11_222 (by decide) rfl rfl dX11_name_38 ?_
      refine mv_cvI (As := [.long (M.2.1 62 7)]) (st := []) okX11_isParam lX11_235 (by decide) rfl rfl rfl (Nat.le_of_ble_eq_true rfl) rfl (Nat.le_of_ble_eq_true rfl) dX11_name_41 (by omega) rfl (zX11_isParam (d := d - 1) (by omega) (M.2.1 62 7) M (mv_bindE h)) (fun r2 M3 h => ?_)
      refine mv_if_eq 56 dX11_name_44 (by decide) (fun z => ?_) (fun z => ?_)
      · replace h := mv_ifT z h
        refine mv_sub [0, 1] rfl ?_
        exact zX11_name_56 hd x1 M3 h
      · replace h := mv_ifF z h
        refine mv_aload_n 0 dX11_name_47 rfl ?_
        refine mv_iconst 3 dX11_name_48 (by decide) ?_
        refine mv_aload_n 0 dX11_name_49 rfl ?_
        refine mv_getI fX11_190 (by decide) rfl rfl dX11_name_50 ?_
        refine mv_cvV (As := [.int 3, .int (M3.1 62 5)]) (st := []) okX11_stop lX11_205 (by decide) rfl rfl rfl (Nat.le_of_ble_eq_true rfl) rfl (Nat.le_of_ble_eq_true rfl) dX11_name_53 (by omega) rfl (zX11_stop (d := d - 1) (by omega) 3 (M3.1 62 5) M3 (mv_bindE h)) (fun _ M4 h => ?_)
        refine mv_sub [0, 1] rfl ?_
        exact zX11_name_56 hd x1 M4 h
noncomputable def fX11_name (a0 : Int32) (M : mv_M) : Option (Int32 × mv_M) :=
  if (M.1 62 9) = 0 then
    if (M.1 62 4) = 10 then
      fX11_name_25 a0 M
    else
      mv_bind (fX11_stop 2 (M.1 62 5) M) fun _ M1 =>
      fX11_name_25 a0 M1
  else
    fX11_name_25 a0 M
set_option maxRecDepth 100000 in
set_option maxHeartbeats 4000000 in
theorem zX11_name {l : Launch} {d : Nat} {Q : Int32 → mv_M → Prop} (hd : 5 ≤ d) (a0 : Int32) (M : mv_M) (h : mv_ok (fX11_name a0 M) Q) : mv l mX11_name d 0 0 (lv_args 0 [.ref 62, .int a0]) [] M (mv_qI Q) := by
  unfold fX11_name at h
  show mv l mX11_name d 0 0 [(0, .ref 62), (1, .int a0)] [] M (mv_qI Q)
  refine mv_aload_n 0 dX11_name_0 rfl ?_
  refine mv_getI fX11_176 (by decide) rfl rfl dX11_name_1 ?_
  refine mv_if_ne 25 dX11_name_4 (by decide) (fun z => ?_) (fun z => ?_)
  · replace h := mv_ifF z h
    refine mv_sub [0, 1] rfl ?_
    exact zX11_name_25 hd a0 M h
  · replace h := mv_ifT z h
    refine mv_aload_n 0 dX11_name_7 rfl ?_
    refine mv_getI fX11_193 (by decide) rfl rfl dX11_name_8 ?_
    refine mv_bipush 10 dX11_name_11 (by decide) ?_
    refine mv_icmp_eq 25 dX11_name_13 (by decide) (fun z => ?_) (fun z => ?_)
    · replace h := mv_ifT z h
      refine mv_sub [0, 1] rfl ?_
      exact zX11_name_25 hd a0 M h
    · replace h := mv_ifF z h
      refine mv_aload_n 0 dX11_name_16 rfl ?_
      refine mv_iconst 2 dX11_name_17 (by decide) ?_
      refine mv_aload_n 0 dX11_name_18 rfl ?_
      refine mv_getI fX11_190 (by decide) rfl rfl dX11_name_19 ?_
      refine mv_cvV (As := [.int 2, .int (M.1 62 5)]) (st := []) okX11_stop lX11_205 (by decide) rfl rfl rfl (Nat.le_of_ble_eq_true rfl) rfl (Nat.le_of_ble_eq_true rfl) dX11_name_22 (by omega) rfl (zX11_stop (d := d - 1) (by omega) 2 (M.1 62 5) M (mv_bindE h)) (fun _ M1 h => ?_)
      refine mv_sub [0, 1] rfl ?_
      exact zX11_name_25 hd a0 M1 h
theorem dX11_push_0 : decode cX11_push 0 = .ok (.aload_n 0, 1) := by decide +kernel
theorem dX11_push_1 : decode cX11_push 1 = .ok (.getfield 242, 3) := by decide +kernel
theorem dX11_push_4 : decode cX11_push 4 = .ok (.sipush 3000, 3) := by decide +kernel
theorem dX11_push_7 : decode cX11_push 7 = .ok (.if_icmp .ge 33, 3) := by decide +kernel
theorem dX11_push_10 : decode cX11_push 10 = .ok (.aload_n 0, 1) := by decide +kernel
theorem dX11_push_11 : decode cX11_push 11 = .ok (.getfield 69, 3) := by decide +kernel
theorem dX11_push_14 : decode cX11_push 14 = .ok (.aload_n 0, 1) := by decide +kernel
theorem dX11_push_15 : decode cX11_push 15 = .ok (.getfield 242, 3) := by decide +kernel
theorem dX11_push_18 : decode cX11_push 18 = .ok (.iload_n 1, 1) := by decide +kernel
theorem dX11_push_19 : decode cX11_push 19 = .ok (.iastore, 1) := by decide +kernel
theorem dX11_push_20 : decode cX11_push 20 = .ok (.aload_n 0, 1) := by decide +kernel
theorem dX11_push_21 : decode cX11_push 21 = .ok (.getfield 72, 3) := by decide +kernel
theorem dX11_push_24 : decode cX11_push 24 = .ok (.aload_n 0, 1) := by decide +kernel
theorem dX11_push_25 : decode cX11_push 25 = .ok (.getfield 242, 3) := by decide +kernel
theorem dX11_push_28 : decode cX11_push 28 = .ok (.iload_n 2, 1) := by decide +kernel
theorem dX11_push_29 : decode cX11_push 29 = .ok (.iastore, 1) := by decide +kernel
theorem dX11_push_30 : decode cX11_push 30 = .ok (.aload_n 0, 1) := by decide +kernel
theorem dX11_push_31 : decode cX11_push 31 = .ok (.dup, 1) := by decide +kernel
theorem dX11_push_32 : decode cX11_push 32 = .ok (.getfield 242, 3) := by decide +kernel
theorem dX11_push_35 : decode cX11_push 35 = .ok (.iconst 1, 1) := by decide +kernel
theorem dX11_push_36 : decode cX11_push 36 = .ok (.iadd, 1) := by decide +kernel
theorem dX11_push_37 : decode cX11_push 37 = .ok (.putfield 242, 3) := by decide +kernel
theorem dX11_push_40 : decode cX11_push 40 = .ok (.return_, 1) := by decide +kernel
noncomputable def fX11_push (a0 : Int32) (a1 : Int32) (M : mv_M) : Option (Unit × mv_M) :=
  if 3000 ≤ (M.1 62 36) then
    some ((), M)
  else
    mv_chk (mv_inb (M.1 62 36) 3000) <|
    mv_let (mv_si M 81 (M.1 62 36).toNatClampNeg a0) fun M2 =>
    mv_chk (mv_inb (M2.1 62 36) 3000) <|
    mv_let (mv_si M2 82 (M2.1 62 36).toNatClampNeg a1) fun M4 =>
    mv_let (mv_si M4 62 36 ((M4.1 62 36) + 1)) fun M5 =>
    some ((), M5)
set_option maxRecDepth 100000 in
set_option maxHeartbeats 4000000 in
theorem zX11_push {l : Launch} {d : Nat} {Q : Unit → mv_M → Prop} (hd : 0 ≤ d) (a0 : Int32) (a1 : Int32) (M : mv_M) (h : mv_ok (fX11_push a0 a1 M) Q) : mv l mX11_push d 0 0 (lv_args 0 [.ref 62, .int a0, .int a1]) [] M (mv_qV Q) := by
  unfold fX11_push at h
  show mv l mX11_push d 0 0 [(0, .ref 62), (1, .int a0), (2, .int a1)] [] M (mv_qV Q)
  refine mv_aload_n 0 dX11_push_0 rfl ?_
  refine mv_getI fX11_242 (by decide) rfl rfl dX11_push_1 ?_
  refine mv_sipush 3000 dX11_push_4 (by decide) ?_
  refine mv_icmp_ge 40 dX11_push_7 (by decide) (fun z => ?_) (fun z => ?_)
  · replace h := mv_ifT z h
    exact mv_vret rfl dX11_push_40 ⟨rfl, h⟩
  · replace h := mv_ifF z h
    refine mv_aload_n 0 dX11_push_10 rfl ?_
    refine mv_getR 81 fX11_69 (by decide) rfl rfl rfl dX11_push_11 ?_
    refine mv_aload_n 0 dX11_push_14 rfl ?_
    refine mv_getI fX11_242 (by decide) rfl rfl dX11_push_15 ?_
    refine mv_iload_n 1 dX11_push_18 rfl ?_
    obtain ⟨hi1, h⟩ := mv_chkE h
    refine mv_ist (by decide) rfl (mv_inE hi1) dX11_push_19 (fun M2 eM2 => ?_)
    replace h := mv_letE h M2 eM2
    refine mv_aload_n 0 dX11_push_20 rfl ?_
    refine mv_getR 82 fX11_72 (by decide) rfl rfl rfl dX11_push_21 ?_
    refine mv_aload_n 0 dX11_push_24 rfl ?_
    refine mv_getI fX11_242 (by decide) rfl rfl dX11_push_25 ?_
    refine mv_iload_n 2 dX11_push_28 rfl ?_
    obtain ⟨hi3, h⟩ := mv_chkE h
    refine mv_ist (by decide) rfl (mv_inE hi3) dX11_push_29 (fun M4 eM4 => ?_)
    replace h := mv_letE h M4 eM4
    refine mv_aload_n 0 dX11_push_30 rfl ?_
    refine mv_dup dX11_push_31 rfl ?_
    refine mv_getI fX11_242 (by decide) rfl rfl dX11_push_32 ?_
    refine mv_iconst 1 dX11_push_35 (by decide) ?_
    refine mv_iadd dX11_push_36 ?_
    refine mv_putI fX11_242 (by decide) rfl rfl dX11_push_37 (fun M5 eM5 => ?_)
    replace h := mv_letE h M5 eM5
    exact mv_vret rfl dX11_push_40 ⟨rfl, h⟩
theorem dX11_make_0 : decode cX11_make 0 = .ok (.aload_n 0, 1) := by decide +kernel
theorem dX11_make_1 : decode cX11_make 1 = .ok (.getfield 245, 3) := by decide +kernel
theorem dX11_make_4 : decode cX11_make 4 = .ok (.sipush 1100, 3) := by decide +kernel
theorem dX11_make_7 : decode cX11_make 7 = .ok (.if_icmp .ge 23, 3) := by decide +kernel
theorem dX11_make_10 : decode cX11_make 10 = .ok (.aload_n 0, 1) := by decide +kernel
theorem dX11_make_11 : decode cX11_make 11 = .ok (.getfield 75, 3) := by decide +kernel
theorem dX11_make_14 : decode cX11_make 14 = .ok (.aload_n 0, 1) := by decide +kernel
theorem dX11_make_15 : decode cX11_make 15 = .ok (.getfield 245, 3) := by decide +kernel
theorem dX11_make_18 : decode cX11_make 18 = .ok (.iload_n 1, 1) := by decide +kernel
theorem dX11_make_19 : decode cX11_make 19 = .ok (.iastore, 1) := by decide +kernel
theorem dX11_make_20 : decode cX11_make 20 = .ok (.aload_n 0, 1) := by decide +kernel
theorem dX11_make_21 : decode cX11_make 21 = .ok (.dup, 1) := by decide +kernel
theorem dX11_make_22 : decode cX11_make 22 = .ok (.getfield 245, 3) := by decide +kernel
theorem dX11_make_25 : decode cX11_make 25 = .ok (.iconst 1, 1) := by decide +kernel
theorem dX11_make_26 : decode cX11_make 26 = .ok (.iadd, 1) := by decide +kernel
theorem dX11_make_27 : decode cX11_make 27 = .ok (.putfield 245, 3) := by decide +kernel
theorem dX11_make_30 : decode cX11_make 30 = .ok (.return_, 1) := by decide +kernel
noncomputable def fX11_make (a0 : Int32) (M : mv_M) : Option (Unit × mv_M) :=
  if 1100 ≤ (M.1 62 38) then
    some ((), M)
  else
    mv_chk (mv_inb (M.1 62 38) 1100) <|
    mv_let (mv_si M 83 (M.1 62 38).toNatClampNeg a0) fun M2 =>
    mv_let (mv_si M2 62 38 ((M2.1 62 38) + 1)) fun M3 =>
    some ((), M3)
set_option maxRecDepth 100000 in
set_option maxHeartbeats 4000000 in
theorem zX11_make {l : Launch} {d : Nat} {Q : Unit → mv_M → Prop} (hd : 0 ≤ d) (a0 : Int32) (M : mv_M) (h : mv_ok (fX11_make a0 M) Q) : mv l mX11_make d 0 0 (lv_args 0 [.ref 62, .int a0]) [] M (mv_qV Q) := by
  unfold fX11_make at h
  show mv l mX11_make d 0 0 [(0, .ref 62), (1, .int a0)] [] M (mv_qV Q)
  refine mv_aload_n 0 dX11_make_0 rfl ?_
  refine mv_getI fX11_245 (by decide) rfl rfl dX11_make_1 ?_
  refine mv_sipush 1100 dX11_make_4 (by decide) ?_
  refine mv_icmp_ge 30 dX11_make_7 (by decide) (fun z => ?_) (fun z => ?_)
  · replace h := mv_ifT z h
    exact mv_vret rfl dX11_make_30 ⟨rfl, h⟩
  · replace h := mv_ifF z h
    refine mv_aload_n 0 dX11_make_10 rfl ?_
    refine mv_getR 83 fX11_75 (by decide) rfl rfl rfl dX11_make_11 ?_
    refine mv_aload_n 0 dX11_make_14 rfl ?_
    refine mv_getI fX11_245 (by decide) rfl rfl dX11_make_15 ?_
    refine mv_iload_n 1 dX11_make_18 rfl ?_
    obtain ⟨hi1, h⟩ := mv_chkE h
    refine mv_ist (by decide) rfl (mv_inE hi1) dX11_make_19 (fun M2 eM2 => ?_)
    replace h := mv_letE h M2 eM2
    refine mv_aload_n 0 dX11_make_20 rfl ?_
    refine mv_dup dX11_make_21 rfl ?_
    refine mv_getI fX11_245 (by decide) rfl rfl dX11_make_22 ?_
    refine mv_iconst 1 dX11_make_25 (by decide) ?_
    refine mv_iadd dX11_make_26 ?_
    refine mv_putI fX11_245 (by decide) rfl rfl dX11_make_27 (fun M3 eM3 => ?_)
    replace h := mv_letE h M3 eM3
    exact mv_vret rfl dX11_make_30 ⟨rfl, h⟩
theorem dX11_last_0 : decode cX11_last 0 = .ok (.aload_n 0, 1) := by decide +kernel
theorem dX11_last_1 : decode cX11_last 1 = .ok (.dup, 1) := by decide +kernel
theorem dX11_last_2 : decode cX11_last 2 = .ok (.getfield 245, 3) := by decide +kernel
theorem dX11_last_5 : decode cX11_last 5 = .ok (.aload_n 0, 1) := by decide +kernel
theorem dX11_last_6 : decode cX11_last 6 = .ok (.getfield 245, 3) := by decide +kernel
theorem dX11_last_9 : decode cX11_last 9 = .ok (.ifCond .le 7, 3) := by decide +kernel
theorem dX11_last_12 : decode cX11_last 12 = .ok (.iconst 1, 1) := by decide +kernel
theorem dX11_last_13 : decode cX11_last 13 = .ok (.goto 4, 3) := by decide +kernel
theorem dX11_last_16 : decode cX11_last 16 = .ok (.iconst 0, 1) := by decide +kernel
theorem dX11_last_17 : decode cX11_last 17 = .ok (.isub, 1) := by decide +kernel
theorem dX11_last_18 : decode cX11_last 18 = .ok (.putfield 245, 3) := by decide +kernel
theorem dX11_last_21 : decode cX11_last 21 = .ok (.aload_n 0, 1) := by decide +kernel
theorem dX11_last_22 : decode cX11_last 22 = .ok (.getfield 75, 3) := by decide +kernel
theorem dX11_last_25 : decode cX11_last 25 = .ok (.aload_n 0, 1) := by decide +kernel
theorem dX11_last_26 : decode cX11_last 26 = .ok (.getfield 245, 3) := by decide +kernel
theorem dX11_last_29 : decode cX11_last 29 = .ok (.iaload, 1) := by decide +kernel
theorem dX11_last_30 : decode cX11_last 30 = .ok (.ireturn, 1) := by decide +kernel
noncomputable def fX11_last_17 (s0 : Int32) (s1 : Int32) (M : mv_M) : Option (Int32 × mv_M) :=
  mv_let (mv_si M 62 38 (s1 - s0)) fun M1 =>
  mv_chk (mv_inb (M1.1 62 38) 1100) <|
  some (M1.1 83 (M1.1 62 38).toNatClampNeg, M1)
set_option maxRecDepth 100000 in
set_option maxHeartbeats 4000000 in
theorem zX11_last_17 {l : Launch} {d : Nat} {Q : Int32 → mv_M → Prop} (hd : 0 ≤ d) (s0 : Int32) (s1 : Int32) (M : mv_M) (h : mv_ok (fX11_last_17 s0 s1 M) Q) : mv l mX11_last d 0 17 [(0, .ref 62)] [.int s0, .int s1, .ref 62] M (mv_qI Q) := by
  unfold fX11_last_17 at h
  refine mv_isub dX11_last_17 ?_
  refine mv_putI fX11_245 (by decide) rfl rfl dX11_last_18 (fun M1 eM1 => ?_)
  replace h := mv_letE h M1 eM1
  refine mv_aload_n 0 dX11_last_21 rfl ?_
  refine mv_getR 83 fX11_75 (by decide) rfl rfl rfl dX11_last_22 ?_
  refine mv_aload_n 0 dX11_last_25 rfl ?_
  refine mv_getI fX11_245 (by decide) rfl rfl dX11_last_26 ?_
  obtain ⟨hi2, h⟩ := mv_chkE h
  refine mv_ild (by decide) rfl (mv_inE hi2) dX11_last_29 ?_
  exact mv_iret rfl dX11_last_30 ⟨_, rfl, h⟩
noncomputable def fX11_last (M : mv_M) : Option (Int32 × mv_M) :=
  if (M.1 62 38) ≤ 0 then
    fX11_last_17 0 (M.1 62 38) M
  else
    fX11_last_17 1 (M.1 62 38) M
set_option maxRecDepth 100000 in
set_option maxHeartbeats 4000000 in
theorem zX11_last {l : Launch} {d : Nat} {Q : Int32 → mv_M → Prop} (hd : 0 ≤ d) (M : mv_M) (h : mv_ok (fX11_last M) Q) : mv l mX11_last d 0 0 (lv_args 0 [.ref 62]) [] M (mv_qI Q) := by
  unfold fX11_last at h
  show mv l mX11_last d 0 0 [(0, .ref 62)] [] M (mv_qI Q)
  refine mv_aload_n 0 dX11_last_0 rfl ?_
  refine mv_dup dX11_last_1 rfl ?_
  refine mv_getI fX11_245 (by decide) rfl rfl dX11_last_2 ?_
  refine mv_aload_n 0 dX11_last_5 rfl ?_
  refine mv_getI fX11_245 (by decide) rfl rfl dX11_last_6 ?_
  refine mv_if_le 16 dX11_last_9 (by decide) (fun z => ?_) (fun z => ?_)
  · replace h := mv_ifT z h
    refine mv_iconst 0 dX11_last_16 (by decide) ?_
    refine mv_sub [0] rfl ?_
    exact zX11_last_17 hd 0 (M.1 62 38) M h
  · replace h := mv_ifF z h
    refine mv_iconst 1 dX11_last_12 (by decide) ?_
    refine mv_goto 17 dX11_last_13 (by decide) ?_
    refine mv_sub [0] rfl ?_
    exact zX11_last_17 hd 1 (M.1 62 38) M h
theorem dX11_onType_0 : decode cX11_onType 0 = .ok (.iload_n 1, 1) := by decide +kernel
theorem dX11_onType_1 : decode cX11_onType 1 = .ok (.iconst 1, 1) := by decide +kernel
theorem dX11_onType_2 : decode cX11_onType 2 = .ok (.if_icmp .ne 11, 3) := by decide +kernel
theorem dX11_onType_5 : decode cX11_onType 5 = .ok (.aload_n 0, 1) := by decide +kernel
theorem dX11_onType_6 : decode cX11_onType 6 = .ok (.iload_n 2, 1) := by decide +kernel
theorem dX11_onType_7 : decode cX11_onType 7 = .ok (.invokevirtual 269, 3) := by decide +kernel
theorem dX11_onType_10 : decode cX11_onType 10 = .ok (.goto 177, 3) := by decide +kernel
theorem dX11_onType_13 : decode cX11_onType 13 = .ok (.iload_n 1, 1) := by decide +kernel
theorem dX11_onType_14 : decode cX11_onType 14 = .ok (.iconst 3, 1) := by decide +kernel
theorem dX11_onType_15 : decode cX11_onType 15 = .ok (.if_icmp .ne 58, 3) := by decide +kernel
theorem dX11_onType_18 : decode cX11_onType 18 = .ok (.aload_n 0, 1) := by decide +kernel
theorem dX11_onType_19 : decode cX11_onType 19 = .ok (.dup, 1) := by decide +kernel
theorem dX11_onType_20 : decode cX11_onType 20 = .ok (.getfield 248, 3) := by decide +kernel
theorem dX11_onType_23 : decode cX11_onType 23 = .ok (.iconst 2, 1) := by decide +kernel
theorem dX11_onType_24 : decode cX11_onType 24 = .ok (.isub, 1) := by decide +kernel
theorem dX11_onType_25 : decode cX11_onType 25 = .ok (.putfield 248, 3) := by decide +kernel
theorem dX11_onType_28 : decode cX11_onType 28 = .ok (.aload_n 0, 1) := by decide +kernel
theorem dX11_onType_29 : decode cX11_onType 29 = .ok (.getfield 78, 3) := by decide +kernel
theorem dX11_onType_32 : decode cX11_onType 32 = .ok (.aload_n 0, 1) := by decide +kernel
theorem dX11_onType_33 : decode cX11_onType 33 = .ok (.getfield 248, 3) := by decide +kernel
theorem dX11_onType_36 : decode cX11_onType 36 = .ok (.aload_n 0, 1) := by decide +kernel
theorem dX11_onType_37 : decode cX11_onType 37 = .ok (.getfield 78, 3) := by decide +kernel
theorem dX11_onType_40 : decode cX11_onType 40 = .ok (.aload_n 0, 1) := by decide +kernel
theorem dX11_onType_41 : decode cX11_onType 41 = .ok (.getfield 248, 3) := by decide +kernel
theorem dX11_onType_44 : decode cX11_onType 44 = .ok (.iaload, 1) := by decide +kernel
theorem dX11_onType_45 : decode cX11_onType 45 = .ok (.aload_n 0, 1) := by decide +kernel
theorem dX11_onType_46 : decode cX11_onType 46 = .ok (.getfield 78, 3) := by decide +kernel
theorem dX11_onType_49 : decode cX11_onType 49 = .ok (.aload_n 0, 1) := by decide +kernel
theorem dX11_onType_50 : decode cX11_onType 50 = .ok (.getfield 248, 3) := by decide +kernel
theorem dX11_onType_53 : decode cX11_onType 53 = .ok (.iconst 1, 1) := by decide +kernel
theorem dX11_onType_54 : decode cX11_onType 54 = .ok (.iadd, 1) := by decide +kernel
theorem dX11_onType_55 : decode cX11_onType 55 = .ok (.iaload, 1) := by decide +kernel
theorem dX11_onType_56 : decode cX11_onType 56 = .ok (.invokestatic 273, 3) := by decide +kernel
theorem dX11_onType_59 : decode cX11_onType 59 = .ok (.iastore, 1) := by decide +kernel
theorem dX11_onType_60 : decode cX11_onType 60 = .ok (.aload_n 0, 1) := by decide +kernel
theorem dX11_onType_61 : decode cX11_onType 61 = .ok (.dup, 1) := by decide +kernel
theorem dX11_onType_62 : decode cX11_onType 62 = .ok (.getfield 248, 3) := by decide +kernel
theorem dX11_onType_65 : decode cX11_onType 65 = .ok (.iconst 1, 1) := by decide +kernel
theorem dX11_onType_66 : decode cX11_onType 66 = .ok (.iadd, 1) := by decide +kernel
theorem dX11_onType_67 : decode cX11_onType 67 = .ok (.putfield 248, 3) := by decide +kernel
theorem dX11_onType_70 : decode cX11_onType 70 = .ok (.goto 117, 3) := by decide +kernel
theorem dX11_onType_73 : decode cX11_onType 73 = .ok (.aload_n 0, 1) := by decide +kernel
theorem dX11_onType_74 : decode cX11_onType 74 = .ok (.getfield 193, 3) := by decide +kernel
theorem dX11_onType_77 : decode cX11_onType 77 = .ok (.iconst 1, 1) := by decide +kernel
theorem dX11_onType_78 : decode cX11_onType 78 = .ok (.if_icmp .ne 30, 3) := by decide +kernel
theorem dX11_onType_81 : decode cX11_onType 81 = .ok (.aload_n 0, 1) := by decide +kernel
theorem dX11_onType_82 : decode cX11_onType 82 = .ok (.getfield 78, 3) := by decide +kernel
theorem dX11_onType_85 : decode cX11_onType 85 = .ok (.aload_n 0, 1) := by decide +kernel
theorem dX11_onType_86 : decode cX11_onType 86 = .ok (.getfield 248, 3) := by decide +kernel
theorem dX11_onType_89 : decode cX11_onType 89 = .ok (.iconst 0, 1) := by decide +kernel
theorem dX11_onType_90 : decode cX11_onType 90 = .ok (.iastore, 1) := by decide +kernel
theorem dX11_onType_91 : decode cX11_onType 91 = .ok (.aload_n 0, 1) := by decide +kernel
theorem dX11_onType_92 : decode cX11_onType 92 = .ok (.dup, 1) := by decide +kernel
theorem dX11_onType_93 : decode cX11_onType 93 = .ok (.getfield 248, 3) := by decide +kernel
theorem dX11_onType_96 : decode cX11_onType 96 = .ok (.iconst 1, 1) := by decide +kernel
theorem dX11_onType_97 : decode cX11_onType 97 = .ok (.iadd, 1) := by decide +kernel
theorem dX11_onType_98 : decode cX11_onType 98 = .ok (.putfield 248, 3) := by decide +kernel
theorem dX11_onType_101 : decode cX11_onType 101 = .ok (.aload_n 0, 1) := by decide +kernel
theorem dX11_onType_102 : decode cX11_onType 102 = .ok (.invokevirtual 229, 3) := by decide +kernel
theorem dX11_onType_105 : decode cX11_onType 105 = .ok (.goto 82, 3) := by decide +kernel
theorem dX11_onType_108 : decode cX11_onType 108 = .ok (.aload_n 0, 1) := by decide +kernel
theorem dX11_onType_109 : decode cX11_onType 109 = .ok (.getfield 193, 3) := by decide +kernel
theorem dX11_onType_112 : decode cX11_onType 112 = .ok (.bipush 14, 2) := by decide +kernel
theorem dX11_onType_114 : decode cX11_onType 114 = .ok (.if_icmp .eq 15, 3) := by decide +kernel
theorem dX11_onType_117 : decode cX11_onType 117 = .ok (.aload_n 0, 1) := by decide +kernel
theorem dX11_onType_118 : decode cX11_onType 118 = .ok (.iconst 2, 1) := by decide +kernel
theorem dX11_onType_119 : decode cX11_onType 119 = .ok (.aload_n 0, 1) := by decide +kernel
theorem dX11_onType_120 : decode cX11_onType 120 = .ok (.getfield 190, 3) := by decide +kernel
theorem dX11_onType_123 : decode cX11_onType 123 = .ok (.invokevirtual 205, 3) := by decide +kernel
theorem dX11_onType_126 : decode cX11_onType 126 = .ok (.goto 61, 3) := by decide +kernel
theorem dX11_onType_129 : decode cX11_onType 129 = .ok (.iload_n 2, 1) := by decide +kernel
theorem dX11_onType_130 : decode cX11_onType 130 = .ok (.iconst 2, 1) := by decide +kernel
theorem dX11_onType_131 : decode cX11_onType 131 = .ok (.if_icmp .ne 16, 3) := by decide +kernel
theorem dX11_onType_134 : decode cX11_onType 134 = .ok (.aload_n 0, 1) := by decide +kernel
theorem dX11_onType_135 : decode cX11_onType 135 = .ok (.bipush 6, 2) := by decide +kernel
theorem dX11_onType_137 : decode cX11_onType 137 = .ok (.aload_n 0, 1) := by decide +kernel
theorem dX11_onType_138 : decode cX11_onType 138 = .ok (.getfield 190, 3) := by decide +kernel
theorem dX11_onType_141 : decode cX11_onType 141 = .ok (.invokevirtual 205, 3) := by decide +kernel
theorem dX11_onType_144 : decode cX11_onType 144 = .ok (.goto 43, 3) := by decide +kernel
theorem dX11_onType_147 : decode cX11_onType 147 = .ok (.aload_n 0, 1) := by decide +kernel
theorem dX11_onType_148 : decode cX11_onType 148 = .ok (.invokevirtual 229, 3) := by decide +kernel
theorem dX11_onType_151 : decode cX11_onType 151 = .ok (.aload_n 0, 1) := by decide +kernel
theorem dX11_onType_152 : decode cX11_onType 152 = .ok (.iconst 3, 1) := by decide +kernel
theorem dX11_onType_153 : decode cX11_onType 153 = .ok (.iconst 0, 1) := by decide +kernel
theorem dX11_onType_154 : decode cX11_onType 154 = .ok (.invokevirtual 254, 3) := by decide +kernel
theorem dX11_onType_157 : decode cX11_onType 157 = .ok (.aload_n 0, 1) := by decide +kernel
theorem dX11_onType_158 : decode cX11_onType 158 = .ok (.iconst 1, 1) := by decide +kernel
theorem dX11_onType_159 : decode cX11_onType 159 = .ok (.bipush 15, 2) := by decide +kernel
theorem dX11_onType_161 : decode cX11_onType 161 = .ok (.invokevirtual 254, 3) := by decide +kernel
theorem dX11_onType_164 : decode cX11_onType 164 = .ok (.aload_n 0, 1) := by decide +kernel
theorem dX11_onType_165 : decode cX11_onType 165 = .ok (.iconst 2, 1) := by decide +kernel
theorem dX11_onType_166 : decode cX11_onType 166 = .ok (.iload_n 2, 1) := by decide +kernel
theorem dX11_onType_167 : decode cX11_onType 167 = .ok (.iconst 1, 1) := by decide +kernel
theorem dX11_onType_168 : decode cX11_onType 168 = .ok (.iadd, 1) := by decide +kernel
theorem dX11_onType_169 : decode cX11_onType 169 = .ok (.invokevirtual 254, 3) := by decide +kernel
theorem dX11_onType_172 : decode cX11_onType 172 = .ok (.aload_n 0, 1) := by decide +kernel
theorem dX11_onType_173 : decode cX11_onType 173 = .ok (.iconst 1, 1) := by decide +kernel
theorem dX11_onType_174 : decode cX11_onType 174 = .ok (.bipush 16, 2) := by decide +kernel
theorem dX11_onType_176 : decode cX11_onType 176 = .ok (.invokevirtual 254, 3) := by decide +kernel
theorem dX11_onType_179 : decode cX11_onType 179 = .ok (.aload_n 0, 1) := by decide +kernel
theorem dX11_onType_180 : decode cX11_onType 180 = .ok (.iconst 2, 1) := by decide +kernel
theorem dX11_onType_181 : decode cX11_onType 181 = .ok (.iload_n 2, 1) := by decide +kernel
theorem dX11_onType_182 : decode cX11_onType 182 = .ok (.iconst 1, 1) := by decide +kernel
theorem dX11_onType_183 : decode cX11_onType 183 = .ok (.iadd, 1) := by decide +kernel
theorem dX11_onType_184 : decode cX11_onType 184 = .ok (.invokevirtual 254, 3) := by decide +kernel
theorem dX11_onType_187 : decode cX11_onType 187 = .ok (.return_, 1) := by decide +kernel
noncomputable def fX11_onType (a0 : Int32) (a1 : Int32) (M : mv_M) : Option (Unit × mv_M) :=
  if a0 = 1 then
    mv_bind (fX11_want a1 M) fun _ M21 =>
    some ((), M21)
  else
    if a0 = 3 then
      mv_let (mv_si M 62 40 ((M.1 62 40) - 2)) fun M13 =>
      mv_chk (mv_inb (M13.1 62 40) 16) <|
      mv_chk (mv_inb ((M13.1 62 40) + 1) 16) <|
      mv_bind (fX11_pairOf (M13.1 84 (M13.1 62 40).toNatClampNeg) (M13.1 84 ((M13.1 62 40) + 1).toNatClampNeg) M13) fun r16 M17 =>
      mv_chk (mv_inb (M13.1 62 40) 16) <|
      mv_let (mv_si M17 84 (M13.1 62 40).toNatClampNeg r16) fun M19 =>
      mv_let (mv_si M19 62 40 ((M19.1 62 40) + 1)) fun M20 =>
      some ((), M20)
    else
      if (M.1 62 4) = 1 then
        mv_chk (mv_inb (M.1 62 40) 16) <|
        mv_let (mv_si M 84 (M.1 62 40).toNatClampNeg 0) fun M10 =>
        mv_let (mv_si M10 62 40 ((M10.1 62 40) + 1)) fun M11 =>
        mv_bind (fX11_pass M11) fun _ M12 =>
        some ((), M12)
      else
        if (M.1 62 4) = 14 then
          if a1 = 2 then
            mv_bind (fX11_stop 6 (M.1 62 5) M) fun _ M7 =>
            some ((), M7)
          else
            mv_bind (fX11_pass M) fun _ M1 =>
            mv_bind (fX11_push 3 0 M1) fun _ M2 =>
            mv_bind (fX11_push 1 15 M2) fun _ M3 =>
            mv_bind (fX11_push 2 (a1 + 1) M3) fun _ M4 =>
            mv_bind (fX11_push 1 16 M4) fun _ M5 =>
            mv_bind (fX11_push 2 (a1 + 1) M5) fun _ M6 =>
            some ((), M6)
        else
          mv_bind (fX11_stop 2 (M.1 62 5) M) fun _ M8 =>
          some ((), M8)
set_option maxRecDepth 100000 in
set_option maxHeartbeats 4000000 in
theorem zX11_onType {l : Launch} {d : Nat} {Q : Unit → mv_M → Prop} (hd : 6 ≤ d) (a0 : Int32) (a1 : Int32) (M : mv_M) (h : mv_ok (fX11_onType a0 a1 M) Q) : mv l mX11_onType d 0 0 (lv_args 0 [.ref 62, .int a0, .int a1]) [] M (mv_qV Q) := by
  unfold fX11_onType at h
  show mv l mX11_onType d 0 0 [(0, .ref 62), (1, .int a0), (2, .int a1)] [] M (mv_qV Q)
  refine mv_iload_n 1 dX11_onType_0 rfl ?_
  refine mv_iconst 1 dX11_onType_1 (by decide) ?_
  refine mv_icmp_ne 13 dX11_onType_2 (by decide) (fun z => ?_) (fun z => ?_)
  · replace h := mv_ifF z h
    refine mv_iload_n 1 dX11_onType_13 rfl ?_
    refine mv_iconst 3 dX11_onType_14 (by decide) ?_
    refine mv_icmp_ne 73 dX11_onType_15 (by decide) (fun z => ?_) (fun z => ?_)
    · replace h := mv_ifF z h
      refine mv_aload_n 0 dX11_onType_73 rfl ?_
      refine mv_getI fX11_193 (by decide) rfl rfl dX11_onType_74 ?_
      refine mv_iconst 1 dX11_onType_77 (by decide) ?_
      refine mv_icmp_ne 108 dX11_onType_78 (by decide) (fun z => ?_) (fun z => ?_)
      · replace h := mv_ifF z h
        refine mv_aload_n 0 dX11_onType_108 rfl ?_
        refine mv_getI fX11_193 (by decide) rfl rfl dX11_onType_109 ?_
        refine mv_bipush 14 dX11_onType_112 (by decide) ?_
        refine mv_icmp_eq 129 dX11_onType_114 (by decide) (fun z => ?_) (fun z => ?_)
        · replace h := mv_ifT z h
          refine mv_iload_n 2 dX11_onType_129 rfl ?_
          refine mv_iconst 2 dX11_onType_130 (by decide) ?_
          refine mv_icmp_ne 147 dX11_onType_131 (by decide) (fun z => ?_) (fun z => ?_)
          · replace h := mv_ifF z h
            refine mv_aload_n 0 dX11_onType_147 rfl ?_
            refine mv_cvV (As := []) (st := []) okX11_pass lX11_229 (by decide) rfl rfl rfl (Nat.le_of_ble_eq_true rfl) rfl (Nat.le_of_ble_eq_true rfl) dX11_onType_148 (by omega) rfl (zX11_pass (d := d - 1) (by omega) M (mv_bindE h)) (fun _ M1 h => ?_)
            refine mv_aload_n 0 dX11_onType_151 rfl ?_
            refine mv_iconst 3 dX11_onType_152 (by decide) ?_
            refine mv_iconst 0 dX11_onType_153 (by decide) ?_
            refine mv_cvV (As := [.int 3, .int 0]) (st := []) okX11_push lX11_254 (by decide) rfl rfl rfl (Nat.le_of_ble_eq_true rfl) rfl (Nat.le_of_ble_eq_true rfl) dX11_onType_154 (by omega) rfl (zX11_push (d := d - 1) (by omega) 3 0 M1 (mv_bindE h)) (fun _ M2 h => ?_)
            refine mv_aload_n 0 dX11_onType_157 rfl ?_
            refine mv_iconst 1 dX11_onType_158 (by decide) ?_
            refine mv_bipush 15 dX11_onType_159 (by decide) ?_
            refine mv_cvV (As := [.int 1, .int 15]) (st := []) okX11_push lX11_254 (by decide) rfl rfl rfl (Nat.le_of_ble_eq_true rfl) rfl (Nat.le_of_ble_eq_true rfl) dX11_onType_161 (by omega) rfl (zX11_push (d := d - 1) (by omega) 1 15 M2 (mv_bindE h)) (fun _ M3 h => ?_)
            refine mv_aload_n 0 dX11_onType_164 rfl ?_
            refine mv_iconst 2 dX11_onType_165 (by decide) ?_
            refine mv_iload_n 2 dX11_onType_166 rfl ?_
            refine mv_iconst 1 dX11_onType_167 (by decide) ?_
            refine mv_iadd dX11_onType_168 ?_
            refine mv_cvV (As := [.int 2, .int (a1 + 1)]) (st := []) okX11_push lX11_254 (by decide) rfl rfl rfl (Nat.le_of_ble_eq_true rfl) rfl (Nat.le_of_ble_eq_true rfl) dX11_onType_169 (by omega) rfl (zX11_push (d := d - 1) (by omega) 2 (a1 + 1) M3 (mv_bindE h)) (fun _ M4 h => ?_)
            refine mv_aload_n 0 dX11_onType_172 rfl ?_
            refine mv_iconst 1 dX11_onType_173 (by decide) ?_
            refine mv_bipush 16 dX11_onType_174 (by decide) ?_
            refine mv_cvV (As := [.int 1, .int 16]) (st := []) okX11_push lX11_254 (by decide) rfl rfl rfl (Nat.le_of_ble_eq_true rfl) rfl (Nat.le_of_ble_eq_true rfl) dX11_onType_176 (by omega) rfl (zX11_push (d := d - 1) (by omega) 1 16 M4 (mv_bindE h)) (fun _ M5 h => ?_)
            refine mv_aload_n 0 dX11_onType_179 rfl ?_
            refine mv_iconst 2 dX11_onType_180 (by decide) ?_
            refine mv_iload_n 2 dX11_onType_181 rfl ?_
            refine mv_iconst 1 dX11_onType_182 (by decide) ?_
            refine mv_iadd dX11_onType_183 ?_
            refine mv_cvV (As := [.int 2, .int (a1 + 1)]) (st := []) okX11_push lX11_254 (by decide) rfl rfl rfl (Nat.le_of_ble_eq_true rfl) rfl (Nat.le_of_ble_eq_true rfl) dX11_onType_184 (by omega) rfl (zX11_push (d := d - 1) (by omega) 2 (a1 + 1) M5 (mv_bindE h)) (fun _ M6 h => ?_)
            exact mv_vret rfl dX11_onType_187 ⟨rfl, h⟩
          · replace h := mv_ifT z h
            refine mv_aload_n 0 dX11_onType_134 rfl ?_
            refine mv_bipush 6 dX11_onType_135 (by decide) ?_
            refine mv_aload_n 0 dX11_onType_137 rfl ?_
            refine mv_getI fX11_190 (by decide) rfl rfl dX11_onType_138 ?_
            refine mv_cvV (As := [.int 6, .int (M.1 62 5)]) (st := []) okX11_stop lX11_205 (by decide) rfl rfl rfl (Nat.le_of_ble_eq_true rfl) rfl (Nat.le_of_ble_eq_true rfl) dX11_onType_141 (by omega) rfl (zX11_stop (d := d - 1) (by omega) 6 (M.1 62 5) M (mv_bindE h)) (fun _ M7 h => ?_)
            refine mv_goto 187 dX11_onType_144 (by decide) ?_
            exact mv_vret rfl dX11_onType_187 ⟨rfl, h⟩
        · replace h := mv_ifF z h
          refine mv_aload_n 0 dX11_onType_117 rfl ?_
          refine mv_iconst 2 dX11_onType_118 (by decide) ?_
          refine mv_aload_n 0 dX11_onType_119 rfl ?_
          refine mv_getI fX11_190 (by decide) rfl rfl dX11_onType_120 ?_
          refine mv_cvV (As := [.int 2, .int (M.1 62 5)]) (st := []) okX11_stop lX11_205 (by decide) rfl rfl rfl (Nat.le_of_ble_eq_true rfl) rfl (Nat.le_of_ble_eq_true rfl) dX11_onType_123 (by omega) rfl (zX11_stop (d := d - 1) (by omega) 2 (M.1 62 5) M (mv_bindE h)) (fun _ M8 h => ?_)
          refine mv_goto 187 dX11_onType_126 (by decide) ?_
          exact mv_vret rfl dX11_onType_187 ⟨rfl, h⟩
      · replace h := mv_ifT z h
        refine mv_aload_n 0 dX11_onType_81 rfl ?_
        refine mv_getR 84 fX11_78 (by decide) rfl rfl rfl dX11_onType_82 ?_
        refine mv_aload_n 0 dX11_onType_85 rfl ?_
        refine mv_getI fX11_248 (by decide) rfl rfl dX11_onType_86 ?_
        refine mv_iconst 0 dX11_onType_89 (by decide) ?_
        obtain ⟨hi9, h⟩ := mv_chkE h
        refine mv_ist (by decide) rfl (mv_inE hi9) dX11_onType_90 (fun M10 eM10 => ?_)
        replace h := mv_letE h M10 eM10
        refine mv_aload_n 0 dX11_onType_91 rfl ?_
        refine mv_dup dX11_onType_92 rfl ?_
        refine mv_getI fX11_248 (by decide) rfl rfl dX11_onType_93 ?_
        refine mv_iconst 1 dX11_onType_96 (by decide) ?_
        refine mv_iadd dX11_onType_97 ?_
        refine mv_putI fX11_248 (by decide) rfl rfl dX11_onType_98 (fun M11 eM11 => ?_)
        replace h := mv_letE h M11 eM11
        refine mv_aload_n 0 dX11_onType_101 rfl ?_
        refine mv_cvV (As := []) (st := []) okX11_pass lX11_229 (by decide) rfl rfl rfl (Nat.le_of_ble_eq_true rfl) rfl (Nat.le_of_ble_eq_true rfl) dX11_onType_102 (by omega) rfl (zX11_pass (d := d - 1) (by omega) M11 (mv_bindE h)) (fun _ M12 h => ?_)
        refine mv_goto 187 dX11_onType_105 (by decide) ?_
        exact mv_vret rfl dX11_onType_187 ⟨rfl, h⟩
    · replace h := mv_ifT z h
      refine mv_aload_n 0 dX11_onType_18 rfl ?_
      refine mv_dup dX11_onType_19 rfl ?_
      refine mv_getI fX11_248 (by decide) rfl rfl dX11_onType_20 ?_
      refine mv_iconst 2 dX11_onType_23 (by decide) ?_
      refine mv_isub dX11_onType_24 ?_
      refine mv_putI fX11_248 (by decide) rfl rfl dX11_onType_25 (fun M13 eM13 => ?_)
      replace h := mv_letE h M13 eM13
      refine mv_aload_n 0 dX11_onType_28 rfl ?_
      refine mv_getR 84 fX11_78 (by decide) rfl rfl rfl dX11_onType_29 ?_
      refine mv_aload_n 0 dX11_onType_32 rfl ?_
      refine mv_getI fX11_248 (by decide) rfl rfl dX11_onType_33 ?_
      refine mv_aload_n 0 dX11_onType_36 rfl ?_
      refine mv_getR 84 fX11_78 (by decide) rfl rfl rfl dX11_onType_37 ?_
      refine mv_aload_n 0 dX11_onType_40 rfl ?_
      refine mv_getI fX11_248 (by decide) rfl rfl dX11_onType_41 ?_
      obtain ⟨hi14, h⟩ := mv_chkE h
      refine mv_ild (by decide) rfl (mv_inE hi14) dX11_onType_44 ?_
      refine mv_aload_n 0 dX11_onType_45 rfl ?_
      refine mv_getR 84 fX11_78 (by decide) rfl rfl rfl dX11_onType_46 ?_
      refine mv_aload_n 0 dX11_onType_49 rfl ?_
      refine mv_getI fX11_248 (by decide) rfl rfl dX11_onType_50 ?_
      refine mv_iconst 1 dX11_onType_53 (by decide) ?_
      refine mv_iadd dX11_onType_54 ?_
      obtain ⟨hi15, h⟩ := mv_chkE h
      refine mv_ild (by decide) rfl (mv_inE hi15) dX11_onType_55 ?_
      refine mv_csI (As := [.int (M13.1 84 (M13.1 62 40).toNatClampNeg), .int (M13.1 84 ((M13.1 62 40) + 1).toNatClampNeg)]) (st := [.int (M13.1 62 40), .ref 84]) okX11_pairOf lX11_273 rfl (Nat.le_of_ble_eq_true rfl) rfl (Nat.le_of_ble_eq_true rfl) dX11_onType_56 (by omega) rfl (zX11_pairOf (d := d - 1) (by omega) (M13.1 84 (M13.1 62 40).toNatClampNeg) (M13.1 84 ((M13.1 62 40) + 1).toNatClampNeg) M13 (mv_bindE h)) (fun r16 M17 h => ?_)
      obtain ⟨hi18, h⟩ := mv_chkE h
      refine mv_ist (by decide) rfl (mv_inE hi18) dX11_onType_59 (fun M19 eM19 => ?_)
      replace h := mv_letE h M19 eM19
      refine mv_aload_n 0 dX11_onType_60 rfl ?_
      refine mv_dup dX11_onType_61 rfl ?_
      refine mv_getI fX11_248 (by decide) rfl rfl dX11_onType_62 ?_
      refine mv_iconst 1 dX11_onType_65 (by decide) ?_
      refine mv_iadd dX11_onType_66 ?_
      refine mv_putI fX11_248 (by decide) rfl rfl dX11_onType_67 (fun M20 eM20 => ?_)
      replace h := mv_letE h M20 eM20
      refine mv_goto 187 dX11_onType_70 (by decide) ?_
      exact mv_vret rfl dX11_onType_187 ⟨rfl, h⟩
  · replace h := mv_ifT z h
    refine mv_aload_n 0 dX11_onType_5 rfl ?_
    refine mv_iload_n 2 dX11_onType_6 rfl ?_
    refine mv_cvV (As := [.int a1]) (st := []) okX11_want lX11_269 (by decide) rfl rfl rfl (Nat.le_of_ble_eq_true rfl) rfl (Nat.le_of_ble_eq_true rfl) dX11_onType_7 (by omega) rfl (zX11_want (d := d - 1) (by omega) a1 M (mv_bindE h)) (fun _ M21 h => ?_)
    refine mv_goto 187 dX11_onType_10 (by decide) ?_
    exact mv_vret rfl dX11_onType_187 ⟨rfl, h⟩
theorem dX11_begins_0 : decode cX11_begins 0 = .ok (.aload_n 0, 1) := by decide +kernel
theorem dX11_begins_1 : decode cX11_begins 1 = .ok (.getfield 193, 3) := by decide +kernel
theorem dX11_begins_4 : decode cX11_begins 4 = .ok (.iconst 5, 1) := by decide +kernel
theorem dX11_begins_5 : decode cX11_begins 5 = .ok (.if_icmp .eq 56, 3) := by decide +kernel
theorem dX11_begins_8 : decode cX11_begins 8 = .ok (.aload_n 0, 1) := by decide +kernel
theorem dX11_begins_9 : decode cX11_begins 9 = .ok (.getfield 193, 3) := by decide +kernel
theorem dX11_begins_12 : decode cX11_begins 12 = .ok (.bipush 7, 2) := by decide +kernel
theorem dX11_begins_14 : decode cX11_begins 14 = .ok (.if_icmp .eq 47, 3) := by decide +kernel
theorem dX11_begins_17 : decode cX11_begins 17 = .ok (.aload_n 0, 1) := by decide +kernel
theorem dX11_begins_18 : decode cX11_begins 18 = .ok (.getfield 193, 3) := by decide +kernel
theorem dX11_begins_21 : decode cX11_begins 21 = .ok (.iconst 2, 1) := by decide +kernel
theorem dX11_begins_22 : decode cX11_begins 22 = .ok (.if_icmp .eq 39, 3) := by decide +kernel
theorem dX11_begins_25 : decode cX11_begins 25 = .ok (.aload_n 0, 1) := by decide +kernel
theorem dX11_begins_26 : decode cX11_begins 26 = .ok (.getfield 193, 3) := by decide +kernel
theorem dX11_begins_29 : decode cX11_begins 29 = .ok (.bipush 11, 2) := by decide +kernel
theorem dX11_begins_31 : decode cX11_begins 31 = .ok (.if_icmp .eq 30, 3) := by decide +kernel
theorem dX11_begins_34 : decode cX11_begins 34 = .ok (.aload_n 0, 1) := by decide +kernel
theorem dX11_begins_35 : decode cX11_begins 35 = .ok (.getfield 193, 3) := by decide +kernel
theorem dX11_begins_38 : decode cX11_begins 38 = .ok (.bipush 9, 2) := by decide +kernel
theorem dX11_begins_40 : decode cX11_begins 40 = .ok (.if_icmp .eq 21, 3) := by decide +kernel
theorem dX11_begins_43 : decode cX11_begins 43 = .ok (.aload_n 0, 1) := by decide +kernel
theorem dX11_begins_44 : decode cX11_begins 44 = .ok (.getfield 193, 3) := by decide +kernel
theorem dX11_begins_47 : decode cX11_begins 47 = .ok (.bipush 10, 2) := by decide +kernel
theorem dX11_begins_49 : decode cX11_begins 49 = .ok (.if_icmp .eq 12, 3) := by decide +kernel
theorem dX11_begins_52 : decode cX11_begins 52 = .ok (.aload_n 0, 1) := by decide +kernel
theorem dX11_begins_53 : decode cX11_begins 53 = .ok (.getfield 193, 3) := by decide +kernel
theorem dX11_begins_56 : decode cX11_begins 56 = .ok (.bipush 14, 2) := by decide +kernel
theorem dX11_begins_58 : decode cX11_begins 58 = .ok (.if_icmp .ne 7, 3) := by decide +kernel
theorem dX11_begins_61 : decode cX11_begins 61 = .ok (.iconst 1, 1) := by decide +kernel
theorem dX11_begins_62 : decode cX11_begins 62 = .ok (.goto 4, 3) := by decide +kernel
theorem dX11_begins_65 : decode cX11_begins 65 = .ok (.iconst 0, 1) := by decide +kernel
theorem dX11_begins_66 : decode cX11_begins 66 = .ok (.ireturn, 1) := by decide +kernel
noncomputable def fX11_begins_61 (M : mv_M) : Option (Int32 × mv_M) :=
  some (1, M)
set_option maxRecDepth 100000 in
set_option maxHeartbeats 4000000 in
theorem zX11_begins_61 {l : Launch} {d : Nat} {Q : Int32 → mv_M → Prop} (hd : 0 ≤ d) (M : mv_M) (h : mv_ok (fX11_begins_61 M) Q) : mv l mX11_begins d 0 61 [] [] M (mv_qI Q) := by
  unfold fX11_begins_61 at h
  refine mv_iconst 1 dX11_begins_61 (by decide) ?_
  refine mv_goto 66 dX11_begins_62 (by decide) ?_
  exact mv_zret (by decide) rfl dX11_begins_66 ⟨_, rfl, h⟩
noncomputable def fX11_begins (M : mv_M) : Option (Int32 × mv_M) :=
  if (M.1 62 4) = 5 then
    fX11_begins_61 M
  else
    if (M.1 62 4) = 7 then
      fX11_begins_61 M
    else
      if (M.1 62 4) = 2 then
        fX11_begins_61 M
      else
        if (M.1 62 4) = 11 then
          fX11_begins_61 M
        else
          if (M.1 62 4) = 9 then
            fX11_begins_61 M
          else
            if (M.1 62 4) = 10 then
              fX11_begins_61 M
            else
              if (M.1 62 4) = 14 then
                fX11_begins_61 M
              else
                some (0, M)
set_option maxRecDepth 100000 in
set_option maxHeartbeats 4000000 in
theorem zX11_begins {l : Launch} {d : Nat} {Q : Int32 → mv_M → Prop} (hd : 0 ≤ d) (M : mv_M) (h : mv_ok (fX11_begins M) Q) : mv l mX11_begins d 0 0 (lv_args 0 [.ref 62]) [] M (mv_qI Q) := by
  unfold fX11_begins at h
  show mv l mX11_begins d 0 0 [(0, .ref 62)] [] M (mv_qI Q)
  refine mv_aload_n 0 dX11_begins_0 rfl ?_
  refine mv_getI fX11_193 (by decide) rfl rfl dX11_begins_1 ?_
  refine mv_iconst 5 dX11_begins_4 (by decide) ?_
  refine mv_icmp_eq 61 dX11_begins_5 (by decide) (fun z => ?_) (fun z => ?_)
  · replace h := mv_ifT z h
    refine mv_sub [] rfl ?_
    exact zX11_begins_61 hd M h
  · replace h := mv_ifF z h
    refine mv_aload_n 0 dX11_begins_8 rfl ?_
    refine mv_getI fX11_193 (by decide) rfl rfl dX11_begins_9 ?_
    refine mv_bipush 7 dX11_begins_12 (by decide) ?_
    refine mv_icmp_eq 61 dX11_begins_14 (by decide) (fun z => ?_) (fun z => ?_)
    · replace h := mv_ifT z h
      refine mv_sub [] rfl ?_
      exact zX11_begins_61 hd M h
    · replace h := mv_ifF z h
      refine mv_aload_n 0 dX11_begins_17 rfl ?_
      refine mv_getI fX11_193 (by decide) rfl rfl dX11_begins_18 ?_
      refine mv_iconst 2 dX11_begins_21 (by decide) ?_
      refine mv_icmp_eq 61 dX11_begins_22 (by decide) (fun z => ?_) (fun z => ?_)
      · replace h := mv_ifT z h
        refine mv_sub [] rfl ?_
        exact zX11_begins_61 hd M h
      · replace h := mv_ifF z h
        refine mv_aload_n 0 dX11_begins_25 rfl ?_
        refine mv_getI fX11_193 (by decide) rfl rfl dX11_begins_26 ?_
        refine mv_bipush 11 dX11_begins_29 (by decide) ?_
        refine mv_icmp_eq 61 dX11_begins_31 (by decide) (fun z => ?_) (fun z => ?_)
        · replace h := mv_ifT z h
          refine mv_sub [] rfl ?_
          exact zX11_begins_61 hd M h
        · replace h := mv_ifF z h
          refine mv_aload_n 0 dX11_begins_34 rfl ?_
          refine mv_getI fX11_193 (by decide) rfl rfl dX11_begins_35 ?_
          refine mv_bipush 9 dX11_begins_38 (by decide) ?_
          refine mv_icmp_eq 61 dX11_begins_40 (by decide) (fun z => ?_) (fun z => ?_)
          · replace h := mv_ifT z h
            refine mv_sub [] rfl ?_
            exact zX11_begins_61 hd M h
          · replace h := mv_ifF z h
            refine mv_aload_n 0 dX11_begins_43 rfl ?_
            refine mv_getI fX11_193 (by decide) rfl rfl dX11_begins_44 ?_
            refine mv_bipush 10 dX11_begins_47 (by decide) ?_
            refine mv_icmp_eq 61 dX11_begins_49 (by decide) (fun z => ?_) (fun z => ?_)
            · replace h := mv_ifT z h
              refine mv_sub [] rfl ?_
              exact zX11_begins_61 hd M h
            · replace h := mv_ifF z h
              refine mv_aload_n 0 dX11_begins_52 rfl ?_
              refine mv_getI fX11_193 (by decide) rfl rfl dX11_begins_53 ?_
              refine mv_bipush 14 dX11_begins_56 (by decide) ?_
              refine mv_icmp_ne 65 dX11_begins_58 (by decide) (fun z => ?_) (fun z => ?_)
              · replace h := mv_ifF z h
                refine mv_iconst 0 dX11_begins_65 (by decide) ?_
                exact mv_zret (by decide) rfl dX11_begins_66 ⟨_, rfl, h⟩
              · replace h := mv_ifT z h
                refine mv_sub [] rfl ?_
                exact zX11_begins_61 hd M h
