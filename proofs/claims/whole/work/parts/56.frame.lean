set_option maxRecDepth 100000 in
theorem qX8_append_3 (x1 : Int32) (x2 : Int32) (M : mv_M) : mv_frm (mv_S [39] [(2, 1)]) (fX8_append_3 x1 x2 M) M := by
  unfold fX8_append_3
  refine frm_loop ?_ _ M
  rintro ⟨x1, x2⟩ M
  try dsimp only
  unfold gX8_append_3
  refine frm_if ?_ ?_
  · exact frm_some
  · refine frm_if ?_ ?_
    · exact frm_some
    · refine frm_chk ?_
      refine frm_letM (sm_si (mv_Sc (by decide))) (fun M2 => ?_)
      refine frm_letM (sm_si (mv_Ss (by decide))) (fun M3 => ?_)
      refine frm_let (fun v4 => ?_)
      exact frm_some
set_option maxRecDepth 100000 in
theorem qX8_append (a0 : Int32) (M : mv_M) : mv_frm (mv_S [39] [(2, 1)]) (fX8_append a0 M) M := by
  unfold fX8_append
  exact qX8_append_3 a0 24 M
set_option maxRecDepth 100000 in
theorem qX10_feed (a0 : Int32) (a1 : Int32) (a2 : Int32) (a3 : Int32) (a4 : Int32) (M : mv_M) : mv_frm (mv_S [39] [(2, 1)]) (fX10_feed a0 a1 a2 a3 a4 M) M := by
  unfold fX10_feed
  refine frm_if ?_ ?_
  · refine frm_bind (by decide) (qX8_append a0 M) (fun _ M1 => ?_)
    refine frm_bind (by decide) (qX8_append a1 M1) (fun _ M2 => ?_)
    refine frm_bind (by decide) (qX8_append a2 M2) (fun _ M3 => ?_)
    refine frm_bind (by decide) (qX8_append a3 M3) (fun _ M4 => ?_)
    refine frm_bind (by decide) (qX8_append a4 M4) (fun _ M5 => ?_)
    exact frm_some
  · exact frm_some
set_option maxRecDepth 100000 in
theorem qX10_cut_15 (M : mv_M) : mv_frm (mv_S [] [(2, 1)]) (fX10_cut_15 M) M := by
  unfold fX10_cut_15
  exact frm_some
set_option maxRecDepth 100000 in
theorem qX10_cut (a0 : Int32) (M : mv_M) : mv_frm (mv_S [] [(2, 1)]) (fX10_cut a0 M) M := by
  unfold fX10_cut
  refine frm_if ?_ ?_
  · exact qX10_cut_15 M
  · refine frm_if ?_ ?_
    · refine frm_let (fun v1 => ?_)
      refine frm_letM (sm_si (mv_Ss (by decide))) (fun M2 => ?_)
      exact frm_some
    · exact qX10_cut_15 M
set_option maxRecDepth 100000 in
theorem qX0_clear (M : mv_M) : mv_frm (mv_S [] [(1, 0), (1, 1)]) (fX0_clear M) M := by
  unfold fX0_clear
  refine frm_letM (sm_si (mv_Ss (by decide))) (fun M1 => ?_)
  refine frm_letM (sm_si (mv_Ss (by decide))) (fun M2 => ?_)
  exact frm_some
set_option maxRecDepth 100000 in
theorem qX8_pastBlanks_32 (x2 : Int32) (M : mv_M) : mv_frm (mv_S [] []) (fX8_pastBlanks_32 x2 M) M := by
  unfold fX8_pastBlanks_32
  refine frm_let (fun v3 => ?_)
  exact frm_some
set_option maxRecDepth 100000 in
theorem qX8_pastBlanks_2 (x2 : Int32) (M : mv_M) : mv_frm (mv_S [] []) (fX8_pastBlanks_2 x2 M) M := by
  unfold fX8_pastBlanks_2
  refine frm_loop ?_ _ M
  intro x2 M
  try dsimp only
  unfold gX8_pastBlanks_2
  refine frm_if ?_ ?_
  · exact frm_some
  · refine frm_chk ?_
    refine frm_if ?_ ?_
    · exact qX8_pastBlanks_32 x2 M
    · refine frm_chk ?_
      refine frm_if ?_ ?_
      · exact qX8_pastBlanks_32 x2 M
      · exact frm_some
set_option maxRecDepth 100000 in
theorem qX8_pastBlanks (a0 : Int32) (M : mv_M) : mv_frm (mv_S [] []) (fX8_pastBlanks a0 M) M := by
  unfold fX8_pastBlanks
  exact qX8_pastBlanks_2 a0 M
set_option maxRecDepth 100000 in
theorem qX8_isDigit (a0 : Int32) (M : mv_M) : mv_frm (mv_S [] []) (fX8_isDigit a0 M) M := by
  unfold fX8_isDigit
  refine frm_if ?_ ?_
  · exact frm_some
  · refine frm_chk ?_
    refine frm_if ?_ ?_
    · exact frm_some
    · refine frm_chk ?_
      refine frm_if ?_ ?_
      · exact frm_some
      · exact frm_some
set_option maxRecDepth 100000 in
theorem qX8_isOfRow_38 (M : mv_M) : mv_frm (mv_S [] []) (fX8_isOfRow_38 M) M := by
  unfold fX8_isOfRow_38
  exact frm_some
set_option maxRecDepth 100000 in
theorem qX8_isOfRow (a0 : Int32) (M : mv_M) : mv_frm (mv_S [] []) (fX8_isOfRow a0 M) M := by
  unfold fX8_isOfRow
  refine frm_bind (by decide) (qX8_isDigit a0 M) (fun r1 M2 => ?_)
  refine frm_if ?_ ?_
  · refine frm_if ?_ ?_
    · exact frm_some
    · refine frm_chk ?_
      refine frm_if ?_ ?_
      · exact frm_some
      · refine frm_chk ?_
        refine frm_if ?_ ?_
        · exact frm_some
        · exact qX8_isOfRow_38 M2
  · exact qX8_isOfRow_38 M2
set_option maxRecDepth 100000 in
theorem qX8_wordOrName_2 (x1 : Int64) (x3 : Int32) (M : mv_M) : mv_frm (mv_S [] []) (fX8_wordOrName_2 x1 x3 M) M := by
  unfold fX8_wordOrName_2
  refine frm_loop ?_ _ M
  rintro ⟨x1, x3⟩ M
  try dsimp only
  unfold gX8_wordOrName_2
  refine frm_if ?_ ?_
  · exact frm_some
  · refine frm_chk ?_
    refine frm_if ?_ ?_
    · exact frm_some
    · refine frm_let (fun v2 => ?_)
      exact frm_some
set_option maxRecDepth 100000 in
theorem qX8_wordOrName (a0 : Int64) (M : mv_M) : mv_frm (mv_S [] []) (fX8_wordOrName a0 M) M := by
  unfold fX8_wordOrName
  exact qX8_wordOrName_2 a0 0 M
set_option maxRecDepth 100000 in
theorem qX8_scanRow_37 (x1 : Int32) (x2 : Int32) (x3 : Int32) (x4 : Int64) (x6 : Int64) (M : mv_M) : mv_frm (mv_S [40, 42] []) (fX8_scanRow_37 x1 x2 x3 x4 x6 M) M := by
  unfold fX8_scanRow_37
  refine frm_chk ?_
  refine frm_let (fun v12 => ?_)
  refine frm_chk ?_
  refine frm_let (fun v14 => ?_)
  refine frm_let (fun v15 => ?_)
  exact frm_some
set_option maxRecDepth 100000 in
theorem qX8_scanRow_116 (x2 : Int32) (x6 : Int64) (s0 : Int32) (s1 : Int32) (M : mv_M) : mv_frm (mv_S [40, 42] []) (fX8_scanRow_116 x2 x6 s0 s1 M) M := by
  unfold fX8_scanRow_116
  refine frm_chk ?_
  refine frm_letM (sm_si (mv_Sc (by decide))) (fun M21 => ?_)
  refine frm_chk ?_
  refine frm_letM (sm_sl (mv_Sc (by decide))) (fun M23 => ?_)
  exact frm_some
set_option maxRecDepth 100000 in
theorem qX8_scanRow_115 (x2 : Int32) (x6 : Int64) (s0 : Int32) (M : mv_M) : mv_frm (mv_S [40, 42] []) (fX8_scanRow_115 x2 x6 s0 M) M := by
  unfold fX8_scanRow_115
  exact qX8_scanRow_116 x2 x6 1 s0 M
set_option maxRecDepth 100000 in
theorem qX8_scanRow_156 (x2 : Int32) (x4 : Int64) (s0 : Int32) (s1 : Int32) (M : mv_M) : mv_frm (mv_S [40, 42] []) (fX8_scanRow_156 x2 x4 s0 s1 M) M := by
  unfold fX8_scanRow_156
  refine frm_chk ?_
  refine frm_letM (sm_si (mv_Sc (by decide))) (fun M17 => ?_)
  refine frm_chk ?_
  refine frm_letM (sm_sl (mv_Sc (by decide))) (fun M19 => ?_)
  exact frm_some
set_option maxRecDepth 100000 in
theorem qX8_scanRow_77 (x1 : Int32) (x2 : Int32) (x3 : Int32) (x4 : Int64) (x6 : Int64) (M : mv_M) : mv_frm (mv_S [40, 42] []) (fX8_scanRow_77 x1 x2 x3 x4 x6 M) M := by
  unfold fX8_scanRow_77
  refine frm_let (fun v6 => ?_)
  refine frm_bind (by decide) (qX8_isDigit x1 M) (fun r7 M8 => ?_)
  refine frm_if ?_ ?_
  · refine frm_if ?_ ?_
    · exact qX8_scanRow_156 x2 x4 1 (M8.1 2 2) M8
    · refine frm_bind (by decide) (qX8_wordOrName x4 M8) (fun r9 M10 => ?_)
      exact qX8_scanRow_156 x2 x4 r9 (M8.1 2 2) M10
  · refine frm_if ?_ ?_
    · refine frm_if ?_ ?_
      · exact qX8_scanRow_115 x2 x6 (M8.1 2 2) M8
      · exact qX8_scanRow_116 x2 x6 3 (M8.1 2 2) M8
    · exact qX8_scanRow_115 x2 x6 (M8.1 2 2) M8
set_option maxRecDepth 100000 in
theorem qX8_scanRow_10 (x1 : Int32) (x2 : Int32) (x3 : Int32) (x4 : Int64) (x6 : Int64) (M : mv_M) : mv_frm (mv_S [40, 42] []) (fX8_scanRow_10 x1 x2 x3 x4 x6 M) M := by
  unfold fX8_scanRow_10
  refine frm_loop ?_ _ M
  rintro ⟨x1, x2, x3, x4, x6⟩ M
  try dsimp only
  unfold gX8_scanRow_10
  refine frm_if ?_ ?_
  · exact frm_inr (qX8_scanRow_77 x1 x2 x3 x4 x6 M)
  · refine frm_bind (by decide) (qX8_isOfRow x2 M) (fun r1 M2 => ?_)
    refine frm_if ?_ ?_
    · exact frm_inr (qX8_scanRow_77 x1 x2 x3 x4 x6 M2)
    · refine frm_bind (by decide) (qX8_isDigit x2 M2) (fun r3 M4 => ?_)
      refine frm_if ?_ ?_
      · exact qX8_scanRow_37 x1 x2 x3 x4 x6 M4
      · refine frm_let (fun v5 => ?_)
        exact qX8_scanRow_37 x1 x2 v5 x4 x6 M4
set_option maxRecDepth 100000 in
theorem qX8_scanRow (a0 : Int32) (M : mv_M) : mv_frm (mv_S [40, 42] []) (fX8_scanRow a0 M) M := by
  unfold fX8_scanRow
  exact qX8_scanRow_10 a0 a0 0 0 0 M
set_option maxRecDepth 100000 in
theorem qX8_scanSign_184 (x1 : Int32) (M : mv_M) : mv_frm (mv_S [40] []) (fX8_scanSign_184 x1 M) M := by
  unfold fX8_scanSign_184
  exact frm_some
set_option maxRecDepth 100000 in
theorem qX8_scanSign_48 (x1 : Int32) (M : mv_M) : mv_frm (mv_S [40] []) (fX8_scanSign_48 x1 M) M := by
  unfold fX8_scanSign_48
  refine frm_chk ?_
  refine frm_if ?_ ?_
  · refine frm_chk ?_
    refine frm_chk ?_
    refine frm_letM (sm_si (mv_Sc (by decide))) (fun M9 => ?_)
    exact qX8_scanSign_184 x1 M9
  · skip
    refine frm_if ?_ ?_
    · refine frm_chk ?_
      refine frm_chk ?_
      refine frm_letM (sm_si (mv_Sc (by decide))) (fun M13 => ?_)
      exact qX8_scanSign_184 x1 M13
    · skip
      refine frm_if ?_ ?_
      · refine frm_chk ?_
        refine frm_chk ?_
        refine frm_letM (sm_si (mv_Sc (by decide))) (fun M17 => ?_)
        exact qX8_scanSign_184 x1 M17
      · skip
        refine frm_if ?_ ?_
        · refine frm_chk ?_
          refine frm_chk ?_
          refine frm_letM (sm_si (mv_Sc (by decide))) (fun M21 => ?_)
          exact qX8_scanSign_184 x1 M21
        · skip
          refine frm_if ?_ ?_
          · refine frm_chk ?_
            refine frm_chk ?_
            refine frm_letM (sm_si (mv_Sc (by decide))) (fun M25 => ?_)
            exact qX8_scanSign_184 x1 M25
          · skip
            refine frm_if ?_ ?_
            · refine frm_chk ?_
              refine frm_chk ?_
              refine frm_letM (sm_si (mv_Sc (by decide))) (fun M29 => ?_)
              exact qX8_scanSign_184 x1 M29
            · skip
              refine frm_if ?_ ?_
              · refine frm_chk ?_
                refine frm_chk ?_
                refine frm_letM (sm_si (mv_Sc (by decide))) (fun M33 => ?_)
                exact qX8_scanSign_184 x1 M33
              · skip
                refine frm_if ?_ ?_
                · refine frm_chk ?_
                  refine frm_chk ?_
                  refine frm_letM (sm_si (mv_Sc (by decide))) (fun M37 => ?_)
                  exact qX8_scanSign_184 x1 M37
                · skip
                  refine frm_if ?_ ?_
                  · refine frm_chk ?_
                    refine frm_chk ?_
                    refine frm_letM (sm_si (mv_Sc (by decide))) (fun M41 => ?_)
                    exact qX8_scanSign_184 x1 M41
                  · skip
                    refine frm_if ?_ ?_
                    · refine frm_chk ?_
                      refine frm_chk ?_
                      refine frm_letM (sm_si (mv_Sc (by decide))) (fun M45 => ?_)
                      exact qX8_scanSign_184 x1 M45
                    · skip
                      refine frm_chk ?_
                      refine frm_letM (sm_si (mv_Sc (by decide))) (fun M47 => ?_)
                      exact qX8_scanSign_184 x1 M47
set_option maxRecDepth 100000 in
theorem qX8_scanSign (a0 : Int32) (M : mv_M) : mv_frm (mv_S [40] []) (fX8_scanSign a0 M) M := by
  unfold fX8_scanSign
  refine frm_chk ?_
  refine frm_if ?_ ?_
  · refine frm_if ?_ ?_
    · exact qX8_scanSign_48 a0 M
    · refine frm_chk ?_
      refine frm_if ?_ ?_
      · refine frm_chk ?_
        refine frm_letM (sm_si (mv_Sc (by decide))) (fun M4 => ?_)
        exact frm_some
      · exact qX8_scanSign_48 a0 M
  · exact qX8_scanSign_48 a0 M
set_option maxRecDepth 100000 in
theorem qX8_scan_50 (x1 : Int32) (s0 : Int32) (M : mv_M) : mv_frm (mv_S [40, 41, 42] [(2, 2)]) (fX8_scan_50 x1 s0 M) M := by
  unfold fX8_scan_50
  refine frm_chk ?_
  refine frm_letM (sm_si (mv_Sc (by decide))) (fun M15 => ?_)
  refine frm_letM (sm_si (mv_Ss (by decide))) (fun M16 => ?_)
  refine frm_bind (by decide) (qX8_pastBlanks s0 M16) (fun r17 M18 => ?_)
  exact frm_some
set_option maxRecDepth 100000 in
theorem qX8_scan_80 (M : mv_M) : mv_frm (mv_S [40, 41, 42] [(2, 2)]) (fX8_scan_80 M) M := by
  unfold fX8_scan_80
  refine frm_chk ?_
  refine frm_letM (sm_si (mv_Sc (by decide))) (fun M11 => ?_)
  refine frm_chk ?_
  refine frm_letM (sm_si (mv_Sc (by decide))) (fun M13 => ?_)
  exact frm_some
set_option maxRecDepth 100000 in
theorem qX8_scan_11 (x1 : Int32) (M : mv_M) : mv_frm (mv_S [40, 41, 42] [(2, 2)]) (fX8_scan_11 x1 M) M := by
  unfold fX8_scan_11
  refine frm_loop ?_ _ M
  intro x1 M
  try dsimp only
  unfold gX8_scan_11
  refine frm_if ?_ ?_
  · exact frm_inr (qX8_scan_80 M)
  · refine frm_if ?_ ?_
    · exact frm_inr (qX8_scan_80 M)
    · refine frm_bind (by decide) (qX8_isOfRow x1 M) (fun r4 M5 => ?_)
      refine frm_if ?_ ?_
      · refine frm_bind (by decide) (qX8_scanSign x1 M5) (fun r6 M7 => ?_)
        exact qX8_scan_50 x1 r6 M7
      · refine frm_bind (by decide) (qX8_scanRow x1 M5) (fun r8 M9 => ?_)
        exact qX8_scan_50 x1 r8 M9
set_option maxRecDepth 100000 in
theorem qX8_scan (M : mv_M) : mv_frm (mv_S [40, 41, 42] [(2, 2)]) (fX8_scan M) M := by
  unfold fX8_scan
  refine frm_letM (sm_si (mv_Ss (by decide))) (fun M1 => ?_)
  refine frm_bind (by decide) (qX8_pastBlanks 0 M1) (fun r2 M3 => ?_)
  exact qX8_scan_11 r2 M3
set_option maxRecDepth 100000 in
theorem qX4_clear (b0 : Nat) (M : mv_M) (hb0 : b0 = 9 ∨ b0 = 24) : mv_frm (mv_S [] [(9, 0), (9, 8), (24, 0), (24, 8)]) (fX4_clear b0 M) M := by
  unfold fX4_clear
  refine frm_letM (sm_si (mv_Ss (by rcases hb0 with rfl | rfl <;> decide))) (fun M1 => ?_)
  refine frm_letM (sm_si (mv_Ss (by rcases hb0 with rfl | rfl <;> decide))) (fun M2 => ?_)
  exact frm_some
set_option maxRecDepth 100000 in
theorem qX8_textOf_12 (M : mv_M) : mv_frm (mv_S [] []) (fX8_textOf_12 M) M := by
  unfold fX8_textOf_12
  exact frm_some
set_option maxRecDepth 100000 in
theorem qX8_textOf (a0 : Int32) (M : mv_M) : mv_frm (mv_S [] []) (fX8_textOf a0 M) M := by
  unfold fX8_textOf
  refine frm_if ?_ ?_
  · exact qX8_textOf_12 M
  · refine frm_if ?_ ?_
    · refine frm_chk ?_
      exact frm_some
    · exact qX8_textOf_12 M
set_option maxRecDepth 100000 in
theorem qX4_functionOf_2 (b0 : Nat) (x1 : Int64) (x3 : Int32) (M : mv_M) : mv_frm (mv_S [] []) (fX4_functionOf_2 b0 x1 x3 M) M := by
  unfold fX4_functionOf_2
  refine frm_loop ?_ _ M
  rintro ⟨b0, x1, x3⟩ M
  try dsimp only
  unfold gX4_functionOf_2
  refine frm_if ?_ ?_
  · exact frm_some
  · refine frm_chk ?_
    refine frm_if ?_ ?_
    · exact frm_some
    · refine frm_let (fun v2 => ?_)
      exact frm_some
set_option maxRecDepth 100000 in
theorem qX4_functionOf (b0 : Nat) (a0 : Int64) (M : mv_M) : mv_frm (mv_S [] []) (fX4_functionOf b0 a0 M) M := by
  unfold fX4_functionOf
  exact qX4_functionOf_2 b0 a0 0 M
set_option maxRecDepth 100000 in
theorem qX8_kindOf_12 (M : mv_M) : mv_frm (mv_S [] []) (fX8_kindOf_12 M) M := by
  unfold fX8_kindOf_12
  exact frm_some
set_option maxRecDepth 100000 in
theorem qX8_kindOf (a0 : Int32) (M : mv_M) : mv_frm (mv_S [] []) (fX8_kindOf a0 M) M := by
  unfold fX8_kindOf
  refine frm_if ?_ ?_
  · exact qX8_kindOf_12 M
  · refine frm_if ?_ ?_
    · refine frm_chk ?_
      exact frm_some
    · exact qX8_kindOf_12 M
set_option maxRecDepth 100000 in
theorem qX3_kind (M : mv_M) : mv_frm (mv_S [] []) (fX3_kind M) M := by
  unfold fX3_kind
  refine frm_bind (by decide) (qX8_kindOf (M.1 3 3) M) (fun r1 M2 => ?_)
  exact frm_some
set_option maxRecDepth 100000 in
theorem qX8_startOf_12 (M : mv_M) : mv_frm (mv_S [] []) (fX8_startOf_12 M) M := by
  unfold fX8_startOf_12
  exact frm_some
set_option maxRecDepth 100000 in
theorem qX8_startOf (a0 : Int32) (M : mv_M) : mv_frm (mv_S [] []) (fX8_startOf a0 M) M := by
  unfold fX8_startOf
  refine frm_if ?_ ?_
  · exact qX8_startOf_12 M
  · refine frm_if ?_ ?_
    · refine frm_chk ?_
      exact frm_some
    · exact qX8_startOf_12 M
set_option maxRecDepth 100000 in
theorem qX0_tell (a0 : Int32) (a1 : Int32) (M : mv_M) : mv_frm (mv_S [] [(1, 0), (1, 1)]) (fX0_tell a0 a1 M) M := by
  unfold fX0_tell
  refine frm_if ?_ ?_
  · refine frm_letM (sm_si (mv_Ss (by decide))) (fun M1 => ?_)
    refine frm_letM (sm_si (mv_Ss (by decide))) (fun M2 => ?_)
    exact frm_some
  · exact frm_some
set_option maxRecDepth 100000 in
theorem qX3_stop_17 (s0 : Int32) (M : mv_M) : mv_frm (mv_S [] [(1, 0), (1, 1), (3, 3)]) (fX3_stop_17 s0 M) M := by
  unfold fX3_stop_17
  refine frm_bind (by decide) (qX8_startOf (M.1 3 3) M) (fun r3 M4 => ?_)
  refine frm_bind (by decide) (qX0_tell s0 r3 M4) (fun _ M5 => ?_)
  refine frm_letM (sm_si (mv_Ss (by decide))) (fun M6 => ?_)
  exact frm_some
set_option maxRecDepth 100000 in
theorem qX3_stop (a0 : Int32) (M : mv_M) : mv_frm (mv_S [] [(1, 0), (1, 1), (3, 3)]) (fX3_stop a0 M) M := by
  unfold fX3_stop
  refine frm_bind (by decide) (qX3_kind M) (fun r1 M2 => ?_)
  refine frm_if ?_ ?_
  · exact qX3_stop_17 1 M2
  · exact qX3_stop_17 a0 M2
set_option maxRecDepth 100000 in
theorem qX3_pass (M : mv_M) : mv_frm (mv_S [] [(1, 0), (1, 1), (3, 3)]) (fX3_pass M) M := by
  unfold fX3_pass
  refine frm_if ?_ ?_
  · refine frm_letM (sm_si (mv_Ss (by decide))) (fun M1 => ?_)
    exact frm_some
  · refine frm_bind (by decide) (qX3_stop 6 M) (fun _ M2 => ?_)
    exact frm_some
set_option maxRecDepth 100000 in
theorem qX3_takeNewName (a0 : Int32) (a1 : Int32) (M : mv_M) : mv_frm (mv_S [] [(1, 0), (1, 1), (3, 3)]) (fX3_takeNewName a0 a1 M) M := by
  unfold fX3_takeNewName
  refine frm_bind (by decide) (qX3_kind M) (fun r1 M2 => ?_)
  refine frm_if ?_ ?_
  · refine frm_if ?_ ?_
    · refine frm_if ?_ ?_
      · refine frm_bind (by decide) (qX3_pass M2) (fun _ M3 => ?_)
        exact frm_some
      · refine frm_bind (by decide) (qX3_stop 6 M2) (fun _ M4 => ?_)
        exact frm_some
    · refine frm_bind (by decide) (qX3_stop 3 M2) (fun _ M5 => ?_)
      exact frm_some
  · refine frm_bind (by decide) (qX3_stop 2 M2) (fun _ M6 => ?_)
    exact frm_some
set_option maxRecDepth 100000 in
theorem qX4_addFunction (b0 : Nat) (a0 : Int64) (M : mv_M) (hb0 : b0 = 9 ∨ b0 = 24) : mv_frm (mv_S [10, 11, 12, 25, 26, 27] [(9, 0), (24, 0)]) (fX4_addFunction b0 a0 M) M := by
  unfold fX4_addFunction
  refine frm_if ?_ ?_
  · exact frm_some
  · refine frm_chk ?_
    refine frm_letM (sm_sl (mv_Sc (by rcases hb0 with rfl | rfl <;> decide))) (fun M2 => ?_)
    refine frm_chk ?_
    refine frm_letM (sm_si (mv_Sc (by rcases hb0 with rfl | rfl <;> decide))) (fun M4 => ?_)
    refine frm_chk ?_
    refine frm_letM (sm_si (mv_Sc (by rcases hb0 with rfl | rfl <;> decide))) (fun M6 => ?_)
    refine frm_letM (sm_si (mv_Ss (by rcases hb0 with rfl | rfl <;> decide))) (fun M7 => ?_)
    exact frm_some
set_option maxRecDepth 100000 in
theorem qX3_take (a0 : Int32) (M : mv_M) : mv_frm (mv_S [] [(1, 0), (1, 1), (3, 3)]) (fX3_take a0 M) M := by
  unfold fX3_take
  refine frm_bind (by decide) (qX3_kind M) (fun r1 M2 => ?_)
  refine frm_if ?_ ?_
  · refine frm_bind (by decide) (qX3_pass M2) (fun _ M4 => ?_)
    exact frm_some
  · refine frm_bind (by decide) (qX3_stop 2 M2) (fun _ M3 => ?_)
    exact frm_some
set_option maxRecDepth 100000 in
theorem qX4_hasFunction (b0 : Nat) (a0 : Int32) (M : mv_M) : mv_frm (mv_S [] []) (fX4_hasFunction b0 a0 M) M := by
  unfold fX4_hasFunction
  refine frm_if ?_ ?_
  · exact frm_some
  · refine frm_if ?_ ?_
    · exact frm_some
    · exact frm_some
set_option maxRecDepth 100000 in
theorem qX4_hasName (b0 : Nat) (a0 : Int32) (a1 : Int32) (M : mv_M) : mv_frm (mv_S [] []) (fX4_hasName b0 a0 a1 M) M := by
  unfold fX4_hasName
  refine frm_bind (by decide) (qX4_hasFunction b0 a0 M) (fun r1 M2 => ?_)
  refine frm_if ?_ ?_
  · exact frm_some
  · refine frm_if ?_ ?_
    · exact frm_some
    · refine frm_chk ?_
      refine frm_if ?_ ?_
      · exact frm_some
      · exact frm_some
set_option maxRecDepth 100000 in
theorem qX4_isNamed (b0 : Nat) (a0 : Int32) (a1 : Int32) (a2 : Int64) (M : mv_M) : mv_frm (mv_S [] []) (fX4_isNamed b0 a0 a1 a2 M) M := by
  unfold fX4_isNamed
  refine frm_bind (by decide) (qX4_hasName b0 a0 a1 M) (fun r1 M2 => ?_)
  refine frm_if ?_ ?_
  · exact frm_some
  · refine frm_chk ?_
    refine frm_if ?_ ?_
    · exact frm_some
    · exact frm_some
set_option maxRecDepth 100000 in
theorem qX4_addName (b0 : Nat) (a0 : Int32) (a1 : Int64) (M : mv_M) (hb0 : b0 = 9 ∨ b0 = 24) : mv_frm (mv_S [12, 15, 27, 30] []) (fX4_addName b0 a0 a1 M) M := by
  unfold fX4_addName
  refine frm_bind (by decide) (qX4_hasFunction b0 a0 M) (fun r1 M2 => ?_)
  refine frm_if ?_ ?_
  · exact frm_some
  · refine frm_chk ?_
    refine frm_if ?_ ?_
    · refine frm_chk ?_
      refine frm_let (fun v5 => ?_)
      refine frm_chk ?_
      refine frm_chk ?_
      refine frm_letM (sm_si (mv_Sc (by rcases hb0 with rfl | rfl <;> decide))) (fun M8 => ?_)
      refine frm_chk ?_
      refine frm_letM (sm_sl (mv_Sc (by rcases hb0 with rfl | rfl <;> decide))) (fun M10 => ?_)
      exact frm_some
    · exact frm_some
set_option maxRecDepth 100000 in
theorem qX6_pairOf_10 (M : mv_M) : mv_frm (mv_S [] []) (fX6_pairOf_10 M) M := by
  unfold fX6_pairOf_10
  exact frm_some
set_option maxRecDepth 100000 in
theorem qX6_pairOf (a0 : Int32) (a1 : Int32) (M : mv_M) : mv_frm (mv_S [] []) (fX6_pairOf a0 a1 M) M := by
  unfold fX6_pairOf
  refine frm_if ?_ ?_
  · exact qX6_pairOf_10 M
  · refine frm_if ?_ ?_
    · exact frm_some
    · exact qX6_pairOf_10 M
set_option maxRecDepth 100000 in
theorem qX3_parseType {r_X3_parseType : Int32 → mv_M → Option (Int32 × mv_M)} (hq_X3_parseType : ∀ (a0 : Int32) (M : mv_M), mv_frm (mv_S [] [(1, 0), (1, 1), (3, 3)]) (r_X3_parseType a0 M) M) (a0 : Int32) (M : mv_M) : mv_frm (mv_S [] [(1, 0), (1, 1), (3, 3)]) (fX3_parseType r_X3_parseType a0 M) M := by
  unfold fX3_parseType
  refine frm_bind (by decide) (qX3_kind M) (fun r1 M2 => ?_)
  refine frm_if ?_ ?_
  · refine frm_if ?_ ?_
    · refine frm_bind (by decide) (qX3_pass M2) (fun _ M3 => ?_)
      refine frm_bind (by decide) (hq_X3_parseType (a0 + 1) M3) (fun r4 M5 => ?_)
      refine frm_bind (by decide) (qX3_take 44 M5) (fun _ M6 => ?_)
      refine frm_bind (by decide) (hq_X3_parseType (a0 + 1) M6) (fun r7 M8 => ?_)
      refine frm_bind (by decide) (qX3_take 41 M8) (fun _ M9 => ?_)
      refine frm_bind (by decide) (qX6_pairOf r4 r7 M9) (fun r10 M11 => ?_)
      exact frm_some
    · refine frm_bind (by decide) (qX3_stop 6 M2) (fun _ M12 => ?_)
      exact frm_some
  · refine frm_bind (by decide) (qX3_take 300 M2) (fun _ M13 => ?_)
    exact frm_some
theorem qRX3_parseType : ∀ (n s : Nat) (a0 : Int32) (M : mv_M), mv_frm (mv_S [] [(1, 0), (1, 1), (3, 3)]) (RX3_parseType n s a0 M) M := by
  intro n
  induction n with
  | zero =>
    intro s a0 M
    rw [RX3_parseType]
    exact frm_none
  | succ n ih =>
    intro s a0 M
    rw [RX3_parseType]
    exact qX3_parseType (fun a0 M => ih 0 a0 M) a0 M

theorem qtX3_parseType (a0 : Int32) (M : mv_M) : mv_frm (mv_S [] [(1, 0), (1, 1), (3, 3)]) (tX3_parseType a0 M) M := qRX3_parseType 12 0 a0 M
set_option maxRecDepth 100000 in
theorem qX4_setNameType (b0 : Nat) (a0 : Int32) (a1 : Int32) (a2 : Int32) (M : mv_M) (hb0 : b0 = 9 ∨ b0 = 24) : mv_frm (mv_S [16, 31] []) (fX4_setNameType b0 a0 a1 a2 M) M := by
  unfold fX4_setNameType
  refine frm_bind (by decide) (qX4_hasName b0 a0 a1 M) (fun r1 M2 => ?_)
  refine frm_if ?_ ?_
  · exact frm_some
  · refine frm_chk ?_
    refine frm_letM (sm_si (mv_Sc (by rcases hb0 with rfl | rfl <;> decide))) (fun M4 => ?_)
    exact frm_some
set_option maxRecDepth 100000 in
theorem qX3_parseParam_60 (x1 : Int64) (x4 : Int32) (s0 : Int32) (M : mv_M) : mv_frm (mv_S [11, 12, 15, 16, 26, 27, 30, 31] [(1, 0), (1, 1), (3, 3)]) (fX3_parseParam_60 x1 x4 s0 M) M := by
  unfold fX3_parseParam_60
  refine frm_let (fun v23 => ?_)
  exact frm_some
set_option maxRecDepth 100000 in
theorem qX3_parseParam_55 (x1 : Int64) (x4 : Int32) (M : mv_M) : mv_frm (mv_S [11, 12, 15, 16, 26, 27, 30, 31] [(1, 0), (1, 1), (3, 3)]) (fX3_parseParam_55 x1 x4 M) M := by
  unfold fX3_parseParam_55
  exact qX3_parseParam_60 x1 x4 1 M
set_option maxRecDepth 100000 in
theorem qX3_parseParam_90 (x1 : Int64) (s0 : Int32) (s1 : Int32) (M : mv_M) : mv_frm (mv_S [11, 12, 15, 16, 26, 27, 30, 31] [(1, 0), (1, 1), (3, 3)]) (fX3_parseParam_90 x1 s0 s1 M) M := by
  unfold fX3_parseParam_90
  refine frm_bind (by decide) (qX3_takeNewName s1 s0 M) (fun _ M10 => ?_)
  refine frm_if ?_ ?_
  · refine frm_getp (fun b11 hb11 => ?_)
    refine frm_bind (by decide) (qX4_addName b11 (M10.1 3 4) x1 M10 hb11) (fun r12 M13 => ?_)
    refine frm_getp (fun b14 hb14 => ?_)
    refine frm_chk ?_
    refine frm_chk ?_
    refine frm_letM (sm_si (mv_Sc (by rcases hb14 with rfl | rfl <;> decide))) (fun M17 => ?_)
    refine frm_bind (by decide) (qX3_take 58 M17) (fun _ M18 => ?_)
    refine frm_getp (fun b19 hb19 => ?_)
    refine frm_bind (by decide) (qtX3_parseType 0 M18) (fun r20 M21 => ?_)
    refine frm_bind (by decide) (qX4_setNameType b19 (M18.1 3 4) r12 r20 M21 hb19) (fun _ M22 => ?_)
    exact frm_some
  · exact frm_some
set_option maxRecDepth 100000 in
theorem qX3_parseParam_17 (x1 : Int64) (x3 : Int32) (x4 : Int32) (M : mv_M) : mv_frm (mv_S [11, 12, 15, 16, 26, 27, 30, 31] [(1, 0), (1, 1), (3, 3)]) (fX3_parseParam_17 x1 x3 x4 M) M := by
  unfold fX3_parseParam_17
  refine frm_loop ?_ _ M
  rintro ⟨x1, x3, x4⟩ M
  try dsimp only
  unfold gX3_parseParam_17
  refine frm_getp (fun b3 hb3 => ?_)
  refine frm_chk ?_
  refine frm_if ?_ ?_
  · refine frm_getp (fun b5 hb5 => ?_)
    refine frm_chk ?_
    refine frm_if ?_ ?_
    · exact frm_inr (qX3_parseParam_90 x1 0 x3 M)
    · exact frm_inr (qX3_parseParam_90 x1 1 x3 M)
  · refine frm_if ?_ ?_
    · refine frm_getp (fun b7 hb7 => ?_)
      refine frm_bind (by decide) (qX4_isNamed b7 (M.1 3 4) x4 x1 M) (fun r8 M9 => ?_)
      refine frm_if ?_ ?_
      · exact qX3_parseParam_60 x1 x4 0 M9
      · exact qX3_parseParam_55 x1 x4 M9
    · exact qX3_parseParam_55 x1 x4 M
set_option maxRecDepth 100000 in
theorem qX3_parseParam (M : mv_M) : mv_frm (mv_S [11, 12, 15, 16, 26, 27, 30, 31] [(1, 0), (1, 1), (3, 3)]) (fX3_parseParam M) M := by
  unfold fX3_parseParam
  refine frm_bind (by decide) (qX8_textOf (M.1 3 3) M) (fun r1 M2 => ?_)
  exact qX3_parseParam_17 r1 0 0 M2
set_option maxRecDepth 100000 in
theorem qX3_parseParams_6 (x1 : Int32) (M : mv_M) : mv_frm (mv_S [11, 12, 15, 16, 26, 27, 30, 31] [(1, 0), (1, 1), (3, 3)]) (fX3_parseParams_6 x1 M) M := by
  unfold fX3_parseParams_6
  refine frm_loop ?_ _ M
  intro x1 M
  try dsimp only
  unfold gX3_parseParams_6
  refine frm_if ?_ ?_
  · exact frm_some
  · refine frm_bind (by decide) (qX3_kind M) (fun r2 M3 => ?_)
    refine frm_if ?_ ?_
    · refine frm_bind (by decide) (qX3_pass M3) (fun _ M4 => ?_)
      refine frm_bind (by decide) (qX3_parseParam M4) (fun _ M5 => ?_)
      refine frm_let (fun v6 => ?_)
      exact frm_some
    · exact frm_some
set_option maxRecDepth 100000 in
theorem qX3_parseParams (M : mv_M) : mv_frm (mv_S [11, 12, 15, 16, 26, 27, 30, 31] [(1, 0), (1, 1), (3, 3)]) (fX3_parseParams M) M := by
  unfold fX3_parseParams
  refine frm_bind (by decide) (qX3_parseParam M) (fun _ M1 => ?_)
  exact qX3_parseParams_6 0 M1
set_option maxRecDepth 100000 in
theorem qX3_canBeginE (M : mv_M) : mv_frm (mv_S [] []) (fX3_canBeginE M) M := by
  unfold fX3_canBeginE
  refine frm_bind (by decide) (qX3_kind M) (fun r1 M2 => ?_)
  refine frm_if ?_ ?_
  · exact frm_some
  · skip
    refine frm_if ?_ ?_
    · exact frm_some
    · skip
      refine frm_if ?_ ?_
      · exact frm_some
      · skip
        refine frm_if ?_ ?_
        · exact frm_some
        · skip
          refine frm_if ?_ ?_
          · exact frm_some
          · skip
            refine frm_if ?_ ?_
            · exact frm_some
            · skip
              refine frm_if ?_ ?_
              · exact frm_some
              · skip
                exact frm_some
set_option maxRecDepth 100000 in
theorem qX3_parseInnerName_46 (x3 : Int64) (s0 : Int32) (s1 : Int32) (M : mv_M) : mv_frm (mv_S [12, 15, 27, 30] [(1, 0), (1, 1), (3, 3)]) (fX3_parseInnerName_46 x3 s0 s1 M) M := by
  unfold fX3_parseInnerName_46
  refine frm_bind (by decide) (qX3_takeNewName s1 s0 M) (fun _ M5 => ?_)
  refine frm_if ?_ ?_
  · refine frm_getp (fun b6 hb6 => ?_)
    refine frm_bind (by decide) (qX4_addName b6 (M5.1 3 4) x3 M5 hb6) (fun r7 M8 => ?_)
    exact frm_some
  · exact frm_some
set_option maxRecDepth 100000 in
theorem qX3_parseInnerName_24 (x3 : Int64) (s0 : Int32) (M : mv_M) : mv_frm (mv_S [12, 15, 27, 30] [(1, 0), (1, 1), (3, 3)]) (fX3_parseInnerName_24 x3 s0 M) M := by
  unfold fX3_parseInnerName_24
  refine frm_getp (fun b3 hb3 => ?_)
  refine frm_chk ?_
  refine frm_if ?_ ?_
  · exact qX3_parseInnerName_46 x3 0 s0 M
  · exact qX3_parseInnerName_46 x3 1 s0 M
set_option maxRecDepth 100000 in
theorem qX3_parseInnerName (a0 : Int64) (M : mv_M) : mv_frm (mv_S [12, 15, 27, 30] [(1, 0), (1, 1), (3, 3)]) (fX3_parseInnerName a0 M) M := by
  unfold fX3_parseInnerName
  refine frm_bind (by decide) (qX8_textOf (M.1 3 3) M) (fun r1 M2 => ?_)
  refine frm_if ?_ ?_
  · exact qX3_parseInnerName_24 r1 1 M2
  · exact qX3_parseInnerName_24 r1 0 M2
set_option maxRecDepth 100000 in
theorem qX4_addNode (b0 : Nat) (a0 : Int32) (a1 : Int32) (a2 : Int32) (a3 : Int32) (a4 : Int32) (M : mv_M) (hb0 : b0 = 9 ∨ b0 = 24) : mv_frm (mv_S [17, 18, 19, 20, 21, 22, 23, 32, 33, 34, 35, 36, 37, 38] [(9, 8), (24, 8)]) (fX4_addNode b0 a0 a1 a2 a3 a4 M) M := by
  unfold fX4_addNode
  refine frm_if ?_ ?_
  · refine frm_let (fun v1 => ?_)
    refine frm_letM (sm_si (mv_Ss (by rcases hb0 with rfl | rfl <;> decide))) (fun M2 => ?_)
    refine frm_chk ?_
    refine frm_letM (sm_si (mv_Sc (by rcases hb0 with rfl | rfl <;> decide))) (fun M4 => ?_)
    refine frm_chk ?_
    refine frm_letM (sm_si (mv_Sc (by rcases hb0 with rfl | rfl <;> decide))) (fun M6 => ?_)
    refine frm_chk ?_
    refine frm_letM (sm_si (mv_Sc (by rcases hb0 with rfl | rfl <;> decide))) (fun M8 => ?_)
    refine frm_chk ?_
    refine frm_letM (sm_si (mv_Sc (by rcases hb0 with rfl | rfl <;> decide))) (fun M10 => ?_)
    refine frm_chk ?_
    refine frm_letM (sm_si (mv_Sc (by rcases hb0 with rfl | rfl <;> decide))) (fun M12 => ?_)
    refine frm_chk ?_
    refine frm_letM (sm_si (mv_Sc (by rcases hb0 with rfl | rfl <;> decide))) (fun M14 => ?_)
    refine frm_chk ?_
    refine frm_letM (sm_si (mv_Sc (by rcases hb0 with rfl | rfl <;> decide))) (fun M16 => ?_)
    exact frm_some
  · exact frm_some
set_option maxRecDepth 100000 in
theorem qX4_hasNode (b0 : Nat) (a0 : Int32) (M : mv_M) : mv_frm (mv_S [] []) (fX4_hasNode b0 a0 M) M := by
  unfold fX4_hasNode
  refine frm_if ?_ ?_
  · exact frm_some
  · refine frm_if ?_ ?_
    · exact frm_some
    · exact frm_some
set_option maxRecDepth 100000 in
theorem qX3_parseFail (a0 : Int32) (M : mv_M) : mv_frm (mv_S [17, 18, 19, 20, 21, 22, 23, 32, 33, 34, 35, 36, 37, 38] [(1, 0), (1, 1), (3, 3), (9, 8), (24, 8)]) (fX3_parseFail a0 M) M := by
  unfold fX3_parseFail
  refine frm_bind (by decide) (qtX3_parseType 0 M) (fun r1 M2 => ?_)
  refine frm_getp (fun b3 hb3 => ?_)
  refine frm_bind (by decide) (qX4_addNode b3 308 a0 (-1) (-1) (-1) M2 hb3) (fun r4 M5 => ?_)
  refine frm_getp (fun b6 hb6 => ?_)
  refine frm_bind (by decide) (qX4_hasNode b6 r4 M5) (fun r7 M8 => ?_)
  refine frm_if ?_ ?_
  · exact frm_some
  · refine frm_getp (fun b9 hb9 => ?_)
    refine frm_chk ?_
    refine frm_letM (sm_si (mv_Sc (by rcases hb9 with rfl | rfl <;> decide))) (fun M11 => ?_)
    exact frm_some
set_option maxRecDepth 100000 in
theorem qX3_joinsAt (a0 : Int32) (M : mv_M) : mv_frm (mv_S [] []) (fX3_joinsAt a0 M) M := by
  unfold fX3_joinsAt
  refine frm_bind (by decide) (qX3_kind M) (fun r1 M2 => ?_)
  refine frm_if ?_ ?_
  · refine frm_if ?_ ?_
    · exact frm_some
    · exact frm_some
  · skip
    refine frm_if ?_ ?_
    · refine frm_if ?_ ?_
      · exact frm_some
      · exact frm_some
    · skip
      refine frm_if ?_ ?_
      · refine frm_if ?_ ?_
        · exact frm_some
        · exact frm_some
      · skip
        refine frm_if ?_ ?_
        · refine frm_if ?_ ?_
          · exact frm_some
          · exact frm_some
        · skip
          refine frm_if ?_ ?_
          · refine frm_if ?_ ?_
            · exact frm_some
            · exact frm_some
          · skip
            exact frm_some
set_option maxRecDepth 100000 in
theorem qX3_parseInBrackets {r_X3_parseE : Int32 → mv_M → Option (Int32 × mv_M)} (hq_X3_parseE : ∀ (a0 : Int32) (M : mv_M), mv_frm (mv_S [12, 15, 17, 18, 19, 20, 21, 22, 23, 27, 30, 32, 33, 34, 35, 36, 37, 38] [(1, 0), (1, 1), (3, 3), (9, 8), (24, 8)]) (r_X3_parseE a0 M) M) (a0 : Int32) (a1 : Int32) (M : mv_M) : mv_frm (mv_S [12, 15, 17, 18, 19, 20, 21, 22, 23, 27, 30, 32, 33, 34, 35, 36, 37, 38] [(1, 0), (1, 1), (3, 3), (9, 8), (24, 8)]) (fX3_parseInBrackets r_X3_parseE a0 a1 M) M := by
  unfold fX3_parseInBrackets
  refine frm_bind (by decide) (hq_X3_parseE a1 M) (fun r1 M2 => ?_)
  refine frm_bind (by decide) (qX3_kind M2) (fun r3 M4 => ?_)
  refine frm_if ?_ ?_
  · refine frm_bind (by decide) (qX3_pass M4) (fun _ M5 => ?_)
    refine frm_bind (by decide) (hq_X3_parseE a1 M5) (fun r6 M7 => ?_)
    refine frm_bind (by decide) (qX3_take 41 M7) (fun _ M8 => ?_)
    refine frm_getp (fun b9 hb9 => ?_)
    refine frm_bind (by decide) (qX4_addNode b9 6 a0 r1 r6 (-1) M8 hb9) (fun r10 M11 => ?_)
    exact frm_some
  · refine frm_bind (by decide) (qX3_take 41 M4) (fun _ M12 => ?_)
    exact frm_some
set_option maxRecDepth 100000 in
theorem qX3_parseCall_87 {r_X3_parseE : Int32 → mv_M → Option (Int32 × mv_M)} (hq_X3_parseE : ∀ (a0 : Int32) (M : mv_M), mv_frm (mv_S [12, 15, 17, 18, 19, 20, 21, 22, 23, 27, 30, 32, 33, 34, 35, 36, 37, 38] [(1, 0), (1, 1), (3, 3), (9, 8), (24, 8)]) (r_X3_parseE a0 M) M) (x1 : Int32) (x2 : Int32) (x3 : Int32) (x4 : Int32) (x6 : Int32) (M : mv_M) : mv_frm (mv_S [12, 15, 17, 18, 19, 20, 21, 22, 23, 27, 30, 32, 33, 34, 35, 36, 37, 38] [(1, 0), (1, 1), (3, 3), (9, 8), (24, 8)]) (fX3_parseCall_87 r_X3_parseE x1 x2 x3 x4 x6 M) M := by
  unfold fX3_parseCall_87
  refine frm_let (fun v21 => ?_)
  exact frm_some
set_option maxRecDepth 100000 in
theorem qX3_parseCall_97 {r_X3_parseE : Int32 → mv_M → Option (Int32 × mv_M)} (hq_X3_parseE : ∀ (a0 : Int32) (M : mv_M), mv_frm (mv_S [12, 15, 17, 18, 19, 20, 21, 22, 23, 27, 30, 32, 33, 34, 35, 36, 37, 38] [(1, 0), (1, 1), (3, 3), (9, 8), (24, 8)]) (r_X3_parseE a0 M) M) (x1 : Int32) (x3 : Int32) (x4 : Int32) (M : mv_M) : mv_frm (mv_S [12, 15, 17, 18, 19, 20, 21, 22, 23, 27, 30, 32, 33, 34, 35, 36, 37, 38] [(1, 0), (1, 1), (3, 3), (9, 8), (24, 8)]) (fX3_parseCall_97 r_X3_parseE x1 x3 x4 M) M := by
  unfold fX3_parseCall_97
  refine frm_bind (by decide) (qX3_take 41 M) (fun _ M17 => ?_)
  refine frm_getp (fun b18 hb18 => ?_)
  refine frm_bind (by decide) (qX4_addNode b18 5 x1 (-1) x3 x4 M17 hb18) (fun r19 M20 => ?_)
  exact frm_some
set_option maxRecDepth 100000 in
theorem qX3_parseCall_30 {r_X3_parseE : Int32 → mv_M → Option (Int32 × mv_M)} (hq_X3_parseE : ∀ (a0 : Int32) (M : mv_M), mv_frm (mv_S [12, 15, 17, 18, 19, 20, 21, 22, 23, 27, 30, 32, 33, 34, 35, 36, 37, 38] [(1, 0), (1, 1), (3, 3), (9, 8), (24, 8)]) (r_X3_parseE a0 M) M) (x1 : Int32) (x2 : Int32) (x3 : Int32) (x4 : Int32) (x5 : Int32) (M : mv_M) : mv_frm (mv_S [12, 15, 17, 18, 19, 20, 21, 22, 23, 27, 30, 32, 33, 34, 35, 36, 37, 38] [(1, 0), (1, 1), (3, 3), (9, 8), (24, 8)]) (fX3_parseCall_30 r_X3_parseE x1 x2 x3 x4 x5 M) M := by
  unfold fX3_parseCall_30
  refine frm_loop ?_ _ M
  rintro ⟨x1, x2, x3, x4, x5⟩ M
  try dsimp only
  unfold gX3_parseCall_30
  refine frm_if ?_ ?_
  · exact frm_inr (qX3_parseCall_97 hq_X3_parseE x1 x3 x4 M)
  · refine frm_if ?_ ?_
    · exact frm_inr (qX3_parseCall_97 hq_X3_parseE x1 x3 x4 M)
    · refine frm_bind (by decide) (qX3_kind M) (fun r6 M7 => ?_)
      refine frm_if ?_ ?_
      · refine frm_bind (by decide) (qX3_pass M7) (fun _ M8 => ?_)
        refine frm_bind (by decide) (hq_X3_parseE x2 M8) (fun r9 M10 => ?_)
        refine frm_getp (fun b11 hb11 => ?_)
        refine frm_bind (by decide) (qX4_hasNode b11 x5 M10) (fun r12 M13 => ?_)
        refine frm_if ?_ ?_
        · exact qX3_parseCall_87 hq_X3_parseE x1 x2 x3 x4 r9 M13
        · refine frm_getp (fun b14 hb14 => ?_)
          refine frm_chk ?_
          refine frm_letM (sm_si (mv_Sc (by rcases hb14 with rfl | rfl <;> decide))) (fun M16 => ?_)
          exact qX3_parseCall_87 hq_X3_parseE x1 x2 x3 x4 r9 M16
      · exact frm_inr (qX3_parseCall_97 hq_X3_parseE x1 x3 x4 M7)
set_option maxRecDepth 100000 in
theorem qX3_parseCall_27 {r_X3_parseE : Int32 → mv_M → Option (Int32 × mv_M)} (hq_X3_parseE : ∀ (a0 : Int32) (M : mv_M), mv_frm (mv_S [12, 15, 17, 18, 19, 20, 21, 22, 23, 27, 30, 32, 33, 34, 35, 36, 37, 38] [(1, 0), (1, 1), (3, 3), (9, 8), (24, 8)]) (r_X3_parseE a0 M) M) (x1 : Int32) (x2 : Int32) (x3 : Int32) (x4 : Int32) (M : mv_M) : mv_frm (mv_S [12, 15, 17, 18, 19, 20, 21, 22, 23, 27, 30, 32, 33, 34, 35, 36, 37, 38] [(1, 0), (1, 1), (3, 3), (9, 8), (24, 8)]) (fX3_parseCall_27 r_X3_parseE x1 x2 x3 x4 M) M := by
  unfold fX3_parseCall_27
  exact qX3_parseCall_30 hq_X3_parseE x1 x2 x3 x4 x3 M
set_option maxRecDepth 100000 in
theorem qX3_parseCall {r_X3_parseE : Int32 → mv_M → Option (Int32 × mv_M)} (hq_X3_parseE : ∀ (a0 : Int32) (M : mv_M), mv_frm (mv_S [12, 15, 17, 18, 19, 20, 21, 22, 23, 27, 30, 32, 33, 34, 35, 36, 37, 38] [(1, 0), (1, 1), (3, 3), (9, 8), (24, 8)]) (r_X3_parseE a0 M) M) (a0 : Int32) (a1 : Int32) (M : mv_M) : mv_frm (mv_S [12, 15, 17, 18, 19, 20, 21, 22, 23, 27, 30, 32, 33, 34, 35, 36, 37, 38] [(1, 0), (1, 1), (3, 3), (9, 8), (24, 8)]) (fX3_parseCall r_X3_parseE a0 a1 M) M := by
  unfold fX3_parseCall
  refine frm_bind (by decide) (qX3_pass M) (fun _ M1 => ?_)
  refine frm_bind (by decide) (qX3_kind M1) (fun r2 M3 => ?_)
  refine frm_if ?_ ?_
  · exact qX3_parseCall_27 hq_X3_parseE a0 a1 (-1) 0 M3
  · refine frm_bind (by decide) (hq_X3_parseE a1 M3) (fun r4 M5 => ?_)
    exact qX3_parseCall_27 hq_X3_parseE a0 a1 r4 1 M5
set_option maxRecDepth 100000 in
theorem qX3_parseAtom {r_X3_parseCall : Int32 → Int32 → mv_M → Option (Int32 × mv_M)} {r_X3_parseInBrackets : Int32 → Int32 → mv_M → Option (Int32 × mv_M)} (hq_X3_parseCall : ∀ (a0 : Int32) (a1 : Int32) (M : mv_M), mv_frm (mv_S [12, 15, 17, 18, 19, 20, 21, 22, 23, 27, 30, 32, 33, 34, 35, 36, 37, 38] [(1, 0), (1, 1), (3, 3), (9, 8), (24, 8)]) (r_X3_parseCall a0 a1 M) M) (hq_X3_parseInBrackets : ∀ (a0 : Int32) (a1 : Int32) (M : mv_M), mv_frm (mv_S [12, 15, 17, 18, 19, 20, 21, 22, 23, 27, 30, 32, 33, 34, 35, 36, 37, 38] [(1, 0), (1, 1), (3, 3), (9, 8), (24, 8)]) (r_X3_parseInBrackets a0 a1 M) M) (a0 : Int32) (M : mv_M) : mv_frm (mv_S [12, 15, 17, 18, 19, 20, 21, 22, 23, 27, 30, 32, 33, 34, 35, 36, 37, 38] [(1, 0), (1, 1), (3, 3), (9, 8), (24, 8)]) (fX3_parseAtom r_X3_parseCall r_X3_parseInBrackets a0 M) M := by
  unfold fX3_parseAtom
  refine frm_let (fun v1 => ?_)
  refine frm_bind (by decide) (qX3_kind M) (fun r2 M3 => ?_)
  refine frm_if ?_ ?_
  · refine frm_bind (by decide) (qX3_pass M3) (fun _ M5 => ?_)
    refine frm_bind (by decide) (qX3_kind M5) (fun r6 M7 => ?_)
    refine frm_if ?_ ?_
    · refine frm_bind (by decide) (hq_X3_parseCall v1 a0 M7) (fun r11 M12 => ?_)
      exact frm_some
    · refine frm_getp (fun b8 hb8 => ?_)
      refine frm_bind (by decide) (qX4_addNode b8 2 v1 (-1) (-1) (-1) M7 hb8) (fun r9 M10 => ?_)
      exact frm_some
  · skip
    refine frm_if ?_ ?_
    · refine frm_bind (by decide) (qX3_pass M3) (fun _ M14 => ?_)
      refine frm_getp (fun b15 hb15 => ?_)
      refine frm_bind (by decide) (qX8_textOf v1 M14) (fun r16 M17 => ?_)
      refine frm_bind (by decide) (qX4_addNode b15 3 v1 (r16.toInt32) (-1) (-1) M17 hb15) (fun r18 M19 => ?_)
      exact frm_some
    · skip
      refine frm_if ?_ ?_
      · refine frm_bind (by decide) (qX3_pass M3) (fun _ M21 => ?_)
        refine frm_bind (by decide) (hq_X3_parseInBrackets v1 a0 M21) (fun r22 M23 => ?_)
        exact frm_some
      · skip
        refine frm_if ?_ ?_
        · refine frm_bind (by decide) (qX3_pass M3) (fun _ M25 => ?_)
          refine frm_bind (by decide) (qX3_parseFail v1 M25) (fun r26 M27 => ?_)
          exact frm_some
        · skip
          refine frm_bind (by decide) (qX3_stop 2 M3) (fun _ M28 => ?_)
          exact frm_some
set_option maxRecDepth 100000 in
theorem qX3_parseSides_74 {r_X3_parseAtom : Int32 → mv_M → Option (Int32 × mv_M)} {r_X3_parseSides : Int32 → Int32 → mv_M → Option (Int32 × mv_M)} (hq_X3_parseAtom : ∀ (a0 : Int32) (M : mv_M), mv_frm (mv_S [12, 15, 17, 18, 19, 20, 21, 22, 23, 27, 30, 32, 33, 34, 35, 36, 37, 38] [(1, 0), (1, 1), (3, 3), (9, 8), (24, 8)]) (r_X3_parseAtom a0 M) M) (hq_X3_parseSides : ∀ (a0 : Int32) (a1 : Int32) (M : mv_M), mv_frm (mv_S [12, 15, 17, 18, 19, 20, 21, 22, 23, 27, 30, 32, 33, 34, 35, 36, 37, 38] [(1, 0), (1, 1), (3, 3), (9, 8), (24, 8)]) (r_X3_parseSides a0 a1 M) M) (x3 : Int32) (x4 : Int32) (x5 : Int32) (s0 : Int32) (M : mv_M) : mv_frm (mv_S [12, 15, 17, 18, 19, 20, 21, 22, 23, 27, 30, 32, 33, 34, 35, 36, 37, 38] [(1, 0), (1, 1), (3, 3), (9, 8), (24, 8)]) (fX3_parseSides_74 r_X3_parseAtom r_X3_parseSides x3 x4 x5 s0 M) M := by
  unfold fX3_parseSides_74
  refine frm_getp (fun b17 hb17 => ?_)
  refine frm_bind (by decide) (qX4_addNode b17 x4 s0 x3 x5 (-1) M hb17) (fun r18 M19 => ?_)
  exact frm_some
set_option maxRecDepth 100000 in
theorem qX3_parseSides {r_X3_parseAtom : Int32 → mv_M → Option (Int32 × mv_M)} {r_X3_parseSides : Int32 → Int32 → mv_M → Option (Int32 × mv_M)} (hq_X3_parseAtom : ∀ (a0 : Int32) (M : mv_M), mv_frm (mv_S [12, 15, 17, 18, 19, 20, 21, 22, 23, 27, 30, 32, 33, 34, 35, 36, 37, 38] [(1, 0), (1, 1), (3, 3), (9, 8), (24, 8)]) (r_X3_parseAtom a0 M) M) (hq_X3_parseSides : ∀ (a0 : Int32) (a1 : Int32) (M : mv_M), mv_frm (mv_S [12, 15, 17, 18, 19, 20, 21, 22, 23, 27, 30, 32, 33, 34, 35, 36, 37, 38] [(1, 0), (1, 1), (3, 3), (9, 8), (24, 8)]) (r_X3_parseSides a0 a1 M) M) (a0 : Int32) (a1 : Int32) (M : mv_M) : mv_frm (mv_S [12, 15, 17, 18, 19, 20, 21, 22, 23, 27, 30, 32, 33, 34, 35, 36, 37, 38] [(1, 0), (1, 1), (3, 3), (9, 8), (24, 8)]) (fX3_parseSides r_X3_parseAtom r_X3_parseSides a0 a1 M) M := by
  unfold fX3_parseSides
  refine frm_if ?_ ?_
  · refine frm_bind (by decide) (hq_X3_parseSides a0 (a1 + 1) M) (fun r1 M2 => ?_)
    refine frm_bind (by decide) (qX3_joinsAt a1 M2) (fun r3 M4 => ?_)
    refine frm_if ?_ ?_
    · exact frm_some
    · refine frm_bind (by decide) (qX3_kind M4) (fun r5 M6 => ?_)
      refine frm_bind (by decide) (qX3_pass M6) (fun _ M7 => ?_)
      refine frm_bind (by decide) (hq_X3_parseSides a0 (a1 + 1) M7) (fun r8 M9 => ?_)
      refine frm_getp (fun b10 hb10 => ?_)
      refine frm_bind (by decide) (qX4_hasNode b10 r1 M9) (fun r11 M12 => ?_)
      refine frm_if ?_ ?_
      · exact qX3_parseSides_74 hq_X3_parseAtom hq_X3_parseSides r1 r5 r8 (-1) M12
      · refine frm_getp (fun b13 hb13 => ?_)
        refine frm_chk ?_
        exact qX3_parseSides_74 hq_X3_parseAtom hq_X3_parseSides r1 r5 r8 (M12.1 (b13 + 14) r1.toNatClampNeg) M12
  · refine frm_bind (by decide) (hq_X3_parseAtom a0 M) (fun r15 M16 => ?_)
    exact frm_some
set_option maxRecDepth 100000 in
theorem qX3_parseIf {r_X3_parseE : Int32 → mv_M → Option (Int32 × mv_M)} (hq_X3_parseE : ∀ (a0 : Int32) (M : mv_M), mv_frm (mv_S [12, 15, 17, 18, 19, 20, 21, 22, 23, 27, 30, 32, 33, 34, 35, 36, 37, 38] [(1, 0), (1, 1), (3, 3), (9, 8), (24, 8)]) (r_X3_parseE a0 M) M) (a0 : Int32) (M : mv_M) : mv_frm (mv_S [12, 15, 17, 18, 19, 20, 21, 22, 23, 27, 30, 32, 33, 34, 35, 36, 37, 38] [(1, 0), (1, 1), (3, 3), (9, 8), (24, 8)]) (fX3_parseIf r_X3_parseE a0 M) M := by
  unfold fX3_parseIf
  refine frm_let (fun v1 => ?_)
  refine frm_bind (by decide) (qX3_pass M) (fun _ M2 => ?_)
  refine frm_bind (by decide) (hq_X3_parseE a0 M2) (fun r3 M4 => ?_)
  refine frm_bind (by decide) (qX3_take 302 M4) (fun _ M5 => ?_)
  refine frm_bind (by decide) (hq_X3_parseE a0 M5) (fun r6 M7 => ?_)
  refine frm_bind (by decide) (qX3_take 303 M7) (fun _ M8 => ?_)
  refine frm_bind (by decide) (hq_X3_parseE a0 M8) (fun r9 M10 => ?_)
  refine frm_getp (fun b11 hb11 => ?_)
  refine frm_bind (by decide) (qX4_addNode b11 301 v1 r3 r6 r9 M10 hb11) (fun r12 M13 => ?_)
  exact frm_some
set_option maxRecDepth 100000 in
theorem qX3_parseCase {r_X3_parseE : Int32 → mv_M → Option (Int32 × mv_M)} (hq_X3_parseE : ∀ (a0 : Int32) (M : mv_M), mv_frm (mv_S [12, 15, 17, 18, 19, 20, 21, 22, 23, 27, 30, 32, 33, 34, 35, 36, 37, 38] [(1, 0), (1, 1), (3, 3), (9, 8), (24, 8)]) (r_X3_parseE a0 M) M) (a0 : Int32) (M : mv_M) : mv_frm (mv_S [12, 15, 17, 18, 19, 20, 21, 22, 23, 27, 30, 32, 33, 34, 35, 36, 37, 38] [(1, 0), (1, 1), (3, 3), (9, 8), (24, 8)]) (fX3_parseCase r_X3_parseE a0 M) M := by
  unfold fX3_parseCase
  refine frm_let (fun v1 => ?_)
  refine frm_bind (by decide) (qX3_pass M) (fun _ M2 => ?_)
  refine frm_bind (by decide) (hq_X3_parseE a0 M2) (fun r3 M4 => ?_)
  refine frm_bind (by decide) (qX3_take 307 M4) (fun _ M5 => ?_)
  refine frm_bind (by decide) (qX3_take 40 M5) (fun _ M6 => ?_)
  refine frm_bind (by decide) (qX8_textOf (M6.1 3 3) M6) (fun r7 M8 => ?_)
  refine frm_bind (by decide) (qX3_parseInnerName 0 M8) (fun r9 M10 => ?_)
  refine frm_bind (by decide) (qX3_take 44 M10) (fun _ M11 => ?_)
  refine frm_bind (by decide) (qX3_parseInnerName r7 M11) (fun r12 M13 => ?_)
  refine frm_bind (by decide) (qX3_take 41 M13) (fun _ M14 => ?_)
  refine frm_bind (by decide) (qX3_take 305 M14) (fun _ M15 => ?_)
  refine frm_bind (by decide) (hq_X3_parseE a0 M15) (fun r16 M17 => ?_)
  refine frm_getp (fun b18 hb18 => ?_)
  refine frm_bind (by decide) (qX4_addNode b18 306 v1 r3 r16 r9 M17 hb18) (fun r19 M20 => ?_)
  exact frm_some
set_option maxRecDepth 100000 in
theorem qX3_parseLet {r_X3_parseE : Int32 → mv_M → Option (Int32 × mv_M)} (hq_X3_parseE : ∀ (a0 : Int32) (M : mv_M), mv_frm (mv_S [12, 15, 17, 18, 19, 20, 21, 22, 23, 27, 30, 32, 33, 34, 35, 36, 37, 38] [(1, 0), (1, 1), (3, 3), (9, 8), (24, 8)]) (r_X3_parseE a0 M) M) (a0 : Int32) (M : mv_M) : mv_frm (mv_S [12, 15, 17, 18, 19, 20, 21, 22, 23, 27, 30, 32, 33, 34, 35, 36, 37, 38] [(1, 0), (1, 1), (3, 3), (9, 8), (24, 8)]) (fX3_parseLet r_X3_parseE a0 M) M := by
  unfold fX3_parseLet
  refine frm_let (fun v1 => ?_)
  refine frm_bind (by decide) (qX3_pass M) (fun _ M2 => ?_)
  refine frm_bind (by decide) (qX3_parseInnerName 0 M2) (fun r3 M4 => ?_)
  refine frm_bind (by decide) (qX3_take 61 M4) (fun _ M5 => ?_)
  refine frm_bind (by decide) (hq_X3_parseE a0 M5) (fun r6 M7 => ?_)
  refine frm_bind (by decide) (qX3_take 305 M7) (fun _ M8 => ?_)
  refine frm_bind (by decide) (hq_X3_parseE a0 M8) (fun r9 M10 => ?_)
  refine frm_getp (fun b11 hb11 => ?_)
  refine frm_bind (by decide) (qX4_addNode b11 304 v1 r6 r9 r3 M10 hb11) (fun r12 M13 => ?_)
  exact frm_some
set_option maxRecDepth 100000 in
theorem qX3_parseE_27 {r_X3_parseCase : Int32 → mv_M → Option (Int32 × mv_M)} {r_X3_parseIf : Int32 → mv_M → Option (Int32 × mv_M)} {r_X3_parseLet : Int32 → mv_M → Option (Int32 × mv_M)} {r_X3_parseSides : Int32 → Int32 → mv_M → Option (Int32 × mv_M)} (hq_X3_parseCase : ∀ (a0 : Int32) (M : mv_M), mv_frm (mv_S [12, 15, 17, 18, 19, 20, 21, 22, 23, 27, 30, 32, 33, 34, 35, 36, 37, 38] [(1, 0), (1, 1), (3, 3), (9, 8), (24, 8)]) (r_X3_parseCase a0 M) M) (hq_X3_parseIf : ∀ (a0 : Int32) (M : mv_M), mv_frm (mv_S [12, 15, 17, 18, 19, 20, 21, 22, 23, 27, 30, 32, 33, 34, 35, 36, 37, 38] [(1, 0), (1, 1), (3, 3), (9, 8), (24, 8)]) (r_X3_parseIf a0 M) M) (hq_X3_parseLet : ∀ (a0 : Int32) (M : mv_M), mv_frm (mv_S [12, 15, 17, 18, 19, 20, 21, 22, 23, 27, 30, 32, 33, 34, 35, 36, 37, 38] [(1, 0), (1, 1), (3, 3), (9, 8), (24, 8)]) (r_X3_parseLet a0 M) M) (hq_X3_parseSides : ∀ (a0 : Int32) (a1 : Int32) (M : mv_M), mv_frm (mv_S [12, 15, 17, 18, 19, 20, 21, 22, 23, 27, 30, 32, 33, 34, 35, 36, 37, 38] [(1, 0), (1, 1), (3, 3), (9, 8), (24, 8)]) (r_X3_parseSides a0 a1 M) M) (s0 : Int32) (M : mv_M) : mv_frm (mv_S [12, 15, 17, 18, 19, 20, 21, 22, 23, 27, 30, 32, 33, 34, 35, 36, 37, 38] [(1, 0), (1, 1), (3, 3), (9, 8), (24, 8)]) (fX3_parseE_27 r_X3_parseCase r_X3_parseIf r_X3_parseLet r_X3_parseSides s0 M) M := by
  unfold fX3_parseE_27
  refine frm_bind (by decide) (qX3_stop s0 M) (fun _ M18 => ?_)
  exact frm_some
set_option maxRecDepth 100000 in
theorem qX3_parseE_13 {r_X3_parseCase : Int32 → mv_M → Option (Int32 × mv_M)} {r_X3_parseIf : Int32 → mv_M → Option (Int32 × mv_M)} {r_X3_parseLet : Int32 → mv_M → Option (Int32 × mv_M)} {r_X3_parseSides : Int32 → Int32 → mv_M → Option (Int32 × mv_M)} (hq_X3_parseCase : ∀ (a0 : Int32) (M : mv_M), mv_frm (mv_S [12, 15, 17, 18, 19, 20, 21, 22, 23, 27, 30, 32, 33, 34, 35, 36, 37, 38] [(1, 0), (1, 1), (3, 3), (9, 8), (24, 8)]) (r_X3_parseCase a0 M) M) (hq_X3_parseIf : ∀ (a0 : Int32) (M : mv_M), mv_frm (mv_S [12, 15, 17, 18, 19, 20, 21, 22, 23, 27, 30, 32, 33, 34, 35, 36, 37, 38] [(1, 0), (1, 1), (3, 3), (9, 8), (24, 8)]) (r_X3_parseIf a0 M) M) (hq_X3_parseLet : ∀ (a0 : Int32) (M : mv_M), mv_frm (mv_S [12, 15, 17, 18, 19, 20, 21, 22, 23, 27, 30, 32, 33, 34, 35, 36, 37, 38] [(1, 0), (1, 1), (3, 3), (9, 8), (24, 8)]) (r_X3_parseLet a0 M) M) (hq_X3_parseSides : ∀ (a0 : Int32) (a1 : Int32) (M : mv_M), mv_frm (mv_S [12, 15, 17, 18, 19, 20, 21, 22, 23, 27, 30, 32, 33, 34, 35, 36, 37, 38] [(1, 0), (1, 1), (3, 3), (9, 8), (24, 8)]) (r_X3_parseSides a0 a1 M) M) (M : mv_M) : mv_frm (mv_S [12, 15, 17, 18, 19, 20, 21, 22, 23, 27, 30, 32, 33, 34, 35, 36, 37, 38] [(1, 0), (1, 1), (3, 3), (9, 8), (24, 8)]) (fX3_parseE_13 r_X3_parseCase r_X3_parseIf r_X3_parseLet r_X3_parseSides M) M := by
  unfold fX3_parseE_13
  refine frm_bind (by decide) (qX3_canBeginE M) (fun r16 M17 => ?_)
  refine frm_if ?_ ?_
  · exact qX3_parseE_27 hq_X3_parseCase hq_X3_parseIf hq_X3_parseLet hq_X3_parseSides 2 M17
  · exact qX3_parseE_27 hq_X3_parseCase hq_X3_parseIf hq_X3_parseLet hq_X3_parseSides 6 M17
set_option maxRecDepth 100000 in
theorem qX3_parseE {r_X3_parseCase : Int32 → mv_M → Option (Int32 × mv_M)} {r_X3_parseIf : Int32 → mv_M → Option (Int32 × mv_M)} {r_X3_parseLet : Int32 → mv_M → Option (Int32 × mv_M)} {r_X3_parseSides : Int32 → Int32 → mv_M → Option (Int32 × mv_M)} (hq_X3_parseCase : ∀ (a0 : Int32) (M : mv_M), mv_frm (mv_S [12, 15, 17, 18, 19, 20, 21, 22, 23, 27, 30, 32, 33, 34, 35, 36, 37, 38] [(1, 0), (1, 1), (3, 3), (9, 8), (24, 8)]) (r_X3_parseCase a0 M) M) (hq_X3_parseIf : ∀ (a0 : Int32) (M : mv_M), mv_frm (mv_S [12, 15, 17, 18, 19, 20, 21, 22, 23, 27, 30, 32, 33, 34, 35, 36, 37, 38] [(1, 0), (1, 1), (3, 3), (9, 8), (24, 8)]) (r_X3_parseIf a0 M) M) (hq_X3_parseLet : ∀ (a0 : Int32) (M : mv_M), mv_frm (mv_S [12, 15, 17, 18, 19, 20, 21, 22, 23, 27, 30, 32, 33, 34, 35, 36, 37, 38] [(1, 0), (1, 1), (3, 3), (9, 8), (24, 8)]) (r_X3_parseLet a0 M) M) (hq_X3_parseSides : ∀ (a0 : Int32) (a1 : Int32) (M : mv_M), mv_frm (mv_S [12, 15, 17, 18, 19, 20, 21, 22, 23, 27, 30, 32, 33, 34, 35, 36, 37, 38] [(1, 0), (1, 1), (3, 3), (9, 8), (24, 8)]) (r_X3_parseSides a0 a1 M) M) (a0 : Int32) (M : mv_M) : mv_frm (mv_S [12, 15, 17, 18, 19, 20, 21, 22, 23, 27, 30, 32, 33, 34, 35, 36, 37, 38] [(1, 0), (1, 1), (3, 3), (9, 8), (24, 8)]) (fX3_parseE r_X3_parseCase r_X3_parseIf r_X3_parseLet r_X3_parseSides a0 M) M := by
  unfold fX3_parseE
  refine frm_if ?_ ?_
  · exact qX3_parseE_13 hq_X3_parseCase hq_X3_parseIf hq_X3_parseLet hq_X3_parseSides M
  · refine frm_bind (by decide) (qX3_canBeginE M) (fun r1 M2 => ?_)
    refine frm_if ?_ ?_
    · exact qX3_parseE_13 hq_X3_parseCase hq_X3_parseIf hq_X3_parseLet hq_X3_parseSides M2
    · refine frm_bind (by decide) (qX3_kind M2) (fun r3 M4 => ?_)
      refine frm_if ?_ ?_
      · refine frm_bind (by decide) (hq_X3_parseIf (a0 + 1) M4) (fun r6 M7 => ?_)
        exact frm_some
      · skip
        refine frm_if ?_ ?_
        · refine frm_bind (by decide) (hq_X3_parseLet (a0 + 1) M4) (fun r9 M10 => ?_)
          exact frm_some
        · skip
          refine frm_if ?_ ?_
          · refine frm_bind (by decide) (hq_X3_parseCase (a0 + 1) M4) (fun r12 M13 => ?_)
            exact frm_some
          · skip
            refine frm_bind (by decide) (hq_X3_parseSides (a0 + 1) 0 M4) (fun r14 M15 => ?_)
            exact frm_some
theorem qRX3_parseE : ∀ (n s : Nat) (a0 : Int32) (a1 : Int32) (M : mv_M), mv_frm (mv_S [12, 15, 17, 18, 19, 20, 21, 22, 23, 27, 30, 32, 33, 34, 35, 36, 37, 38] [(1, 0), (1, 1), (3, 3), (9, 8), (24, 8)]) (RX3_parseE n s a0 a1 M) M := by
  intro n
  induction n with
  | zero =>
    intro s a0 a1 M
    rw [RX3_parseE]
    exact frm_none
  | succ n ih =>
    intro s a0 a1 M
    rw [RX3_parseE]
    refine frm_if ?_ ?_
    · exact qX3_parseE (fun a0 M => ih 2 a0 0 M) (fun a0 M => ih 3 a0 0 M) (fun a0 M => ih 1 a0 0 M) (fun a0 a1 M => ih 4 a0 a1 M) a0 M
    refine frm_if ?_ ?_
    · exact qX3_parseLet (fun a0 M => ih 0 a0 0 M) a0 M
    refine frm_if ?_ ?_
    · exact qX3_parseCase (fun a0 M => ih 0 a0 0 M) a0 M
    refine frm_if ?_ ?_
    · exact qX3_parseIf (fun a0 M => ih 0 a0 0 M) a0 M
    refine frm_if ?_ ?_
    · exact qX3_parseSides (fun a0 M => ih 5 a0 0 M) (fun a0 a1 M => ih 4 a0 a1 M) a0 a1 M
    refine frm_if ?_ ?_
    · exact qX3_parseAtom (fun a0 a1 M => ih 7 a0 a1 M) (fun a0 a1 M => ih 6 a0 a1 M) a0 M
    refine frm_if ?_ ?_
    · exact qX3_parseInBrackets (fun a0 M => ih 0 a0 0 M) a0 a1 M
    exact qX3_parseCall (fun a0 M => ih 0 a0 0 M) a0 a1 M

theorem qtX3_parseE (a0 : Int32) (M : mv_M) : mv_frm (mv_S [12, 15, 17, 18, 19, 20, 21, 22, 23, 27, 30, 32, 33, 34, 35, 36, 37, 38] [(1, 0), (1, 1), (3, 3), (9, 8), (24, 8)]) (tX3_parseE a0 M) M := qRX3_parseE 220 0 a0 0 M
theorem qtX3_parseLet (a0 : Int32) (M : mv_M) : mv_frm (mv_S [12, 15, 17, 18, 19, 20, 21, 22, 23, 27, 30, 32, 33, 34, 35, 36, 37, 38] [(1, 0), (1, 1), (3, 3), (9, 8), (24, 8)]) (tX3_parseLet a0 M) M := qRX3_parseE 220 1 a0 0 M
theorem qtX3_parseCase (a0 : Int32) (M : mv_M) : mv_frm (mv_S [12, 15, 17, 18, 19, 20, 21, 22, 23, 27, 30, 32, 33, 34, 35, 36, 37, 38] [(1, 0), (1, 1), (3, 3), (9, 8), (24, 8)]) (tX3_parseCase a0 M) M := qRX3_parseE 220 2 a0 0 M
theorem qtX3_parseIf (a0 : Int32) (M : mv_M) : mv_frm (mv_S [12, 15, 17, 18, 19, 20, 21, 22, 23, 27, 30, 32, 33, 34, 35, 36, 37, 38] [(1, 0), (1, 1), (3, 3), (9, 8), (24, 8)]) (tX3_parseIf a0 M) M := qRX3_parseE 220 3 a0 0 M
theorem qtX3_parseSides (a0 : Int32) (a1 : Int32) (M : mv_M) : mv_frm (mv_S [12, 15, 17, 18, 19, 20, 21, 22, 23, 27, 30, 32, 33, 34, 35, 36, 37, 38] [(1, 0), (1, 1), (3, 3), (9, 8), (24, 8)]) (tX3_parseSides a0 a1 M) M := qRX3_parseE 220 4 a0 a1 M
theorem qtX3_parseAtom (a0 : Int32) (M : mv_M) : mv_frm (mv_S [12, 15, 17, 18, 19, 20, 21, 22, 23, 27, 30, 32, 33, 34, 35, 36, 37, 38] [(1, 0), (1, 1), (3, 3), (9, 8), (24, 8)]) (tX3_parseAtom a0 M) M := qRX3_parseE 220 5 a0 0 M
theorem qtX3_parseInBrackets (a0 : Int32) (a1 : Int32) (M : mv_M) : mv_frm (mv_S [12, 15, 17, 18, 19, 20, 21, 22, 23, 27, 30, 32, 33, 34, 35, 36, 37, 38] [(1, 0), (1, 1), (3, 3), (9, 8), (24, 8)]) (tX3_parseInBrackets a0 a1 M) M := qRX3_parseE 220 6 a0 a1 M
theorem qtX3_parseCall (a0 : Int32) (a1 : Int32) (M : mv_M) : mv_frm (mv_S [12, 15, 17, 18, 19, 20, 21, 22, 23, 27, 30, 32, 33, 34, 35, 36, 37, 38] [(1, 0), (1, 1), (3, 3), (9, 8), (24, 8)]) (tX3_parseCall a0 a1 M) M := qRX3_parseE 220 7 a0 a1 M
set_option maxRecDepth 100000 in
theorem qX3_parseFunction_99 (M : mv_M) : mv_frm (mv_S [10, 11, 12, 13, 14, 15, 16, 17, 18, 19, 20, 21, 22, 23, 25, 26, 27, 28, 29, 30, 31, 32, 33, 34, 35, 36, 37, 38] [(1, 0), (1, 1), (3, 3), (3, 4), (9, 0), (9, 8), (24, 0), (24, 8)]) (fX3_parseFunction_99 M) M := by
  unfold fX3_parseFunction_99
  refine frm_bind (by decide) (qX3_take 41 M) (fun _ M16 => ?_)
  refine frm_bind (by decide) (qX3_take 58 M16) (fun _ M17 => ?_)
  refine frm_getp (fun b18 hb18 => ?_)
  refine frm_bind (by decide) (qtX3_parseType 0 M17) (fun r19 M20 => ?_)
  refine frm_chk ?_
  refine frm_letM (sm_si (mv_Sc (by rcases hb18 with rfl | rfl <;> decide))) (fun M22 => ?_)
  refine frm_bind (by decide) (qX3_take 61 M22) (fun _ M23 => ?_)
  refine frm_getp (fun b24 hb24 => ?_)
  refine frm_bind (by decide) (qtX3_parseE 0 M23) (fun r25 M26 => ?_)
  refine frm_chk ?_
  refine frm_letM (sm_si (mv_Sc (by rcases hb24 with rfl | rfl <;> decide))) (fun M28 => ?_)
  refine frm_bind (by decide) (qX3_take 59 M28) (fun _ M29 => ?_)
  exact frm_some
set_option maxRecDepth 100000 in
theorem qX3_parseFunction_47 (x1 : Int64) (s0 : Int32) (s1 : Int32) (M : mv_M) : mv_frm (mv_S [10, 11, 12, 13, 14, 15, 16, 17, 18, 19, 20, 21, 22, 23, 25, 26, 27, 28, 29, 30, 31, 32, 33, 34, 35, 36, 37, 38] [(1, 0), (1, 1), (3, 3), (3, 4), (9, 0), (9, 8), (24, 0), (24, 8)]) (fX3_parseFunction_47 x1 s0 s1 M) M := by
  unfold fX3_parseFunction_47
  refine frm_bind (by decide) (qX3_takeNewName s1 s0 M) (fun _ M7 => ?_)
  refine frm_if ?_ ?_
  · refine frm_getp (fun b8 hb8 => ?_)
    refine frm_letM (sm_si (mv_Ss (by decide))) (fun M9 => ?_)
    refine frm_getp (fun b10 hb10 => ?_)
    refine frm_bind (by decide) (qX4_addFunction b10 x1 M9 hb10) (fun _ M11 => ?_)
    refine frm_bind (by decide) (qX3_take 40 M11) (fun _ M12 => ?_)
    refine frm_bind (by decide) (qX3_kind M12) (fun r13 M14 => ?_)
    refine frm_if ?_ ?_
    · exact qX3_parseFunction_99 M14
    · refine frm_bind (by decide) (qX3_parseParams M14) (fun _ M15 => ?_)
      exact qX3_parseFunction_99 M15
  · exact frm_some
set_option maxRecDepth 100000 in
theorem qX3_parseFunction_30 (x1 : Int64) (s0 : Int32) (M : mv_M) : mv_frm (mv_S [10, 11, 12, 13, 14, 15, 16, 17, 18, 19, 20, 21, 22, 23, 25, 26, 27, 28, 29, 30, 31, 32, 33, 34, 35, 36, 37, 38] [(1, 0), (1, 1), (3, 3), (3, 4), (9, 0), (9, 8), (24, 0), (24, 8)]) (fX3_parseFunction_30 x1 s0 M) M := by
  unfold fX3_parseFunction_30
  refine frm_getp (fun b6 hb6 => ?_)
  refine frm_if ?_ ?_
  · exact qX3_parseFunction_47 x1 0 s0 M
  · exact qX3_parseFunction_47 x1 1 s0 M
set_option maxRecDepth 100000 in
theorem qX3_parseFunction (M : mv_M) : mv_frm (mv_S [10, 11, 12, 13, 14, 15, 16, 17, 18, 19, 20, 21, 22, 23, 25, 26, 27, 28, 29, 30, 31, 32, 33, 34, 35, 36, 37, 38] [(1, 0), (1, 1), (3, 3), (3, 4), (9, 0), (9, 8), (24, 0), (24, 8)]) (fX3_parseFunction M) M := by
  unfold fX3_parseFunction
  refine frm_bind (by decide) (qX8_textOf (M.1 3 3) M) (fun r1 M2 => ?_)
  refine frm_getp (fun b3 hb3 => ?_)
  refine frm_bind (by decide) (qX4_functionOf b3 r1 M2) (fun r4 M5 => ?_)
  refine frm_if ?_ ?_
  · exact qX3_parseFunction_30 r1 0 M5
  · exact qX3_parseFunction_30 r1 1 M5
set_option maxRecDepth 100000 in
theorem qX3_parse_23 (x2 : Int32) (M : mv_M) : mv_frm (mv_S [10, 11, 12, 13, 14, 15, 16, 17, 18, 19, 20, 21, 22, 23, 25, 26, 27, 28, 29, 30, 31, 32, 33, 34, 35, 36, 37, 38] [(1, 0), (1, 1), (3, 2), (3, 3), (3, 4), (9, 0), (9, 8), (24, 0), (24, 8)]) (fX3_parse_23 x2 M) M := by
  unfold fX3_parse_23
  refine frm_loop ?_ _ M
  intro x2 M
  try dsimp only
  unfold gX3_parse_23
  refine frm_if ?_ ?_
  · exact frm_some
  · refine frm_bind (by decide) (qX3_kind M) (fun r6 M7 => ?_)
    refine frm_if ?_ ?_
    · exact frm_some
    · refine frm_bind (by decide) (qX3_parseFunction M7) (fun _ M8 => ?_)
      refine frm_let (fun v9 => ?_)
      exact frm_some
set_option maxRecDepth 100000 in
theorem qX3_parse (b1 : Nat) (M : mv_M) : mv_frm (mv_S [10, 11, 12, 13, 14, 15, 16, 17, 18, 19, 20, 21, 22, 23, 25, 26, 27, 28, 29, 30, 31, 32, 33, 34, 35, 36, 37, 38] [(1, 0), (1, 1), (3, 2), (3, 3), (3, 4), (9, 0), (9, 8), (24, 0), (24, 8)]) (fX3_parse b1 M) M := by
  unfold fX3_parse
  refine frm_letM (sm_sr (mv_Ss (by decide))) (fun M1 => ?_)
  refine frm_getp (fun b2 hb2 => ?_)
  refine frm_bind (by decide) (qX4_clear b2 M1 hb2) (fun _ M3 => ?_)
  refine frm_letM (sm_si (mv_Ss (by decide))) (fun M4 => ?_)
  refine frm_bind (by decide) (qX3_parseFunction M4) (fun _ M5 => ?_)
  exact qX3_parse_23 0 M5
set_option maxRecDepth 100000 in
theorem qX9_open (a0 : Int32) (M : mv_M) : mv_frm (mv_S [43] [(4, 5)]) (fX9_open a0 M) M := by
  unfold fX9_open
  refine frm_if ?_ ?_
  · exact frm_some
  · refine frm_chk ?_
    refine frm_letM (sm_si (mv_Sc (by decide))) (fun M2 => ?_)
    refine frm_letM (sm_si (mv_Ss (by decide))) (fun M3 => ?_)
    exact frm_some
set_option maxRecDepth 100000 in
theorem qX4_nameType (b0 : Nat) (a0 : Int32) (a1 : Int32) (M : mv_M) : mv_frm (mv_S [] []) (fX4_nameType b0 a0 a1 M) M := by
  unfold fX4_nameType
  refine frm_bind (by decide) (qX4_hasName b0 a0 a1 M) (fun r1 M2 => ?_)
  refine frm_if ?_ ?_
  · exact frm_some
  · refine frm_chk ?_
    exact frm_some
set_option maxRecDepth 100000 in
theorem qX9_tell (a0 : Int32) (a1 : Int32) (M : mv_M) : mv_frm (mv_S [] [(1, 0), (1, 1)]) (fX9_tell a0 a1 M) M := by
  unfold fX9_tell
  refine frm_getp (fun b1 hb1 => ?_)
  refine frm_chk ?_
  refine frm_bind (by decide) (qX8_startOf (M.1 (b1 + 14) a1.toNatClampNeg) M) (fun r3 M4 => ?_)
  refine frm_bind (by decide) (qX0_tell a0 r3 M4) (fun _ M5 => ?_)
  exact frm_some
set_option maxRecDepth 100000 in
theorem qX9_typeOfName_25 (x1 : Int32) (x2 : Int64) (x4 : Int32) (M : mv_M) : mv_frm (mv_S [18, 33] [(1, 0), (1, 1)]) (fX9_typeOfName_25 x1 x2 x4 M) M := by
  unfold fX9_typeOfName_25
  refine frm_loop ?_ _ M
  rintro ⟨x1, x2, x4⟩ M
  try dsimp only
  unfold gX9_typeOfName_25
  refine frm_if ?_ ?_
  · refine frm_bind (by decide) (qX9_tell 4 x1 M) (fun _ M6 => ?_)
    exact frm_some
  · refine frm_getp (fun b7 hb7 => ?_)
    refine frm_chk ?_
    refine frm_bind (by decide) (qX4_isNamed b7 (M.1 4 3) (M.1 43 x4.toNatClampNeg) x2 M) (fun r9 M10 => ?_)
    refine frm_if ?_ ?_
    · refine frm_let (fun v11 => ?_)
      exact frm_some
    · refine frm_getp (fun b12 hb12 => ?_)
      refine frm_chk ?_
      refine frm_chk ?_
      refine frm_letM (sm_si (mv_Sc (by rcases hb12 with rfl | rfl <;> decide))) (fun M15 => ?_)
      refine frm_getp (fun b16 hb16 => ?_)
      refine frm_chk ?_
      refine frm_bind (by decide) (qX4_nameType b16 (M15.1 4 3) (M15.1 43 x4.toNatClampNeg) M15) (fun r18 M19 => ?_)
      exact frm_some
set_option maxRecDepth 100000 in
theorem qX9_typeOfName (a0 : Int32) (M : mv_M) : mv_frm (mv_S [18, 33] [(1, 0), (1, 1)]) (fX9_typeOfName a0 M) M := by
  unfold fX9_typeOfName
  refine frm_getp (fun b1 hb1 => ?_)
  refine frm_chk ?_
  refine frm_bind (by decide) (qX8_textOf (M.1 (b1 + 14) a0.toNatClampNeg) M) (fun r3 M4 => ?_)
  refine frm_let (fun v5 => ?_)
  exact qX9_typeOfName_25 a0 r3 v5 M4
set_option maxRecDepth 100000 in
theorem qX6_firstOf (a0 : Int32) (M : mv_M) : mv_frm (mv_S [] []) (fX6_firstOf a0 M) M := by
  unfold fX6_firstOf
  refine frm_if ?_ ?_
  · exact frm_some
  · exact frm_some
set_option maxRecDepth 100000 in
theorem qX6_secondOf (a0 : Int32) (M : mv_M) : mv_frm (mv_S [] []) (fX6_secondOf a0 M) M := by
  unfold fX6_secondOf
  refine frm_if ?_ ?_
  · exact frm_some
  · exact frm_some
set_option maxRecDepth 100000 in
theorem qX9_typeOfCase {r_X9_typeOf : Int32 → Int32 → mv_M → Option (Int32 × mv_M)} (hq_X9_typeOf : ∀ (a0 : Int32) (a1 : Int32) (M : mv_M), mv_frm (mv_S [16, 18, 22, 31, 33, 37, 43] [(1, 0), (1, 1), (4, 5)]) (r_X9_typeOf a0 a1 M) M) (a0 : Int32) (a1 : Int32) (M : mv_M) : mv_frm (mv_S [16, 18, 22, 31, 33, 37, 43] [(1, 0), (1, 1), (4, 5)]) (fX9_typeOfCase r_X9_typeOf a0 a1 M) M := by
  unfold fX9_typeOfCase
  refine frm_getp (fun b1 hb1 => ?_)
  refine frm_chk ?_
  refine frm_let (fun v3 => ?_)
  refine frm_getp (fun b4 hb4 => ?_)
  refine frm_chk ?_
  refine frm_bind (by decide) (hq_X9_typeOf (M.1 (b4 + 9) a0.toNatClampNeg) (-2) M) (fun r6 M7 => ?_)
  refine frm_getp (fun b8 hb8 => ?_)
  refine frm_bind (by decide) (qX6_firstOf r6 M7) (fun r9 M10 => ?_)
  refine frm_bind (by decide) (qX4_setNameType b8 (M7.1 4 3) v3 r9 M10 hb8) (fun _ M11 => ?_)
  refine frm_getp (fun b12 hb12 => ?_)
  refine frm_bind (by decide) (qX6_secondOf r6 M11) (fun r13 M14 => ?_)
  refine frm_bind (by decide) (qX4_setNameType b12 (M11.1 4 3) (v3 + 1) r13 M14 hb12) (fun _ M15 => ?_)
  refine frm_let (fun v16 => ?_)
  refine frm_bind (by decide) (qX9_open v3 M15) (fun _ M17 => ?_)
  refine frm_bind (by decide) (qX9_open (v3 + 1) M17) (fun _ M18 => ?_)
  refine frm_getp (fun b19 hb19 => ?_)
  refine frm_chk ?_
  refine frm_bind (by decide) (hq_X9_typeOf (M18.1 (b19 + 10) a0.toNatClampNeg) a1 M18) (fun r21 M22 => ?_)
  refine frm_letM (sm_si (mv_Ss (by decide))) (fun M23 => ?_)
  exact frm_some
set_option maxRecDepth 100000 in
theorem qX9_typeOfLet {r_X9_typeOf : Int32 → Int32 → mv_M → Option (Int32 × mv_M)} (hq_X9_typeOf : ∀ (a0 : Int32) (a1 : Int32) (M : mv_M), mv_frm (mv_S [16, 18, 22, 31, 33, 37, 43] [(1, 0), (1, 1), (4, 5)]) (r_X9_typeOf a0 a1 M) M) (a0 : Int32) (a1 : Int32) (M : mv_M) : mv_frm (mv_S [16, 18, 22, 31, 33, 37, 43] [(1, 0), (1, 1), (4, 5)]) (fX9_typeOfLet r_X9_typeOf a0 a1 M) M := by
  unfold fX9_typeOfLet
  refine frm_getp (fun b1 hb1 => ?_)
  refine frm_chk ?_
  refine frm_let (fun v3 => ?_)
  refine frm_getp (fun b4 hb4 => ?_)
  refine frm_getp (fun b5 hb5 => ?_)
  refine frm_chk ?_
  refine frm_bind (by decide) (hq_X9_typeOf (M.1 (b5 + 9) a0.toNatClampNeg) (-1) M) (fun r7 M8 => ?_)
  refine frm_bind (by decide) (qX4_setNameType b4 (M.1 4 3) v3 r7 M8 hb4) (fun _ M9 => ?_)
  refine frm_let (fun v10 => ?_)
  refine frm_bind (by decide) (qX9_open v3 M9) (fun _ M11 => ?_)
  refine frm_getp (fun b12 hb12 => ?_)
  refine frm_chk ?_
  refine frm_bind (by decide) (hq_X9_typeOf (M11.1 (b12 + 10) a0.toNatClampNeg) a1 M11) (fun r14 M15 => ?_)
  refine frm_letM (sm_si (mv_Ss (by decide))) (fun M16 => ?_)
  exact frm_some
set_option maxRecDepth 100000 in
theorem qX9_typeOfIf_49 {r_X9_typeOf : Int32 → Int32 → mv_M → Option (Int32 × mv_M)} (hq_X9_typeOf : ∀ (a0 : Int32) (a1 : Int32) (M : mv_M), mv_frm (mv_S [16, 18, 22, 31, 33, 37, 43] [(1, 0), (1, 1), (4, 5)]) (r_X9_typeOf a0 a1 M) M) (x3 : Int32) (s0 : Int32) (s1 : Int32) (M : mv_M) : mv_frm (mv_S [16, 18, 22, 31, 33, 37, 43] [(1, 0), (1, 1), (4, 5)]) (fX9_typeOfIf_49 r_X9_typeOf x3 s0 s1 M) M := by
  unfold fX9_typeOfIf_49
  refine frm_bind (by decide) (hq_X9_typeOf s1 s0 M) (fun r11 M12 => ?_)
  exact frm_some
set_option maxRecDepth 100000 in
theorem qX9_typeOfIf {r_X9_typeOf : Int32 → Int32 → mv_M → Option (Int32 × mv_M)} (hq_X9_typeOf : ∀ (a0 : Int32) (a1 : Int32) (M : mv_M), mv_frm (mv_S [16, 18, 22, 31, 33, 37, 43] [(1, 0), (1, 1), (4, 5)]) (r_X9_typeOf a0 a1 M) M) (a0 : Int32) (a1 : Int32) (M : mv_M) : mv_frm (mv_S [16, 18, 22, 31, 33, 37, 43] [(1, 0), (1, 1), (4, 5)]) (fX9_typeOfIf r_X9_typeOf a0 a1 M) M := by
  unfold fX9_typeOfIf
  refine frm_getp (fun b1 hb1 => ?_)
  refine frm_chk ?_
  refine frm_bind (by decide) (hq_X9_typeOf (M.1 (b1 + 9) a0.toNatClampNeg) 0 M) (fun r3 M4 => ?_)
  refine frm_getp (fun b5 hb5 => ?_)
  refine frm_chk ?_
  refine frm_bind (by decide) (hq_X9_typeOf (M4.1 (b5 + 10) a0.toNatClampNeg) a1 M4) (fun r7 M8 => ?_)
  refine frm_getp (fun b9 hb9 => ?_)
  refine frm_chk ?_
  refine frm_if ?_ ?_
  · exact qX9_typeOfIf_49 hq_X9_typeOf r7 a1 (M8.1 (b9 + 11) a0.toNatClampNeg) M8
  · exact qX9_typeOfIf_49 hq_X9_typeOf r7 r7 (M8.1 (b9 + 11) a0.toNatClampNeg) M8
set_option maxRecDepth 100000 in
theorem qX9_typeOfPair_59 {r_X9_typeOf : Int32 → Int32 → mv_M → Option (Int32 × mv_M)} (hq_X9_typeOf : ∀ (a0 : Int32) (a1 : Int32) (M : mv_M), mv_frm (mv_S [16, 18, 22, 31, 33, 37, 43] [(1, 0), (1, 1), (4, 5)]) (r_X9_typeOf a0 a1 M) M) (x4 : Int32) (s0 : Int32) (s1 : Int32) (M : mv_M) : mv_frm (mv_S [16, 18, 22, 31, 33, 37, 43] [(1, 0), (1, 1), (4, 5)]) (fX9_typeOfPair_59 r_X9_typeOf x4 s0 s1 M) M := by
  unfold fX9_typeOfPair_59
  refine frm_bind (by decide) (hq_X9_typeOf s1 s0 M) (fun r11 M12 => ?_)
  refine frm_bind (by decide) (qX6_pairOf x4 r11 M12) (fun r13 M14 => ?_)
  exact frm_some
set_option maxRecDepth 100000 in
theorem qX9_typeOfPair_32 {r_X9_typeOf : Int32 → Int32 → mv_M → Option (Int32 × mv_M)} (hq_X9_typeOf : ∀ (a0 : Int32) (a1 : Int32) (M : mv_M), mv_frm (mv_S [16, 18, 22, 31, 33, 37, 43] [(1, 0), (1, 1), (4, 5)]) (r_X9_typeOf a0 a1 M) M) (x1 : Int32) (x2 : Int32) (x3 : Int32) (s0 : Int32) (s1 : Int32) (M : mv_M) : mv_frm (mv_S [16, 18, 22, 31, 33, 37, 43] [(1, 0), (1, 1), (4, 5)]) (fX9_typeOfPair_32 r_X9_typeOf x1 x2 x3 s0 s1 M) M := by
  unfold fX9_typeOfPair_32
  refine frm_bind (by decide) (hq_X9_typeOf s1 s0 M) (fun r5 M6 => ?_)
  refine frm_getp (fun b7 hb7 => ?_)
  refine frm_chk ?_
  refine frm_if ?_ ?_
  · exact qX9_typeOfPair_59 hq_X9_typeOf r5 (-1) (M6.1 (b7 + 10) x1.toNatClampNeg) M6
  · refine frm_bind (by decide) (qX6_secondOf x2 M6) (fun r9 M10 => ?_)
    exact qX9_typeOfPair_59 hq_X9_typeOf r5 r9 (M6.1 (b7 + 10) x1.toNatClampNeg) M10
set_option maxRecDepth 100000 in
theorem qX9_typeOfPair_9 {r_X9_typeOf : Int32 → Int32 → mv_M → Option (Int32 × mv_M)} (hq_X9_typeOf : ∀ (a0 : Int32) (a1 : Int32) (M : mv_M), mv_frm (mv_S [16, 18, 22, 31, 33, 37, 43] [(1, 0), (1, 1), (4, 5)]) (r_X9_typeOf a0 a1 M) M) (x1 : Int32) (x2 : Int32) (s0 : Int32) (M : mv_M) : mv_frm (mv_S [16, 18, 22, 31, 33, 37, 43] [(1, 0), (1, 1), (4, 5)]) (fX9_typeOfPair_9 r_X9_typeOf x1 x2 s0 M) M := by
  unfold fX9_typeOfPair_9
  refine frm_getp (fun b1 hb1 => ?_)
  refine frm_chk ?_
  refine frm_if ?_ ?_
  · exact qX9_typeOfPair_32 hq_X9_typeOf x1 x2 s0 (-1) (M.1 (b1 + 9) x1.toNatClampNeg) M
  · refine frm_bind (by decide) (qX6_firstOf x2 M) (fun r3 M4 => ?_)
    exact qX9_typeOfPair_32 hq_X9_typeOf x1 x2 s0 r3 (M.1 (b1 + 9) x1.toNatClampNeg) M4
set_option maxRecDepth 100000 in
theorem qX9_typeOfPair {r_X9_typeOf : Int32 → Int32 → mv_M → Option (Int32 × mv_M)} (hq_X9_typeOf : ∀ (a0 : Int32) (a1 : Int32) (M : mv_M), mv_frm (mv_S [16, 18, 22, 31, 33, 37, 43] [(1, 0), (1, 1), (4, 5)]) (r_X9_typeOf a0 a1 M) M) (a0 : Int32) (a1 : Int32) (M : mv_M) : mv_frm (mv_S [16, 18, 22, 31, 33, 37, 43] [(1, 0), (1, 1), (4, 5)]) (fX9_typeOfPair r_X9_typeOf a0 a1 M) M := by
  unfold fX9_typeOfPair
  refine frm_if ?_ ?_
  · exact qX9_typeOfPair_9 hq_X9_typeOf a0 a1 0 M
  · exact qX9_typeOfPair_9 hq_X9_typeOf a0 a1 1 M
set_option maxRecDepth 100000 in
theorem qX9_typeOfCall_146 {r_X9_typeOf : Int32 → Int32 → mv_M → Option (Int32 × mv_M)} (hq_X9_typeOf : ∀ (a0 : Int32) (a1 : Int32) (M : mv_M), mv_frm (mv_S [16, 18, 22, 31, 33, 37, 43] [(1, 0), (1, 1), (4, 5)]) (r_X9_typeOf a0 a1 M) M) (x2 : Int32) (M : mv_M) : mv_frm (mv_S [16, 18, 22, 31, 33, 37, 43] [(1, 0), (1, 1), (4, 5)]) (fX9_typeOfCall_146 r_X9_typeOf x2 M) M := by
  unfold fX9_typeOfCall_146
  refine frm_getp (fun b34 hb34 => ?_)
  refine frm_chk ?_
  exact frm_some
set_option maxRecDepth 100000 in
theorem qX9_typeOfCall_89 {r_X9_typeOf : Int32 → Int32 → mv_M → Option (Int32 × mv_M)} (hq_X9_typeOf : ∀ (a0 : Int32) (a1 : Int32) (M : mv_M), mv_frm (mv_S [16, 18, 22, 31, 33, 37, 43] [(1, 0), (1, 1), (4, 5)]) (r_X9_typeOf a0 a1 M) M) (x2 : Int32) (x3 : Int32) (x4 : Int32) (M : mv_M) : mv_frm (mv_S [16, 18, 22, 31, 33, 37, 43] [(1, 0), (1, 1), (4, 5)]) (fX9_typeOfCall_89 r_X9_typeOf x2 x3 x4 M) M := by
  unfold fX9_typeOfCall_89
  refine frm_loop ?_ _ M
  rintro ⟨x2, x3, x4⟩ M
  try dsimp only
  unfold gX9_typeOfCall_89
  refine frm_getp (fun b20 hb20 => ?_)
  refine frm_chk ?_
  refine frm_if ?_ ?_
  · exact frm_inr (qX9_typeOfCall_146 hq_X9_typeOf x2 M)
  · refine frm_getp (fun b22 hb22 => ?_)
    refine frm_bind (by decide) (qX4_hasNode b22 x3 M) (fun r23 M24 => ?_)
    refine frm_if ?_ ?_
    · exact frm_inr (qX9_typeOfCall_146 hq_X9_typeOf x2 M24)
    · refine frm_getp (fun b25 hb25 => ?_)
      refine frm_bind (by decide) (qX4_nameType b25 x2 x4 M24) (fun r26 M27 => ?_)
      refine frm_bind (by decide) (hq_X9_typeOf x3 r26 M27) (fun r28 M29 => ?_)
      refine frm_getp (fun b30 hb30 => ?_)
      refine frm_chk ?_
      refine frm_let (fun v32 => ?_)
      refine frm_let (fun v33 => ?_)
      exact frm_some
set_option maxRecDepth 100000 in
theorem qX9_typeOfCall {r_X9_typeOf : Int32 → Int32 → mv_M → Option (Int32 × mv_M)} (hq_X9_typeOf : ∀ (a0 : Int32) (a1 : Int32) (M : mv_M), mv_frm (mv_S [16, 18, 22, 31, 33, 37, 43] [(1, 0), (1, 1), (4, 5)]) (r_X9_typeOf a0 a1 M) M) (a0 : Int32) (M : mv_M) : mv_frm (mv_S [16, 18, 22, 31, 33, 37, 43] [(1, 0), (1, 1), (4, 5)]) (fX9_typeOfCall r_X9_typeOf a0 M) M := by
  unfold fX9_typeOfCall
  refine frm_getp (fun b1 hb1 => ?_)
  refine frm_getp (fun b2 hb2 => ?_)
  refine frm_chk ?_
  refine frm_bind (by decide) (qX8_textOf (M.1 (b2 + 14) a0.toNatClampNeg) M) (fun r4 M5 => ?_)
  refine frm_bind (by decide) (qX4_functionOf b1 r4 M5) (fun r6 M7 => ?_)
  refine frm_if ?_ ?_
  · refine frm_bind (by decide) (qX9_tell 4 a0 M7) (fun _ M19 => ?_)
    exact frm_some
  · refine frm_getp (fun b8 hb8 => ?_)
    refine frm_chk ?_
    refine frm_getp (fun b10 hb10 => ?_)
    refine frm_chk ?_
    refine frm_if ?_ ?_
    · refine frm_getp (fun b12 hb12 => ?_)
      refine frm_chk ?_
      refine frm_letM (sm_si (mv_Sc (by rcases hb12 with rfl | rfl <;> decide))) (fun M14 => ?_)
      refine frm_getp (fun b15 hb15 => ?_)
      refine frm_chk ?_
      refine frm_let (fun v17 => ?_)
      exact qX9_typeOfCall_89 hq_X9_typeOf r6 v17 0 M14
    · refine frm_bind (by decide) (qX9_tell 5 a0 M7) (fun _ M18 => ?_)
      exact frm_some
set_option maxRecDepth 100000 in
theorem qX9_ownType {r_X9_typeOf : Int32 → Int32 → mv_M → Option (Int32 × mv_M)} {r_X9_typeOfCall : Int32 → mv_M → Option (Int32 × mv_M)} {r_X9_typeOfCase : Int32 → Int32 → mv_M → Option (Int32 × mv_M)} {r_X9_typeOfIf : Int32 → Int32 → mv_M → Option (Int32 × mv_M)} {r_X9_typeOfLet : Int32 → Int32 → mv_M → Option (Int32 × mv_M)} {r_X9_typeOfPair : Int32 → Int32 → mv_M → Option (Int32 × mv_M)} (hq_X9_typeOf : ∀ (a0 : Int32) (a1 : Int32) (M : mv_M), mv_frm (mv_S [16, 18, 22, 31, 33, 37, 43] [(1, 0), (1, 1), (4, 5)]) (r_X9_typeOf a0 a1 M) M) (hq_X9_typeOfCall : ∀ (a0 : Int32) (M : mv_M), mv_frm (mv_S [16, 18, 22, 31, 33, 37, 43] [(1, 0), (1, 1), (4, 5)]) (r_X9_typeOfCall a0 M) M) (hq_X9_typeOfCase : ∀ (a0 : Int32) (a1 : Int32) (M : mv_M), mv_frm (mv_S [16, 18, 22, 31, 33, 37, 43] [(1, 0), (1, 1), (4, 5)]) (r_X9_typeOfCase a0 a1 M) M) (hq_X9_typeOfIf : ∀ (a0 : Int32) (a1 : Int32) (M : mv_M), mv_frm (mv_S [16, 18, 22, 31, 33, 37, 43] [(1, 0), (1, 1), (4, 5)]) (r_X9_typeOfIf a0 a1 M) M) (hq_X9_typeOfLet : ∀ (a0 : Int32) (a1 : Int32) (M : mv_M), mv_frm (mv_S [16, 18, 22, 31, 33, 37, 43] [(1, 0), (1, 1), (4, 5)]) (r_X9_typeOfLet a0 a1 M) M) (hq_X9_typeOfPair : ∀ (a0 : Int32) (a1 : Int32) (M : mv_M), mv_frm (mv_S [16, 18, 22, 31, 33, 37, 43] [(1, 0), (1, 1), (4, 5)]) (r_X9_typeOfPair a0 a1 M) M) (a0 : Int32) (a1 : Int32) (M : mv_M) : mv_frm (mv_S [16, 18, 22, 31, 33, 37, 43] [(1, 0), (1, 1), (4, 5)]) (fX9_ownType r_X9_typeOf r_X9_typeOfCall r_X9_typeOfCase r_X9_typeOfIf r_X9_typeOfLet r_X9_typeOfPair a0 a1 M) M := by
  unfold fX9_ownType
  refine frm_getp (fun b1 hb1 => ?_)
  refine frm_chk ?_
  refine frm_if ?_ ?_
  · refine frm_bind (by decide) (qX9_typeOfName a0 M) (fun r4 M5 => ?_)
    exact frm_some
  · skip
    refine frm_if ?_ ?_
    · exact frm_some
    · skip
      refine frm_if ?_ ?_
      · refine frm_bind (by decide) (hq_X9_typeOfCall a0 M) (fun r8 M9 => ?_)
        exact frm_some
      · skip
        refine frm_if ?_ ?_
        · refine frm_bind (by decide) (hq_X9_typeOfPair a0 a1 M) (fun r11 M12 => ?_)
          exact frm_some
        · skip
          refine frm_if ?_ ?_
          · refine frm_bind (by decide) (hq_X9_typeOfIf a0 a1 M) (fun r14 M15 => ?_)
            exact frm_some
          · skip
            refine frm_if ?_ ?_
            · refine frm_bind (by decide) (hq_X9_typeOfLet a0 a1 M) (fun r17 M18 => ?_)
              exact frm_some
            · skip
              refine frm_if ?_ ?_
              · refine frm_bind (by decide) (hq_X9_typeOfCase a0 a1 M) (fun r20 M21 => ?_)
                exact frm_some
              · skip
                refine frm_if ?_ ?_
                · refine frm_getp (fun b23 hb23 => ?_)
                  refine frm_chk ?_
                  exact frm_some
                · skip
                  refine frm_getp (fun b25 hb25 => ?_)
                  refine frm_chk ?_
                  refine frm_bind (by decide) (hq_X9_typeOf (M.1 (b25 + 9) a0.toNatClampNeg) 0 M) (fun r27 M28 => ?_)
                  refine frm_getp (fun b29 hb29 => ?_)
                  refine frm_chk ?_
                  refine frm_bind (by decide) (hq_X9_typeOf (M28.1 (b29 + 10) a0.toNatClampNeg) 0 M28) (fun r31 M32 => ?_)
                  exact frm_some
set_option maxRecDepth 100000 in
theorem qX9_typeOf_77 {r_X9_ownType : Int32 → Int32 → mv_M → Option (Int32 × mv_M)} (hq_X9_ownType : ∀ (a0 : Int32) (a1 : Int32) (M : mv_M), mv_frm (mv_S [16, 18, 22, 31, 33, 37, 43] [(1, 0), (1, 1), (4, 5)]) (r_X9_ownType a0 a1 M) M) (x1 : Int32) (x3 : Int32) (M : mv_M) : mv_frm (mv_S [16, 18, 22, 31, 33, 37, 43] [(1, 0), (1, 1), (4, 5)]) (fX9_typeOf_77 r_X9_ownType x1 x3 M) M := by
  unfold fX9_typeOf_77
  refine frm_bind (by decide) (qX9_tell 5 x1 M) (fun _ M9 => ?_)
  exact frm_some
set_option maxRecDepth 100000 in
theorem qX9_typeOf_65 {r_X9_ownType : Int32 → Int32 → mv_M → Option (Int32 × mv_M)} (hq_X9_ownType : ∀ (a0 : Int32) (a1 : Int32) (M : mv_M), mv_frm (mv_S [16, 18, 22, 31, 33, 37, 43] [(1, 0), (1, 1), (4, 5)]) (r_X9_ownType a0 a1 M) M) (x1 : Int32) (x3 : Int32) (s0 : Int32) (M : mv_M) : mv_frm (mv_S [16, 18, 22, 31, 33, 37, 43] [(1, 0), (1, 1), (4, 5)]) (fX9_typeOf_65 r_X9_ownType x1 x3 s0 M) M := by
  unfold fX9_typeOf_65
  refine frm_if ?_ ?_
  · exact qX9_typeOf_77 hq_X9_ownType x1 x3 M
  · refine frm_if ?_ ?_
    · exact qX9_typeOf_77 hq_X9_ownType x1 x3 M
    · exact frm_some
set_option maxRecDepth 100000 in
theorem qX9_typeOf_60 {r_X9_ownType : Int32 → Int32 → mv_M → Option (Int32 × mv_M)} (hq_X9_ownType : ∀ (a0 : Int32) (a1 : Int32) (M : mv_M), mv_frm (mv_S [16, 18, 22, 31, 33, 37, 43] [(1, 0), (1, 1), (4, 5)]) (r_X9_ownType a0 a1 M) M) (x1 : Int32) (x3 : Int32) (M : mv_M) : mv_frm (mv_S [16, 18, 22, 31, 33, 37, 43] [(1, 0), (1, 1), (4, 5)]) (fX9_typeOf_60 r_X9_ownType x1 x3 M) M := by
  unfold fX9_typeOf_60
  exact qX9_typeOf_65 hq_X9_ownType x1 x3 1 M
set_option maxRecDepth 100000 in
theorem qX9_typeOf_64 {r_X9_ownType : Int32 → Int32 → mv_M → Option (Int32 × mv_M)} (hq_X9_ownType : ∀ (a0 : Int32) (a1 : Int32) (M : mv_M), mv_frm (mv_S [16, 18, 22, 31, 33, 37, 43] [(1, 0), (1, 1), (4, 5)]) (r_X9_ownType a0 a1 M) M) (x1 : Int32) (x3 : Int32) (M : mv_M) : mv_frm (mv_S [16, 18, 22, 31, 33, 37, 43] [(1, 0), (1, 1), (4, 5)]) (fX9_typeOf_64 r_X9_ownType x1 x3 M) M := by
  unfold fX9_typeOf_64
  exact qX9_typeOf_65 hq_X9_ownType x1 x3 0 M
set_option maxRecDepth 100000 in
theorem qX9_typeOf {r_X9_ownType : Int32 → Int32 → mv_M → Option (Int32 × mv_M)} (hq_X9_ownType : ∀ (a0 : Int32) (a1 : Int32) (M : mv_M), mv_frm (mv_S [16, 18, 22, 31, 33, 37, 43] [(1, 0), (1, 1), (4, 5)]) (r_X9_ownType a0 a1 M) M) (a0 : Int32) (a1 : Int32) (M : mv_M) : mv_frm (mv_S [16, 18, 22, 31, 33, 37, 43] [(1, 0), (1, 1), (4, 5)]) (fX9_typeOf r_X9_ownType a0 a1 M) M := by
  unfold fX9_typeOf
  refine frm_if ?_ ?_
  · refine frm_getp (fun b1 hb1 => ?_)
    refine frm_bind (by decide) (qX4_hasNode b1 a0 M) (fun r2 M3 => ?_)
    refine frm_if ?_ ?_
    · exact frm_some
    · refine frm_bind (by decide) (hq_X9_ownType a0 a1 M3) (fun r4 M5 => ?_)
      refine frm_getp (fun b6 hb6 => ?_)
      refine frm_chk ?_
      refine frm_letM (sm_si (mv_Sc (by rcases hb6 with rfl | rfl <;> decide))) (fun M8 => ?_)
      refine frm_if ?_ ?_
      · exact qX9_typeOf_60 hq_X9_ownType a0 r4 M8
      · refine frm_if ?_ ?_
        · exact qX9_typeOf_60 hq_X9_ownType a0 r4 M8
        · refine frm_if ?_ ?_
          · refine frm_if ?_ ?_
            · exact qX9_typeOf_64 hq_X9_ownType a0 r4 M8
            · exact qX9_typeOf_60 hq_X9_ownType a0 r4 M8
          · exact qX9_typeOf_64 hq_X9_ownType a0 r4 M8
  · exact frm_some
theorem qRX9_typeOf : ∀ (n s : Nat) (a0 : Int32) (a1 : Int32) (M : mv_M), mv_frm (mv_S [16, 18, 22, 31, 33, 37, 43] [(1, 0), (1, 1), (4, 5)]) (RX9_typeOf n s a0 a1 M) M := by
  intro n
  induction n with
  | zero =>
    intro s a0 a1 M
    rw [RX9_typeOf]
    exact frm_none
  | succ n ih =>
    intro s a0 a1 M
    rw [RX9_typeOf]
    refine frm_if ?_ ?_
    · exact qX9_typeOf (fun a0 a1 M => ih 1 a0 a1 M) a0 a1 M
    refine frm_if ?_ ?_
    · exact qX9_ownType (fun a0 a1 M => ih 0 a0 a1 M) (fun a0 M => ih 2 a0 0 M) (fun a0 a1 M => ih 6 a0 a1 M) (fun a0 a1 M => ih 4 a0 a1 M) (fun a0 a1 M => ih 5 a0 a1 M) (fun a0 a1 M => ih 3 a0 a1 M) a0 a1 M
    refine frm_if ?_ ?_
    · exact qX9_typeOfCall (fun a0 a1 M => ih 0 a0 a1 M) a0 M
    refine frm_if ?_ ?_
    · exact qX9_typeOfPair (fun a0 a1 M => ih 0 a0 a1 M) a0 a1 M
    refine frm_if ?_ ?_
    · exact qX9_typeOfIf (fun a0 a1 M => ih 0 a0 a1 M) a0 a1 M
    refine frm_if ?_ ?_
    · exact qX9_typeOfLet (fun a0 a1 M => ih 0 a0 a1 M) a0 a1 M
    exact qX9_typeOfCase (fun a0 a1 M => ih 0 a0 a1 M) a0 a1 M

theorem qtX9_typeOf (a0 : Int32) (a1 : Int32) (M : mv_M) : mv_frm (mv_S [16, 18, 22, 31, 33, 37, 43] [(1, 0), (1, 1), (4, 5)]) (tX9_typeOf a0 a1 M) M := qRX9_typeOf 320 0 a0 a1 M
theorem qtX9_ownType (a0 : Int32) (a1 : Int32) (M : mv_M) : mv_frm (mv_S [16, 18, 22, 31, 33, 37, 43] [(1, 0), (1, 1), (4, 5)]) (tX9_ownType a0 a1 M) M := qRX9_typeOf 320 1 a0 a1 M
theorem qtX9_typeOfCall (a0 : Int32) (M : mv_M) : mv_frm (mv_S [16, 18, 22, 31, 33, 37, 43] [(1, 0), (1, 1), (4, 5)]) (tX9_typeOfCall a0 M) M := qRX9_typeOf 320 2 a0 0 M
theorem qtX9_typeOfPair (a0 : Int32) (a1 : Int32) (M : mv_M) : mv_frm (mv_S [16, 18, 22, 31, 33, 37, 43] [(1, 0), (1, 1), (4, 5)]) (tX9_typeOfPair a0 a1 M) M := qRX9_typeOf 320 3 a0 a1 M
theorem qtX9_typeOfIf (a0 : Int32) (a1 : Int32) (M : mv_M) : mv_frm (mv_S [16, 18, 22, 31, 33, 37, 43] [(1, 0), (1, 1), (4, 5)]) (tX9_typeOfIf a0 a1 M) M := qRX9_typeOf 320 4 a0 a1 M
theorem qtX9_typeOfLet (a0 : Int32) (a1 : Int32) (M : mv_M) : mv_frm (mv_S [16, 18, 22, 31, 33, 37, 43] [(1, 0), (1, 1), (4, 5)]) (tX9_typeOfLet a0 a1 M) M := qRX9_typeOf 320 5 a0 a1 M
theorem qtX9_typeOfCase (a0 : Int32) (a1 : Int32) (M : mv_M) : mv_frm (mv_S [16, 18, 22, 31, 33, 37, 43] [(1, 0), (1, 1), (4, 5)]) (tX9_typeOfCase a0 a1 M) M := qRX9_typeOf 320 6 a0 a1 M
set_option maxRecDepth 100000 in
theorem qX9_judge_40 (x2 : Int32) (x3 : Int32) (M : mv_M) : mv_frm (mv_S [16, 18, 22, 31, 33, 37, 43] [(1, 0), (1, 1), (4, 2), (4, 3), (4, 5)]) (fX9_judge_40 x2 x3 M) M := by
  unfold fX9_judge_40
  refine frm_loop ?_ _ M
  rintro ⟨x2, x3⟩ M
  try dsimp only
  unfold gX9_judge_40
  refine frm_getp (fun b5 hb5 => ?_)
  refine frm_chk ?_
  refine frm_if ?_ ?_
  · refine frm_getp (fun b7 hb7 => ?_)
    refine frm_chk ?_
    refine frm_getp (fun b9 hb9 => ?_)
    refine frm_chk ?_
    refine frm_bind (by decide) (qtX9_typeOf (M.1 (b7 + 5) (M.1 4 3).toNatClampNeg) (M.1 (b9 + 4) (M.1 4 3).toNatClampNeg) M) (fun r11 M12 => ?_)
    refine frm_let (fun v13 => ?_)
    exact frm_some
  · refine frm_bind (by decide) (qX9_open x3 M) (fun _ M14 => ?_)
    refine frm_let (fun v15 => ?_)
    exact frm_some
set_option maxRecDepth 100000 in
theorem qX9_judge_7 (x2 : Int32) (M : mv_M) : mv_frm (mv_S [16, 18, 22, 31, 33, 37, 43] [(1, 0), (1, 1), (4, 2), (4, 3), (4, 5)]) (fX9_judge_7 x2 M) M := by
  unfold fX9_judge_7
  refine frm_loop ?_ _ M
  intro x2 M
  try dsimp only
  unfold gX9_judge_7
  refine frm_getp (fun b2 hb2 => ?_)
  refine frm_if ?_ ?_
  · exact frm_some
  · refine frm_if ?_ ?_
    · refine frm_letM (sm_si (mv_Ss (by decide))) (fun M3 => ?_)
      refine frm_letM (sm_si (mv_Ss (by decide))) (fun M4 => ?_)
      exact qX9_judge_40 x2 0 M4
    · exact frm_some
set_option maxRecDepth 100000 in
theorem qX9_judge (b1 : Nat) (M : mv_M) : mv_frm (mv_S [16, 18, 22, 31, 33, 37, 43] [(1, 0), (1, 1), (4, 2), (4, 3), (4, 5)]) (fX9_judge b1 M) M := by
  unfold fX9_judge
  refine frm_letM (sm_sr (mv_Ss (by decide))) (fun M1 => ?_)
  exact qX9_judge_7 0 M1
set_option maxRecDepth 100000 in
theorem qX5_forget (M : mv_M) : mv_frm (mv_S [] [(5, 0)]) (fX5_forget M) M := by
  unfold fX5_forget
  refine frm_letM (sm_si (mv_Ss (by decide))) (fun M1 => ?_)
  exact frm_some
set_option maxRecDepth 100000 in
theorem qX7_clear (M : mv_M) : mv_frm (mv_S [] [(8, 0), (8, 1)]) (fX7_clear M) M := by
  unfold fX7_clear
  refine frm_letM (sm_si (mv_Ss (by decide))) (fun M1 => ?_)
  refine frm_letM (sm_si (mv_Ss (by decide))) (fun M2 => ?_)
  exact frm_some
set_option maxRecDepth 100000 in
theorem qX2_forget (M : mv_M) : mv_frm (mv_S [] [(7, 1), (7, 2), (7, 3), (7, 4), (7, 5), (7, 8), (8, 0), (8, 1)]) (fX2_forget M) M := by
  unfold fX2_forget
  refine frm_bind (by decide) (qX7_clear M) (fun _ M1 => ?_)
  refine frm_letM (sm_si (mv_Ss (by decide))) (fun M2 => ?_)
  refine frm_letM (sm_si (mv_Ss (by decide))) (fun M3 => ?_)
  refine frm_letM (sm_si (mv_Ss (by decide))) (fun M4 => ?_)
  refine frm_letM (sm_si (mv_Ss (by decide))) (fun M5 => ?_)
  refine frm_letM (sm_si (mv_Ss (by decide))) (fun M6 => ?_)
  refine frm_letM (sm_si (mv_Ss (by decide))) (fun M7 => ?_)
  exact frm_some
set_option maxRecDepth 100000 in
theorem qX10_read (M : mv_M) : mv_frm (mv_S [10, 11, 12, 13, 14, 15, 16, 17, 18, 19, 20, 21, 22, 23, 25, 26, 27, 28, 29, 30, 31, 32, 33, 34, 35, 36, 37, 38, 40, 41, 42, 43] [(0, 7), (0, 8), (1, 0), (1, 1), (2, 1), (2, 2), (3, 2), (3, 3), (3, 4), (4, 2), (4, 3), (4, 5), (5, 0), (7, 1), (7, 2), (7, 3), (7, 4), (7, 5), (7, 8), (8, 0), (8, 1), (9, 0), (9, 8), (24, 0), (24, 8)]) (fX10_read M) M := by
  unfold fX10_read
  refine frm_bind (by decide) (qX0_clear M) (fun _ M1 => ?_)
  refine frm_bind (by decide) (qX8_scan M1) (fun _ M2 => ?_)
  refine frm_getp (fun b3 hb3 => ?_)
  refine frm_bind (by decide) (qX3_parse b3 M2) (fun _ M4 => ?_)
  refine frm_getp (fun b5 hb5 => ?_)
  refine frm_bind (by decide) (qX9_judge b5 M4) (fun _ M6 => ?_)
  refine frm_letM (sm_si (mv_Ss (by decide))) (fun M7 => ?_)
  refine frm_if ?_ ?_
  · refine frm_getp (fun b8 hb8 => ?_)
    refine frm_getp (fun b9 hb9 => ?_)
    refine frm_letM (sm_sr (mv_Ss (by decide))) (fun M10 => ?_)
    refine frm_letM (sm_sr (mv_Ss (by decide))) (fun M11 => ?_)
    refine frm_bind (by decide) (qX5_forget M11) (fun _ M12 => ?_)
    refine frm_bind (by decide) (qX2_forget M12) (fun _ M13 => ?_)
    refine frm_getp (fun b14 hb14 => ?_)
    exact frm_some
  · exact frm_some
set_option maxRecDepth 100000 in
theorem qX10_place (M : mv_M) : mv_frm (mv_S [] []) (fX10_place M) M := by
  unfold fX10_place
  exact frm_some
set_option maxRecDepth 100000 in
theorem qX4_hasParam (b0 : Nat) (a0 : Int32) (a1 : Int32) (M : mv_M) : mv_frm (mv_S [] []) (fX4_hasParam b0 a0 a1 M) M := by
  unfold fX4_hasParam
  refine frm_bind (by decide) (qX4_hasFunction b0 a0 M) (fun r1 M2 => ?_)
  refine frm_if ?_ ?_
  · exact frm_some
  · refine frm_if ?_ ?_
    · exact frm_some
    · refine frm_chk ?_
      refine frm_if ?_ ?_
      · exact frm_some
      · exact frm_some
set_option maxRecDepth 100000 in
theorem qX6_demandsOf_12 (M : mv_M) : mv_frm (mv_S [] []) (fX6_demandsOf_12 M) M := by
  unfold fX6_demandsOf_12
  exact frm_some
set_option maxRecDepth 100000 in
theorem qX6_demandsOf (a0 : Int32) (M : mv_M) : mv_frm (mv_S [] []) (fX6_demandsOf a0 M) M := by
  unfold fX6_demandsOf
  refine frm_if ?_ ?_
  · exact qX6_demandsOf_12 M
  · refine frm_if ?_ ?_
    · refine frm_chk ?_
      exact frm_some
    · exact qX6_demandsOf_12 M
set_option maxRecDepth 100000 in
theorem qX10_function_34 (M : mv_M) : mv_frm (mv_S [] []) (fX10_function_34 M) M := by
  unfold fX10_function_34
  exact frm_some
set_option maxRecDepth 100000 in
theorem qX10_function_44 (x1 : Int32) (x2 : Int32) (M : mv_M) : mv_frm (mv_S [] []) (fX10_function_44 x1 x2 M) M := by
  unfold fX10_function_44
  refine frm_if ?_ ?_
  · refine frm_getp (fun b8 hb8 => ?_)
    refine frm_chk ?_
    exact frm_some
  · skip
    refine frm_if ?_ ?_
    · refine frm_getp (fun b11 hb11 => ?_)
      refine frm_chk ?_
      exact frm_some
    · skip
      refine frm_if ?_ ?_
      · refine frm_getp (fun b14 hb14 => ?_)
        refine frm_chk ?_
        refine frm_bind (by decide) (qX6_demandsOf (M.1 (b14 + 4) x1.toNatClampNeg) M) (fun r16 M17 => ?_)
        exact frm_some
      · skip
        refine frm_getp (fun b18 hb18 => ?_)
        refine frm_bind (by decide) (qX4_nameType b18 x1 (x2 - 3) M) (fun r19 M20 => ?_)
        refine frm_bind (by decide) (qX6_demandsOf r19 M20) (fun r21 M22 => ?_)
        exact frm_some
set_option maxRecDepth 100000 in
theorem qX10_function (a0 : Int32) (a1 : Int32) (M : mv_M) : mv_frm (mv_S [] []) (fX10_function a0 a1 M) M := by
  unfold fX10_function
  refine frm_getp (fun b1 hb1 => ?_)
  refine frm_bind (by decide) (qX4_hasFunction b1 a0 M) (fun r2 M3 => ?_)
  refine frm_if ?_ ?_
  · exact qX10_function_34 M3
  · refine frm_if ?_ ?_
    · exact qX10_function_34 M3
    · refine frm_if ?_ ?_
      · exact qX10_function_44 a0 a1 M3
      · refine frm_getp (fun b4 hb4 => ?_)
        refine frm_bind (by decide) (qX4_hasParam b4 a0 (a1 - 3) M3) (fun r5 M6 => ?_)
        refine frm_if ?_ ?_
        · exact qX10_function_34 M6
        · exact qX10_function_44 a0 a1 M6
set_option maxRecDepth 100000 in
theorem qX5_rowOf (a0 : Int32) (a1 : Int32) (M : mv_M) : mv_frm (mv_S [] []) (fX5_rowOf a0 a1 M) M := by
  unfold fX5_rowOf
  refine frm_if ?_ ?_
  · exact frm_some
  · refine frm_if ?_ ?_
    · exact frm_some
    · refine frm_if ?_ ?_
      · exact frm_some
      · refine frm_if ?_ ?_
        · exact frm_some
        · exact frm_some
set_option maxRecDepth 100000 in
theorem qX6_allOf (a0 : Int32) (M : mv_M) : mv_frm (mv_S [] []) (fX6_allOf a0 M) M := by
  unfold fX6_allOf
  refine frm_bind (by decide) (qX6_demandsOf a0 M) (fun r1 M2 => ?_)
  exact frm_some
set_option maxRecDepth 100000 in
theorem qX5_takeFirstSheet_132 (x2 : Int32) (x4 : Int32) (x5 : Int32) (s0 : Int32) (M : mv_M) : mv_frm (mv_S [44, 45] []) (fX5_takeFirstSheet_132 x2 x4 x5 s0 M) M := by
  unfold fX5_takeFirstSheet_132
  refine frm_chk ?_
  refine frm_letM (sm_si (mv_Sc (by decide))) (fun M17 => ?_)
  refine frm_let (fun v18 => ?_)
  exact frm_some
set_option maxRecDepth 100000 in
theorem qX5_takeFirstSheet_127 (x2 : Int32) (x4 : Int32) (x5 : Int32) (M : mv_M) : mv_frm (mv_S [44, 45] []) (fX5_takeFirstSheet_127 x2 x4 x5 M) M := by
  unfold fX5_takeFirstSheet_127
  exact qX5_takeFirstSheet_132 x2 x4 x5 1 M
set_option maxRecDepth 100000 in
theorem qX5_takeFirstSheet_105 (x2 : Int32) (x3 : Int32) (x4 : Int32) (s0 : Int32) (M : mv_M) : mv_frm (mv_S [44, 45] []) (fX5_takeFirstSheet_105 x2 x3 x4 s0 M) M := by
  unfold fX5_takeFirstSheet_105
  refine frm_if ?_ ?_
  · refine frm_chk ?_
    refine frm_if ?_ ?_
    · exact qX5_takeFirstSheet_132 x2 x4 s0 0 M
    · exact qX5_takeFirstSheet_127 x2 x4 s0 M
  · exact qX5_takeFirstSheet_127 x2 x4 s0 M
set_option maxRecDepth 100000 in
theorem qX5_takeFirstSheet_53 (x2 : Int32) (x3 : Int32) (x4 : Int32) (M : mv_M) : mv_frm (mv_S [44, 45] []) (fX5_takeFirstSheet_53 x2 x3 x4 M) M := by
  unfold fX5_takeFirstSheet_53
  refine frm_loop ?_ _ M
  rintro ⟨x2, x3, x4⟩ M
  try dsimp only
  unfold gX5_takeFirstSheet_53
  refine frm_getp (fun b6 hb6 => ?_)
  refine frm_chk ?_
  refine frm_if ?_ ?_
  · refine frm_chk ?_
    exact frm_some
  · refine frm_if ?_ ?_
    · refine frm_chk ?_
      exact qX5_takeFirstSheet_105 x2 x3 x4 (M.1 46 x4.toNatClampNeg) M
    · refine frm_getp (fun b10 hb10 => ?_)
      refine frm_bind (by decide) (qX4_nameType b10 (M.1 5 2) x4 M) (fun r11 M12 => ?_)
      refine frm_bind (by decide) (qX6_allOf r11 M12) (fun r13 M14 => ?_)
      exact qX5_takeFirstSheet_105 x2 x3 x4 r13 M14
set_option maxRecDepth 100000 in
theorem qX5_takeFirstSheet_37 (x2 : Int32) (s0 : Int32) (M : mv_M) : mv_frm (mv_S [44, 45] []) (fX5_takeFirstSheet_37 x2 s0 M) M := by
  unfold fX5_takeFirstSheet_37
  refine frm_chk ?_
  refine frm_letM (sm_si (mv_Sc (by decide))) (fun M5 => ?_)
  exact qX5_takeFirstSheet_53 x2 s0 0 M5
set_option maxRecDepth 100000 in
theorem qX5_takeFirstSheet (a0 : Int32) (M : mv_M) : mv_frm (mv_S [44, 45] []) (fX5_takeFirstSheet a0 M) M := by
  unfold fX5_takeFirstSheet
  refine frm_bind (by decide) (qX5_rowOf (M.1 5 2) a0 M) (fun r1 M2 => ?_)
  refine frm_if ?_ ?_
  · exact frm_some
  · refine frm_chk ?_
    refine frm_if ?_ ?_
    · exact qX5_takeFirstSheet_37 r1 0 M2
    · exact qX5_takeFirstSheet_37 r1 1 M2
set_option maxRecDepth 100000 in
theorem qX5_killAll_36 (x1 : Int32) (x2 : Int32) (x3 : Int32) (M : mv_M) : mv_frm (mv_S [44, 45, 47] [(5, 2)]) (fX5_killAll_36 x1 x2 x3 M) M := by
  unfold fX5_killAll_36
  refine frm_loop ?_ _ M
  rintro ⟨x1, x2, x3⟩ M
  try dsimp only
  unfold gX5_killAll_36
  refine frm_if ?_ ?_
  · refine frm_let (fun v7 => ?_)
    exact frm_some
  · refine frm_letM (sm_si (mv_Sc (by decide))) (fun M8 => ?_)
    refine frm_bind (by decide) (qX5_takeFirstSheet x3 M8) (fun r9 M10 => ?_)
    refine frm_let (fun v11 => ?_)
    exact frm_some
set_option maxRecDepth 100000 in
theorem qX5_killAll_2 (x1 : Int32) (M : mv_M) : mv_frm (mv_S [44, 45, 47] [(5, 2)]) (fX5_killAll_2 x1 M) M := by
  unfold fX5_killAll_2
  refine frm_loop ?_ _ M
  intro x1 M
  try dsimp only
  unfold gX5_killAll_2
  refine frm_getp (fun b1 hb1 => ?_)
  refine frm_if ?_ ?_
  · exact frm_some
  · refine frm_letM (sm_si (mv_Ss (by decide))) (fun M2 => ?_)
    refine frm_getp (fun b3 hb3 => ?_)
    refine frm_chk ?_
    refine frm_bind (by decide) (qX6_demandsOf (M2.1 (b3 + 4) (M2.1 5 2).toNatClampNeg) M2) (fun r5 M6 => ?_)
    exact qX5_killAll_36 x1 r5 1 M6
set_option maxRecDepth 100000 in
theorem qX5_killAll (M : mv_M) : mv_frm (mv_S [44, 45, 47] [(5, 2)]) (fX5_killAll M) M := by
  unfold fX5_killAll
  exact qX5_killAll_2 0 M
set_option maxRecDepth 100000 in
theorem qJ7_rangeCheck_23922 (a0 : Int32) (a1 : Int32) (a2 : Int32) (M : mv_M) : mv_frm (mv_S [] []) (fJ7_rangeCheck_23922 a0 a1 a2 M) M := by
  unfold fJ7_rangeCheck_23922
  refine frm_if ?_ ?_
  · refine frm_if ?_ ?_
    · refine frm_if ?_ ?_
      · exact frm_some
      · exact frm_none
    · exact frm_none
  · exact frm_none
set_option maxRecDepth 100000 in
theorem qJ7_fill_fda19_10 (x2 : Int32) (x3 : Int32) (x4 : Int32) (M : mv_M) : mv_frm (mv_S [46] []) (fJ7_fill_fda19_10 x2 x3 x4 M) M := by
  unfold fJ7_fill_fda19_10
  refine frm_loop ?_ _ M
  rintro ⟨x2, x3, x4⟩ M
  try dsimp only
  unfold gJ7_fill_fda19_10
  refine frm_if ?_ ?_
  · exact frm_some
  · refine frm_chk ?_
    refine frm_letM (sm_si (mv_Sc (by decide))) (fun M3 => ?_)
    refine frm_let (fun v4 => ?_)
    exact frm_some
set_option maxRecDepth 100000 in
theorem qJ7_fill_fda19 (a1 : Int32) (a2 : Int32) (a3 : Int32) (M : mv_M) : mv_frm (mv_S [46] []) (fJ7_fill_fda19 a1 a2 a3 M) M := by
  unfold fJ7_fill_fda19
  refine frm_bind (by decide) (qJ7_rangeCheck_23922 1344 a1 a2 M) (fun _ M1 => ?_)
  exact qJ7_fill_fda19_10 a2 a3 a1 M1
set_option maxRecDepth 100000 in
theorem qX6_askedOfFirst_16 (M : mv_M) : mv_frm (mv_S [] []) (fX6_askedOfFirst_16 M) M := by
  unfold fX6_askedOfFirst_16
  exact frm_some
set_option maxRecDepth 100000 in
theorem qX6_askedOfFirst (a0 : Int32) (a1 : Int32) (M : mv_M) : mv_frm (mv_S [] []) (fX6_askedOfFirst a0 a1 M) M := by
  unfold fX6_askedOfFirst
  refine frm_bind (by decide) (qX6_secondOf a0 M) (fun r1 M2 => ?_)
  refine frm_bind (by decide) (qX6_demandsOf r1 M2) (fun r3 M4 => ?_)
  refine frm_if ?_ ?_
  · exact qX6_askedOfFirst_16 M4
  · refine frm_if ?_ ?_
    · refine frm_chk ?_
      exact frm_some
    · exact qX6_askedOfFirst_16 M4
set_option maxRecDepth 100000 in
theorem qX6_askedOfSecond_16 (M : mv_M) : mv_frm (mv_S [] []) (fX6_askedOfSecond_16 M) M := by
  unfold fX6_askedOfSecond_16
  exact frm_some
set_option maxRecDepth 100000 in
theorem qX6_askedOfSecond (a0 : Int32) (a1 : Int32) (M : mv_M) : mv_frm (mv_S [] []) (fX6_askedOfSecond a0 a1 M) M := by
  unfold fX6_askedOfSecond
  refine frm_bind (by decide) (qX6_secondOf a0 M) (fun r1 M2 => ?_)
  refine frm_bind (by decide) (qX6_demandsOf r1 M2) (fun r3 M4 => ?_)
  refine frm_if ?_ ?_
  · exact qX6_askedOfSecond_16 M4
  · refine frm_if ?_ ?_
    · refine frm_chk ?_
      exact frm_some
    · exact qX6_askedOfSecond_16 M4
set_option maxRecDepth 100000 in
theorem qX6_pairDemand (a0 : Int32) (a1 : Int32) (a2 : Int32) (M : mv_M) : mv_frm (mv_S [] []) (fX6_pairDemand a0 a1 a2 M) M := by
  unfold fX6_pairDemand
  refine frm_bind (by decide) (qX6_secondOf a0 M) (fun r1 M2 => ?_)
  refine frm_bind (by decide) (qX6_demandsOf r1 M2) (fun r3 M4 => ?_)
  exact frm_some
set_option maxRecDepth 100000 in
theorem qX6_either {r_X6_either : Int32 → Int32 → Int32 → mv_M → Option (Int32 × mv_M)} (hq_X6_either : ∀ (a0 : Int32) (a1 : Int32) (a2 : Int32) (M : mv_M), mv_frm (mv_S [] []) (r_X6_either a0 a1 a2 M) M) (a0 : Int32) (a1 : Int32) (a2 : Int32) (M : mv_M) : mv_frm (mv_S [] []) (fX6_either r_X6_either a0 a1 a2 M) M := by
  unfold fX6_either
  refine frm_if ?_ ?_
  · exact frm_some
  · refine frm_if ?_ ?_
    · exact frm_some
    · refine frm_if ?_ ?_
      · refine frm_bind (by decide) (qX6_firstOf a0 M) (fun r1 M2 => ?_)
        refine frm_bind (by decide) (qX6_askedOfFirst a0 a1 M2) (fun r3 M4 => ?_)
        refine frm_bind (by decide) (qX6_askedOfFirst a0 a2 M4) (fun r5 M6 => ?_)
        refine frm_bind (by decide) (hq_X6_either r1 r3 r5 M6) (fun r7 M8 => ?_)
        refine frm_bind (by decide) (qX6_secondOf a0 M8) (fun r9 M10 => ?_)
        refine frm_bind (by decide) (qX6_askedOfSecond a0 a1 M10) (fun r11 M12 => ?_)
        refine frm_bind (by decide) (qX6_askedOfSecond a0 a2 M12) (fun r13 M14 => ?_)
        refine frm_bind (by decide) (hq_X6_either r9 r11 r13 M14) (fun r15 M16 => ?_)
        refine frm_bind (by decide) (qX6_pairDemand a0 r7 r15 M16) (fun r17 M18 => ?_)
        exact frm_some
      · exact frm_some
theorem qRX6_either : ∀ (n s : Nat) (a0 : Int32) (a1 : Int32) (a2 : Int32) (M : mv_M), mv_frm (mv_S [] []) (RX6_either n s a0 a1 a2 M) M := by
  intro n
  induction n with
  | zero =>
    intro s a0 a1 a2 M
    rw [RX6_either]
    exact frm_none
  | succ n ih =>
    intro s a0 a1 a2 M
    rw [RX6_either]
    exact qX6_either (fun a0 a1 a2 M => ih 0 a0 a1 a2 M) a0 a1 a2 M

theorem qtX6_either (a0 : Int32) (a1 : Int32) (a2 : Int32) (M : mv_M) : mv_frm (mv_S [] []) (tX6_either a0 a1 a2 M) M := qRX6_either 12 0 a0 a1 a2 M
set_option maxRecDepth 100000 in
theorem qX5_takeEither_98 (x1 : Int32) (x2 : Int32) (x3 : Int32) (s0 : Int32) (s1 : Int32) (M : mv_M) : mv_frm (mv_S [46, 47] []) (fX5_takeEither_98 x1 x2 x3 s0 s1 M) M := by
  unfold fX5_takeEither_98
  refine frm_chk ?_
  refine frm_letM (sm_si (mv_Sc (by decide))) (fun M18 => ?_)
  refine frm_let (fun v19 => ?_)
  exact frm_some
set_option maxRecDepth 100000 in
theorem qX5_takeEither_19 (x1 : Int32) (x2 : Int32) (x3 : Int32) (M : mv_M) : mv_frm (mv_S [46, 47] []) (fX5_takeEither_19 x1 x2 x3 M) M := by
  unfold fX5_takeEither_19
  refine frm_loop ?_ _ M
  rintro ⟨x1, x2, x3⟩ M
  try dsimp only
  unfold gX5_takeEither_19
  refine frm_getp (fun b3 hb3 => ?_)
  refine frm_chk ?_
  refine frm_if ?_ ?_
  · refine frm_chk ?_
    refine frm_letM (sm_si (mv_Sc (by decide))) (fun M6 => ?_)
    exact frm_some
  · refine frm_chk ?_
    refine frm_let (fun v8 => ?_)
    refine frm_chk ?_
    refine frm_let (fun v10 => ?_)
    refine frm_chk ?_
    refine frm_if ?_ ?_
    · refine frm_getp (fun b12 hb12 => ?_)
      refine frm_bind (by decide) (qX4_nameType b12 (M.1 5 2) x3 M) (fun r13 M14 => ?_)
      refine frm_bind (by decide) (qtX6_either r13 v10 v8 M14) (fun r15 M16 => ?_)
      exact qX5_takeEither_98 x1 x2 x3 r15 (x2 + x3) M16
    · exact qX5_takeEither_98 x1 x2 x3 v8 (x2 + x3) M
set_option maxRecDepth 100000 in
theorem qX5_takeEither (a0 : Int32) (M : mv_M) : mv_frm (mv_S [46, 47] []) (fX5_takeEither a0 M) M := by
  unfold fX5_takeEither
  refine frm_let (fun v1 => ?_)
  refine frm_chk ?_
  refine frm_if ?_ ?_
  · exact qX5_takeEither_19 a0 v1 0 M
  · exact frm_some
set_option maxRecDepth 100000 in
theorem qX6_together_8 {r_X6_together : Int32 → Int32 → Int32 → mv_M → Option (Int32 × mv_M)} (hq_X6_together : ∀ (a0 : Int32) (a1 : Int32) (a2 : Int32) (M : mv_M), mv_frm (mv_S [] []) (r_X6_together a0 a1 a2 M) M) (x1 : Int32) (x2 : Int32) (M : mv_M) : mv_frm (mv_S [] []) (fX6_together_8 r_X6_together x1 x2 M) M := by
  unfold fX6_together_8
  exact frm_some
set_option maxRecDepth 100000 in
theorem qX6_together {r_X6_together : Int32 → Int32 → Int32 → mv_M → Option (Int32 × mv_M)} (hq_X6_together : ∀ (a0 : Int32) (a1 : Int32) (a2 : Int32) (M : mv_M), mv_frm (mv_S [] []) (r_X6_together a0 a1 a2 M) M) (a0 : Int32) (a1 : Int32) (a2 : Int32) (M : mv_M) : mv_frm (mv_S [] []) (fX6_together r_X6_together a0 a1 a2 M) M := by
  unfold fX6_together
  refine frm_if ?_ ?_
  · exact qX6_together_8 hq_X6_together a1 a2 M
  · refine frm_if ?_ ?_
    · exact qX6_together_8 hq_X6_together a1 a2 M
    · refine frm_if ?_ ?_
      · refine frm_bind (by decide) (qX6_firstOf a0 M) (fun r1 M2 => ?_)
        refine frm_bind (by decide) (qX6_askedOfFirst a0 a1 M2) (fun r3 M4 => ?_)
        refine frm_bind (by decide) (qX6_askedOfFirst a0 a2 M4) (fun r5 M6 => ?_)
        refine frm_bind (by decide) (hq_X6_together r1 r3 r5 M6) (fun r7 M8 => ?_)
        refine frm_bind (by decide) (qX6_secondOf a0 M8) (fun r9 M10 => ?_)
        refine frm_bind (by decide) (qX6_askedOfSecond a0 a1 M10) (fun r11 M12 => ?_)
        refine frm_bind (by decide) (qX6_askedOfSecond a0 a2 M12) (fun r13 M14 => ?_)
        refine frm_bind (by decide) (hq_X6_together r9 r11 r13 M14) (fun r15 M16 => ?_)
        refine frm_bind (by decide) (qX6_pairDemand a0 r7 r15 M16) (fun r17 M18 => ?_)
        exact frm_some
      · exact frm_some
theorem qRX6_together : ∀ (n s : Nat) (a0 : Int32) (a1 : Int32) (a2 : Int32) (M : mv_M), mv_frm (mv_S [] []) (RX6_together n s a0 a1 a2 M) M := by
  intro n
  induction n with
  | zero =>
    intro s a0 a1 a2 M
    rw [RX6_together]
    exact frm_none
  | succ n ih =>
    intro s a0 a1 a2 M
    rw [RX6_together]
    exact qX6_together (fun a0 a1 a2 M => ih 0 a0 a1 a2 M) a0 a1 a2 M

theorem qtX6_together (a0 : Int32) (a1 : Int32) (a2 : Int32) (M : mv_M) : mv_frm (mv_S [] []) (tX6_together a0 a1 a2 M) M := qRX6_together 12 0 a0 a1 a2 M
set_option maxRecDepth 100000 in
theorem qX5_onSheet (a0 : Int32) (a1 : Int32) (M : mv_M) : mv_frm (mv_S [] []) (fX5_onSheet a0 a1 M) M := by
  unfold fX5_onSheet
  refine frm_getp (fun b1 hb1 => ?_)
  refine frm_bind (by decide) (qX4_hasName b1 (M.1 5 2) a1 M) (fun r2 M3 => ?_)
  refine frm_if ?_ ?_
  · exact frm_some
  · refine frm_chk ?_
    exact frm_some
set_option maxRecDepth 100000 in
theorem qX5_isDead (a0 : Int32) (a1 : Int32) (M : mv_M) : mv_frm (mv_S [] []) (fX5_isDead a0 a1 M) M := by
  unfold fX5_isDead
  refine frm_bind (by decide) (qX5_rowOf a0 a1 M) (fun r1 M2 => ?_)
  refine frm_if ?_ ?_
  · exact frm_some
  · refine frm_chk ?_
    refine frm_if ?_ ?_
    · exact frm_some
    · exact frm_some
set_option maxRecDepth 100000 in
theorem qX5_demandOf_23 (M : mv_M) : mv_frm (mv_S [] []) (fX5_demandOf_23 M) M := by
  unfold fX5_demandOf_23
  exact frm_some
set_option maxRecDepth 100000 in
theorem qX5_demandOf (a0 : Int32) (a1 : Int32) (a2 : Int32) (M : mv_M) : mv_frm (mv_S [] []) (fX5_demandOf a0 a1 a2 M) M := by
  unfold fX5_demandOf
  refine frm_bind (by decide) (qX5_rowOf a0 a1 M) (fun r1 M2 => ?_)
  refine frm_if ?_ ?_
  · exact qX5_demandOf_23 M2
  · refine frm_if ?_ ?_
    · exact qX5_demandOf_23 M2
    · refine frm_if ?_ ?_
      · refine frm_chk ?_
        exact frm_some
      · exact qX5_demandOf_23 M2
set_option maxRecDepth 100000 in
theorem qX5_weighCall_43 {r_X5_weighTogether : Int32 → Int32 → Int32 → mv_M → Option (Unit × mv_M)} (hq_X5_weighTogether : ∀ (a0 : Int32) (a1 : Int32) (a2 : Int32) (M : mv_M), mv_frm (mv_S [46, 47] []) (r_X5_weighTogether a0 a1 a2 M) M) (x1 : Int32) (x2 : Int32) (x3 : Int32) (x4 : Int32) (x5 : Int32) (x6 : Int32) (M : mv_M) : mv_frm (mv_S [46, 47] []) (fX5_weighCall_43 r_X5_weighTogether x1 x2 x3 x4 x5 x6 M) M := by
  unfold fX5_weighCall_43
  refine frm_loop ?_ _ M
  rintro ⟨x1, x2, x3, x4, x5, x6⟩ M
  try dsimp only
  unfold gX5_weighCall_43
  refine frm_getp (fun b11 hb11 => ?_)
  refine frm_chk ?_
  refine frm_if ?_ ?_
  · exact frm_some
  · refine frm_getp (fun b13 hb13 => ?_)
    refine frm_bind (by decide) (qX4_hasNode b13 x5 M) (fun r14 M15 => ?_)
    refine frm_if ?_ ?_
    · exact frm_some
    · refine frm_bind (by decide) (qX5_demandOf x4 x2 x6 M15) (fun r16 M17 => ?_)
      refine frm_bind (by decide) (hq_X5_weighTogether x5 r16 x3 M17) (fun _ M18 => ?_)
      refine frm_getp (fun b19 hb19 => ?_)
      refine frm_chk ?_
      refine frm_let (fun v21 => ?_)
      refine frm_let (fun v22 => ?_)
      exact frm_some
set_option maxRecDepth 100000 in
theorem qX5_weighCall {r_X5_weighTogether : Int32 → Int32 → Int32 → mv_M → Option (Unit × mv_M)} (hq_X5_weighTogether : ∀ (a0 : Int32) (a1 : Int32) (a2 : Int32) (M : mv_M), mv_frm (mv_S [46, 47] []) (r_X5_weighTogether a0 a1 a2 M) M) (a0 : Int32) (a1 : Int32) (a2 : Int32) (M : mv_M) : mv_frm (mv_S [46, 47] []) (fX5_weighCall r_X5_weighTogether a0 a1 a2 M) M := by
  unfold fX5_weighCall
  refine frm_getp (fun b1 hb1 => ?_)
  refine frm_chk ?_
  refine frm_let (fun v3 => ?_)
  refine frm_bind (by decide) (qX5_isDead v3 a1 M) (fun r4 M5 => ?_)
  refine frm_if ?_ ?_
  · refine frm_getp (fun b6 hb6 => ?_)
    refine frm_chk ?_
    refine frm_let (fun v8 => ?_)
    exact qX5_weighCall_43 hq_X5_weighTogether a0 a1 a2 v3 v8 0 M5
  · refine frm_chk ?_
    refine frm_letM (sm_si (mv_Sc (by decide))) (fun M10 => ?_)
    exact frm_some
set_option maxRecDepth 100000 in
theorem qX5_weighCase {r_X5_weigh : Int32 → Int32 → Int32 → mv_M → Option (Unit × mv_M)} {r_X5_weighTogether : Int32 → Int32 → Int32 → mv_M → Option (Unit × mv_M)} (hq_X5_weigh : ∀ (a0 : Int32) (a1 : Int32) (a2 : Int32) (M : mv_M), mv_frm (mv_S [46, 47] []) (r_X5_weigh a0 a1 a2 M) M) (hq_X5_weighTogether : ∀ (a0 : Int32) (a1 : Int32) (a2 : Int32) (M : mv_M), mv_frm (mv_S [46, 47] []) (r_X5_weighTogether a0 a1 a2 M) M) (a0 : Int32) (a1 : Int32) (a2 : Int32) (M : mv_M) : mv_frm (mv_S [46, 47] []) (fX5_weighCase r_X5_weigh r_X5_weighTogether a0 a1 a2 M) M := by
  unfold fX5_weighCase
  refine frm_getp (fun b1 hb1 => ?_)
  refine frm_chk ?_
  refine frm_bind (by decide) (hq_X5_weigh (M.1 (b1 + 10) a0.toNatClampNeg) a1 a2 M) (fun _ M3 => ?_)
  refine frm_getp (fun b4 hb4 => ?_)
  refine frm_chk ?_
  refine frm_let (fun v6 => ?_)
  refine frm_getp (fun b7 hb7 => ?_)
  refine frm_bind (by decide) (qX4_hasNode b7 v6 M3) (fun r8 M9 => ?_)
  refine frm_if ?_ ?_
  · exact frm_some
  · refine frm_getp (fun b10 hb10 => ?_)
    refine frm_chk ?_
    refine frm_bind (by decide) (qX5_onSheet a2 (M9.1 (b10 + 11) a0.toNatClampNeg) M9) (fun r12 M13 => ?_)
    refine frm_getp (fun b14 hb14 => ?_)
    refine frm_chk ?_
    refine frm_bind (by decide) (qX5_onSheet a2 ((M13.1 (b14 + 11) a0.toNatClampNeg) + 1) M13) (fun r16 M17 => ?_)
    refine frm_getp (fun b18 hb18 => ?_)
    refine frm_chk ?_
    refine frm_bind (by decide) (qX6_pairDemand (M17.1 (b18 + 13) v6.toNatClampNeg) r12 r16 M17) (fun r20 M21 => ?_)
    refine frm_bind (by decide) (hq_X5_weighTogether v6 r20 a2 M21) (fun _ M22 => ?_)
    exact frm_some
set_option maxRecDepth 100000 in
theorem qX5_weighLet {r_X5_weigh : Int32 → Int32 → Int32 → mv_M → Option (Unit × mv_M)} {r_X5_weighTogether : Int32 → Int32 → Int32 → mv_M → Option (Unit × mv_M)} (hq_X5_weigh : ∀ (a0 : Int32) (a1 : Int32) (a2 : Int32) (M : mv_M), mv_frm (mv_S [46, 47] []) (r_X5_weigh a0 a1 a2 M) M) (hq_X5_weighTogether : ∀ (a0 : Int32) (a1 : Int32) (a2 : Int32) (M : mv_M), mv_frm (mv_S [46, 47] []) (r_X5_weighTogether a0 a1 a2 M) M) (a0 : Int32) (a1 : Int32) (a2 : Int32) (M : mv_M) : mv_frm (mv_S [46, 47] []) (fX5_weighLet r_X5_weigh r_X5_weighTogether a0 a1 a2 M) M := by
  unfold fX5_weighLet
  refine frm_getp (fun b1 hb1 => ?_)
  refine frm_chk ?_
  refine frm_bind (by decide) (hq_X5_weigh (M.1 (b1 + 10) a0.toNatClampNeg) a1 a2 M) (fun _ M3 => ?_)
  refine frm_getp (fun b4 hb4 => ?_)
  refine frm_chk ?_
  refine frm_getp (fun b6 hb6 => ?_)
  refine frm_chk ?_
  refine frm_bind (by decide) (qX5_onSheet a2 (M3.1 (b6 + 11) a0.toNatClampNeg) M3) (fun r8 M9 => ?_)
  refine frm_bind (by decide) (hq_X5_weighTogether (M3.1 (b4 + 9) a0.toNatClampNeg) r8 a2 M9) (fun _ M10 => ?_)
  exact frm_some
set_option maxRecDepth 100000 in
theorem qX5_weighTogether_129 {r_X5_weigh : Int32 → Int32 → Int32 → mv_M → Option (Unit × mv_M)} (hq_X5_weigh : ∀ (a0 : Int32) (a1 : Int32) (a2 : Int32) (M : mv_M), mv_frm (mv_S [46, 47] []) (r_X5_weigh a0 a1 a2 M) M) (x4 : Int32) (x5 : Int32) (M : mv_M) : mv_frm (mv_S [46, 47] []) (fX5_weighTogether_129 r_X5_weigh x4 x5 M) M := by
  unfold fX5_weighTogether_129
  refine frm_let (fun v19 => ?_)
  exact frm_some
set_option maxRecDepth 100000 in
theorem qX5_weighTogether_54 {r_X5_weigh : Int32 → Int32 → Int32 → mv_M → Option (Unit × mv_M)} (hq_X5_weigh : ∀ (a0 : Int32) (a1 : Int32) (a2 : Int32) (M : mv_M), mv_frm (mv_S [46, 47] []) (r_X5_weigh a0 a1 a2 M) M) (x4 : Int32) (x5 : Int32) (M : mv_M) : mv_frm (mv_S [46, 47] []) (fX5_weighTogether_54 r_X5_weigh x4 x5 M) M := by
  unfold fX5_weighTogether_54
  refine frm_loop ?_ _ M
  rintro ⟨x4, x5⟩ M
  try dsimp only
  unfold gX5_weighTogether_54
  refine frm_getp (fun b7 hb7 => ?_)
  refine frm_chk ?_
  refine frm_if ?_ ?_
  · exact frm_some
  · refine frm_chk ?_
    refine frm_let (fun v10 => ?_)
    refine frm_if ?_ ?_
    · exact qX5_weighTogether_129 hq_X5_weigh x4 x5 M
    · refine frm_getp (fun b11 hb11 => ?_)
      refine frm_bind (by decide) (qX4_nameType b11 (M.1 5 2) x5 M) (fun r12 M13 => ?_)
      refine frm_chk ?_
      refine frm_bind (by decide) (qtX6_together r12 (M13.1 46 (x4 + x5).toNatClampNeg) v10 M13) (fun r15 M16 => ?_)
      refine frm_chk ?_
      refine frm_letM (sm_si (mv_Sc (by decide))) (fun M18 => ?_)
      exact qX5_weighTogether_129 hq_X5_weigh x4 x5 M18
set_option maxRecDepth 100000 in
theorem qX5_weighTogether {r_X5_weigh : Int32 → Int32 → Int32 → mv_M → Option (Unit × mv_M)} (hq_X5_weigh : ∀ (a0 : Int32) (a1 : Int32) (a2 : Int32) (M : mv_M), mv_frm (mv_S [46, 47] []) (r_X5_weigh a0 a1 a2 M) M) (a0 : Int32) (a1 : Int32) (a2 : Int32) (M : mv_M) : mv_frm (mv_S [46, 47] []) (fX5_weighTogether r_X5_weigh a0 a1 a2 M) M := by
  unfold fX5_weighTogether
  refine frm_if ?_ ?_
  · exact frm_some
  · refine frm_chk ?_
    refine frm_if ?_ ?_
    · refine frm_if ?_ ?_
      · refine frm_bind (by decide) (hq_X5_weigh a0 a1 (a2 + 1) M) (fun _ M2 => ?_)
        refine frm_chk ?_
        refine frm_chk ?_
        refine frm_letM (sm_si (mv_Sc (by decide))) (fun M5 => ?_)
        refine frm_let (fun v6 => ?_)
        exact qX5_weighTogether_54 hq_X5_weigh v6 0 M5
      · exact frm_some
    · exact frm_some
set_option maxRecDepth 100000 in
theorem qX5_weighIf {r_X5_weigh : Int32 → Int32 → Int32 → mv_M → Option (Unit × mv_M)} {r_X5_weighTogether : Int32 → Int32 → Int32 → mv_M → Option (Unit × mv_M)} (hq_X5_weigh : ∀ (a0 : Int32) (a1 : Int32) (a2 : Int32) (M : mv_M), mv_frm (mv_S [46, 47] []) (r_X5_weigh a0 a1 a2 M) M) (hq_X5_weighTogether : ∀ (a0 : Int32) (a1 : Int32) (a2 : Int32) (M : mv_M), mv_frm (mv_S [46, 47] []) (r_X5_weighTogether a0 a1 a2 M) M) (a0 : Int32) (a1 : Int32) (a2 : Int32) (M : mv_M) : mv_frm (mv_S [46, 47] []) (fX5_weighIf r_X5_weigh r_X5_weighTogether a0 a1 a2 M) M := by
  unfold fX5_weighIf
  refine frm_if ?_ ?_
  · refine frm_getp (fun b1 hb1 => ?_)
    refine frm_chk ?_
    refine frm_bind (by decide) (hq_X5_weigh (M.1 (b1 + 10) a0.toNatClampNeg) a1 a2 M) (fun _ M3 => ?_)
    refine frm_getp (fun b4 hb4 => ?_)
    refine frm_chk ?_
    refine frm_bind (by decide) (hq_X5_weigh (M3.1 (b4 + 11) a0.toNatClampNeg) a1 (a2 + 1) M3) (fun _ M6 => ?_)
    refine frm_bind (by decide) (qX5_takeEither a2 M6) (fun _ M7 => ?_)
    refine frm_getp (fun b8 hb8 => ?_)
    refine frm_chk ?_
    refine frm_bind (by decide) (hq_X5_weighTogether (M7.1 (b8 + 9) a0.toNatClampNeg) 1 a2 M7) (fun _ M10 => ?_)
    exact frm_some
  · exact frm_some
set_option maxRecDepth 100000 in
theorem qX5_weigh {r_X5_weighCall : Int32 → Int32 → Int32 → mv_M → Option (Unit × mv_M)} {r_X5_weighCase : Int32 → Int32 → Int32 → mv_M → Option (Unit × mv_M)} {r_X5_weighIf : Int32 → Int32 → Int32 → mv_M → Option (Unit × mv_M)} {r_X5_weighLet : Int32 → Int32 → Int32 → mv_M → Option (Unit × mv_M)} {r_X5_weighTogether : Int32 → Int32 → Int32 → mv_M → Option (Unit × mv_M)} (hq_X5_weighCall : ∀ (a0 : Int32) (a1 : Int32) (a2 : Int32) (M : mv_M), mv_frm (mv_S [46, 47] []) (r_X5_weighCall a0 a1 a2 M) M) (hq_X5_weighCase : ∀ (a0 : Int32) (a1 : Int32) (a2 : Int32) (M : mv_M), mv_frm (mv_S [46, 47] []) (r_X5_weighCase a0 a1 a2 M) M) (hq_X5_weighIf : ∀ (a0 : Int32) (a1 : Int32) (a2 : Int32) (M : mv_M), mv_frm (mv_S [46, 47] []) (r_X5_weighIf a0 a1 a2 M) M) (hq_X5_weighLet : ∀ (a0 : Int32) (a1 : Int32) (a2 : Int32) (M : mv_M), mv_frm (mv_S [46, 47] []) (r_X5_weighLet a0 a1 a2 M) M) (hq_X5_weighTogether : ∀ (a0 : Int32) (a1 : Int32) (a2 : Int32) (M : mv_M), mv_frm (mv_S [46, 47] []) (r_X5_weighTogether a0 a1 a2 M) M) (a0 : Int32) (a1 : Int32) (a2 : Int32) (M : mv_M) : mv_frm (mv_S [46, 47] []) (fX5_weigh r_X5_weighCall r_X5_weighCase r_X5_weighIf r_X5_weighLet r_X5_weighTogether a0 a1 a2 M) M := by
  unfold fX5_weigh
  refine frm_if ?_ ?_
  · exact frm_some
  · refine frm_if ?_ ?_
    · exact frm_some
    · refine frm_getp (fun b1 hb1 => ?_)
      refine frm_bind (by decide) (qX4_hasNode b1 a0 M) (fun r2 M3 => ?_)
      refine frm_if ?_ ?_
      · exact frm_some
      · refine frm_let (fun v4 => ?_)
        refine frm_getp (fun b5 hb5 => ?_)
        refine frm_chk ?_
        refine frm_bind (by decide) (qJ7_fill_fda19 v4 (v4 + (M3.1 (b5 + 3) (M3.1 5 2).toNatClampNeg)) 0 M3) (fun _ M7 => ?_)
        refine frm_chk ?_
        refine frm_letM (sm_si (mv_Sc (by decide))) (fun M9 => ?_)
        refine frm_getp (fun b10 hb10 => ?_)
        refine frm_chk ?_
        refine frm_if ?_ ?_
        · refine frm_getp (fun b13 hb13 => ?_)
          refine frm_getp (fun b14 hb14 => ?_)
          refine frm_chk ?_
          refine frm_bind (by decide) (qX4_hasName b13 (M9.1 5 2) (M9.1 (b14 + 9) a0.toNatClampNeg) M9) (fun r16 M17 => ?_)
          refine frm_if ?_ ?_
          · exact frm_some
          · refine frm_getp (fun b18 hb18 => ?_)
            refine frm_chk ?_
            refine frm_chk ?_
            refine frm_letM (sm_si (mv_Sc (by decide))) (fun M21 => ?_)
            exact frm_some
        · skip
          refine frm_if ?_ ?_
          · exact frm_some
          · skip
            refine frm_if ?_ ?_
            · refine frm_bind (by decide) (hq_X5_weighCall a0 a1 a2 M9) (fun _ M24 => ?_)
              exact frm_some
            · skip
              refine frm_if ?_ ?_
              · refine frm_getp (fun b26 hb26 => ?_)
                refine frm_chk ?_
                refine frm_getp (fun b28 hb28 => ?_)
                refine frm_chk ?_
                refine frm_bind (by decide) (qX6_askedOfFirst (M9.1 (b28 + 13) a0.toNatClampNeg) a1 M9) (fun r30 M31 => ?_)
                refine frm_bind (by decide) (hq_X5_weighTogether (M9.1 (b26 + 9) a0.toNatClampNeg) r30 a2 M31) (fun _ M32 => ?_)
                refine frm_getp (fun b33 hb33 => ?_)
                refine frm_chk ?_
                refine frm_getp (fun b35 hb35 => ?_)
                refine frm_chk ?_
                refine frm_bind (by decide) (qX6_askedOfSecond (M32.1 (b35 + 13) a0.toNatClampNeg) a1 M32) (fun r37 M38 => ?_)
                refine frm_bind (by decide) (hq_X5_weighTogether (M32.1 (b33 + 10) a0.toNatClampNeg) r37 a2 M38) (fun _ M39 => ?_)
                exact frm_some
              · skip
                refine frm_if ?_ ?_
                · refine frm_bind (by decide) (hq_X5_weighIf a0 a1 a2 M9) (fun _ M41 => ?_)
                  exact frm_some
                · skip
                  refine frm_if ?_ ?_
                  · refine frm_bind (by decide) (hq_X5_weighLet a0 a1 a2 M9) (fun _ M43 => ?_)
                    exact frm_some
                  · skip
                    refine frm_if ?_ ?_
                    · refine frm_bind (by decide) (hq_X5_weighCase a0 a1 a2 M9) (fun _ M45 => ?_)
                      exact frm_some
                    · skip
                      refine frm_if ?_ ?_
                      · refine frm_chk ?_
                        refine frm_letM (sm_si (mv_Sc (by decide))) (fun M48 => ?_)
                        exact frm_some
                      · skip
                        refine frm_getp (fun b49 hb49 => ?_)
                        refine frm_chk ?_
                        refine frm_bind (by decide) (hq_X5_weighTogether (M9.1 (b49 + 9) a0.toNatClampNeg) 1 a2 M9) (fun _ M51 => ?_)
                        refine frm_getp (fun b52 hb52 => ?_)
                        refine frm_chk ?_
                        refine frm_bind (by decide) (hq_X5_weighTogether (M51.1 (b52 + 10) a0.toNatClampNeg) 1 a2 M51) (fun _ M54 => ?_)
                        exact frm_some
theorem qRX5_weigh : ∀ (n s : Nat) (a0 : Int32) (a1 : Int32) (a2 : Int32) (M : mv_M), mv_frm (mv_S [46, 47] []) (RX5_weigh n s a0 a1 a2 M) M := by
  intro n
  induction n with
  | zero =>
    intro s a0 a1 a2 M
    rw [RX5_weigh]
    exact frm_none
  | succ n ih =>
    intro s a0 a1 a2 M
    rw [RX5_weigh]
    refine frm_if ?_ ?_
    · exact qX5_weigh (fun a0 a1 a2 M => ih 5 a0 a1 a2 M) (fun a0 a1 a2 M => ih 4 a0 a1 a2 M) (fun a0 a1 a2 M => ih 2 a0 a1 a2 M) (fun a0 a1 a2 M => ih 3 a0 a1 a2 M) (fun a0 a1 a2 M => ih 1 a0 a1 a2 M) a0 a1 a2 M
    refine frm_if ?_ ?_
    · exact qX5_weighTogether (fun a0 a1 a2 M => ih 0 a0 a1 a2 M) a0 a1 a2 M
    refine frm_if ?_ ?_
    · exact qX5_weighIf (fun a0 a1 a2 M => ih 0 a0 a1 a2 M) (fun a0 a1 a2 M => ih 1 a0 a1 a2 M) a0 a1 a2 M
    refine frm_if ?_ ?_
    · exact qX5_weighLet (fun a0 a1 a2 M => ih 0 a0 a1 a2 M) (fun a0 a1 a2 M => ih 1 a0 a1 a2 M) a0 a1 a2 M
    refine frm_if ?_ ?_
    · exact qX5_weighCase (fun a0 a1 a2 M => ih 0 a0 a1 a2 M) (fun a0 a1 a2 M => ih 1 a0 a1 a2 M) a0 a1 a2 M
    exact qX5_weighCall (fun a0 a1 a2 M => ih 1 a0 a1 a2 M) a0 a1 a2 M

theorem qtX5_weigh (a0 : Int32) (a1 : Int32) (a2 : Int32) (M : mv_M) : mv_frm (mv_S [46, 47] []) (tX5_weigh a0 a1 a2 M) M := qRX5_weigh 320 0 a0 a1 a2 M
theorem qtX5_weighTogether (a0 : Int32) (a1 : Int32) (a2 : Int32) (M : mv_M) : mv_frm (mv_S [46, 47] []) (tX5_weighTogether a0 a1 a2 M) M := qRX5_weigh 320 1 a0 a1 a2 M
theorem qtX5_weighIf (a0 : Int32) (a1 : Int32) (a2 : Int32) (M : mv_M) : mv_frm (mv_S [46, 47] []) (tX5_weighIf a0 a1 a2 M) M := qRX5_weigh 320 2 a0 a1 a2 M
theorem qtX5_weighLet (a0 : Int32) (a1 : Int32) (a2 : Int32) (M : mv_M) : mv_frm (mv_S [46, 47] []) (tX5_weighLet a0 a1 a2 M) M := qRX5_weigh 320 3 a0 a1 a2 M
theorem qtX5_weighCase (a0 : Int32) (a1 : Int32) (a2 : Int32) (M : mv_M) : mv_frm (mv_S [46, 47] []) (tX5_weighCase a0 a1 a2 M) M := qRX5_weigh 320 4 a0 a1 a2 M
theorem qtX5_weighCall (a0 : Int32) (a1 : Int32) (a2 : Int32) (M : mv_M) : mv_frm (mv_S [46, 47] []) (tX5_weighCall a0 a1 a2 M) M := qRX5_weigh 320 5 a0 a1 a2 M
set_option maxRecDepth 100000 in
theorem qX5_changesInRound_82 (x2 : Int32) (x3 : Int32) (x4 : Int32) (s0 : Int32) (M : mv_M) : mv_frm (mv_S [44, 45, 46, 47] [(5, 2)]) (fX5_changesInRound_82 x2 x3 x4 s0 M) M := by
  unfold fX5_changesInRound_82
  refine frm_let (fun v14 => ?_)
  exact frm_some
set_option maxRecDepth 100000 in
theorem qX5_changesInRound_77 (x2 : Int32) (x3 : Int32) (x4 : Int32) (M : mv_M) : mv_frm (mv_S [44, 45, 46, 47] [(5, 2)]) (fX5_changesInRound_77 x2 x3 x4 M) M := by
  unfold fX5_changesInRound_77
  exact qX5_changesInRound_82 x2 x3 x4 1 M
set_option maxRecDepth 100000 in
theorem qX5_changesInRound_39 (x1 : Int32) (x2 : Int32) (x3 : Int32) (x4 : Int32) (M : mv_M) : mv_frm (mv_S [44, 45, 46, 47] [(5, 2)]) (fX5_changesInRound_39 x1 x2 x3 x4 M) M := by
  unfold fX5_changesInRound_39
  refine frm_loop ?_ _ M
  rintro ⟨x1, x2, x3, x4⟩ M
  try dsimp only
  unfold gX5_changesInRound_39
  refine frm_if ?_ ?_
  · refine frm_let (fun v8 => ?_)
    exact frm_some
  · refine frm_getp (fun b9 hb9 => ?_)
    refine frm_chk ?_
    refine frm_bind (by decide) (qtX5_weigh (M.1 (b9 + 5) (M.1 5 2).toNatClampNeg) x4 0 M) (fun _ M11 => ?_)
    refine frm_bind (by decide) (qX5_takeFirstSheet x4 M11) (fun r12 M13 => ?_)
    refine frm_if ?_ ?_
    · refine frm_if ?_ ?_
      · exact qX5_changesInRound_82 x2 x3 x4 0 M13
      · exact qX5_changesInRound_77 x2 x3 x4 M13
    · exact qX5_changesInRound_77 x2 x3 x4 M13
set_option maxRecDepth 100000 in
theorem qX5_changesInRound_4 (x1 : Int32) (x2 : Int32) (M : mv_M) : mv_frm (mv_S [44, 45, 46, 47] [(5, 2)]) (fX5_changesInRound_4 x1 x2 M) M := by
  unfold fX5_changesInRound_4
  refine frm_loop ?_ _ M
  rintro ⟨x1, x2⟩ M
  try dsimp only
  unfold gX5_changesInRound_4
  refine frm_getp (fun b1 hb1 => ?_)
  refine frm_if ?_ ?_
  · refine frm_chk ?_
    exact frm_some
  · refine frm_letM (sm_si (mv_Ss (by decide))) (fun M3 => ?_)
    refine frm_getp (fun b4 hb4 => ?_)
    refine frm_chk ?_
    refine frm_bind (by decide) (qX6_demandsOf (M3.1 (b4 + 4) (M3.1 5 2).toNatClampNeg) M3) (fun r6 M7 => ?_)
    exact qX5_changesInRound_39 x1 x2 r6 1 M7
set_option maxRecDepth 100000 in
theorem qX5_changesInRound (M : mv_M) : mv_frm (mv_S [44, 45, 46, 47] [(5, 2)]) (fX5_changesInRound M) M := by
  unfold fX5_changesInRound
  exact qX5_changesInRound_4 0 0 M
set_option maxRecDepth 100000 in
theorem qX5_settle_16 (x2 : Int32) (M : mv_M) : mv_frm (mv_S [44, 45, 46, 47] [(5, 0), (5, 1), (5, 2)]) (fX5_settle_16 x2 M) M := by
  unfold fX5_settle_16
  refine frm_loop ?_ _ M
  intro x2 M
  try dsimp only
  unfold gX5_settle_16
  refine frm_if ?_ ?_
  · exact frm_some
  · refine frm_bind (by decide) (qX5_changesInRound M) (fun r4 M5 => ?_)
    refine frm_if ?_ ?_
    · exact frm_some
    · refine frm_let (fun v6 => ?_)
      exact frm_some
set_option maxRecDepth 100000 in
theorem qX5_settle (b1 : Nat) (M : mv_M) : mv_frm (mv_S [44, 45, 46, 47] [(5, 0), (5, 1), (5, 2)]) (fX5_settle b1 M) M := by
  unfold fX5_settle
  refine frm_letM (sm_sr (mv_Ss (by decide))) (fun M1 => ?_)
  refine frm_letM (sm_si (mv_Ss (by decide))) (fun M2 => ?_)
  refine frm_bind (by decide) (qX5_killAll M2) (fun _ M3 => ?_)
  exact qX5_settle_16 1 M3
set_option maxRecDepth 100000 in
theorem qX10_rounds (M : mv_M) : mv_frm (mv_S [44, 45, 46, 47] [(5, 0), (5, 1), (5, 2)]) (fX10_rounds M) M := by
  unfold fX10_rounds
  refine frm_getp (fun b1 hb1 => ?_)
  refine frm_if ?_ ?_
  · exact frm_some
  · refine frm_getp (fun b2 hb2 => ?_)
    refine frm_bind (by decide) (qX5_settle b2 M) (fun r3 M4 => ?_)
    exact frm_some
set_option maxRecDepth 100000 in
theorem qX10_requireRows (M : mv_M) : mv_frm (mv_S [] []) (fX10_requireRows M) M := by
  unfold fX10_requireRows
  refine frm_if ?_ ?_
  · exact frm_some
  · exact frm_some
set_option maxRecDepth 100000 in
theorem qX10_requireRow_32 (M : mv_M) : mv_frm (mv_S [] []) (fX10_requireRow_32 M) M := by
  unfold fX10_requireRow_32
  exact frm_some
set_option maxRecDepth 100000 in
theorem qX10_requireRow (a0 : Int32) (a1 : Int32) (M : mv_M) : mv_frm (mv_S [] []) (fX10_requireRow a0 a1 M) M := by
  unfold fX10_requireRow
  refine frm_getp (fun b1 hb1 => ?_)
  refine frm_bind (by decide) (qX4_hasFunction b1 a0 M) (fun r2 M3 => ?_)
  refine frm_if ?_ ?_
  · exact qX10_requireRow_32 M3
  · refine frm_if ?_ ?_
    · exact qX10_requireRow_32 M3
    · refine frm_getp (fun b4 hb4 => ?_)
      refine frm_chk ?_
      refine frm_bind (by decide) (qX6_demandsOf (M3.1 (b4 + 4) a0.toNatClampNeg) M3) (fun r6 M7 => ?_)
      refine frm_if ?_ ?_
      · exact frm_some
      · exact qX10_requireRow_32 M7
set_option maxRecDepth 100000 in
theorem qX10_dead (a0 : Int32) (a1 : Int32) (M : mv_M) : mv_frm (mv_S [] []) (fX10_dead a0 a1 M) M := by
  unfold fX10_dead
  refine frm_bindx (by decide) (qX10_requireRows M) (fun _ M1 => ?_)
  refine frm_bindx (by decide) (qX10_requireRow a0 a1 M1) (fun _ M2 => ?_)
  refine frm_bind (by decide) (qX5_isDead a0 a1 M2) (fun r3 M4 => ?_)
  refine frm_chk ?_
  exact frm_some
set_option maxRecDepth 100000 in
theorem qX10_requireParam (a0 : Int32) (a1 : Int32) (M : mv_M) : mv_frm (mv_S [] []) (fX10_requireParam a0 a1 M) M := by
  unfold fX10_requireParam
  refine frm_getp (fun b1 hb1 => ?_)
  refine frm_bind (by decide) (qX4_hasParam b1 a0 a1 M) (fun r2 M3 => ?_)
  refine frm_if ?_ ?_
  · exact frm_some
  · exact frm_some
set_option maxRecDepth 100000 in
theorem qX10_asks (a0 : Int32) (a1 : Int32) (a2 : Int32) (M : mv_M) : mv_frm (mv_S [] []) (fX10_asks a0 a1 a2 M) M := by
  unfold fX10_asks
  refine frm_bindx (by decide) (qX10_requireRows M) (fun _ M1 => ?_)
  refine frm_bindx (by decide) (qX10_requireRow a0 a1 M1) (fun _ M2 => ?_)
  refine frm_bindx (by decide) (qX10_requireParam a0 a2 M2) (fun _ M3 => ?_)
  refine frm_bind (by decide) (qX5_demandOf a0 a1 a2 M3) (fun r4 M5 => ?_)
  exact frm_some
set_option maxRecDepth 100000 in
theorem qX10_strict (a0 : Int32) (a1 : Int32) (M : mv_M) : mv_frm (mv_S [] []) (fX10_strict a0 a1 M) M := by
  unfold fX10_strict
  refine frm_bindx (by decide) (qX10_requireRows M) (fun _ M1 => ?_)
  refine frm_bindx (by decide) (qX10_requireParam a0 a1 M1) (fun _ M2 => ?_)
  refine frm_bind (by decide) (qX5_demandOf a0 1 a1 M2) (fun r3 M4 => ?_)
  refine frm_if ?_ ?_
  · exact frm_some
  · exact frm_some
set_option maxRecDepth 100000 in
theorem qX5_put (a0 : Int32) (a1 : Int32) (a2 : Int32) (a3 : Int32) (M : mv_M) : mv_frm (mv_S [44, 45] []) (fX5_put a0 a1 a2 a3 M) M := by
  unfold fX5_put
  refine frm_bind (by decide) (qX5_rowOf a0 a1 M) (fun r1 M2 => ?_)
  refine frm_if ?_ ?_
  · exact frm_some
  · refine frm_if ?_ ?_
    · exact frm_some
    · refine frm_if ?_ ?_
      · exact frm_some
      · refine frm_chk ?_
        refine frm_letM (sm_si (mv_Sc (by decide))) (fun M4 => ?_)
        refine frm_chk ?_
        refine frm_letM (sm_si (mv_Sc (by decide))) (fun M6 => ?_)
        exact frm_some
set_option maxRecDepth 100000 in
theorem qX10_plant_38 (M : mv_M) : mv_frm (mv_S [44, 45] []) (fX10_plant_38 M) M := by
  unfold fX10_plant_38
  exact frm_some
set_option maxRecDepth 100000 in
theorem qX10_plant (a0 : Int32) (a1 : Int32) (a2 : Int32) (a3 : Int32) (M : mv_M) : mv_frm (mv_S [44, 45] []) (fX10_plant a0 a1 a2 a3 M) M := by
  unfold fX10_plant
  refine frm_bindx (by decide) (qX10_requireRows M) (fun _ M1 => ?_)
  refine frm_bindx (by decide) (qX10_requireRow a0 a1 M1) (fun _ M2 => ?_)
  refine frm_bindx (by decide) (qX10_requireParam a0 a2 M2) (fun _ M3 => ?_)
  refine frm_if ?_ ?_
  · exact qX10_plant_38 M3
  · refine frm_getp (fun b4 hb4 => ?_)
    refine frm_bind (by decide) (qX4_nameType b4 a0 a2 M3) (fun r5 M6 => ?_)
    refine frm_bind (by decide) (qX6_demandsOf r5 M6) (fun r7 M8 => ?_)
    refine frm_if ?_ ?_
    · refine frm_bind (by decide) (qX5_demandOf a0 a1 a2 M8) (fun r9 M10 => ?_)
      refine frm_bind (by decide) (qX5_put a0 a1 a2 a3 M10) (fun _ M11 => ?_)
      exact frm_some
    · exact qX10_plant_38 M8
set_option maxRecDepth 100000 in
theorem qX5_tellsTooMuch_27 (x1 : Int32) (x2 : Int32) (M : mv_M) : mv_frm (mv_S [] []) (fX5_tellsTooMuch_27 x1 x2 M) M := by
  unfold fX5_tellsTooMuch_27
  refine frm_loop ?_ _ M
  rintro ⟨x1, x2⟩ M
  try dsimp only
  unfold gX5_tellsTooMuch_27
  refine frm_getp (fun b3 hb3 => ?_)
  refine frm_chk ?_
  refine frm_if ?_ ?_
  · exact frm_some
  · refine frm_bind (by decide) (qX5_demandOf (M.1 5 2) x1 x2 M) (fun r5 M6 => ?_)
    refine frm_getp (fun b7 hb7 => ?_)
    refine frm_bind (by decide) (qX4_nameType b7 (M6.1 5 2) x2 M6) (fun r8 M9 => ?_)
    refine frm_chk ?_
    refine frm_bind (by decide) (qtX6_either r8 r5 (M9.1 46 x2.toNatClampNeg) M9) (fun r11 M12 => ?_)
    refine frm_if ?_ ?_
    · refine frm_let (fun v13 => ?_)
      exact frm_some
    · exact frm_some
set_option maxRecDepth 100000 in
theorem qX5_tellsTooMuch (a0 : Int32) (M : mv_M) : mv_frm (mv_S [] []) (fX5_tellsTooMuch a0 M) M := by
  unfold fX5_tellsTooMuch
  refine frm_if ?_ ?_
  · refine frm_bind (by decide) (qX5_isDead (M.1 5 2) a0 M) (fun r1 M2 => ?_)
    refine frm_if ?_ ?_
    · exact qX5_tellsTooMuch_27 a0 0 M2
    · exact frm_some
  · exact frm_some
set_option maxRecDepth 100000 in
theorem qX5_firstTooMuch_36 (x1 : Int32) (x2 : Int32) (x3 : Int32) (M : mv_M) : mv_frm (mv_S [46, 47] [(5, 2)]) (fX5_firstTooMuch_36 x1 x2 x3 M) M := by
  unfold fX5_firstTooMuch_36
  refine frm_loop ?_ _ M
  rintro ⟨x1, x2, x3⟩ M
  try dsimp only
  unfold gX5_firstTooMuch_36
  refine frm_if ?_ ?_
  · refine frm_let (fun v7 => ?_)
    exact frm_some
  · refine frm_getp (fun b8 hb8 => ?_)
    refine frm_chk ?_
    refine frm_bind (by decide) (qtX5_weigh (M.1 (b8 + 5) (M.1 5 2).toNatClampNeg) x3 0 M) (fun _ M10 => ?_)
    refine frm_bind (by decide) (qX5_tellsTooMuch x3 M10) (fun r11 M12 => ?_)
    refine frm_if ?_ ?_
    · refine frm_let (fun v13 => ?_)
      exact frm_some
    · exact frm_some
set_option maxRecDepth 100000 in
theorem qX5_firstTooMuch_2 (x1 : Int32) (M : mv_M) : mv_frm (mv_S [46, 47] [(5, 2)]) (fX5_firstTooMuch_2 x1 M) M := by
  unfold fX5_firstTooMuch_2
  refine frm_loop ?_ _ M
  intro x1 M
  try dsimp only
  unfold gX5_firstTooMuch_2
  refine frm_getp (fun b1 hb1 => ?_)
  refine frm_if ?_ ?_
  · exact frm_some
  · refine frm_letM (sm_si (mv_Ss (by decide))) (fun M2 => ?_)
    refine frm_getp (fun b3 hb3 => ?_)
    refine frm_chk ?_
    refine frm_bind (by decide) (qX6_demandsOf (M2.1 (b3 + 4) (M2.1 5 2).toNatClampNeg) M2) (fun r5 M6 => ?_)
    exact qX5_firstTooMuch_36 x1 r5 1 M6
set_option maxRecDepth 100000 in
theorem qX5_firstTooMuch (M : mv_M) : mv_frm (mv_S [46, 47] [(5, 2)]) (fX5_firstTooMuch M) M := by
  unfold fX5_firstTooMuch
  exact qX5_firstTooMuch_2 0 M
set_option maxRecDepth 100000 in
theorem qX10_check (M : mv_M) : mv_frm (mv_S [46, 47] [(5, 2)]) (fX10_check M) M := by
  unfold fX10_check
  refine frm_bindx (by decide) (qX10_requireRows M) (fun _ M1 => ?_)
  refine frm_bind (by decide) (qX5_firstTooMuch M1) (fun r2 M3 => ?_)
  exact frm_some
set_option maxRecDepth 100000 in
theorem qX1_add (a0 : Int32) (a1 : Int32) (M : mv_M) : mv_frm (mv_S [48, 49] [(6, 0)]) (fX1_add a0 a1 M) M := by
  unfold fX1_add
  refine frm_if ?_ ?_
  · exact frm_some
  · refine frm_chk ?_
    refine frm_letM (sm_si (mv_Sc (by decide))) (fun M2 => ?_)
    refine frm_chk ?_
    refine frm_letM (sm_si (mv_Sc (by decide))) (fun M4 => ?_)
    refine frm_letM (sm_si (mv_Ss (by decide))) (fun M5 => ?_)
    exact frm_some
set_option maxRecDepth 100000 in
theorem qX10_input_9 (M : mv_M) : mv_frm (mv_S [48, 49] [(6, 0)]) (fX10_input_9 M) M := by
  unfold fX10_input_9
  exact frm_some
set_option maxRecDepth 100000 in
theorem qX10_input (a0 : Int32) (a1 : Int32) (M : mv_M) : mv_frm (mv_S [48, 49] [(6, 0)]) (fX10_input a0 a1 M) M := by
  unfold fX10_input
  refine frm_if ?_ ?_
  · exact qX10_input_9 M
  · refine frm_if ?_ ?_
    · refine frm_if ?_ ?_
      · refine frm_bind (by decide) (qX1_add a0 a1 M) (fun _ M1 => ?_)
        exact frm_some
      · exact frm_some
    · exact qX10_input_9 M
set_option maxRecDepth 100000 in
theorem qX1_behind {r_X1_behind : Int32 → Int32 → mv_M → Option (Int32 × mv_M)} (hq_X1_behind : ∀ (a0 : Int32) (a1 : Int32) (M : mv_M), mv_frm (mv_S [] []) (r_X1_behind a0 a1 M) M) (a0 : Int32) (a1 : Int32) (M : mv_M) : mv_frm (mv_S [] []) (fX1_behind r_X1_behind a0 a1 M) M := by
  unfold fX1_behind
  refine frm_if ?_ ?_
  · exact frm_some
  · refine frm_if ?_ ?_
    · refine frm_chk ?_
      refine frm_if ?_ ?_
      · exact frm_some
      · refine frm_if ?_ ?_
        · refine frm_chk ?_
          refine frm_if ?_ ?_
          · refine frm_bind (by decide) (qX6_secondOf a0 M) (fun r3 M4 => ?_)
            refine frm_bind (by decide) (qX6_firstOf a0 M4) (fun r5 M6 => ?_)
            refine frm_bind (by decide) (hq_X1_behind r5 (a1 + 1) M6) (fun r7 M8 => ?_)
            refine frm_bind (by decide) (hq_X1_behind r3 r7 M8) (fun r9 M10 => ?_)
            exact frm_some
          · exact frm_some
        · refine frm_chk ?_
          refine frm_if ?_ ?_
          · exact frm_some
          · exact frm_some
    · exact frm_some
theorem qRX1_behind : ∀ (n s : Nat) (a0 : Int32) (a1 : Int32) (M : mv_M), mv_frm (mv_S [] []) (RX1_behind n s a0 a1 M) M := by
  intro n
  induction n with
  | zero =>
    intro s a0 a1 M
    rw [RX1_behind]
    exact frm_none
  | succ n ih =>
    intro s a0 a1 M
    rw [RX1_behind]
    exact qX1_behind (fun a0 a1 M => ih 0 a0 a1 M) a0 a1 M

theorem qtX1_behind (a0 : Int32) (a1 : Int32) (M : mv_M) : mv_frm (mv_S [] []) (tX1_behind a0 a1 M) M := qRX1_behind 12 0 a0 a1 M
set_option maxRecDepth 100000 in
theorem qX1_fit_5 (b1 : Nat) (x2 : Int32) (x3 : Int32) (x4 : Int32) (M : mv_M) : mv_frm (mv_S [] []) (fX1_fit_5 b1 x2 x3 x4 M) M := by
  unfold fX1_fit_5
  refine frm_loop ?_ _ M
  rintro ⟨b1, x2, x3, x4⟩ M
  try dsimp only
  unfold gX1_fit_5
  refine frm_chk ?_
  refine frm_if ?_ ?_
  · refine frm_if ?_ ?_
    · exact frm_some
    · exact frm_some
  · refine frm_bind (by decide) (qX4_nameType b1 x2 x4 M) (fun r2 M3 => ?_)
    refine frm_bind (by decide) (qtX1_behind r2 x3 M3) (fun r4 M5 => ?_)
    refine frm_let (fun v6 => ?_)
    exact frm_some
set_option maxRecDepth 100000 in
theorem qX1_fit (b1 : Nat) (a1 : Int32) (M : mv_M) : mv_frm (mv_S [] []) (fX1_fit b1 a1 M) M := by
  unfold fX1_fit
  exact qX1_fit_5 b1 a1 0 0 M
set_option maxRecDepth 100000 in
theorem qX2_isPlace (a0 : Int32) (a1 : Int32) (M : mv_M) : mv_frm (mv_S [] []) (fX2_isPlace a0 a1 M) M := by
  unfold fX2_isPlace
  refine frm_if ?_ ?_
  · exact frm_some
  · refine frm_if ?_ ?_
    · exact frm_some
    · refine frm_if ?_ ?_
      · exact frm_some
      · refine frm_if ?_ ?_
        · exact frm_some
        · exact frm_some
set_option maxRecDepth 100000 in
theorem qX2_bind (a0 : Int32) (a1 : Int32) (a2 : Int32) (M : mv_M) : mv_frm (mv_S [50] []) (fX2_bind a0 a1 a2 M) M := by
  unfold fX2_bind
  refine frm_bind (by decide) (qX2_isPlace a0 a1 M) (fun r1 M2 => ?_)
  refine frm_if ?_ ?_
  · exact frm_some
  · refine frm_chk ?_
    refine frm_letM (sm_si (mv_Sc (by decide))) (fun M4 => ?_)
    exact frm_some
set_option maxRecDepth 100000 in
theorem qX7_lay_66 {r_X7_lay : Int32 → mv_M → Option (Int32 × mv_M)} (hq_X7_lay : ∀ (a1 : Int32) (M : mv_M), mv_frm (mv_S [57, 58, 59, 60, 61] []) (r_X7_lay a1 M) M) (x2 : Int32) (x3 : Int32) (x4 : Int32) (s0 : Int32) (s1 : Int32) (M : mv_M) : mv_frm (mv_S [57, 58, 59, 60, 61] []) (fX7_lay_66 r_X7_lay x2 x3 x4 s0 s1 M) M := by
  unfold fX7_lay_66
  refine frm_chk ?_
  refine frm_letM (sm_si (mv_Sc (by decide))) (fun M8 => ?_)
  refine frm_chk ?_
  refine frm_letM (sm_si (mv_Sc (by decide))) (fun M10 => ?_)
  refine frm_if ?_ ?_
  · refine frm_bind (by decide) (hq_X7_lay (x2 + 1) M10) (fun r11 M12 => ?_)
    refine frm_chk ?_
    refine frm_letM (sm_si (mv_Sc (by decide))) (fun M14 => ?_)
    refine frm_chk ?_
    refine frm_letM (sm_si (mv_Sc (by decide))) (fun M16 => ?_)
    refine frm_bind (by decide) (hq_X7_lay r11 M16) (fun r17 M18 => ?_)
    exact frm_some
  · exact frm_some
set_option maxRecDepth 100000 in
theorem qX7_lay_44 {r_X7_lay : Int32 → mv_M → Option (Int32 × mv_M)} (hq_X7_lay : ∀ (a1 : Int32) (M : mv_M), mv_frm (mv_S [57, 58, 59, 60, 61] []) (r_X7_lay a1 M) M) (x2 : Int32) (x3 : Int32) (x4 : Int32) (s0 : Int32) (s1 : Int32) (M : mv_M) : mv_frm (mv_S [57, 58, 59, 60, 61] []) (fX7_lay_44 r_X7_lay x2 x3 x4 s0 s1 M) M := by
  unfold fX7_lay_44
  refine frm_chk ?_
  refine frm_letM (sm_si (mv_Sc (by decide))) (fun M5 => ?_)
  refine frm_if ?_ ?_
  · exact qX7_lay_66 hq_X7_lay x2 x3 x4 x3 x3 M5
  · refine frm_chk ?_
    exact qX7_lay_66 hq_X7_lay x2 x3 x4 (M5.1 49 x2.toNatClampNeg) x3 M5
set_option maxRecDepth 100000 in
theorem qX7_lay {r_X7_lay : Int32 → mv_M → Option (Int32 × mv_M)} (hq_X7_lay : ∀ (a1 : Int32) (M : mv_M), mv_frm (mv_S [57, 58, 59, 60, 61] []) (r_X7_lay a1 M) M) (a1 : Int32) (M : mv_M) : mv_frm (mv_S [57, 58, 59, 60, 61] []) (fX7_lay r_X7_lay a1 M) M := by
  unfold fX7_lay
  refine frm_if ?_ ?_
  · exact frm_some
  · refine frm_if ?_ ?_
    · refine frm_let (fun v1 => ?_)
      refine frm_chk ?_
      refine frm_let (fun v3 => ?_)
      refine frm_if ?_ ?_
      · exact qX7_lay_44 hq_X7_lay a1 v1 v3 3 v1 M
      · exact qX7_lay_44 hq_X7_lay a1 v1 v3 2 v1 M
    · exact frm_some
theorem qRX7_lay : ∀ (n s : Nat) (a0 : Int32) (M : mv_M), mv_frm (mv_S [57, 58, 59, 60, 61] []) (RX7_lay n s a0 M) M := by
  intro n
  induction n with
  | zero =>
    intro s a0 M
    rw [RX7_lay]
    exact frm_none
  | succ n ih =>
    intro s a0 M
    rw [RX7_lay]
    exact qX7_lay (fun a1 M => ih 0 a1 M) a0 M

theorem qtX7_lay (a1 : Int32) (M : mv_M) : mv_frm (mv_S [57, 58, 59, 60, 61] []) (tX7_lay a1 M) M := qRX7_lay 12 0 a1 M
set_option maxRecDepth 100000 in
theorem qX2_start_25 (x2 : Int32) (x5 : Int32) (x6 : Int32) (M : mv_M) : mv_frm (mv_S [50, 57, 58, 59, 60, 61] [(7, 1), (7, 2), (7, 3), (7, 4), (7, 5), (7, 6), (7, 7), (7, 8), (8, 0), (8, 1)]) (fX2_start_25 x2 x5 x6 M) M := by
  unfold fX2_start_25
  refine frm_loop ?_ _ M
  rintro ⟨x2, x5, x6⟩ M
  try dsimp only
  unfold gX2_start_25
  refine frm_getp (fun b5 hb5 => ?_)
  refine frm_chk ?_
  refine frm_if ?_ ?_
  · exact frm_some
  · refine frm_bind (by decide) (qX2_bind 0 x6 (1500 + x5) M) (fun _ M7 => ?_)
    refine frm_bind (by decide) (qtX7_lay x5 M7) (fun r8 M9 => ?_)
    refine frm_let (fun v10 => ?_)
    exact frm_some
set_option maxRecDepth 100000 in
theorem qX2_start (b1 : Nat) (a1 : Int32) (a2 : Int32) (M : mv_M) : mv_frm (mv_S [50, 57, 58, 59, 60, 61] [(7, 1), (7, 2), (7, 3), (7, 4), (7, 5), (7, 6), (7, 7), (7, 8), (8, 0), (8, 1)]) (fX2_start b1 a1 a2 M) M := by
  unfold fX2_start
  refine frm_bind (by decide) (qX2_forget M) (fun _ M1 => ?_)
  refine frm_letM (sm_sr (mv_Ss (by decide))) (fun M2 => ?_)
  refine frm_letM (sm_si (mv_Ss (by decide))) (fun M3 => ?_)
  refine frm_letM (sm_si (mv_Ss (by decide))) (fun M4 => ?_)
  exact qX2_start_25 a1 0 0 M4
set_option maxRecDepth 100000 in
theorem qX2_enter (a0 : Int32) (a1 : Int32) (M : mv_M) : mv_frm (mv_S [51, 52, 53] [(7, 2), (7, 3), (7, 5), (7, 8)]) (fX2_enter a0 a1 M) M := by
  unfold fX2_enter
  refine frm_if ?_ ?_
  · refine frm_if ?_ ?_
    · refine frm_letM (sm_si (mv_Ss (by decide))) (fun M1 => ?_)
      refine frm_chk ?_
      refine frm_letM (sm_si (mv_Sc (by decide))) (fun M3 => ?_)
      refine frm_chk ?_
      refine frm_letM (sm_si (mv_Sc (by decide))) (fun M5 => ?_)
      refine frm_chk ?_
      refine frm_letM (sm_si (mv_Sc (by decide))) (fun M7 => ?_)
      refine frm_letM (sm_si (mv_Ss (by decide))) (fun M8 => ?_)
      refine frm_letM (sm_si (mv_Ss (by decide))) (fun M9 => ?_)
      exact frm_some
    · refine frm_letM (sm_si (mv_Ss (by decide))) (fun M10 => ?_)
      exact frm_some
  · refine frm_letM (sm_si (mv_Ss (by decide))) (fun M11 => ?_)
    exact frm_some
set_option maxRecDepth 100000 in
theorem qX2_leave (a0 : Int32) (M : mv_M) : mv_frm (mv_S [] [(7, 8), (7, 9)]) (fX2_leave a0 M) M := by
  unfold fX2_leave
  refine frm_letM (sm_si (mv_Ss (by decide))) (fun M1 => ?_)
  refine frm_letM (sm_si (mv_Ss (by decide))) (fun M2 => ?_)
  exact frm_some
set_option maxRecDepth 100000 in
theorem qX2_thingOf (a0 : Int32) (a1 : Int32) (M : mv_M) : mv_frm (mv_S [] []) (fX2_thingOf a0 a1 M) M := by
  unfold fX2_thingOf
  refine frm_bind (by decide) (qX2_isPlace a0 a1 M) (fun r1 M2 => ?_)
  refine frm_if ?_ ?_
  · exact frm_some
  · refine frm_chk ?_
    exact frm_some
set_option maxRecDepth 100000 in
theorem qX2_nextPhase (a0 : Int32) (M : mv_M) : mv_frm (mv_S [53] []) (fX2_nextPhase a0 M) M := by
  unfold fX2_nextPhase
  refine frm_chk ?_
  refine frm_let (fun v2 => ?_)
  refine frm_chk ?_
  refine frm_chk ?_
  refine frm_letM (sm_si (mv_Sc (by decide))) (fun M5 => ?_)
  exact frm_some
set_option maxRecDepth 100000 in
theorem qX7_has (a0 : Int32) (M : mv_M) : mv_frm (mv_S [] []) (fX7_has a0 M) M := by
  unfold fX7_has
  refine frm_if ?_ ?_
  · exact frm_some
  · refine frm_if ?_ ?_
    · exact frm_some
    · exact frm_some
set_option maxRecDepth 100000 in
theorem qX2_settle (a0 : Int32) (M : mv_M) : mv_frm (mv_S [57, 58] []) (fX2_settle a0 M) M := by
  unfold fX2_settle
  refine frm_bind (by decide) (qX7_has a0 M) (fun r1 M2 => ?_)
  refine frm_if ?_ ?_
  · exact frm_some
  · refine frm_if ?_ ?_
    · refine frm_chk ?_
      refine frm_letM (sm_si (mv_Sc (by decide))) (fun M4 => ?_)
      refine frm_chk ?_
      refine frm_letM (sm_si (mv_Sc (by decide))) (fun M6 => ?_)
      exact frm_some
    · exact frm_some
set_option maxRecDepth 100000 in
theorem qX2_isToBeWorked_75 (M : mv_M) : mv_frm (mv_S [57, 59] [(7, 2), (7, 9)]) (fX2_isToBeWorked_75 M) M := by
  unfold fX2_isToBeWorked_75
  refine frm_letM (sm_si (mv_Ss (by decide))) (fun M12 => ?_)
  exact frm_some
set_option maxRecDepth 100000 in
theorem qX2_isToBeWorked (a0 : Int32) (M : mv_M) : mv_frm (mv_S [57, 59] [(7, 2), (7, 9)]) (fX2_isToBeWorked a0 M) M := by
  unfold fX2_isToBeWorked
  refine frm_bind (by decide) (qX7_has a0 M) (fun r1 M2 => ?_)
  refine frm_if ?_ ?_
  · refine frm_letM (sm_si (mv_Ss (by decide))) (fun M11 => ?_)
    exact frm_some
  · refine frm_chk ?_
    refine frm_letM (sm_si (mv_Sc (by decide))) (fun M4 => ?_)
    refine frm_chk ?_
    refine frm_if ?_ ?_
    · refine frm_chk ?_
      refine frm_letM (sm_si (mv_Ss (by decide))) (fun M10 => ?_)
      exact frm_some
    · refine frm_chk ?_
      refine frm_if ?_ ?_
      · refine frm_if ?_ ?_
        · refine frm_chk ?_
          refine frm_letM (sm_si (mv_Sc (by decide))) (fun M8 => ?_)
          exact frm_some
        · exact qX2_isToBeWorked_75 M4
      · exact qX2_isToBeWorked_75 M4
set_option maxRecDepth 100000 in
theorem qX2_goOnName (a0 : Int32) (a1 : Int32) (M : mv_M) : mv_frm (mv_S [51, 52, 53, 57, 58, 59] [(7, 2), (7, 3), (7, 5), (7, 8), (7, 9)]) (fX2_goOnName a0 a1 M) M := by
  unfold fX2_goOnName
  refine frm_chk ?_
  refine frm_getp (fun b2 hb2 => ?_)
  refine frm_chk ?_
  refine frm_bind (by decide) (qX2_thingOf (M.1 52 a1.toNatClampNeg) (M.1 (b2 + 9) a0.toNatClampNeg) M) (fun r4 M5 => ?_)
  refine frm_bind (by decide) (qX2_nextPhase a1 M5) (fun r6 M7 => ?_)
  refine frm_if ?_ ?_
  · refine frm_bind (by decide) (qX2_isToBeWorked r4 M7) (fun r8 M9 => ?_)
    refine frm_if ?_ ?_
    · refine frm_if ?_ ?_
      · refine frm_bind (by decide) (qX2_leave (M9.1 7 9) M9) (fun _ M10 => ?_)
        exact frm_some
      · exact frm_some
    · refine frm_chk ?_
      refine frm_chk ?_
      refine frm_bind (by decide) (qX2_enter (M9.1 55 r4.toNatClampNeg) (M9.1 56 r4.toNatClampNeg) M9) (fun _ M13 => ?_)
      exact frm_some
  · refine frm_bind (by decide) (qX2_settle r4 M7) (fun _ M14 => ?_)
    refine frm_bind (by decide) (qX2_leave (M14.1 7 9) M14) (fun _ M15 => ?_)
    exact frm_some
set_option maxRecDepth 100000 in
theorem qX2_goOnIf_86 (x3 : Int32) (s0 : Int32) (M : mv_M) : mv_frm (mv_S [51, 52, 53] [(7, 2), (7, 3), (7, 5), (7, 8), (7, 9)]) (fX2_goOnIf_86 x3 s0 M) M := by
  unfold fX2_goOnIf_86
  refine frm_bind (by decide) (qX2_enter s0 x3 M) (fun _ M15 => ?_)
  exact frm_some
set_option maxRecDepth 100000 in
theorem qX2_goOnIf (a0 : Int32) (a1 : Int32) (M : mv_M) : mv_frm (mv_S [51, 52, 53] [(7, 2), (7, 3), (7, 5), (7, 8), (7, 9)]) (fX2_goOnIf a0 a1 M) M := by
  unfold fX2_goOnIf
  refine frm_chk ?_
  refine frm_let (fun v2 => ?_)
  refine frm_bind (by decide) (qX2_nextPhase a1 M) (fun r3 M4 => ?_)
  refine frm_if ?_ ?_
  · refine frm_getp (fun b6 hb6 => ?_)
    refine frm_chk ?_
    refine frm_bind (by decide) (qX2_enter (M4.1 (b6 + 9) a0.toNatClampNeg) v2 M4) (fun _ M8 => ?_)
    exact frm_some
  · skip
    refine frm_if ?_ ?_
    · refine frm_if ?_ ?_
      · refine frm_getp (fun b12 hb12 => ?_)
        refine frm_chk ?_
        exact qX2_goOnIf_86 v2 (M4.1 (b12 + 11) a0.toNatClampNeg) M4
      · refine frm_getp (fun b10 hb10 => ?_)
        refine frm_chk ?_
        exact qX2_goOnIf_86 v2 (M4.1 (b10 + 10) a0.toNatClampNeg) M4
    · skip
      refine frm_bind (by decide) (qX2_leave (M4.1 7 9) M4) (fun _ M14 => ?_)
      exact frm_some
set_option maxRecDepth 100000 in
theorem qX7_add (a0 : Int32) (a1 : Int32) (M : mv_M) : mv_frm (mv_S [55, 56, 57, 59] [(8, 0)]) (fX7_add a0 a1 M) M := by
  unfold fX7_add
  refine frm_if ?_ ?_
  · refine frm_let (fun v1 => ?_)
    refine frm_letM (sm_si (mv_Ss (by decide))) (fun M2 => ?_)
    refine frm_chk ?_
    refine frm_letM (sm_si (mv_Sc (by decide))) (fun M4 => ?_)
    refine frm_chk ?_
    refine frm_letM (sm_si (mv_Sc (by decide))) (fun M6 => ?_)
    refine frm_chk ?_
    refine frm_letM (sm_si (mv_Sc (by decide))) (fun M8 => ?_)
    refine frm_chk ?_
    refine frm_letM (sm_si (mv_Sc (by decide))) (fun M10 => ?_)
    exact frm_some
  · exact frm_some
set_option maxRecDepth 100000 in
theorem qX2_thingFor_39 (x1 : Int32) (x2 : Int32) (M : mv_M) : mv_frm (mv_S [55, 56, 57, 59] [(7, 2), (8, 0)]) (fX2_thingFor_39 x1 x2 M) M := by
  unfold fX2_thingFor_39
  refine frm_bind (by decide) (qX7_add x1 x2 M) (fun r10 M11 => ?_)
  refine frm_if ?_ ?_
  · refine frm_letM (sm_si (mv_Ss (by decide))) (fun M12 => ?_)
    exact frm_some
  · exact frm_some
set_option maxRecDepth 100000 in
theorem qX2_thingFor (a0 : Int32) (a1 : Int32) (M : mv_M) : mv_frm (mv_S [55, 56, 57, 59] [(7, 2), (8, 0)]) (fX2_thingFor a0 a1 M) M := by
  unfold fX2_thingFor
  refine frm_getp (fun b1 hb1 => ?_)
  refine frm_bind (by decide) (qX4_hasNode b1 a0 M) (fun r2 M3 => ?_)
  refine frm_if ?_ ?_
  · exact qX2_thingFor_39 a0 a1 M3
  · refine frm_getp (fun b4 hb4 => ?_)
    refine frm_chk ?_
    refine frm_if ?_ ?_
    · refine frm_getp (fun b6 hb6 => ?_)
      refine frm_chk ?_
      refine frm_bind (by decide) (qX2_thingOf a1 (M3.1 (b6 + 9) a0.toNatClampNeg) M3) (fun r8 M9 => ?_)
      exact frm_some
    · exact qX2_thingFor_39 a0 a1 M3
set_option maxRecDepth 100000 in
theorem qX2_goOnLet (a0 : Int32) (a1 : Int32) (M : mv_M) : mv_frm (mv_S [50, 51, 52, 53, 55, 56, 57, 59] [(7, 2), (7, 3), (7, 5), (7, 8), (7, 9), (8, 0)]) (fX2_goOnLet a0 a1 M) M := by
  unfold fX2_goOnLet
  refine frm_chk ?_
  refine frm_let (fun v2 => ?_)
  refine frm_bind (by decide) (qX2_nextPhase a1 M) (fun r3 M4 => ?_)
  refine frm_if ?_ ?_
  · refine frm_getp (fun b5 hb5 => ?_)
    refine frm_chk ?_
    refine frm_getp (fun b7 hb7 => ?_)
    refine frm_chk ?_
    refine frm_bind (by decide) (qX2_thingFor (M4.1 (b7 + 9) a0.toNatClampNeg) v2 M4) (fun r9 M10 => ?_)
    refine frm_bind (by decide) (qX2_bind v2 (M4.1 (b5 + 11) a0.toNatClampNeg) r9 M10) (fun _ M11 => ?_)
    refine frm_if ?_ ?_
    · refine frm_getp (fun b12 hb12 => ?_)
      refine frm_chk ?_
      refine frm_bind (by decide) (qX2_enter (M11.1 (b12 + 10) a0.toNatClampNeg) v2 M11) (fun _ M14 => ?_)
      exact frm_some
    · exact frm_some
  · refine frm_bind (by decide) (qX2_leave (M4.1 7 9) M4) (fun _ M15 => ?_)
    exact frm_some
set_option maxRecDepth 100000 in
theorem qX2_goOnCase_125 (x1 : Int32) (x3 : Int32) (M : mv_M) : mv_frm (mv_S [50, 51, 52, 53] [(7, 2), (7, 3), (7, 5), (7, 8), (7, 9)]) (fX2_goOnCase_125 x1 x3 M) M := by
  unfold fX2_goOnCase_125
  refine frm_getp (fun b21 hb21 => ?_)
  refine frm_chk ?_
  refine frm_bind (by decide) (qX2_enter (M.1 (b21 + 10) x1.toNatClampNeg) x3 M) (fun _ M23 => ?_)
  exact frm_some
set_option maxRecDepth 100000 in
theorem qX2_goOnCase (a0 : Int32) (a1 : Int32) (M : mv_M) : mv_frm (mv_S [50, 51, 52, 53] [(7, 2), (7, 3), (7, 5), (7, 8), (7, 9)]) (fX2_goOnCase a0 a1 M) M := by
  unfold fX2_goOnCase
  refine frm_chk ?_
  refine frm_let (fun v2 => ?_)
  refine frm_bind (by decide) (qX2_nextPhase a1 M) (fun r3 M4 => ?_)
  refine frm_if ?_ ?_
  · refine frm_getp (fun b6 hb6 => ?_)
    refine frm_chk ?_
    refine frm_bind (by decide) (qX2_enter (M4.1 (b6 + 9) a0.toNatClampNeg) v2 M4) (fun _ M8 => ?_)
    exact frm_some
  · skip
    refine frm_if ?_ ?_
    · refine frm_bind (by decide) (qX7_has (M4.1 7 9) M4) (fun r10 M11 => ?_)
      refine frm_if ?_ ?_
      · exact qX2_goOnCase_125 a0 v2 M11
      · refine frm_getp (fun b12 hb12 => ?_)
        refine frm_chk ?_
        refine frm_chk ?_
        refine frm_bind (by decide) (qX2_bind v2 (M11.1 (b12 + 11) a0.toNatClampNeg) (M11.1 60 (M11.1 7 9).toNatClampNeg) M11) (fun _ M15 => ?_)
        refine frm_getp (fun b16 hb16 => ?_)
        refine frm_chk ?_
        refine frm_chk ?_
        refine frm_bind (by decide) (qX2_bind v2 ((M15.1 (b16 + 11) a0.toNatClampNeg) + 1) (M15.1 61 (M15.1 7 9).toNatClampNeg) M15) (fun _ M19 => ?_)
        exact qX2_goOnCase_125 a0 v2 M19
    · skip
      refine frm_bind (by decide) (qX2_leave (M4.1 7 9) M4) (fun _ M20 => ?_)
      exact frm_some
set_option maxRecDepth 100000 in
theorem qX7_addPair (M : mv_M) : mv_frm (mv_S [] [(8, 1)]) (fX7_addPair M) M := by
  unfold fX7_addPair
  refine frm_if ?_ ?_
  · refine frm_letM (sm_si (mv_Ss (by decide))) (fun M1 => ?_)
    exact frm_some
  · exact frm_some
set_option maxRecDepth 100000 in
theorem qX2_makePair (a0 : Int32) (a1 : Int32) (M : mv_M) : mv_frm (mv_S [55, 56, 57, 59, 60, 61] [(7, 2), (7, 8), (7, 9), (8, 0), (8, 1)]) (fX2_makePair a0 a1 M) M := by
  unfold fX2_makePair
  refine frm_bind (by decide) (qX7_addPair M) (fun r1 M2 => ?_)
  refine frm_if ?_ ?_
  · refine frm_letM (sm_si (mv_Ss (by decide))) (fun M16 => ?_)
    exact frm_some
  · refine frm_getp (fun b3 hb3 => ?_)
    refine frm_chk ?_
    refine frm_bind (by decide) (qX2_thingFor (M2.1 (b3 + 9) a0.toNatClampNeg) a1 M2) (fun r5 M6 => ?_)
    refine frm_chk ?_
    refine frm_letM (sm_si (mv_Sc (by decide))) (fun M8 => ?_)
    refine frm_getp (fun b9 hb9 => ?_)
    refine frm_chk ?_
    refine frm_bind (by decide) (qX2_thingFor (M8.1 (b9 + 10) a0.toNatClampNeg) a1 M8) (fun r11 M12 => ?_)
    refine frm_chk ?_
    refine frm_letM (sm_si (mv_Sc (by decide))) (fun M14 => ?_)
    refine frm_bind (by decide) (qX2_leave r1 M14) (fun _ M15 => ?_)
    exact frm_some
set_option maxRecDepth 100000 in
theorem qX2_goOnCall_46 (M : mv_M) : mv_frm (mv_S [50, 51, 52, 53, 55, 56, 57, 59] [(7, 2), (7, 3), (7, 4), (7, 5), (7, 8), (7, 9), (8, 0)]) (fX2_goOnCall_46 M) M := by
  unfold fX2_goOnCall_46
  refine frm_letM (sm_si (mv_Ss (by decide))) (fun M14 => ?_)
  exact frm_some
set_option maxRecDepth 100000 in
theorem qX2_goOnCall_144 (x1 : Int32) (x3 : Int32) (M : mv_M) : mv_frm (mv_S [50, 51, 52, 53, 55, 56, 57, 59] [(7, 2), (7, 3), (7, 4), (7, 5), (7, 8), (7, 9), (8, 0)]) (fX2_goOnCall_144 x1 x3 M) M := by
  unfold fX2_goOnCall_144
  refine frm_if ?_ ?_
  · refine frm_getp (fun b28 hb28 => ?_)
    refine frm_getp (fun b29 hb29 => ?_)
    refine frm_chk ?_
    refine frm_chk ?_
    refine frm_bind (by decide) (qX2_enter (M.1 (b28 + 5) (M.1 (b29 + 9) x1.toNatClampNeg).toNatClampNeg) x3 M) (fun _ M32 => ?_)
    exact frm_some
  · exact frm_some
set_option maxRecDepth 100000 in
theorem qX2_goOnCall_81 (x1 : Int32) (x2 : Int32) (x3 : Int32) (x4 : Int32) (x5 : Int32) (M : mv_M) : mv_frm (mv_S [50, 51, 52, 53, 55, 56, 57, 59] [(7, 2), (7, 3), (7, 4), (7, 5), (7, 8), (7, 9), (8, 0)]) (fX2_goOnCall_81 x1 x2 x3 x4 x5 M) M := by
  unfold fX2_goOnCall_81
  refine frm_loop ?_ _ M
  rintro ⟨x1, x2, x3, x4, x5⟩ M
  try dsimp only
  unfold gX2_goOnCall_81
  refine frm_getp (fun b15 hb15 => ?_)
  refine frm_chk ?_
  refine frm_if ?_ ?_
  · exact frm_inr (qX2_goOnCall_144 x1 x3 M)
  · refine frm_getp (fun b17 hb17 => ?_)
    refine frm_bind (by decide) (qX4_hasNode b17 x4 M) (fun r18 M19 => ?_)
    refine frm_if ?_ ?_
    · exact frm_inr (qX2_goOnCall_144 x1 x3 M19)
    · refine frm_chk ?_
      refine frm_bind (by decide) (qX2_thingFor x4 (M19.1 52 x2.toNatClampNeg) M19) (fun r21 M22 => ?_)
      refine frm_bind (by decide) (qX2_bind x3 x5 r21 M22) (fun _ M23 => ?_)
      refine frm_getp (fun b24 hb24 => ?_)
      refine frm_chk ?_
      refine frm_let (fun v26 => ?_)
      refine frm_let (fun v27 => ?_)
      exact frm_some
set_option maxRecDepth 100000 in
theorem qX2_goOnCall (a0 : Int32) (a1 : Int32) (M : mv_M) : mv_frm (mv_S [50, 51, 52, 53, 55, 56, 57, 59] [(7, 2), (7, 3), (7, 4), (7, 5), (7, 8), (7, 9), (8, 0)]) (fX2_goOnCall a0 a1 M) M := by
  unfold fX2_goOnCall
  refine frm_bind (by decide) (qX2_nextPhase a1 M) (fun r1 M2 => ?_)
  refine frm_if ?_ ?_
  · refine frm_if ?_ ?_
    · exact qX2_goOnCall_46 M2
    · refine frm_getp (fun b3 hb3 => ?_)
      refine frm_getp (fun b4 hb4 => ?_)
      refine frm_chk ?_
      refine frm_bind (by decide) (qX4_hasFunction b3 (M2.1 (b4 + 9) a0.toNatClampNeg) M2) (fun r6 M7 => ?_)
      refine frm_if ?_ ?_
      · exact qX2_goOnCall_46 M7
      · refine frm_letM (sm_si (mv_Ss (by decide))) (fun M8 => ?_)
        refine frm_let (fun v9 => ?_)
        refine frm_getp (fun b10 hb10 => ?_)
        refine frm_chk ?_
        refine frm_let (fun v12 => ?_)
        exact qX2_goOnCall_81 a0 a1 v9 v12 0 M8
  · refine frm_bind (by decide) (qX2_leave (M2.1 7 9) M2) (fun _ M13 => ?_)
    exact frm_some
set_option maxRecDepth 100000 in
theorem qX2_reckon (a0 : Int32) (a1 : Int32) (a2 : Int32) (M : mv_M) : mv_frm (mv_S [] []) (fX2_reckon a0 a1 a2 M) M := by
  unfold fX2_reckon
  refine frm_if ?_ ?_
  · exact frm_some
  · skip
    refine frm_if ?_ ?_
    · exact frm_some
    · skip
      refine frm_if ?_ ?_
      · exact frm_some
      · skip
        refine frm_if ?_ ?_
        · refine frm_if ?_ ?_
          · exact frm_some
          · exact frm_some
        · skip
          refine frm_if ?_ ?_
          · exact frm_some
          · exact frm_some
set_option maxRecDepth 100000 in
theorem qX2_goOnSign (a0 : Int32) (a1 : Int32) (M : mv_M) : mv_frm (mv_S [51, 52, 53, 54] [(7, 2), (7, 3), (7, 5), (7, 8), (7, 9)]) (fX2_goOnSign a0 a1 M) M := by
  unfold fX2_goOnSign
  refine frm_chk ?_
  refine frm_let (fun v2 => ?_)
  refine frm_bind (by decide) (qX2_nextPhase a1 M) (fun r3 M4 => ?_)
  refine frm_if ?_ ?_
  · refine frm_getp (fun b6 hb6 => ?_)
    refine frm_chk ?_
    refine frm_bind (by decide) (qX2_enter (M4.1 (b6 + 9) a0.toNatClampNeg) v2 M4) (fun _ M8 => ?_)
    exact frm_some
  · skip
    refine frm_if ?_ ?_
    · refine frm_chk ?_
      refine frm_letM (sm_si (mv_Sc (by decide))) (fun M11 => ?_)
      refine frm_getp (fun b12 hb12 => ?_)
      refine frm_chk ?_
      refine frm_bind (by decide) (qX2_enter (M11.1 (b12 + 10) a0.toNatClampNeg) v2 M11) (fun _ M14 => ?_)
      exact frm_some
    · skip
      refine frm_getp (fun b15 hb15 => ?_)
      refine frm_chk ?_
      refine frm_chk ?_
      refine frm_bind (by decide) (qX2_reckon (M4.1 (b15 + 8) a0.toNatClampNeg) (M4.1 54 a1.toNatClampNeg) (M4.1 7 9) M4) (fun r18 M19 => ?_)
      refine frm_bind (by decide) (qX2_leave r18 M19) (fun _ M20 => ?_)
      exact frm_some
set_option maxRecDepth 100000 in
theorem qX2_goOn (a0 : Int32) (M : mv_M) : mv_frm (mv_S [50, 51, 52, 53, 54, 55, 56, 57, 58, 59, 60, 61] [(7, 2), (7, 3), (7, 4), (7, 5), (7, 8), (7, 9), (8, 0), (8, 1)]) (fX2_goOn a0 M) M := by
  unfold fX2_goOn
  refine frm_chk ?_
  refine frm_let (fun v2 => ?_)
  refine frm_getp (fun b3 hb3 => ?_)
  refine frm_bind (by decide) (qX4_hasNode b3 v2 M) (fun r4 M5 => ?_)
  refine frm_if ?_ ?_
  · refine frm_letM (sm_si (mv_Ss (by decide))) (fun M28 => ?_)
    exact frm_some
  · refine frm_getp (fun b6 hb6 => ?_)
    refine frm_chk ?_
    refine frm_if ?_ ?_
    · refine frm_bind (by decide) (qX2_goOnName v2 a0 M5) (fun _ M9 => ?_)
      exact frm_some
    · skip
      refine frm_if ?_ ?_
      · refine frm_getp (fun b11 hb11 => ?_)
        refine frm_chk ?_
        refine frm_bind (by decide) (qX2_leave (M5.1 (b11 + 9) v2.toNatClampNeg) M5) (fun _ M13 => ?_)
        exact frm_some
      · skip
        refine frm_if ?_ ?_
        · refine frm_bind (by decide) (qX2_goOnCall v2 a0 M5) (fun _ M15 => ?_)
          exact frm_some
        · skip
          refine frm_if ?_ ?_
          · refine frm_chk ?_
            refine frm_bind (by decide) (qX2_makePair v2 (M5.1 52 a0.toNatClampNeg) M5) (fun _ M18 => ?_)
            exact frm_some
          · skip
            refine frm_if ?_ ?_
            · refine frm_bind (by decide) (qX2_goOnIf v2 a0 M5) (fun _ M20 => ?_)
              exact frm_some
            · skip
              refine frm_if ?_ ?_
              · refine frm_bind (by decide) (qX2_goOnLet v2 a0 M5) (fun _ M22 => ?_)
                exact frm_some
              · skip
                refine frm_if ?_ ?_
                · refine frm_bind (by decide) (qX2_goOnCase v2 a0 M5) (fun _ M24 => ?_)
                  exact frm_some
                · skip
                  refine frm_if ?_ ?_
                  · refine frm_letM (sm_si (mv_Ss (by decide))) (fun M26 => ?_)
                    exact frm_some
                  · skip
                    refine frm_bind (by decide) (qX2_goOnSign v2 a0 M5) (fun _ M27 => ?_)
                    exact frm_some
set_option maxRecDepth 100000 in
theorem qX2_workOut_8 (x3 : Int32) (M : mv_M) : mv_frm (mv_S [50, 51, 52, 53, 54, 55, 56, 57, 58, 59, 60, 61] [(7, 2), (7, 3), (7, 4), (7, 5), (7, 8), (7, 9), (8, 0), (8, 1)]) (fX2_workOut_8 x3 M) M := by
  unfold fX2_workOut_8
  refine frm_loop ?_ _ M
  intro x3 M
  try dsimp only
  unfold gX2_workOut_8
  refine frm_if ?_ ?_
  · exact frm_some
  · refine frm_if ?_ ?_
    · exact frm_some
    · refine frm_if ?_ ?_
      · refine frm_bind (by decide) (qX2_goOn ((M.1 7 8) - 1) M) (fun _ M2 => ?_)
        refine frm_let (fun v3 => ?_)
        exact frm_some
      · exact frm_some
set_option maxRecDepth 100000 in
theorem qX2_workOut (a0 : Int32) (a1 : Int32) (M : mv_M) : mv_frm (mv_S [50, 51, 52, 53, 54, 55, 56, 57, 58, 59, 60, 61] [(7, 2), (7, 3), (7, 4), (7, 5), (7, 8), (7, 9), (8, 0), (8, 1)]) (fX2_workOut a0 a1 M) M := by
  unfold fX2_workOut
  refine frm_bind (by decide) (qX2_enter a0 a1 M) (fun _ M1 => ?_)
  exact qX2_workOut_8 0 M1
set_option maxRecDepth 100000 in
theorem qX2_needPart_47 {r_X2_needParts : Int32 → Int32 → Int32 → mv_M → Option (Unit × mv_M)} (hq_X2_needParts : ∀ (a0 : Int32) (a1 : Int32) (a2 : Int32) (M : mv_M), mv_frm (mv_S [50, 51, 52, 53, 54, 55, 56, 57, 58, 59, 60, 61] [(7, 2), (7, 3), (7, 4), (7, 5), (7, 8), (7, 9), (8, 0), (8, 1)]) (r_X2_needParts a0 a1 a2 M) M) (x2 : Int32) (x3 : Int32) (M : mv_M) : mv_frm (mv_S [50, 51, 52, 53, 54, 55, 56, 57, 58, 59, 60, 61] [(7, 2), (7, 3), (7, 4), (7, 5), (7, 8), (7, 9), (8, 0), (8, 1)]) (fX2_needPart_47 r_X2_needParts x2 x3 M) M := by
  unfold fX2_needPart_47
  refine frm_bind (by decide) (hq_X2_needParts (M.1 7 9) x2 x3 M) (fun _ M7 => ?_)
  exact frm_some
set_option maxRecDepth 100000 in
theorem qX2_needPart {r_X2_needParts : Int32 → Int32 → Int32 → mv_M → Option (Unit × mv_M)} (hq_X2_needParts : ∀ (a0 : Int32) (a1 : Int32) (a2 : Int32) (M : mv_M), mv_frm (mv_S [50, 51, 52, 53, 54, 55, 56, 57, 58, 59, 60, 61] [(7, 2), (7, 3), (7, 4), (7, 5), (7, 8), (7, 9), (8, 0), (8, 1)]) (r_X2_needParts a0 a1 a2 M) M) (a0 : Int32) (a1 : Int32) (a2 : Int32) (M : mv_M) : mv_frm (mv_S [50, 51, 52, 53, 54, 55, 56, 57, 58, 59, 60, 61] [(7, 2), (7, 3), (7, 4), (7, 5), (7, 8), (7, 9), (8, 0), (8, 1)]) (fX2_needPart r_X2_needParts a0 a1 a2 M) M := by
  unfold fX2_needPart
  refine frm_if ?_ ?_
  · exact frm_some
  · refine frm_if ?_ ?_
    · refine frm_bind (by decide) (qX2_isToBeWorked a0 M) (fun r1 M2 => ?_)
      refine frm_if ?_ ?_
      · exact qX2_needPart_47 hq_X2_needParts a1 a2 M2
      · refine frm_chk ?_
        refine frm_chk ?_
        refine frm_bind (by decide) (qX2_workOut (M2.1 55 a0.toNatClampNeg) (M2.1 56 a0.toNatClampNeg) M2) (fun _ M5 => ?_)
        refine frm_bind (by decide) (qX2_settle a0 M5) (fun _ M6 => ?_)
        exact qX2_needPart_47 hq_X2_needParts a1 a2 M6
    · exact frm_some
set_option maxRecDepth 100000 in
theorem qX2_needParts {r_X2_needPart : Int32 → Int32 → Int32 → mv_M → Option (Unit × mv_M)} (hq_X2_needPart : ∀ (a0 : Int32) (a1 : Int32) (a2 : Int32) (M : mv_M), mv_frm (mv_S [50, 51, 52, 53, 54, 55, 56, 57, 58, 59, 60, 61] [(7, 2), (7, 3), (7, 4), (7, 5), (7, 8), (7, 9), (8, 0), (8, 1)]) (r_X2_needPart a0 a1 a2 M) M) (a0 : Int32) (a1 : Int32) (a2 : Int32) (M : mv_M) : mv_frm (mv_S [50, 51, 52, 53, 54, 55, 56, 57, 58, 59, 60, 61] [(7, 2), (7, 3), (7, 4), (7, 5), (7, 8), (7, 9), (8, 0), (8, 1)]) (fX2_needParts r_X2_needPart a0 a1 a2 M) M := by
  unfold fX2_needParts
  refine frm_if ?_ ?_
  · exact frm_some
  · refine frm_if ?_ ?_
    · refine frm_bind (by decide) (qX7_has a0 M) (fun r1 M2 => ?_)
      refine frm_if ?_ ?_
      · exact frm_some
      · refine frm_chk ?_
        refine frm_bind (by decide) (qX6_firstOf a1 M2) (fun r4 M5 => ?_)
        refine frm_bind (by decide) (qX6_askedOfFirst a1 a2 M5) (fun r6 M7 => ?_)
        refine frm_bind (by decide) (hq_X2_needPart (M2.1 60 a0.toNatClampNeg) r4 r6 M7) (fun _ M8 => ?_)
        refine frm_chk ?_
        refine frm_bind (by decide) (qX6_secondOf a1 M8) (fun r10 M11 => ?_)
        refine frm_bind (by decide) (qX6_askedOfSecond a1 a2 M11) (fun r12 M13 => ?_)
        refine frm_bind (by decide) (hq_X2_needPart (M8.1 61 a0.toNatClampNeg) r10 r12 M13) (fun _ M14 => ?_)
        exact frm_some
    · exact frm_some
theorem qRX2_needParts : ∀ (n s : Nat) (a0 : Int32) (a1 : Int32) (a2 : Int32) (M : mv_M), mv_frm (mv_S [50, 51, 52, 53, 54, 55, 56, 57, 58, 59, 60, 61] [(7, 2), (7, 3), (7, 4), (7, 5), (7, 8), (7, 9), (8, 0), (8, 1)]) (RX2_needParts n s a0 a1 a2 M) M := by
  intro n
  induction n with
  | zero =>
    intro s a0 a1 a2 M
    rw [RX2_needParts]
    exact frm_none
  | succ n ih =>
    intro s a0 a1 a2 M
    rw [RX2_needParts]
    refine frm_if ?_ ?_
    · exact qX2_needParts (fun a0 a1 a2 M => ih 1 a0 a1 a2 M) a0 a1 a2 M
    exact qX2_needPart (fun a0 a1 a2 M => ih 0 a0 a1 a2 M) a0 a1 a2 M

theorem qtX2_needParts (a0 : Int32) (a1 : Int32) (a2 : Int32) (M : mv_M) : mv_frm (mv_S [50, 51, 52, 53, 54, 55, 56, 57, 58, 59, 60, 61] [(7, 2), (7, 3), (7, 4), (7, 5), (7, 8), (7, 9), (8, 0), (8, 1)]) (tX2_needParts a0 a1 a2 M) M := qRX2_needParts 12 0 a0 a1 a2 M
theorem qtX2_needPart (a0 : Int32) (a1 : Int32) (a2 : Int32) (M : mv_M) : mv_frm (mv_S [50, 51, 52, 53, 54, 55, 56, 57, 58, 59, 60, 61] [(7, 2), (7, 3), (7, 4), (7, 5), (7, 8), (7, 9), (8, 0), (8, 1)]) (tX2_needPart a0 a1 a2 M) M := qRX2_needParts 12 1 a0 a1 a2 M
set_option maxRecDepth 100000 in
theorem qX2_perform (a0 : Int32) (M : mv_M) : mv_frm (mv_S [50, 51, 52, 53, 54, 55, 56, 57, 58, 59, 60, 61] [(7, 2), (7, 3), (7, 4), (7, 5), (7, 8), (7, 9), (7, 10), (8, 0), (8, 1)]) (fX2_perform a0 M) M := by
  unfold fX2_perform
  refine frm_getp (fun b1 hb1 => ?_)
  refine frm_chk ?_
  refine frm_bind (by decide) (qX2_workOut (M.1 (b1 + 5) (M.1 7 1).toNatClampNeg) 0 M) (fun _ M3 => ?_)
  refine frm_letM (sm_si (mv_Ss (by decide))) (fun M4 => ?_)
  refine frm_getp (fun b5 hb5 => ?_)
  refine frm_chk ?_
  refine frm_bind (by decide) (qtX2_needParts (M4.1 7 10) (M4.1 (b5 + 4) (M4.1 7 1).toNatClampNeg) a0 M4) (fun _ M7 => ?_)
  refine frm_if ?_ ?_
  · refine frm_letM (sm_si (mv_Ss (by decide))) (fun M8 => ?_)
    exact frm_some
  · exact frm_some
set_option maxRecDepth 100000 in
theorem qX10_run_37 (M : mv_M) : mv_frm (mv_S [50, 51, 52, 53, 54, 55, 56, 57, 58, 59, 60, 61] [(6, 0), (7, 1), (7, 2), (7, 3), (7, 4), (7, 5), (7, 6), (7, 7), (7, 8), (7, 9), (7, 10), (8, 0), (8, 1)]) (fX10_run_37 M) M := by
  unfold fX10_run_37
  exact frm_some
set_option maxRecDepth 100000 in
theorem qX10_run (a0 : Int32) (a1 : Int32) (a2 : Int32) (M : mv_M) : mv_frm (mv_S [50, 51, 52, 53, 54, 55, 56, 57, 58, 59, 60, 61] [(6, 0), (7, 1), (7, 2), (7, 3), (7, 4), (7, 5), (7, 6), (7, 7), (7, 8), (7, 9), (7, 10), (8, 0), (8, 1)]) (fX10_run a0 a1 a2 M) M := by
  unfold fX10_run
  refine frm_getp (fun b1 hb1 => ?_)
  refine frm_if ?_ ?_
  · exact frm_some
  · refine frm_bindx (by decide) (qX10_requireRow a0 a1 M) (fun _ M2 => ?_)
    refine frm_if ?_ ?_
    · exact qX10_run_37 M2
    · refine frm_if ?_ ?_
      · refine frm_getp (fun b3 hb3 => ?_)
        refine frm_bind (by decide) (qX1_fit b3 a0 M2) (fun r4 M5 => ?_)
        refine frm_if ?_ ?_
        · exact frm_some
        · refine frm_getp (fun b6 hb6 => ?_)
          refine frm_bind (by decide) (qX2_start b6 a0 a2 M5) (fun _ M7 => ?_)
          refine frm_bind (by decide) (qX2_perform a1 M7) (fun _ M8 => ?_)
          refine frm_letM (sm_si (mv_Ss (by decide))) (fun M9 => ?_)
          exact frm_some
      · exact qX10_run_37 M2
set_option maxRecDepth 100000 in
theorem qX7_neverNeeded_24 (x1 : Int32) (x2 : Int32) (M : mv_M) : mv_frm (mv_S [] []) (fX7_neverNeeded_24 x1 x2 M) M := by
  unfold fX7_neverNeeded_24
  refine frm_let (fun v3 => ?_)
  exact frm_some
set_option maxRecDepth 100000 in
theorem qX7_neverNeeded_4 (x1 : Int32) (x2 : Int32) (M : mv_M) : mv_frm (mv_S [] []) (fX7_neverNeeded_4 x1 x2 M) M := by
  unfold fX7_neverNeeded_4
  refine frm_loop ?_ _ M
  rintro ⟨x1, x2⟩ M
  try dsimp only
  unfold gX7_neverNeeded_4
  refine frm_if ?_ ?_
  · exact frm_some
  · refine frm_chk ?_
    refine frm_if ?_ ?_
    · refine frm_let (fun v2 => ?_)
      exact qX7_neverNeeded_24 v2 x2 M
    · exact qX7_neverNeeded_24 x1 x2 M
set_option maxRecDepth 100000 in
theorem qX7_neverNeeded (M : mv_M) : mv_frm (mv_S [] []) (fX7_neverNeeded M) M := by
  unfold fX7_neverNeeded
  exact qX7_neverNeeded_4 0 0 M
set_option maxRecDepth 100000 in
theorem qX10_told (a0 : Int32) (M : mv_M) : mv_frm (mv_S [] []) (fX10_told a0 M) M := by
  unfold fX10_told
  refine frm_if ?_ ?_
  · exact frm_some
  · skip
    refine frm_if ?_ ?_
    · exact frm_some
    · skip
      refine frm_if ?_ ?_
      · exact frm_some
      · skip
        refine frm_if ?_ ?_
        · exact frm_some
        · skip
          refine frm_if ?_ ?_
          · exact frm_some
          · skip
            refine frm_if ?_ ?_
            · refine frm_bind (by decide) (qX7_neverNeeded M) (fun r7 M8 => ?_)
              exact frm_some
            · skip
              refine frm_if ?_ ?_
              · exact frm_some
              · skip
                exact frm_some
set_option maxRecDepth 100000 in
theorem qX2_typeAt {r_X2_typeAt : Int32 → mv_M → Option (Int32 × mv_M)} (hq_X2_typeAt : ∀ (a0 : Int32) (M : mv_M), mv_frm (mv_S [] []) (r_X2_typeAt a0 M) M) (a0 : Int32) (M : mv_M) : mv_frm (mv_S [] []) (fX2_typeAt r_X2_typeAt a0 M) M := by
  unfold fX2_typeAt
  refine frm_if ?_ ?_
  · refine frm_bind (by decide) (hq_X2_typeAt ((a0 - 1) / 2) M) (fun r1 M2 => ?_)
    refine frm_if ?_ ?_
    · refine frm_if ?_ ?_
      · refine frm_bind (by decide) (qX6_firstOf r1 M2) (fun r5 M6 => ?_)
        exact frm_some
      · refine frm_bind (by decide) (qX6_secondOf r1 M2) (fun r3 M4 => ?_)
        exact frm_some
    · exact frm_some
  · refine frm_getp (fun b7 hb7 => ?_)
    refine frm_chk ?_
    exact frm_some
theorem qRX2_typeAt : ∀ (n s : Nat) (a0 : Int32) (M : mv_M), mv_frm (mv_S [] []) (RX2_typeAt n s a0 M) M := by
  intro n
  induction n with
  | zero =>
    intro s a0 M
    rw [RX2_typeAt]
    exact frm_none
  | succ n ih =>
    intro s a0 M
    rw [RX2_typeAt]
    exact qX2_typeAt (fun a0 M => ih 0 a0 M) a0 M

theorem qtX2_typeAt (a0 : Int32) (M : mv_M) : mv_frm (mv_S [] []) (tX2_typeAt a0 M) M := qRX2_typeAt 12 0 a0 M
set_option maxRecDepth 100000 in
theorem qX7_hasValue (a0 : Int32) (M : mv_M) : mv_frm (mv_S [] []) (fX7_hasValue a0 M) M := by
  unfold fX7_hasValue
  refine frm_bind (by decide) (qX7_has a0 M) (fun r1 M2 => ?_)
  refine frm_if ?_ ?_
  · exact frm_some
  · refine frm_chk ?_
    refine frm_if ?_ ?_
    · exact frm_some
    · exact frm_some
set_option maxRecDepth 100000 in
theorem qX2_thingAt_43 {r_X2_thingAt : Int32 → mv_M → Option (Int32 × mv_M)} (hq_X2_thingAt : ∀ (a0 : Int32) (M : mv_M), mv_frm (mv_S [] []) (r_X2_thingAt a0 M) M) (x1 : Int32) (x2 : Int32) (M : mv_M) : mv_frm (mv_S [] []) (fX2_thingAt_43 r_X2_thingAt x1 x2 M) M := by
  unfold fX2_thingAt_43
  refine frm_bind (by decide) (qX7_has x2 M) (fun r8 M9 => ?_)
  refine frm_if ?_ ?_
  · exact frm_some
  · refine frm_if ?_ ?_
    · refine frm_chk ?_
      exact frm_some
    · refine frm_chk ?_
      exact frm_some
set_option maxRecDepth 100000 in
theorem qX2_thingAt {r_X2_thingAt : Int32 → mv_M → Option (Int32 × mv_M)} (hq_X2_thingAt : ∀ (a0 : Int32) (M : mv_M), mv_frm (mv_S [] []) (r_X2_thingAt a0 M) M) (a0 : Int32) (M : mv_M) : mv_frm (mv_S [] []) (fX2_thingAt r_X2_thingAt a0 M) M := by
  unfold fX2_thingAt
  refine frm_let (fun v1 => ?_)
  refine frm_if ?_ ?_
  · exact qX2_thingAt_43 hq_X2_thingAt a0 v1 M
  · refine frm_bind (by decide) (hq_X2_thingAt ((a0 - 1) / 2) M) (fun r2 M3 => ?_)
    refine frm_bind (by decide) (qX7_hasValue r2 M3) (fun r4 M5 => ?_)
    refine frm_if ?_ ?_
    · exact frm_some
    · refine frm_chk ?_
      refine frm_let (fun v7 => ?_)
      exact qX2_thingAt_43 hq_X2_thingAt a0 v7 M5
theorem qRX2_thingAt : ∀ (n s : Nat) (a0 : Int32) (M : mv_M), mv_frm (mv_S [] []) (RX2_thingAt n s a0 M) M := by
  intro n
  induction n with
  | zero =>
    intro s a0 M
    rw [RX2_thingAt]
    exact frm_none
  | succ n ih =>
    intro s a0 M
    rw [RX2_thingAt]
    exact qX2_thingAt (fun a0 M => ih 0 a0 M) a0 M

theorem qtX2_thingAt (a0 : Int32) (M : mv_M) : mv_frm (mv_S [] []) (tX2_thingAt a0 M) M := qRX2_thingAt 12 0 a0 M
set_option maxRecDepth 100000 in
theorem qX2_hasNumber_37 (M : mv_M) : mv_frm (mv_S [] []) (fX2_hasNumber_37 M) M := by
  unfold fX2_hasNumber_37
  exact frm_some
set_option maxRecDepth 100000 in
theorem qX2_hasNumber (a0 : Int32) (M : mv_M) : mv_frm (mv_S [] []) (fX2_hasNumber a0 M) M := by
  unfold fX2_hasNumber
  refine frm_if ?_ ?_
  · refine frm_bind (by decide) (qtX2_typeAt a0 M) (fun r1 M2 => ?_)
    refine frm_if ?_ ?_
    · refine frm_if ?_ ?_
      · exact qX2_hasNumber_37 M2
      · refine frm_bind (by decide) (qtX2_thingAt a0 M2) (fun r3 M4 => ?_)
        refine frm_bind (by decide) (qX7_hasValue r3 M4) (fun r5 M6 => ?_)
        refine frm_if ?_ ?_
        · exact frm_some
        · exact qX2_hasNumber_37 M6
    · exact frm_some
  · exact frm_some
set_option maxRecDepth 100000 in
theorem qX2_numberAt (a0 : Int32) (M : mv_M) : mv_frm (mv_S [] []) (fX2_numberAt a0 M) M := by
  unfold fX2_numberAt
  refine frm_if ?_ ?_
  · exact frm_some
  · refine frm_bind (by decide) (qtX2_thingAt a0 M) (fun r1 M2 => ?_)
    refine frm_bind (by decide) (qX7_has r1 M2) (fun r3 M4 => ?_)
    refine frm_if ?_ ?_
    · exact frm_some
    · refine frm_chk ?_
      exact frm_some
set_option maxRecDepth 100000 in
theorem qX10_result_21 (M : mv_M) : mv_frm (mv_S [] []) (fX10_result_21 M) M := by
  unfold fX10_result_21
  exact frm_some
set_option maxRecDepth 100000 in
theorem qX10_result (a0 : Int32) (M : mv_M) : mv_frm (mv_S [] []) (fX10_result a0 M) M := by
  unfold fX10_result
  refine frm_if ?_ ?_
  · exact qX10_result_21 M
  · refine frm_if ?_ ?_
    · exact qX10_result_21 M
    · refine frm_bind (by decide) (qX2_hasNumber a0 M) (fun r1 M2 => ?_)
      refine frm_if ?_ ?_
      · exact qX10_result_21 M2
      · refine frm_bind (by decide) (qX2_numberAt a0 M2) (fun r3 M4 => ?_)
        exact frm_some
set_option maxRecDepth 100000 in
theorem qX2_wasParamNeeded (a0 : Int32) (M : mv_M) : mv_frm (mv_S [] []) (fX2_wasParamNeeded a0 M) M := by
  unfold fX2_wasParamNeeded
  refine frm_bind (by decide) (qX2_thingOf 0 a0 M) (fun r1 M2 => ?_)
  refine frm_bind (by decide) (qX7_has r1 M2) (fun r3 M4 => ?_)
  refine frm_if ?_ ?_
  · exact frm_some
  · refine frm_chk ?_
    refine frm_if ?_ ?_
    · exact frm_some
    · exact frm_some
set_option maxRecDepth 100000 in
theorem qX10_needed (a0 : Int32) (M : mv_M) : mv_frm (mv_S [] []) (fX10_needed a0 M) M := by
  unfold fX10_needed
  refine frm_getp (fun b1 hb1 => ?_)
  refine frm_bind (by decide) (qX4_hasParam b1 (M.1 7 1) a0 M) (fun r2 M3 => ?_)
  refine frm_if ?_ ?_
  · exact frm_some
  · refine frm_bind (by decide) (qX2_wasParamNeeded a0 M3) (fun r4 M5 => ?_)
    refine frm_chk ?_
    exact frm_some
set_option maxRecDepth 100000 in
theorem qX11_thrown (M : mv_M) : mv_frm (mv_S [] []) (fX11_thrown M) M := by
  unfold fX11_thrown
  exact frm_some
set_option maxRecDepth 100000 in
theorem qX11_within (a0 : Int64) (a1 : Int64) (a2 : Int64) (M : mv_M) : mv_frm (mv_S [] []) (fX11_within a0 a1 a2 M) M := by
  unfold fX11_within
  refine frm_if ?_ ?_
  · exact frm_some
  · refine frm_if ?_ ?_
    · exact frm_some
    · exact frm_some
set_option maxRecDepth 100000 in
theorem qX11_feed_87 (x1 : Int32) (x2 : Int32) (x3 : Int32) (x4 : Int32) (x5 : Int32) (x6 : Int32) (s0 : Int32) (M : mv_M) : mv_frm (mv_S [63] [(62, 0), (62, 2)]) (fX11_feed_87 x1 x2 x3 x4 x5 x6 s0 M) M := by
  unfold fX11_feed_87
  refine frm_chk ?_
  refine frm_letM (sm_si (mv_Sc (by decide))) (fun M3 => ?_)
  refine frm_letM (sm_si (mv_Ss (by decide))) (fun M4 => ?_)
  refine frm_let (fun v5 => ?_)
  exact frm_some
set_option maxRecDepth 100000 in
theorem qX11_feed_34 (x1 : Int32) (x2 : Int32) (x3 : Int32) (x4 : Int32) (x5 : Int32) (x6 : Int32) (M : mv_M) : mv_frm (mv_S [63] [(62, 0), (62, 2)]) (fX11_feed_34 x1 x2 x3 x4 x5 x6 M) M := by
  unfold fX11_feed_34
  refine frm_loop ?_ _ M
  rintro ⟨x1, x2, x3, x4, x5, x6⟩ M
  try dsimp only
  unfold gX11_feed_34
  refine frm_if ?_ ?_
  · exact frm_some
  · refine frm_if ?_ ?_
    · refine frm_if ?_ ?_
      · refine frm_if ?_ ?_
        · refine frm_if ?_ ?_
          · exact qX11_feed_87 x1 x2 x3 x4 x5 x6 x5 M
          · exact qX11_feed_87 x1 x2 x3 x4 x5 x6 x4 M
        · exact qX11_feed_87 x1 x2 x3 x4 x5 x6 x3 M
      · exact qX11_feed_87 x1 x2 x3 x4 x5 x6 x2 M
    · exact qX11_feed_87 x1 x2 x3 x4 x5 x6 x1 M
set_option maxRecDepth 100000 in
theorem qX11_feed_19 (x1 : Int32) (x2 : Int32) (x3 : Int32) (x4 : Int32) (x5 : Int32) (s0 : Int32) (M : mv_M) : mv_frm (mv_S [63] [(62, 0), (62, 2)]) (fX11_feed_19 x1 x2 x3 x4 x5 s0 M) M := by
  unfold fX11_feed_19
  refine frm_letM (sm_si (mv_Ss (by decide))) (fun M1 => ?_)
  refine frm_if ?_ ?_
  · exact qX11_feed_34 x1 x2 x3 x4 x5 0 M1
  · exact frm_some
set_option maxRecDepth 100000 in
theorem qX11_feed (a0 : Int32) (a1 : Int32) (a2 : Int32) (a3 : Int32) (a4 : Int32) (M : mv_M) : mv_frm (mv_S [63] [(62, 0), (62, 2)]) (fX11_feed a0 a1 a2 a3 a4 M) M := by
  unfold fX11_feed
  refine frm_if ?_ ?_
  · exact qX11_feed_19 a0 a1 a2 a3 a4 0 M
  · exact qX11_feed_19 a0 a1 a2 a3 a4 1 M
set_option maxRecDepth 100000 in
theorem qX11_cut_20 (x1 : Int32) (s0 : Int32) (M : mv_M) : mv_frm (mv_S [] [(62, 0), (62, 2)]) (fX11_cut_20 x1 s0 M) M := by
  unfold fX11_cut_20
  refine frm_letM (sm_si (mv_Ss (by decide))) (fun M3 => ?_)
  refine frm_if ?_ ?_
  · refine frm_let (fun v4 => ?_)
    refine frm_letM (sm_si (mv_Ss (by decide))) (fun M5 => ?_)
    exact frm_some
  · exact frm_some
set_option maxRecDepth 100000 in
theorem qX11_cut (a0 : Int32) (M : mv_M) : mv_frm (mv_S [] [(62, 0), (62, 2)]) (fX11_cut a0 M) M := by
  unfold fX11_cut
  refine frm_bind (by decide) (qX11_within (a0.toInt64) 0 ((M.1 62 2).toInt64) M) (fun r1 M2 => ?_)
  refine frm_if ?_ ?_
  · exact qX11_cut_20 a0 1 M2
  · exact qX11_cut_20 a0 0 M2
set_option maxRecDepth 100000 in
theorem qX11_firstOf (a0 : Int32) (M : mv_M) : mv_frm (mv_S [] []) (fX11_firstOf a0 M) M := by
  unfold fX11_firstOf
  refine frm_if ?_ ?_
  · exact frm_some
  · exact frm_some
set_option maxRecDepth 100000 in
theorem qX11_secondOf_10 (M : mv_M) : mv_frm (mv_S [] []) (fX11_secondOf_10 M) M := by
  unfold fX11_secondOf_10
  exact frm_some
set_option maxRecDepth 100000 in
theorem qX11_secondOf (a0 : Int32) (M : mv_M) : mv_frm (mv_S [] []) (fX11_secondOf a0 M) M := by
  unfold fX11_secondOf
  refine frm_if ?_ ?_
  · exact qX11_secondOf_10 M
  · refine frm_if ?_ ?_
    · exact qX11_secondOf_10 M
    · exact frm_some
set_option maxRecDepth 100000 in
theorem qX11_pairOf_10 (M : mv_M) : mv_frm (mv_S [] []) (fX11_pairOf_10 M) M := by
  unfold fX11_pairOf_10
  exact frm_some
set_option maxRecDepth 100000 in
theorem qX11_pairOf (a0 : Int32) (a1 : Int32) (M : mv_M) : mv_frm (mv_S [] []) (fX11_pairOf a0 a1 M) M := by
  unfold fX11_pairOf
  refine frm_if ?_ ?_
  · exact qX11_pairOf_10 M
  · refine frm_if ?_ ?_
    · exact frm_some
    · exact qX11_pairOf_10 M
set_option maxRecDepth 100000 in
theorem qX11_demands (a0 : Int32) (M : mv_M) : mv_frm (mv_S [] []) (fX11_demands a0 M) M := by
  unfold fX11_demands
  refine frm_if ?_ ?_
  · exact frm_some
  · refine frm_if ?_ ?_
    · exact frm_some
    · refine frm_if ?_ ?_
      · exact frm_some
      · exact frm_some
set_option maxRecDepth 100000 in
theorem qX11_nearBoth_8 (x0 : Int32) (x1 : Int32) (x2 : Int32) (M : mv_M) : mv_frm (mv_S [] []) (fX11_nearBoth_8 x0 x1 x2 M) M := by
  unfold fX11_nearBoth_8
  refine frm_if ?_ ?_
  · exact frm_some
  · exact frm_some
set_option maxRecDepth 100000 in
theorem qX11_nearBoth_83 (s0 : Int32) (s1 : Int32) (M : mv_M) : mv_frm (mv_S [] []) (fX11_nearBoth_83 s0 s1 M) M := by
  unfold fX11_nearBoth_83
  exact frm_some
set_option maxRecDepth 100000 in
theorem qX11_nearBoth_64 (x2 : Int32) (x4 : Int32) (x6 : Int32) (s0 : Int32) (s1 : Int32) (s2 : Int32) (M : mv_M) : mv_frm (mv_S [] []) (fX11_nearBoth_64 x2 x4 x6 s0 s1 s2 M) M := by
  unfold fX11_nearBoth_64
  refine frm_if ?_ ?_
  · exact qX11_nearBoth_83 (x4 &&& x6) (s2 + (s1 * s0)) M
  · exact qX11_nearBoth_83 (x4 ||| x6) (s2 + (s1 * s0)) M
set_option maxRecDepth 100000 in
theorem qX11_nearBoth (a0 : Int32) (a1 : Int32) (a2 : Int32) (M : mv_M) : mv_frm (mv_S [] []) (fX11_nearBoth a0 a1 a2 M) M := by
  unfold fX11_nearBoth
  refine frm_if ?_ ?_
  · exact qX11_nearBoth_8 a0 a1 a2 M
  · refine frm_if ?_ ?_
    · exact qX11_nearBoth_8 a0 a1 a2 M
    · refine frm_let (fun v1 => ?_)
      refine frm_let (fun v2 => ?_)
      refine frm_let (fun v3 => ?_)
      refine frm_let (fun v4 => ?_)
      refine frm_if ?_ ?_
      · exact qX11_nearBoth_64 a2 v2 v4 (v1 &&& v3) 2 1 M
      · exact qX11_nearBoth_64 a2 v2 v4 (v1 ||| v3) 2 1 M
set_option maxRecDepth 100000 in
theorem qX11_partBoth (a0 : Int32) (a1 : Int32) (a2 : Int32) (a3 : Int32) (M : mv_M) : mv_frm (mv_S [] []) (fX11_partBoth a0 a1 a2 a3 M) M := by
  unfold fX11_partBoth
  refine frm_if ?_ ?_
  · refine frm_if ?_ ?_
    · exact frm_some
    · exact frm_some
  · refine frm_bind (by decide) (qX11_nearBoth a1 a2 a3 M) (fun r1 M2 => ?_)
    exact frm_some
set_option maxRecDepth 100000 in
theorem qX11_joined_20 (x1 : Int32) (x2 : Int32) (x3 : Int32) (M : mv_M) : mv_frm (mv_S [] []) (fX11_joined_20 x1 x2 x3 M) M := by
  unfold fX11_joined_20
  refine frm_if ?_ ?_
  · exact frm_some
  · exact frm_some
set_option maxRecDepth 100000 in
theorem qX11_joined_12 (x1 : Int32) (x2 : Int32) (x3 : Int32) (M : mv_M) : mv_frm (mv_S [] []) (fX11_joined_12 x1 x2 x3 M) M := by
  unfold fX11_joined_12
  refine frm_if ?_ ?_
  · exact qX11_joined_20 x1 x2 x3 M
  · refine frm_if ?_ ?_
    · exact qX11_joined_20 x1 x2 x3 M
    · exact frm_some
set_option maxRecDepth 100000 in
theorem qX11_joined (a0 : Int32) (a1 : Int32) (a2 : Int32) (a3 : Int32) (M : mv_M) : mv_frm (mv_S [] []) (fX11_joined a0 a1 a2 a3 M) M := by
  unfold fX11_joined
  refine frm_if ?_ ?_
  · exact qX11_joined_12 a1 a2 a3 M
  · refine frm_if ?_ ?_
    · exact qX11_joined_12 a1 a2 a3 M
    · refine frm_if ?_ ?_
      · exact qX11_joined_12 a1 a2 a3 M
      · refine frm_bind (by decide) (qX11_secondOf a0 M) (fun r1 M2 => ?_)
        refine frm_bind (by decide) (qX11_demands r1 M2) (fun r3 M4 => ?_)
        refine frm_bind (by decide) (qX11_firstOf a0 M4) (fun r5 M6 => ?_)
        refine frm_chk ?_
        refine frm_chk ?_
        refine frm_bind (by decide) (qX11_partBoth r5 ((a1 - 1) / r3) ((a2 - 1) / r3) a3 M6) (fun r9 M10 => ?_)
        refine frm_bind (by decide) (qX11_secondOf a0 M10) (fun r11 M12 => ?_)
        refine frm_chk ?_
        refine frm_chk ?_
        refine frm_bind (by decide) (qX11_partBoth r11 ((a1 - 1) - (a1 - 1) / r3 * r3) ((a2 - 1) - (a2 - 1) / r3 * r3) a3 M12) (fun r15 M16 => ?_)
        exact frm_some
set_option maxRecDepth 100000 in
theorem qX11_stop (a0 : Int32) (a1 : Int32) (M : mv_M) : mv_frm (mv_S [] [(62, 9), (62, 10)]) (fX11_stop a0 a1 M) M := by
  unfold fX11_stop
  refine frm_if ?_ ?_
  · refine frm_letM (sm_si (mv_Ss (by decide))) (fun M1 => ?_)
    refine frm_letM (sm_si (mv_Ss (by decide))) (fun M2 => ?_)
    exact frm_some
  · exact frm_some
set_option maxRecDepth 100000 in
theorem qX11_isDigit (a0 : Int32) (M : mv_M) : mv_frm (mv_S [] []) (fX11_isDigit a0 M) M := by
  unfold fX11_isDigit
  refine frm_if ?_ ?_
  · exact frm_some
  · refine frm_if ?_ ?_
    · exact frm_some
    · exact frm_some
set_option maxRecDepth 100000 in
theorem qX11_isRow_19 (M : mv_M) : mv_frm (mv_S [] []) (fX11_isRow_19 M) M := by
  unfold fX11_isRow_19
  exact frm_some
set_option maxRecDepth 100000 in
theorem qX11_isRow (a0 : Int32) (M : mv_M) : mv_frm (mv_S [] []) (fX11_isRow a0 M) M := by
  unfold fX11_isRow
  refine frm_bind (by decide) (qX11_isDigit a0 M) (fun r1 M2 => ?_)
  refine frm_if ?_ ?_
  · refine frm_if ?_ ?_
    · exact frm_some
    · refine frm_if ?_ ?_
      · exact frm_some
      · exact qX11_isRow_19 M2
  · exact qX11_isRow_19 M2
set_option maxRecDepth 100000 in
theorem qX11_packed (a0 : Int32) (a1 : Int32) (a2 : Int32) (a3 : Int32) (M : mv_M) : mv_frm (mv_S [] []) (fX11_packed a0 a1 a2 a3 M) M := by
  unfold fX11_packed
  exact frm_some
set_option maxRecDepth 100000 in
theorem qX11_wordOf (a0 : Int64) (M : mv_M) : mv_frm (mv_S [] []) (fX11_wordOf a0 M) M := by
  unfold fX11_wordOf
  refine frm_bind (by decide) (qX11_packed 0 110 117 109 M) (fun r1 M2 => ?_)
  refine frm_if ?_ ?_
  · exact frm_some
  · refine frm_bind (by decide) (qX11_packed 0 0 105 102 M2) (fun r3 M4 => ?_)
    refine frm_if ?_ ?_
    · exact frm_some
    · refine frm_bind (by decide) (qX11_packed 116 104 101 110 M4) (fun r5 M6 => ?_)
      refine frm_if ?_ ?_
      · exact frm_some
      · refine frm_bind (by decide) (qX11_packed 101 108 115 101 M6) (fun r7 M8 => ?_)
        refine frm_if ?_ ?_
        · exact frm_some
        · refine frm_bind (by decide) (qX11_packed 0 108 101 116 M8) (fun r9 M10 => ?_)
          refine frm_if ?_ ?_
          · exact frm_some
          · refine frm_bind (by decide) (qX11_packed 0 0 105 110 M10) (fun r11 M12 => ?_)
            refine frm_if ?_ ?_
            · exact frm_some
            · refine frm_bind (by decide) (qX11_packed 99 97 115 101 M12) (fun r13 M14 => ?_)
              refine frm_if ?_ ?_
              · exact frm_some
              · refine frm_bind (by decide) (qX11_packed 0 0 111 102 M14) (fun r15 M16 => ?_)
                refine frm_if ?_ ?_
                · exact frm_some
                · refine frm_bind (by decide) (qX11_packed 102 97 105 108 M16) (fun r17 M18 => ?_)
                  refine frm_if ?_ ?_
                  · exact frm_some
                  · exact frm_some
set_option maxRecDepth 100000 in
theorem qX11_row_109 (x1 : Int32) (x2 : Int64) (s0 : Int64) (M : mv_M) : mv_frm (mv_S [] [(62, 3), (62, 4), (62, 7), (62, 8), (62, 9), (62, 10)]) (fX11_row_109 x1 x2 s0 M) M := by
  unfold fX11_row_109
  refine frm_letM (sm_si (mv_Ss (by decide))) (fun M18 => ?_)
  exact frm_some
set_option maxRecDepth 100000 in
theorem qX11_row_57 (x2 : Int64) (x4 : Int64) (s0 : Int32) (M : mv_M) : mv_frm (mv_S [] [(62, 3), (62, 4), (62, 7), (62, 8), (62, 9), (62, 10)]) (fX11_row_57 x2 x4 s0 M) M := by
  unfold fX11_row_57
  refine frm_chk ?_
  refine frm_let (fun v14 => ?_)
  refine frm_if ?_ ?_
  · refine frm_chk ?_
    exact qX11_row_109 s0 v14 (((10 * x4) + ((M.1 63 (M.1 62 3).toNatClampNeg).toInt64)) - 48) M
  · exact qX11_row_109 s0 v14 x4 M
set_option maxRecDepth 100000 in
theorem qX11_row_56 (x2 : Int64) (x4 : Int64) (M : mv_M) : mv_frm (mv_S [] [(62, 3), (62, 4), (62, 7), (62, 8), (62, 9), (62, 10)]) (fX11_row_56 x2 x4 M) M := by
  unfold fX11_row_56
  exact qX11_row_57 x2 x4 0 M
set_option maxRecDepth 100000 in
theorem qX11_row_229 (M : mv_M) : mv_frm (mv_S [] [(62, 3), (62, 4), (62, 7), (62, 8), (62, 9), (62, 10)]) (fX11_row_229 M) M := by
  unfold fX11_row_229
  refine frm_if ?_ ?_
  · refine frm_bind (by decide) (qX11_stop 1 (M.1 62 5) M) (fun _ M21 => ?_)
    exact frm_some
  · exact frm_some
set_option maxRecDepth 100000 in
theorem qX11_row_168 (x4 : Int64) (s0 : Int32) (M : mv_M) : mv_frm (mv_S [] [(62, 3), (62, 4), (62, 7), (62, 8), (62, 9), (62, 10)]) (fX11_row_168 x4 s0 M) M := by
  unfold fX11_row_168
  refine frm_letM (sm_si (mv_Ss (by decide))) (fun M16 => ?_)
  refine frm_letM (sm_si (mv_Ss (by decide))) (fun M17 => ?_)
  exact qX11_row_229 M17
set_option maxRecDepth 100000 in
theorem qX11_row_167 (x4 : Int64) (M : mv_M) : mv_frm (mv_S [] [(62, 3), (62, 4), (62, 7), (62, 8), (62, 9), (62, 10)]) (fX11_row_167 x4 M) M := by
  unfold fX11_row_167
  exact qX11_row_168 x4 0 M
set_option maxRecDepth 100000 in
theorem qX11_row_221 (x2 : Int64) (s0 : Int32) (M : mv_M) : mv_frm (mv_S [] [(62, 3), (62, 4), (62, 7), (62, 8), (62, 9), (62, 10)]) (fX11_row_221 x2 s0 M) M := by
  unfold fX11_row_221
  refine frm_letM (sm_si (mv_Ss (by decide))) (fun M19 => ?_)
  refine frm_letM (sm_sl (mv_Ss (by decide))) (fun M20 => ?_)
  exact qX11_row_229 M20
set_option maxRecDepth 100000 in
theorem qX11_row_195 (x2 : Int64) (x6 : Int32) (s0 : Int32) (M : mv_M) : mv_frm (mv_S [] [(62, 3), (62, 4), (62, 7), (62, 8), (62, 9), (62, 10)]) (fX11_row_195 x2 x6 s0 M) M := by
  unfold fX11_row_195
  refine frm_if ?_ ?_
  · refine frm_if ?_ ?_
    · exact qX11_row_221 x2 0 M
    · exact qX11_row_221 x2 10 M
  · exact qX11_row_221 x2 s0 M
set_option maxRecDepth 100000 in
theorem qX11_row_124 (x1 : Int32) (x2 : Int64) (x4 : Int64) (M : mv_M) : mv_frm (mv_S [] [(62, 3), (62, 4), (62, 7), (62, 8), (62, 9), (62, 10)]) (fX11_row_124 x1 x2 x4 M) M := by
  unfold fX11_row_124
  refine frm_let (fun v7 => ?_)
  refine frm_chk ?_
  refine frm_bind (by decide) (qX11_isDigit (M.1 63 (M.1 62 5).toNatClampNeg) M) (fun r9 M10 => ?_)
  refine frm_if ?_ ?_
  · refine frm_if ?_ ?_
    · exact qX11_row_195 x2 v7 0 M10
    · refine frm_bind (by decide) (qX11_wordOf x2 M10) (fun r11 M12 => ?_)
      exact qX11_row_195 x2 v7 r11 M12
  · refine frm_if ?_ ?_
    · exact qX11_row_167 x4 M10
    · refine frm_if ?_ ?_
      · exact qX11_row_167 x4 M10
      · exact qX11_row_168 x4 11 M10
set_option maxRecDepth 100000 in
theorem qX11_row_7 (x1 : Int32) (x2 : Int64) (x4 : Int64) (M : mv_M) : mv_frm (mv_S [] [(62, 3), (62, 4), (62, 7), (62, 8), (62, 9), (62, 10)]) (fX11_row_7 x1 x2 x4 M) M := by
  unfold fX11_row_7
  refine frm_loop ?_ _ M
  rintro ⟨x1, x2, x4⟩ M
  try dsimp only
  unfold gX11_row_7
  refine frm_if ?_ ?_
  · exact frm_inr (qX11_row_124 x1 x2 x4 M)
  · refine frm_chk ?_
    refine frm_bind (by decide) (qX11_isRow (M.1 63 (M.1 62 3).toNatClampNeg) M) (fun r2 M3 => ?_)
    refine frm_if ?_ ?_
    · exact frm_inr (qX11_row_124 x1 x2 x4 M3)
    · refine frm_if ?_ ?_
      · exact qX11_row_56 x2 x4 M3
      · refine frm_chk ?_
        refine frm_bind (by decide) (qX11_isDigit (M3.1 63 (M3.1 62 3).toNatClampNeg) M3) (fun r5 M6 => ?_)
        refine frm_if ?_ ?_
        · exact qX11_row_56 x2 x4 M6
        · exact qX11_row_57 x2 x4 1 M6
set_option maxRecDepth 100000 in
theorem qX11_row (M : mv_M) : mv_frm (mv_S [] [(62, 3), (62, 4), (62, 7), (62, 8), (62, 9), (62, 10)]) (fX11_row M) M := by
  unfold fX11_row
  exact qX11_row_7 1 0 0 M
set_option maxRecDepth 100000 in
theorem qX11_next_39 (M : mv_M) : mv_frm (mv_S [] [(62, 3), (62, 4), (62, 5), (62, 6), (62, 7), (62, 8), (62, 9), (62, 10)]) (fX11_next_39 M) M := by
  unfold fX11_next_39
  refine frm_letM (sm_si (mv_Ss (by decide))) (fun M15 => ?_)
  exact frm_some
set_option maxRecDepth 100000 in
theorem qX11_next_280 (s0 : Int32) (M : mv_M) : mv_frm (mv_S [] [(62, 3), (62, 4), (62, 5), (62, 6), (62, 7), (62, 8), (62, 9), (62, 10)]) (fX11_next_280 s0 M) M := by
  unfold fX11_next_280
  refine frm_letM (sm_si (mv_Ss (by decide))) (fun M16 => ?_)
  refine frm_if ?_ ?_
  · refine frm_bind (by decide) (qX11_stop 1 (M16.1 62 5) M16) (fun _ M17 => ?_)
    exact frm_some
  · exact frm_some
set_option maxRecDepth 100000 in
theorem qX11_next_168 (x1 : Int32) (M : mv_M) : mv_frm (mv_S [] [(62, 3), (62, 4), (62, 5), (62, 6), (62, 7), (62, 8), (62, 9), (62, 10)]) (fX11_next_168 x1 M) M := by
  unfold fX11_next_168
  refine frm_if ?_ ?_
  · exact qX11_next_280 13 M
  · refine frm_if ?_ ?_
    · exact qX11_next_280 14 M
    · refine frm_if ?_ ?_
      · exact qX11_next_280 15 M
      · refine frm_if ?_ ?_
        · exact qX11_next_280 16 M
        · refine frm_if ?_ ?_
          · exact qX11_next_280 17 M
          · refine frm_if ?_ ?_
            · exact qX11_next_280 18 M
            · refine frm_if ?_ ?_
              · exact qX11_next_280 19 M
              · refine frm_if ?_ ?_
                · exact qX11_next_280 20 M
                · refine frm_if ?_ ?_
                  · exact qX11_next_280 21 M
                  · refine frm_if ?_ ?_
                    · exact qX11_next_280 22 M
                    · exact qX11_next_280 0 M
set_option maxRecDepth 100000 in
theorem qX11_next_52 (M : mv_M) : mv_frm (mv_S [] [(62, 3), (62, 4), (62, 5), (62, 6), (62, 7), (62, 8), (62, 9), (62, 10)]) (fX11_next_52 M) M := by
  unfold fX11_next_52
  refine frm_letM (sm_si (mv_Ss (by decide))) (fun M3 => ?_)
  refine frm_if ?_ ?_
  · refine frm_letM (sm_si (mv_Ss (by decide))) (fun M14 => ?_)
    exact frm_some
  · refine frm_letM (sm_si (mv_Ss (by decide))) (fun M4 => ?_)
    refine frm_chk ?_
    refine frm_let (fun v6 => ?_)
    refine frm_bind (by decide) (qX11_isRow v6 M4) (fun r7 M8 => ?_)
    refine frm_if ?_ ?_
    · refine frm_letM (sm_si (mv_Ss (by decide))) (fun M9 => ?_)
      refine frm_if ?_ ?_
      · refine frm_if ?_ ?_
        · exact qX11_next_168 v6 M9
        · refine frm_chk ?_
          refine frm_if ?_ ?_
          · refine frm_letM (sm_si (mv_Ss (by decide))) (fun M11 => ?_)
            refine frm_letM (sm_si (mv_Ss (by decide))) (fun M12 => ?_)
            exact frm_some
          · exact qX11_next_168 v6 M9
      · exact qX11_next_168 v6 M9
    · refine frm_bind (by decide) (qX11_row M8) (fun _ M13 => ?_)
      exact frm_some
set_option maxRecDepth 100000 in
theorem qX11_next_0 (M : mv_M) : mv_frm (mv_S [] [(62, 3), (62, 4), (62, 5), (62, 6), (62, 7), (62, 8), (62, 9), (62, 10)]) (fX11_next_0 M) M := by
  unfold fX11_next_0
  refine frm_loop ?_ _ M
  intro s M
  try dsimp only
  unfold gX11_next_0
  refine frm_if ?_ ?_
  · exact frm_inr (qX11_next_52 M)
  · refine frm_chk ?_
    refine frm_if ?_ ?_
    · exact qX11_next_39 M
    · refine frm_chk ?_
      refine frm_if ?_ ?_
      · exact qX11_next_39 M
      · exact frm_inr (qX11_next_52 M)
set_option maxRecDepth 100000 in
theorem qX11_next (M : mv_M) : mv_frm (mv_S [] [(62, 3), (62, 4), (62, 5), (62, 6), (62, 7), (62, 8), (62, 9), (62, 10)]) (fX11_next M) M := by
  unfold fX11_next
  exact qX11_next_0 M
set_option maxRecDepth 100000 in
theorem qX11_pass_27 (M : mv_M) : mv_frm (mv_S [] [(62, 3), (62, 4), (62, 5), (62, 6), (62, 7), (62, 8), (62, 9), (62, 10)]) (fX11_pass_27 M) M := by
  unfold fX11_pass_27
  refine frm_if ?_ ?_
  · refine frm_bind (by decide) (qX11_next M) (fun _ M2 => ?_)
    exact frm_some
  · exact frm_some
set_option maxRecDepth 100000 in
theorem qX11_pass (M : mv_M) : mv_frm (mv_S [] [(62, 3), (62, 4), (62, 5), (62, 6), (62, 7), (62, 8), (62, 9), (62, 10)]) (fX11_pass M) M := by
  unfold fX11_pass
  refine frm_if ?_ ?_
  · refine frm_if ?_ ?_
    · exact qX11_pass_27 M
    · refine frm_bind (by decide) (qX11_stop 6 (M.1 62 5) M) (fun _ M1 => ?_)
      exact qX11_pass_27 M1
  · exact qX11_pass_27 M
set_option maxRecDepth 100000 in
theorem qX11_want_24 (M : mv_M) : mv_frm (mv_S [] [(62, 3), (62, 4), (62, 5), (62, 6), (62, 7), (62, 8), (62, 9), (62, 10)]) (fX11_want_24 M) M := by
  unfold fX11_want_24
  refine frm_bind (by decide) (qX11_pass M) (fun _ M2 => ?_)
  exact frm_some
set_option maxRecDepth 100000 in
theorem qX11_want (a0 : Int32) (M : mv_M) : mv_frm (mv_S [] [(62, 3), (62, 4), (62, 5), (62, 6), (62, 7), (62, 8), (62, 9), (62, 10)]) (fX11_want a0 M) M := by
  unfold fX11_want
  refine frm_if ?_ ?_
  · refine frm_if ?_ ?_
    · exact qX11_want_24 M
    · refine frm_bind (by decide) (qX11_stop 2 (M.1 62 5) M) (fun _ M1 => ?_)
      exact qX11_want_24 M1
  · exact qX11_want_24 M
set_option maxRecDepth 100000 in
theorem qX11_node_20 (x1 : Int32) (x2 : Int32) (s0 : Int32) (M : mv_M) : mv_frm (mv_S [71, 75] [(62, 29)]) (fX11_node_20 x1 x2 s0 M) M := by
  unfold fX11_node_20
  refine frm_letM (sm_si (mv_Ss (by decide))) (fun M1 => ?_)
  refine frm_chk ?_
  refine frm_letM (sm_si (mv_Sc (by decide))) (fun M3 => ?_)
  refine frm_chk ?_
  refine frm_letM (sm_si (mv_Sc (by decide))) (fun M5 => ?_)
  exact frm_some
set_option maxRecDepth 100000 in
theorem qX11_node (a0 : Int32) (a1 : Int32) (M : mv_M) : mv_frm (mv_S [71, 75] [(62, 29)]) (fX11_node a0 a1 M) M := by
  unfold fX11_node
  refine frm_if ?_ ?_
  · exact qX11_node_20 a0 a1 2001 M
  · exact qX11_node_20 a0 a1 (M.1 62 29) M
set_option maxRecDepth 100000 in
theorem qX11_isParam_48 (x1 : Int64) (x4 : Int32) (s0 : Int32) (M : mv_M) : mv_frm (mv_S [] []) (fX11_isParam_48 x1 x4 s0 M) M := by
  unfold fX11_isParam_48
  refine frm_let (fun v4 => ?_)
  exact frm_some
set_option maxRecDepth 100000 in
theorem qX11_isParam_43 (x1 : Int64) (x4 : Int32) (M : mv_M) : mv_frm (mv_S [] []) (fX11_isParam_43 x1 x4 M) M := by
  unfold fX11_isParam_43
  exact qX11_isParam_48 x1 x4 1 M
set_option maxRecDepth 100000 in
theorem qX11_isParam_5 (x1 : Int64) (x3 : Int32) (x4 : Int32) (M : mv_M) : mv_frm (mv_S [] []) (fX11_isParam_5 x1 x3 x4 M) M := by
  unfold fX11_isParam_5
  refine frm_loop ?_ _ M
  rintro ⟨x1, x3, x4⟩ M
  try dsimp only
  unfold gX11_isParam_5
  refine frm_chk ?_
  refine frm_if ?_ ?_
  · refine frm_chk ?_
    exact frm_some
  · refine frm_if ?_ ?_
    · refine frm_chk ?_
      refine frm_if ?_ ?_
      · exact qX11_isParam_43 x1 x4 M
      · exact qX11_isParam_48 x1 x4 0 M
    · exact qX11_isParam_43 x1 x4 M
set_option maxRecDepth 100000 in
theorem qX11_isParam (a0 : Int64) (M : mv_M) : mv_frm (mv_S [] []) (fX11_isParam a0 M) M := by
  unfold fX11_isParam
  exact qX11_isParam_5 a0 0 0 M
set_option maxRecDepth 100000 in
theorem qX11_name_104 (M : mv_M) : mv_frm (mv_S [67, 69] [(62, 3), (62, 4), (62, 5), (62, 6), (62, 7), (62, 8), (62, 9), (62, 10)]) (fX11_name_104 M) M := by
  unfold fX11_name_104
  refine frm_if ?_ ?_
  · refine frm_chk ?_
    refine frm_let (fun v7 => ?_)
    refine frm_chk ?_
    refine frm_letM (sm_sl (mv_Sc (by decide))) (fun M9 => ?_)
    refine frm_chk ?_
    refine frm_chk ?_
    refine frm_letM (sm_si (mv_Sc (by decide))) (fun M12 => ?_)
    refine frm_bind (by decide) (qX11_pass M12) (fun _ M13 => ?_)
    exact frm_some
  · exact frm_some
set_option maxRecDepth 100000 in
theorem qX11_name_94 (M : mv_M) : mv_frm (mv_S [67, 69] [(62, 3), (62, 4), (62, 5), (62, 6), (62, 7), (62, 8), (62, 9), (62, 10)]) (fX11_name_94 M) M := by
  unfold fX11_name_94
  refine frm_bind (by decide) (qX11_stop 6 (M.1 62 5) M) (fun _ M15 => ?_)
  exact qX11_name_104 M15
set_option maxRecDepth 100000 in
theorem qX11_name_80 (M : mv_M) : mv_frm (mv_S [67, 69] [(62, 3), (62, 4), (62, 5), (62, 6), (62, 7), (62, 8), (62, 9), (62, 10)]) (fX11_name_80 M) M := by
  unfold fX11_name_80
  refine frm_chk ?_
  refine frm_if ?_ ?_
  · exact qX11_name_94 M
  · exact qX11_name_104 M
set_option maxRecDepth 100000 in
theorem qX11_name_56 (x1 : Int32) (M : mv_M) : mv_frm (mv_S [67, 69] [(62, 3), (62, 4), (62, 5), (62, 6), (62, 7), (62, 8), (62, 9), (62, 10)]) (fX11_name_56 x1 M) M := by
  unfold fX11_name_56
  refine frm_if ?_ ?_
  · refine frm_if ?_ ?_
    · exact qX11_name_80 M
    · refine frm_chk ?_
      refine frm_if ?_ ?_
      · exact qX11_name_94 M
      · exact qX11_name_80 M
  · exact qX11_name_104 M
set_option maxRecDepth 100000 in
theorem qX11_name_25 (x1 : Int32) (M : mv_M) : mv_frm (mv_S [67, 69] [(62, 3), (62, 4), (62, 5), (62, 6), (62, 7), (62, 8), (62, 9), (62, 10)]) (fX11_name_25 x1 M) M := by
  unfold fX11_name_25
  refine frm_if ?_ ?_
  · refine frm_if ?_ ?_
    · exact qX11_name_56 x1 M
    · refine frm_bind (by decide) (qX11_isParam (M.2.1 62 7) M) (fun r2 M3 => ?_)
      refine frm_if ?_ ?_
      · exact qX11_name_56 x1 M3
      · refine frm_bind (by decide) (qX11_stop 3 (M3.1 62 5) M3) (fun _ M4 => ?_)
        exact qX11_name_56 x1 M4
  · exact qX11_name_56 x1 M
set_option maxRecDepth 100000 in
theorem qX11_name (a0 : Int32) (M : mv_M) : mv_frm (mv_S [67, 69] [(62, 3), (62, 4), (62, 5), (62, 6), (62, 7), (62, 8), (62, 9), (62, 10)]) (fX11_name a0 M) M := by
  unfold fX11_name
  refine frm_if ?_ ?_
  · refine frm_if ?_ ?_
    · exact qX11_name_25 a0 M
    · refine frm_bind (by decide) (qX11_stop 2 (M.1 62 5) M) (fun _ M1 => ?_)
      exact qX11_name_25 a0 M1
  · exact qX11_name_25 a0 M
set_option maxRecDepth 100000 in
theorem qX11_push (a0 : Int32) (a1 : Int32) (M : mv_M) : mv_frm (mv_S [81, 82] [(62, 36)]) (fX11_push a0 a1 M) M := by
  unfold fX11_push
  refine frm_if ?_ ?_
  · exact frm_some
  · refine frm_chk ?_
    refine frm_letM (sm_si (mv_Sc (by decide))) (fun M2 => ?_)
    refine frm_chk ?_
    refine frm_letM (sm_si (mv_Sc (by decide))) (fun M4 => ?_)
    refine frm_letM (sm_si (mv_Ss (by decide))) (fun M5 => ?_)
    exact frm_some
set_option maxRecDepth 100000 in
theorem qX11_make (a0 : Int32) (M : mv_M) : mv_frm (mv_S [83] [(62, 38)]) (fX11_make a0 M) M := by
  unfold fX11_make
  refine frm_if ?_ ?_
  · exact frm_some
  · refine frm_chk ?_
    refine frm_letM (sm_si (mv_Sc (by decide))) (fun M2 => ?_)
    refine frm_letM (sm_si (mv_Ss (by decide))) (fun M3 => ?_)
    exact frm_some
set_option maxRecDepth 100000 in
theorem qX11_last_17 (s0 : Int32) (s1 : Int32) (M : mv_M) : mv_frm (mv_S [] [(62, 38)]) (fX11_last_17 s0 s1 M) M := by
  unfold fX11_last_17
  refine frm_letM (sm_si (mv_Ss (by decide))) (fun M1 => ?_)
  refine frm_chk ?_
  exact frm_some
set_option maxRecDepth 100000 in
theorem qX11_last (M : mv_M) : mv_frm (mv_S [] [(62, 38)]) (fX11_last M) M := by
  unfold fX11_last
  refine frm_if ?_ ?_
  · exact qX11_last_17 0 (M.1 62 38) M
  · exact qX11_last_17 1 (M.1 62 38) M
set_option maxRecDepth 100000 in
theorem qX11_onType (a0 : Int32) (a1 : Int32) (M : mv_M) : mv_frm (mv_S [81, 82, 84] [(62, 3), (62, 4), (62, 5), (62, 6), (62, 7), (62, 8), (62, 9), (62, 10), (62, 36), (62, 40)]) (fX11_onType a0 a1 M) M := by
  unfold fX11_onType
  refine frm_if ?_ ?_
  · refine frm_bind (by decide) (qX11_want a1 M) (fun _ M21 => ?_)
    exact frm_some
  · refine frm_if ?_ ?_
    · refine frm_letM (sm_si (mv_Ss (by decide))) (fun M13 => ?_)
      refine frm_chk ?_
      refine frm_chk ?_
      refine frm_bind (by decide) (qX11_pairOf (M13.1 84 (M13.1 62 40).toNatClampNeg) (M13.1 84 ((M13.1 62 40) + 1).toNatClampNeg) M13) (fun r16 M17 => ?_)
      refine frm_chk ?_
      refine frm_letM (sm_si (mv_Sc (by decide))) (fun M19 => ?_)
      refine frm_letM (sm_si (mv_Ss (by decide))) (fun M20 => ?_)
      exact frm_some
    · refine frm_if ?_ ?_
      · refine frm_chk ?_
        refine frm_letM (sm_si (mv_Sc (by decide))) (fun M10 => ?_)
        refine frm_letM (sm_si (mv_Ss (by decide))) (fun M11 => ?_)
        refine frm_bind (by decide) (qX11_pass M11) (fun _ M12 => ?_)
        exact frm_some
      · refine frm_if ?_ ?_
        · refine frm_if ?_ ?_
          · refine frm_bind (by decide) (qX11_stop 6 (M.1 62 5) M) (fun _ M7 => ?_)
            exact frm_some
          · refine frm_bind (by decide) (qX11_pass M) (fun _ M1 => ?_)
            refine frm_bind (by decide) (qX11_push 3 0 M1) (fun _ M2 => ?_)
            refine frm_bind (by decide) (qX11_push 1 15 M2) (fun _ M3 => ?_)
            refine frm_bind (by decide) (qX11_push 2 (a1 + 1) M3) (fun _ M4 => ?_)
            refine frm_bind (by decide) (qX11_push 1 16 M4) (fun _ M5 => ?_)
            refine frm_bind (by decide) (qX11_push 2 (a1 + 1) M5) (fun _ M6 => ?_)
            exact frm_some
        · refine frm_bind (by decide) (qX11_stop 2 (M.1 62 5) M) (fun _ M8 => ?_)
          exact frm_some
set_option maxRecDepth 100000 in
theorem qX11_begins_61 (M : mv_M) : mv_frm (mv_S [] []) (fX11_begins_61 M) M := by
  unfold fX11_begins_61
  exact frm_some
set_option maxRecDepth 100000 in
theorem qX11_begins (M : mv_M) : mv_frm (mv_S [] []) (fX11_begins M) M := by
  unfold fX11_begins
  refine frm_if ?_ ?_
  · exact qX11_begins_61 M
  · refine frm_if ?_ ?_
    · exact qX11_begins_61 M
    · refine frm_if ?_ ?_
      · exact qX11_begins_61 M
      · refine frm_if ?_ ?_
        · exact qX11_begins_61 M
        · refine frm_if ?_ ?_
          · exact qX11_begins_61 M
          · refine frm_if ?_ ?_
            · exact qX11_begins_61 M
            · refine frm_if ?_ ?_
              · exact qX11_begins_61 M
              · exact frm_some
set_option maxRecDepth 100000 in
theorem qX11_onE (M : mv_M) : mv_frm (mv_S [71, 75, 81, 82] [(62, 3), (62, 4), (62, 5), (62, 6), (62, 7), (62, 8), (62, 9), (62, 10), (62, 29), (62, 36), (62, 41)]) (fX11_onE M) M := by
  unfold fX11_onE
  refine frm_bind (by decide) (qX11_begins M) (fun r1 M2 => ?_)
  refine frm_if ?_ ?_
  · refine frm_bind (by decide) (qX11_stop 2 (M2.1 62 5) M2) (fun _ M46 => ?_)
    exact frm_some
  · refine frm_if ?_ ?_
    · refine frm_bind (by decide) (qX11_stop 6 (M2.1 62 5) M2) (fun _ M45 => ?_)
      exact frm_some
    · refine frm_letM (sm_si (mv_Ss (by decide))) (fun M3 => ?_)
      refine frm_bind (by decide) (qX11_push 5 0 M3) (fun _ M4 => ?_)
      refine frm_if ?_ ?_
      · refine frm_bind (by decide) (qX11_node 3 (M4.1 62 5) M4) (fun r34 M35 => ?_)
        refine frm_bind (by decide) (qX11_push 18 r34 M35) (fun _ M36 => ?_)
        refine frm_bind (by decide) (qX11_push 16 r34 M36) (fun _ M37 => ?_)
        refine frm_bind (by decide) (qX11_push 4 0 M37) (fun _ M38 => ?_)
        refine frm_bind (by decide) (qX11_push 1 6 M38) (fun _ M39 => ?_)
        refine frm_bind (by decide) (qX11_push 15 r34 M39) (fun _ M40 => ?_)
        refine frm_bind (by decide) (qX11_push 4 0 M40) (fun _ M41 => ?_)
        refine frm_bind (by decide) (qX11_push 1 13 M41) (fun _ M42 => ?_)
        refine frm_bind (by decide) (qX11_push 13 r34 M42) (fun _ M43 => ?_)
        refine frm_bind (by decide) (qX11_pass M43) (fun _ M44 => ?_)
        exact frm_some
      · refine frm_if ?_ ?_
        · refine frm_bind (by decide) (qX11_node 4 (M4.1 62 5) M4) (fun r19 M20 => ?_)
          refine frm_bind (by decide) (qX11_push 18 r19 M20) (fun _ M21 => ?_)
          refine frm_bind (by decide) (qX11_push 16 r19 M21) (fun _ M22 => ?_)
          refine frm_bind (by decide) (qX11_push 4 0 M22) (fun _ M23 => ?_)
          refine frm_bind (by decide) (qX11_push 1 6 M23) (fun _ M24 => ?_)
          refine frm_bind (by decide) (qX11_push 1 15 M24) (fun _ M25 => ?_)
          refine frm_bind (by decide) (qX11_push 14 r19 M25) (fun _ M26 => ?_)
          refine frm_bind (by decide) (qX11_push 1 16 M26) (fun _ M27 => ?_)
          refine frm_bind (by decide) (qX11_push 13 r19 M27) (fun _ M28 => ?_)
          refine frm_bind (by decide) (qX11_push 1 14 M28) (fun _ M29 => ?_)
          refine frm_bind (by decide) (qX11_push 1 8 M29) (fun _ M30 => ?_)
          refine frm_bind (by decide) (qX11_push 15 r19 M30) (fun _ M31 => ?_)
          refine frm_bind (by decide) (qX11_push 4 0 M31) (fun _ M32 => ?_)
          refine frm_bind (by decide) (qX11_pass M32) (fun _ M33 => ?_)
          exact frm_some
        · refine frm_if ?_ ?_
          · refine frm_bind (by decide) (qX11_node 2 (M4.1 62 5) M4) (fun r7 M8 => ?_)
            refine frm_bind (by decide) (qX11_push 18 r7 M8) (fun _ M9 => ?_)
            refine frm_bind (by decide) (qX11_push 17 r7 M9) (fun _ M10 => ?_)
            refine frm_bind (by decide) (qX11_push 4 0 M10) (fun _ M11 => ?_)
            refine frm_bind (by decide) (qX11_push 1 4 M11) (fun _ M12 => ?_)
            refine frm_bind (by decide) (qX11_push 16 r7 M12) (fun _ M13 => ?_)
            refine frm_bind (by decide) (qX11_push 4 0 M13) (fun _ M14 => ?_)
            refine frm_bind (by decide) (qX11_push 1 3 M14) (fun _ M15 => ?_)
            refine frm_bind (by decide) (qX11_push 15 r7 M15) (fun _ M16 => ?_)
            refine frm_bind (by decide) (qX11_push 4 0 M16) (fun _ M17 => ?_)
            refine frm_bind (by decide) (qX11_pass M17) (fun _ M18 => ?_)
            exact frm_some
          · refine frm_bind (by decide) (qX11_push 11 0 M4) (fun _ M5 => ?_)
            refine frm_bind (by decide) (qX11_push 6 0 M5) (fun _ M6 => ?_)
            exact frm_some
set_option maxRecDepth 100000 in
theorem qX11_onAtom_203 (M : mv_M) : mv_frm (mv_S [71, 72, 73, 75, 77, 81, 82, 83] [(62, 3), (62, 4), (62, 5), (62, 6), (62, 7), (62, 8), (62, 9), (62, 10), (62, 29), (62, 36), (62, 38)]) (fX11_onAtom_203 M) M := by
  unfold fX11_onAtom_203
  exact frm_some
set_option maxRecDepth 100000 in
theorem qX11_onAtom_181 (x2 : Int32) (M : mv_M) : mv_frm (mv_S [71, 72, 73, 75, 77, 81, 82, 83] [(62, 3), (62, 4), (62, 5), (62, 6), (62, 7), (62, 8), (62, 9), (62, 10), (62, 29), (62, 36), (62, 38)]) (fX11_onAtom_181 x2 M) M := by
  unfold fX11_onAtom_181
  refine frm_bind (by decide) (qX11_push 21 x2 M) (fun _ M30 => ?_)
  refine frm_bind (by decide) (qX11_push 1 15 M30) (fun _ M31 => ?_)
  exact qX11_onAtom_203 M31
set_option maxRecDepth 100000 in
theorem qX11_onAtom_198 (x2 : Int32) (M : mv_M) : mv_frm (mv_S [71, 72, 73, 75, 77, 81, 82, 83] [(62, 3), (62, 4), (62, 5), (62, 6), (62, 7), (62, 8), (62, 9), (62, 10), (62, 29), (62, 36), (62, 38)]) (fX11_onAtom_198 x2 M) M := by
  unfold fX11_onAtom_198
  refine frm_bind (by decide) (qX11_make x2 M) (fun _ M29 => ?_)
  exact qX11_onAtom_203 M29
set_option maxRecDepth 100000 in
theorem qX11_onAtom (M : mv_M) : mv_frm (mv_S [71, 72, 73, 75, 77, 81, 82, 83] [(62, 3), (62, 4), (62, 5), (62, 6), (62, 7), (62, 8), (62, 9), (62, 10), (62, 29), (62, 36), (62, 38)]) (fX11_onAtom M) M := by
  unfold fX11_onAtom
  refine frm_let (fun v1 => ?_)
  refine frm_if ?_ ?_
  · refine frm_bind (by decide) (qX11_node 5 v1 M) (fun r23 M24 => ?_)
    refine frm_chk ?_
    refine frm_letM (sm_si (mv_Sc (by decide))) (fun M26 => ?_)
    refine frm_bind (by decide) (qX11_make r23 M26) (fun _ M27 => ?_)
    refine frm_bind (by decide) (qX11_pass M27) (fun _ M28 => ?_)
    exact frm_some
  · refine frm_if ?_ ?_
    · refine frm_bind (by decide) (qX11_node 6 v1 M) (fun r18 M19 => ?_)
      refine frm_bind (by decide) (qX11_push 19 r18 M19) (fun _ M20 => ?_)
      refine frm_bind (by decide) (qX11_push 2 0 M20) (fun _ M21 => ?_)
      refine frm_bind (by decide) (qX11_pass M21) (fun _ M22 => ?_)
      exact frm_some
    · refine frm_if ?_ ?_
      · refine frm_bind (by decide) (qX11_node 7 v1 M) (fun r6 M7 => ?_)
        refine frm_chk ?_
        refine frm_letM (sm_sl (mv_Sc (by decide))) (fun M9 => ?_)
        refine frm_bind (by decide) (qX11_pass M9) (fun _ M10 => ?_)
        refine frm_if ?_ ?_
        · refine frm_if ?_ ?_
          · refine frm_chk ?_
            refine frm_letM (sm_si (mv_Sc (by decide))) (fun M12 => ?_)
            refine frm_chk ?_
            refine frm_letM (sm_si (mv_Sc (by decide))) (fun M14 => ?_)
            refine frm_bind (by decide) (qX11_pass M14) (fun _ M15 => ?_)
            refine frm_if ?_ ?_
            · refine frm_if ?_ ?_
              · exact qX11_onAtom_181 r6 M15
              · refine frm_bind (by decide) (qX11_push 20 r6 M15) (fun _ M16 => ?_)
                refine frm_bind (by decide) (qX11_push 4 0 M16) (fun _ M17 => ?_)
                exact qX11_onAtom_203 M17
            · exact qX11_onAtom_181 r6 M15
          · exact qX11_onAtom_198 r6 M10
        · exact qX11_onAtom_198 r6 M10
      · refine frm_if ?_ ?_
        · refine frm_bind (by decide) (qX11_push 22 v1 M) (fun _ M3 => ?_)
          refine frm_bind (by decide) (qX11_push 4 0 M3) (fun _ M4 => ?_)
          refine frm_bind (by decide) (qX11_pass M4) (fun _ M5 => ?_)
          exact frm_some
        · refine frm_bind (by decide) (qX11_stop 2 (M.1 62 5) M) (fun _ M2 => ?_)
          exact frm_some
set_option maxRecDepth 100000 in
theorem qX11_onSum_242 (s0 : Int32) (M : mv_M) : mv_frm (mv_S [71, 72, 73, 74, 75, 77, 81, 82, 83] [(62, 3), (62, 4), (62, 5), (62, 6), (62, 7), (62, 8), (62, 9), (62, 10), (62, 29), (62, 36), (62, 38), (62, 41)]) (fX11_onSum_242 s0 M) M := by
  unfold fX11_onSum_242
  refine frm_bind (by decide) (qX11_push s0 0 M) (fun _ M23 => ?_)
  refine frm_bind (by decide) (qX11_pass M23) (fun _ M24 => ?_)
  exact frm_some
set_option maxRecDepth 100000 in
theorem qX11_onSum_205 (x1 : Int32) (M : mv_M) : mv_frm (mv_S [71, 72, 73, 74, 75, 77, 81, 82, 83] [(62, 3), (62, 4), (62, 5), (62, 6), (62, 7), (62, 8), (62, 9), (62, 10), (62, 29), (62, 36), (62, 38), (62, 41)]) (fX11_onSum_205 x1 M) M := by
  unfold fX11_onSum_205
  refine frm_let (fun v21 => ?_)
  refine frm_bind (by decide) (qX11_push 12 v21 M) (fun _ M22 => ?_)
  refine frm_if ?_ ?_
  · exact qX11_onSum_242 6 M22
  · refine frm_if ?_ ?_
    · exact qX11_onSum_242 8 M22
    · exact qX11_onSum_242 10 M22
set_option maxRecDepth 100000 in
theorem qX11_onSum (a0 : Int32) (a1 : Int32) (M : mv_M) : mv_frm (mv_S [71, 72, 73, 74, 75, 77, 81, 82, 83] [(62, 3), (62, 4), (62, 5), (62, 6), (62, 7), (62, 8), (62, 9), (62, 10), (62, 29), (62, 36), (62, 38), (62, 41)]) (fX11_onSum a0 a1 M) M := by
  unfold fX11_onSum
  refine frm_if ?_ ?_
  · refine frm_letM (sm_si (mv_Ss (by decide))) (fun M20 => ?_)
    exact frm_some
  · refine frm_if ?_ ?_
    · refine frm_bind (by decide) (qX11_push 7 0 M) (fun _ M18 => ?_)
      refine frm_bind (by decide) (qX11_push 8 0 M18) (fun _ M19 => ?_)
      exact frm_some
    · refine frm_if ?_ ?_
      · refine frm_bind (by decide) (qX11_push 9 0 M) (fun _ M16 => ?_)
        refine frm_bind (by decide) (qX11_push 10 0 M16) (fun _ M17 => ?_)
        exact frm_some
      · refine frm_if ?_ ?_
        · refine frm_bind (by decide) (qX11_onAtom M) (fun _ M15 => ?_)
          exact frm_some
        · refine frm_if ?_ ?_
          · refine frm_bind (by decide) (qX11_last M) (fun r1 M2 => ?_)
            refine frm_bind (by decide) (qX11_last M2) (fun r3 M4 => ?_)
            refine frm_chk ?_
            refine frm_bind (by decide) (qX11_node 1 (M4.1 75 r3.toNatClampNeg) M4) (fun r6 M7 => ?_)
            refine frm_chk ?_
            refine frm_letM (sm_si (mv_Sc (by decide))) (fun M9 => ?_)
            refine frm_chk ?_
            refine frm_letM (sm_si (mv_Sc (by decide))) (fun M11 => ?_)
            refine frm_chk ?_
            refine frm_letM (sm_si (mv_Sc (by decide))) (fun M13 => ?_)
            refine frm_bind (by decide) (qX11_make r6 M13) (fun _ M14 => ?_)
            exact frm_some
          · refine frm_if ?_ ?_
            · refine frm_if ?_ ?_
              · exact qX11_onSum_205 a0 M
              · refine frm_if ?_ ?_
                · exact qX11_onSum_205 a0 M
                · exact frm_some
            · refine frm_if ?_ ?_
              · refine frm_if ?_ ?_
                · exact qX11_onSum_205 a0 M
                · refine frm_if ?_ ?_
                  · exact qX11_onSum_205 a0 M
                  · exact frm_some
              · refine frm_if ?_ ?_
                · exact qX11_onSum_205 a0 M
                · exact frm_some
set_option maxRecDepth 100000 in
theorem qX11_onCouple (a0 : Int32) (M : mv_M) : mv_frm (mv_S [71, 72, 75, 81, 82] [(62, 3), (62, 4), (62, 5), (62, 6), (62, 7), (62, 8), (62, 9), (62, 10), (62, 29), (62, 36), (62, 38)]) (fX11_onCouple a0 M) M := by
  unfold fX11_onCouple
  refine frm_if ?_ ?_
  · refine frm_bind (by decide) (qX11_node 9 a0 M) (fun r1 M2 => ?_)
    refine frm_bind (by decide) (qX11_last M2) (fun r3 M4 => ?_)
    refine frm_chk ?_
    refine frm_letM (sm_si (mv_Sc (by decide))) (fun M6 => ?_)
    refine frm_bind (by decide) (qX11_push 18 r1 M6) (fun _ M7 => ?_)
    refine frm_bind (by decide) (qX11_push 1 15 M7) (fun _ M8 => ?_)
    refine frm_bind (by decide) (qX11_push 16 r1 M8) (fun _ M9 => ?_)
    refine frm_bind (by decide) (qX11_push 4 0 M9) (fun _ M10 => ?_)
    refine frm_bind (by decide) (qX11_pass M10) (fun _ M11 => ?_)
    exact frm_some
  · refine frm_bind (by decide) (qX11_push 1 15 M) (fun _ M12 => ?_)
    exact frm_some
set_option maxRecDepth 100000 in
theorem qX11_onRest_111 (M : mv_M) : mv_frm (mv_S [67, 69, 71, 72, 73, 74, 75, 78, 80, 81, 82, 83] [(62, 3), (62, 4), (62, 5), (62, 6), (62, 7), (62, 8), (62, 9), (62, 10), (62, 29), (62, 30), (62, 32), (62, 36), (62, 38), (62, 40)]) (fX11_onRest_111 M) M := by
  unfold fX11_onRest_111
  refine frm_bind (by decide) (qX11_name 0 M) (fun r52 M53 => ?_)
  exact frm_some
set_option maxRecDepth 100000 in
theorem qX11_onRest_304 (x2 : Int32) (x4 : Int32) (x5 : Int32) (M : mv_M) : mv_frm (mv_S [67, 69, 71, 72, 73, 74, 75, 78, 80, 81, 82, 83] [(62, 3), (62, 4), (62, 5), (62, 6), (62, 7), (62, 8), (62, 9), (62, 10), (62, 29), (62, 30), (62, 32), (62, 36), (62, 38), (62, 40)]) (fX11_onRest_304 x2 x4 x5 M) M := by
  unfold fX11_onRest_304
  refine frm_loop ?_ _ M
  rintro ⟨x2, x4, x5⟩ M
  try dsimp only
  unfold gX11_onRest_304
  refine frm_if ?_ ?_
  · refine frm_letM (sm_si (mv_Ss (by decide))) (fun M54 => ?_)
    refine frm_bind (by decide) (qX11_make x2 M54) (fun _ M55 => ?_)
    exact frm_some
  · refine frm_chk ?_
    refine frm_chk ?_
    refine frm_letM (sm_si (mv_Sc (by decide))) (fun M58 => ?_)
    refine frm_letM (sm_si (mv_Ss (by decide))) (fun M59 => ?_)
    refine frm_let (fun v60 => ?_)
    exact frm_some
set_option maxRecDepth 100000 in
theorem qX11_onRest (a0 : Int32) (a1 : Int32) (M : mv_M) : mv_frm (mv_S [67, 69, 71, 72, 73, 74, 75, 78, 80, 81, 82, 83] [(62, 3), (62, 4), (62, 5), (62, 6), (62, 7), (62, 8), (62, 9), (62, 10), (62, 29), (62, 30), (62, 32), (62, 36), (62, 38), (62, 40)]) (fX11_onRest a0 a1 M) M := by
  unfold fX11_onRest
  refine frm_if ?_ ?_
  · refine frm_bind (by decide) (qX11_name 0 M) (fun r2 M3 => ?_)
    refine frm_chk ?_
    refine frm_letM (sm_si (mv_Sc (by decide))) (fun M5 => ?_)
    exact frm_some
  · skip
    refine frm_if ?_ ?_
    · refine frm_if ?_ ?_
      · refine frm_chk ?_
        refine frm_chk ?_
        refine frm_if ?_ ?_
        · refine frm_bind (by decide) (qX11_stop 3 (M.1 62 5) M) (fun _ M9 => ?_)
          exact qX11_onRest_111 M9
        · exact qX11_onRest_111 M
      · exact qX11_onRest_111 M
    · skip
      refine frm_if ?_ ?_
      · refine frm_bind (by decide) (qX11_last M) (fun r11 M12 => ?_)
        refine frm_chk ?_
        refine frm_letM (sm_si (mv_Sc (by decide))) (fun M14 => ?_)
        exact frm_some
      · skip
        refine frm_if ?_ ?_
        · refine frm_bind (by decide) (qX11_last M) (fun r16 M17 => ?_)
          refine frm_chk ?_
          refine frm_letM (sm_si (mv_Sc (by decide))) (fun M19 => ?_)
          exact frm_some
        · skip
          refine frm_if ?_ ?_
          · refine frm_bind (by decide) (qX11_last M) (fun r21 M22 => ?_)
            refine frm_chk ?_
            refine frm_letM (sm_si (mv_Sc (by decide))) (fun M24 => ?_)
            exact frm_some
          · skip
            refine frm_if ?_ ?_
            · refine frm_bind (by decide) (qX11_make a1 M) (fun _ M26 => ?_)
              exact frm_some
            · skip
              refine frm_if ?_ ?_
              · refine frm_letM (sm_si (mv_Ss (by decide))) (fun M28 => ?_)
                refine frm_chk ?_
                refine frm_chk ?_
                refine frm_letM (sm_si (mv_Sc (by decide))) (fun M31 => ?_)
                refine frm_bind (by decide) (qX11_make a1 M31) (fun _ M32 => ?_)
                exact frm_some
              · skip
                refine frm_if ?_ ?_
                · refine frm_bind (by decide) (qX11_last M) (fun r34 M35 => ?_)
                  refine frm_chk ?_
                  refine frm_letM (sm_si (mv_Sc (by decide))) (fun M37 => ?_)
                  refine frm_letM (sm_si (mv_Ss (by decide))) (fun M38 => ?_)
                  refine frm_if ?_ ?_
                  · refine frm_bind (by decide) (qX11_push 20 a1 M38) (fun _ M41 => ?_)
                    refine frm_bind (by decide) (qX11_push 4 0 M41) (fun _ M42 => ?_)
                    refine frm_bind (by decide) (qX11_pass M42) (fun _ M43 => ?_)
                    exact frm_some
                  · refine frm_bind (by decide) (qX11_push 21 a1 M38) (fun _ M39 => ?_)
                    refine frm_bind (by decide) (qX11_push 1 15 M39) (fun _ M40 => ?_)
                    exact frm_some
                · skip
                  refine frm_if ?_ ?_
                  · refine frm_chk ?_
                    refine frm_let (fun v46 => ?_)
                    refine frm_chk ?_
                    refine frm_letM (sm_si (mv_Sc (by decide))) (fun M48 => ?_)
                    refine frm_chk ?_
                    refine frm_letM (sm_si (mv_Sc (by decide))) (fun M50 => ?_)
                    exact qX11_onRest_304 a1 v46 v46 M50
                  · skip
                    refine frm_bind (by decide) (qX11_onCouple a1 M) (fun _ M51 => ?_)
                    exact frm_some
set_option maxRecDepth 100000 in
theorem qX11_parse_117 (M : mv_M) : mv_frm (mv_S [67, 69, 71, 72, 73, 74, 75, 77, 78, 80, 81, 82, 83, 84] [(62, 3), (62, 4), (62, 5), (62, 6), (62, 7), (62, 8), (62, 9), (62, 10), (62, 29), (62, 30), (62, 32), (62, 36), (62, 38), (62, 40), (62, 41)]) (fX11_parse_117 M) M := by
  unfold fX11_parse_117
  exact frm_some
set_option maxRecDepth 100000 in
theorem qX11_parse_26 (M : mv_M) : mv_frm (mv_S [67, 69, 71, 72, 73, 74, 75, 77, 78, 80, 81, 82, 83, 84] [(62, 3), (62, 4), (62, 5), (62, 6), (62, 7), (62, 8), (62, 9), (62, 10), (62, 29), (62, 30), (62, 32), (62, 36), (62, 38), (62, 40), (62, 41)]) (fX11_parse_26 M) M := by
  unfold fX11_parse_26
  refine frm_loop ?_ _ M
  intro s M
  try dsimp only
  unfold gX11_parse_26
  refine frm_if ?_ ?_
  · exact frm_some
  · refine frm_if ?_ ?_
    · refine frm_letM (sm_si (mv_Ss (by decide))) (fun M6 => ?_)
      refine frm_chk ?_
      refine frm_let (fun v8 => ?_)
      refine frm_chk ?_
      refine frm_let (fun v10 => ?_)
      refine frm_if ?_ ?_
      · refine frm_if ?_ ?_
        · refine frm_bind (by decide) (qX11_onE M6) (fun _ M13 => ?_)
          exact qX11_parse_117 M13
        · refine frm_if ?_ ?_
          · refine frm_bind (by decide) (qX11_onRest v8 v10 M6) (fun _ M11 => ?_)
            exact qX11_parse_117 M11
          · refine frm_bind (by decide) (qX11_onSum v8 v10 M6) (fun _ M12 => ?_)
            exact qX11_parse_117 M12
      · refine frm_bind (by decide) (qX11_onType v8 v10 M6) (fun _ M14 => ?_)
        exact qX11_parse_117 M14
    · exact frm_some
set_option maxRecDepth 100000 in
theorem qX11_parse (a0 : Int32) (M : mv_M) : mv_frm (mv_S [67, 69, 71, 72, 73, 74, 75, 77, 78, 80, 81, 82, 83, 84] [(62, 3), (62, 4), (62, 5), (62, 6), (62, 7), (62, 8), (62, 9), (62, 10), (62, 29), (62, 30), (62, 32), (62, 36), (62, 38), (62, 40), (62, 41)]) (fX11_parse a0 M) M := by
  unfold fX11_parse
  refine frm_letM (sm_si (mv_Ss (by decide))) (fun M1 => ?_)
  refine frm_letM (sm_si (mv_Ss (by decide))) (fun M2 => ?_)
  refine frm_letM (sm_si (mv_Ss (by decide))) (fun M3 => ?_)
  refine frm_letM (sm_si (mv_Ss (by decide))) (fun M4 => ?_)
  refine frm_bind (by decide) (qX11_push a0 0 M4) (fun _ M5 => ?_)
  exact qX11_parse_26 M5
set_option maxRecDepth 100000 in
theorem qX11_type_12 (M : mv_M) : mv_frm (mv_S [67, 69, 71, 72, 73, 74, 75, 77, 78, 80, 81, 82, 83, 84] [(62, 3), (62, 4), (62, 5), (62, 6), (62, 7), (62, 8), (62, 9), (62, 10), (62, 29), (62, 30), (62, 32), (62, 36), (62, 38), (62, 40), (62, 41)]) (fX11_type_12 M) M := by
  unfold fX11_type_12
  refine frm_if ?_ ?_
  · exact frm_some
  · exact frm_some
set_option maxRecDepth 100000 in
theorem qX11_type (M : mv_M) : mv_frm (mv_S [67, 69, 71, 72, 73, 74, 75, 77, 78, 80, 81, 82, 83, 84] [(62, 3), (62, 4), (62, 5), (62, 6), (62, 7), (62, 8), (62, 9), (62, 10), (62, 29), (62, 30), (62, 32), (62, 36), (62, 38), (62, 40), (62, 41)]) (fX11_type M) M := by
  unfold fX11_type
  refine frm_if ?_ ?_
  · refine frm_bind (by decide) (qX11_parse 2 M) (fun _ M1 => ?_)
    exact qX11_type_12 M1
  · exact qX11_type_12 M
set_option maxRecDepth 100000 in
theorem qX11_definition_79 (x1 : Int32) (M : mv_M) : mv_frm (mv_S [64, 65, 66, 67, 68, 69, 70, 71, 72, 73, 74, 75, 77, 78, 80, 81, 82, 83, 84] [(62, 3), (62, 4), (62, 5), (62, 6), (62, 7), (62, 8), (62, 9), (62, 10), (62, 28), (62, 29), (62, 30), (62, 32), (62, 33), (62, 36), (62, 38), (62, 40), (62, 41)]) (fX11_definition_79 x1 M) M := by
  unfold fX11_definition_79
  refine frm_let (fun v6 => ?_)
  exact frm_some
set_option maxRecDepth 100000 in
theorem qX11_definition_294 (x1 : Int32) (M : mv_M) : mv_frm (mv_S [64, 65, 66, 67, 68, 69, 70, 71, 72, 73, 74, 75, 77, 78, 80, 81, 82, 83, 84] [(62, 3), (62, 4), (62, 5), (62, 6), (62, 7), (62, 8), (62, 9), (62, 10), (62, 28), (62, 29), (62, 30), (62, 32), (62, 33), (62, 36), (62, 38), (62, 40), (62, 41)]) (fX11_definition_294 x1 M) M := by
  unfold fX11_definition_294
  exact frm_some
set_option maxRecDepth 100000 in
theorem qX11_definition_285 (s0 : Int32) (M : mv_M) : mv_frm (mv_S [64, 65, 66, 67, 68, 69, 70, 71, 72, 73, 74, 75, 77, 78, 80, 81, 82, 83, 84] [(62, 3), (62, 4), (62, 5), (62, 6), (62, 7), (62, 8), (62, 9), (62, 10), (62, 28), (62, 29), (62, 30), (62, 32), (62, 33), (62, 36), (62, 38), (62, 40), (62, 41)]) (fX11_definition_285 s0 M) M := by
  unfold fX11_definition_285
  refine frm_if ?_ ?_
  · exact qX11_definition_294 s0 M
  · refine frm_bind (by decide) (qX11_pass M) (fun _ M38 => ?_)
    exact qX11_definition_294 s0 M38
set_option maxRecDepth 100000 in
theorem qX11_definition_284 (M : mv_M) : mv_frm (mv_S [64, 65, 66, 67, 68, 69, 70, 71, 72, 73, 74, 75, 77, 78, 80, 81, 82, 83, 84] [(62, 3), (62, 4), (62, 5), (62, 6), (62, 7), (62, 8), (62, 9), (62, 10), (62, 28), (62, 29), (62, 30), (62, 32), (62, 33), (62, 36), (62, 38), (62, 40), (62, 41)]) (fX11_definition_284 M) M := by
  unfold fX11_definition_284
  exact qX11_definition_285 0 M
set_option maxRecDepth 100000 in
theorem qX11_definition_240 (x2 : Int32) (M : mv_M) : mv_frm (mv_S [64, 65, 66, 67, 68, 69, 70, 71, 72, 73, 74, 75, 77, 78, 80, 81, 82, 83, 84] [(62, 3), (62, 4), (62, 5), (62, 6), (62, 7), (62, 8), (62, 9), (62, 10), (62, 28), (62, 29), (62, 30), (62, 32), (62, 33), (62, 36), (62, 38), (62, 40), (62, 41)]) (fX11_definition_240 x2 M) M := by
  unfold fX11_definition_240
  refine frm_bind (by decide) (qX11_want 18 M) (fun _ M33 => ?_)
  refine frm_bind (by decide) (qX11_type M33) (fun r34 M35 => ?_)
  refine frm_chk ?_
  refine frm_letM (sm_si (mv_Sc (by decide))) (fun M37 => ?_)
  refine frm_if ?_ ?_
  · refine frm_if ?_ ?_
    · exact qX11_definition_285 1 M37
    · exact qX11_definition_284 M37
  · exact qX11_definition_284 M37
set_option maxRecDepth 100000 in
theorem qX11_definition_340 (M : mv_M) : mv_frm (mv_S [64, 65, 66, 67, 68, 69, 70, 71, 72, 73, 74, 75, 77, 78, 80, 81, 82, 83, 84] [(62, 3), (62, 4), (62, 5), (62, 6), (62, 7), (62, 8), (62, 9), (62, 10), (62, 28), (62, 29), (62, 30), (62, 32), (62, 33), (62, 36), (62, 38), (62, 40), (62, 41)]) (fX11_definition_340 M) M := by
  unfold fX11_definition_340
  refine frm_chk ?_
  refine frm_letM (sm_si (mv_Sc (by decide))) (fun M31 => ?_)
  refine frm_bind (by decide) (qX11_want 17 M31) (fun _ M32 => ?_)
  exact frm_some
set_option maxRecDepth 100000 in
theorem qX11_definition_210 (x1 : Int32) (M : mv_M) : mv_frm (mv_S [64, 65, 66, 67, 68, 69, 70, 71, 72, 73, 74, 75, 77, 78, 80, 81, 82, 83, 84] [(62, 3), (62, 4), (62, 5), (62, 6), (62, 7), (62, 8), (62, 9), (62, 10), (62, 28), (62, 29), (62, 30), (62, 32), (62, 33), (62, 36), (62, 38), (62, 40), (62, 41)]) (fX11_definition_210 x1 M) M := by
  unfold fX11_definition_210
  refine frm_loop ?_ _ M
  intro x1 M
  try dsimp only
  unfold gX11_definition_210
  refine frm_if ?_ ?_
  · refine frm_bind (by decide) (qX11_want 15 M) (fun _ M17 => ?_)
    refine frm_bind (by decide) (qX11_want 18 M17) (fun _ M18 => ?_)
    refine frm_bind (by decide) (qX11_type M18) (fun r19 M20 => ?_)
    refine frm_chk ?_
    refine frm_letM (sm_si (mv_Sc (by decide))) (fun M22 => ?_)
    refine frm_bind (by decide) (qX11_want 13 M22) (fun _ M23 => ?_)
    refine frm_if ?_ ?_
    · refine frm_bind (by decide) (qX11_parse 4 M23) (fun _ M24 => ?_)
      exact frm_inr (qX11_definition_340 M24)
    · exact frm_inr (qX11_definition_340 M23)
  · refine frm_bind (by decide) (qX11_name 1 M) (fun r25 M26 => ?_)
    refine frm_if ?_ ?_
    · refine frm_chk ?_
      refine frm_chk ?_
      refine frm_letM (sm_si (mv_Sc (by decide))) (fun M29 => ?_)
      exact qX11_definition_240 r25 M29
    · exact qX11_definition_240 r25 M26
set_option maxRecDepth 100000 in
theorem qX11_definition_209 (s0 : Int32) (M : mv_M) : mv_frm (mv_S [64, 65, 66, 67, 68, 69, 70, 71, 72, 73, 74, 75, 77, 78, 80, 81, 82, 83, 84] [(62, 3), (62, 4), (62, 5), (62, 6), (62, 7), (62, 8), (62, 9), (62, 10), (62, 28), (62, 29), (62, 30), (62, 32), (62, 33), (62, 36), (62, 38), (62, 40), (62, 41)]) (fX11_definition_209 s0 M) M := by
  unfold fX11_definition_209
  exact qX11_definition_210 s0 M
set_option maxRecDepth 100000 in
theorem qX11_definition_208 (M : mv_M) : mv_frm (mv_S [64, 65, 66, 67, 68, 69, 70, 71, 72, 73, 74, 75, 77, 78, 80, 81, 82, 83, 84] [(62, 3), (62, 4), (62, 5), (62, 6), (62, 7), (62, 8), (62, 9), (62, 10), (62, 28), (62, 29), (62, 30), (62, 32), (62, 33), (62, 36), (62, 38), (62, 40), (62, 41)]) (fX11_definition_208 M) M := by
  unfold fX11_definition_208
  exact qX11_definition_209 0 M
set_option maxRecDepth 100000 in
theorem qX11_definition_111 (M : mv_M) : mv_frm (mv_S [64, 65, 66, 67, 68, 69, 70, 71, 72, 73, 74, 75, 77, 78, 80, 81, 82, 83, 84] [(62, 3), (62, 4), (62, 5), (62, 6), (62, 7), (62, 8), (62, 9), (62, 10), (62, 28), (62, 29), (62, 30), (62, 32), (62, 33), (62, 36), (62, 38), (62, 40), (62, 41)]) (fX11_definition_111 M) M := by
  unfold fX11_definition_111
  refine frm_if ?_ ?_
  · refine frm_letM (sm_si (mv_Ss (by decide))) (fun M7 => ?_)
    refine frm_chk ?_
    refine frm_letM (sm_sl (mv_Sc (by decide))) (fun M9 => ?_)
    refine frm_chk ?_
    refine frm_letM (sm_si (mv_Sc (by decide))) (fun M11 => ?_)
    refine frm_chk ?_
    refine frm_letM (sm_si (mv_Sc (by decide))) (fun M13 => ?_)
    refine frm_letM (sm_si (mv_Ss (by decide))) (fun M14 => ?_)
    refine frm_bind (by decide) (qX11_pass M14) (fun _ M15 => ?_)
    refine frm_bind (by decide) (qX11_want 14 M15) (fun _ M16 => ?_)
    refine frm_if ?_ ?_
    · refine frm_if ?_ ?_
      · exact qX11_definition_208 M16
      · exact qX11_definition_209 1 M16
    · exact qX11_definition_208 M16
  · exact frm_some
set_option maxRecDepth 100000 in
theorem qX11_definition_85 (M : mv_M) : mv_frm (mv_S [64, 65, 66, 67, 68, 69, 70, 71, 72, 73, 74, 75, 77, 78, 80, 81, 82, 83, 84] [(62, 3), (62, 4), (62, 5), (62, 6), (62, 7), (62, 8), (62, 9), (62, 10), (62, 28), (62, 29), (62, 30), (62, 32), (62, 33), (62, 36), (62, 38), (62, 40), (62, 41)]) (fX11_definition_85 M) M := by
  unfold fX11_definition_85
  refine frm_if ?_ ?_
  · refine frm_if ?_ ?_
    · refine frm_bind (by decide) (qX11_stop 6 (M.1 62 5) M) (fun _ M5 => ?_)
      exact qX11_definition_111 M5
    · exact qX11_definition_111 M
  · exact qX11_definition_111 M
set_option maxRecDepth 100000 in
theorem qX11_definition_33 (x1 : Int32) (M : mv_M) : mv_frm (mv_S [64, 65, 66, 67, 68, 69, 70, 71, 72, 73, 74, 75, 77, 78, 80, 81, 82, 83, 84] [(62, 3), (62, 4), (62, 5), (62, 6), (62, 7), (62, 8), (62, 9), (62, 10), (62, 28), (62, 29), (62, 30), (62, 32), (62, 33), (62, 36), (62, 38), (62, 40), (62, 41)]) (fX11_definition_33 x1 M) M := by
  unfold fX11_definition_33
  refine frm_loop ?_ _ M
  intro x1 M
  try dsimp only
  unfold gX11_definition_33
  refine frm_if ?_ ?_
  · exact frm_inr (qX11_definition_85 M)
  · refine frm_if ?_ ?_
    · refine frm_chk ?_
      refine frm_if ?_ ?_
      · refine frm_bind (by decide) (qX11_stop 3 (M.1 62 5) M) (fun _ M4 => ?_)
        exact qX11_definition_79 x1 M4
      · exact qX11_definition_79 x1 M
    · exact frm_inr (qX11_definition_85 M)
set_option maxRecDepth 100000 in
theorem qX11_definition_25 (M : mv_M) : mv_frm (mv_S [64, 65, 66, 67, 68, 69, 70, 71, 72, 73, 74, 75, 77, 78, 80, 81, 82, 83, 84] [(62, 3), (62, 4), (62, 5), (62, 6), (62, 7), (62, 8), (62, 9), (62, 10), (62, 28), (62, 29), (62, 30), (62, 32), (62, 33), (62, 36), (62, 38), (62, 40), (62, 41)]) (fX11_definition_25 M) M := by
  unfold fX11_definition_25
  refine frm_let (fun v2 => ?_)
  exact qX11_definition_33 v2 M
set_option maxRecDepth 100000 in
theorem qX11_definition (M : mv_M) : mv_frm (mv_S [64, 65, 66, 67, 68, 69, 70, 71, 72, 73, 74, 75, 77, 78, 80, 81, 82, 83, 84] [(62, 3), (62, 4), (62, 5), (62, 6), (62, 7), (62, 8), (62, 9), (62, 10), (62, 28), (62, 29), (62, 30), (62, 32), (62, 33), (62, 36), (62, 38), (62, 40), (62, 41)]) (fX11_definition M) M := by
  unfold fX11_definition
  refine frm_if ?_ ?_
  · refine frm_if ?_ ?_
    · exact qX11_definition_25 M
    · refine frm_bind (by decide) (qX11_stop 2 (M.1 62 5) M) (fun _ M1 => ?_)
      exact qX11_definition_25 M1
  · exact qX11_definition_25 M
set_option maxRecDepth 100000 in
theorem qX11_task (a0 : Int32) (a1 : Int32) (a2 : Int32) (M : mv_M) : mv_frm (mv_S [81, 82, 85] [(62, 36)]) (fX11_task a0 a1 a2 M) M := by
  unfold fX11_task
  refine frm_if ?_ ?_
  · exact frm_some
  · refine frm_chk ?_
    refine frm_letM (sm_si (mv_Sc (by decide))) (fun M2 => ?_)
    refine frm_bind (by decide) (qX11_push a0 a1 M2) (fun _ M3 => ?_)
    exact frm_some
set_option maxRecDepth 100000 in
theorem qX11_meant_7 (x1 : Int64) (x3 : Int32) (M : mv_M) : mv_frm (mv_S [] []) (fX11_meant_7 x1 x3 M) M := by
  unfold fX11_meant_7
  refine frm_loop ?_ _ M
  rintro ⟨x1, x3⟩ M
  try dsimp only
  unfold gX11_meant_7
  refine frm_if ?_ ?_
  · exact frm_some
  · refine frm_chk ?_
    refine frm_chk ?_
    refine frm_if ?_ ?_
    · refine frm_chk ?_
      exact frm_some
    · refine frm_let (fun v4 => ?_)
      exact frm_some
set_option maxRecDepth 100000 in
theorem qX11_meant (a0 : Int64) (M : mv_M) : mv_frm (mv_S [] []) (fX11_meant a0 M) M := by
  unfold fX11_meant
  refine frm_let (fun v1 => ?_)
  exact qX11_meant_7 a0 v1 M
set_option maxRecDepth 100000 in
theorem qX11_tells (a0 : Int32) (a1 : Int32) (M : mv_M) : mv_frm (mv_S [70, 86] [(62, 44)]) (fX11_tells a0 a1 M) M := by
  unfold fX11_tells
  refine frm_chk ?_
  refine frm_letM (sm_si (mv_Sc (by decide))) (fun M2 => ?_)
  refine frm_chk ?_
  refine frm_letM (sm_si (mv_Sc (by decide))) (fun M4 => ?_)
  refine frm_letM (sm_si (mv_Ss (by decide))) (fun M5 => ?_)
  exact frm_some
set_option maxRecDepth 100000 in
theorem qX11_judgeCall_47 (x1 : Int32) (x3 : Int32) (s0 : Int32) (M : mv_M) : mv_frm (mv_S [74, 81, 82, 85] [(62, 9), (62, 10), (62, 36)]) (fX11_judgeCall_47 x1 x3 s0 M) M := by
  unfold fX11_judgeCall_47
  refine frm_let (fun v15 => ?_)
  exact frm_some
set_option maxRecDepth 100000 in
theorem qX11_judgeCall_85 (x1 : Int32) (s0 : Int32) (M : mv_M) : mv_frm (mv_S [74, 81, 82, 85] [(62, 9), (62, 10), (62, 36)]) (fX11_judgeCall_85 x1 s0 M) M := by
  unfold fX11_judgeCall_85
  refine frm_chk ?_
  refine frm_bind (by decide) (qX11_stop s0 (M.1 75 x1.toNatClampNeg) M) (fun _ M17 => ?_)
  exact frm_some
set_option maxRecDepth 100000 in
theorem qX11_judgeCall_74 (x1 : Int32) (x2 : Int32) (M : mv_M) : mv_frm (mv_S [74, 81, 82, 85] [(62, 9), (62, 10), (62, 36)]) (fX11_judgeCall_74 x1 x2 M) M := by
  unfold fX11_judgeCall_74
  refine frm_if ?_ ?_
  · exact qX11_judgeCall_85 x1 4 M
  · exact qX11_judgeCall_85 x1 5 M
set_option maxRecDepth 100000 in
theorem qX11_judgeCall_111 (x1 : Int32) (x2 : Int32) (x3 : Int32) (M : mv_M) : mv_frm (mv_S [74, 81, 82, 85] [(62, 9), (62, 10), (62, 36)]) (fX11_judgeCall_111 x1 x2 x3 M) M := by
  unfold fX11_judgeCall_111
  refine frm_loop ?_ _ M
  rintro ⟨x1, x2, x3⟩ M
  try dsimp only
  unfold gX11_judgeCall_111
  refine frm_if ?_ ?_
  · exact frm_some
  · refine frm_chk ?_
    refine frm_chk ?_
    refine frm_chk ?_
    refine frm_bind (by decide) (qX11_task 1 (M.1 78 ((M.1 72 x1.toNatClampNeg) + x3).toNatClampNeg) (M.1 70 ((16 * x2) + x3).toNatClampNeg) M) (fun _ M13 => ?_)
    refine frm_let (fun v14 => ?_)
    exact frm_some
set_option maxRecDepth 100000 in
theorem qX11_judgeCall_10 (x1 : Int32) (x2 : Int32) (x3 : Int32) (M : mv_M) : mv_frm (mv_S [74, 81, 82, 85] [(62, 9), (62, 10), (62, 36)]) (fX11_judgeCall_10 x1 x2 x3 M) M := by
  unfold fX11_judgeCall_10
  refine frm_loop ?_ _ M
  rintro ⟨x1, x2, x3⟩ M
  try dsimp only
  unfold gX11_judgeCall_10
  refine frm_if ?_ ?_
  · refine frm_if ?_ ?_
    · exact frm_inr (qX11_judgeCall_74 x1 x2 M)
    · refine frm_chk ?_
      refine frm_chk ?_
      refine frm_if ?_ ?_
      · refine frm_chk ?_
        refine frm_letM (sm_si (mv_Sc (by decide))) (fun M5 => ?_)
        refine frm_chk ?_
        refine frm_let (fun v7 => ?_)
        exact frm_inr (qX11_judgeCall_111 x1 x2 v7 M5)
      · exact frm_inr (qX11_judgeCall_74 x1 x2 M)
  · refine frm_chk ?_
    refine frm_chk ?_
    refine frm_if ?_ ?_
    · exact qX11_judgeCall_47 x1 x3 x3 M
    · exact qX11_judgeCall_47 x1 x3 x2 M
set_option maxRecDepth 100000 in
theorem qX11_judgeCall (a0 : Int32) (M : mv_M) : mv_frm (mv_S [74, 81, 82, 85] [(62, 9), (62, 10), (62, 36)]) (fX11_judgeCall a0 M) M := by
  unfold fX11_judgeCall
  refine frm_let (fun v1 => ?_)
  exact qX11_judgeCall_10 a0 (-1) v1 M
set_option maxRecDepth 100000 in
theorem qX11_onJudge_91 (x1 : Int32) (x3 : Int32) (M : mv_M) : mv_frm (mv_S [72, 74, 81, 82, 85] [(62, 9), (62, 10), (62, 36)]) (fX11_onJudge_91 x1 x3 M) M := by
  unfold fX11_onJudge_91
  refine frm_chk ?_
  refine frm_letM (sm_si (mv_Sc (by decide))) (fun M40 => ?_)
  exact frm_some
set_option maxRecDepth 100000 in
theorem qX11_onJudge_205 (s0 : Int32) (s1 : Int32) (s2 : Int32) (M : mv_M) : mv_frm (mv_S [72, 74, 81, 82, 85] [(62, 9), (62, 10), (62, 36)]) (fX11_onJudge_205 s0 s1 s2 M) M := by
  unfold fX11_onJudge_205
  refine frm_bind (by decide) (qX11_task s2 s1 s0 M) (fun _ M38 => ?_)
  exact frm_some
set_option maxRecDepth 100000 in
theorem qX11_onJudge_262 (s0 : Int32) (s1 : Int32) (s2 : Int32) (M : mv_M) : mv_frm (mv_S [72, 74, 81, 82, 85] [(62, 9), (62, 10), (62, 36)]) (fX11_onJudge_262 s0 s1 s2 M) M := by
  unfold fX11_onJudge_262
  refine frm_bind (by decide) (qX11_task s2 s1 s0 M) (fun _ M45 => ?_)
  exact frm_some
set_option maxRecDepth 100000 in
theorem qX11_onJudge_239 (x1 : Int32) (x2 : Int32) (s0 : Int32) (s1 : Int32) (s2 : Int32) (M : mv_M) : mv_frm (mv_S [72, 74, 81, 82, 85] [(62, 9), (62, 10), (62, 36)]) (fX11_onJudge_239 x1 x2 s0 s1 s2 M) M := by
  unfold fX11_onJudge_239
  refine frm_bind (by decide) (qX11_task s2 s1 s0 M) (fun _ M41 => ?_)
  refine frm_chk ?_
  refine frm_if ?_ ?_
  · exact qX11_onJudge_262 (-1) (M41.1 72 x1.toNatClampNeg) 1 M41
  · refine frm_bind (by decide) (qX11_firstOf x2 M41) (fun r43 M44 => ?_)
    exact qX11_onJudge_262 r43 (M41.1 72 x1.toNatClampNeg) 1 M44
set_option maxRecDepth 100000 in
theorem qX11_onJudge (a0 : Int32) (a1 : Int32) (M : mv_M) : mv_frm (mv_S [72, 74, 81, 82, 85] [(62, 9), (62, 10), (62, 36)]) (fX11_onJudge a0 a1 M) M := by
  unfold fX11_onJudge
  refine frm_bind (by decide) (qX11_task 4 a0 a1 M) (fun _ M1 => ?_)
  refine frm_chk ?_
  refine frm_if ?_ ?_
  · refine frm_chk ?_
    refine frm_bind (by decide) (qX11_task 1 (M1.1 73 a0.toNatClampNeg) 0 M1) (fun _ M5 => ?_)
    refine frm_chk ?_
    refine frm_bind (by decide) (qX11_task 1 (M5.1 72 a0.toNatClampNeg) 0 M5) (fun _ M7 => ?_)
    exact frm_some
  · skip
    refine frm_if ?_ ?_
    · refine frm_bind (by decide) (qX11_task 2 a0 a1 M1) (fun _ M9 => ?_)
      refine frm_chk ?_
      refine frm_bind (by decide) (qX11_task 1 (M9.1 73 a0.toNatClampNeg) a1 M9) (fun _ M11 => ?_)
      refine frm_chk ?_
      refine frm_bind (by decide) (qX11_task 1 (M11.1 72 a0.toNatClampNeg) 0 M11) (fun _ M13 => ?_)
      exact frm_some
    · skip
      refine frm_if ?_ ?_
      · refine frm_chk ?_
        refine frm_bind (by decide) (qX11_task 1 (M1.1 73 a0.toNatClampNeg) a1 M1) (fun _ M16 => ?_)
        refine frm_bind (by decide) (qX11_task 3 a0 0 M16) (fun _ M17 => ?_)
        refine frm_chk ?_
        refine frm_chk ?_
        refine frm_if ?_ ?_
        · exact qX11_onJudge_205 (-1) (M17.1 72 a0.toNatClampNeg) 1 M17
        · exact qX11_onJudge_205 (-2) (M17.1 72 a0.toNatClampNeg) 1 M17
      · skip
        refine frm_if ?_ ?_
        · refine frm_chk ?_
          refine frm_bind (by decide) (qX11_task 1 (M1.1 73 a0.toNatClampNeg) a1 M1) (fun _ M22 => ?_)
          refine frm_bind (by decide) (qX11_task 3 a0 0 M22) (fun _ M23 => ?_)
          refine frm_chk ?_
          refine frm_chk ?_
          refine frm_if ?_ ?_
          · exact qX11_onJudge_205 (-1) (M23.1 72 a0.toNatClampNeg) 1 M23
          · exact qX11_onJudge_205 (-2) (M23.1 72 a0.toNatClampNeg) 1 M23
        · skip
          refine frm_if ?_ ?_
          · refine frm_chk ?_
            refine frm_bind (by decide) (qX11_meant (M1.2.1 77 a0.toNatClampNeg) M1) (fun r28 M29 => ?_)
            refine frm_if ?_ ?_
            · refine frm_chk ?_
              refine frm_bind (by decide) (qX11_stop 4 (M29.1 75 a0.toNatClampNeg) M29) (fun _ M31 => ?_)
              exact qX11_onJudge_91 a0 r28 M31
            · exact qX11_onJudge_91 a0 r28 M29
          · skip
            refine frm_if ?_ ?_
            · refine frm_bind (by decide) (qX11_judgeCall a0 M1) (fun _ M33 => ?_)
              exact frm_some
            · skip
              refine frm_if ?_ ?_
              · refine frm_chk ?_
                refine frm_if ?_ ?_
                · exact qX11_onJudge_239 a0 a1 (-1) (M1.1 73 a0.toNatClampNeg) 1 M1
                · refine frm_bind (by decide) (qX11_secondOf a1 M1) (fun r36 M37 => ?_)
                  exact qX11_onJudge_239 a0 a1 r36 (M1.1 73 a0.toNatClampNeg) 1 M37
              · skip
                exact frm_some
set_option maxRecDepth 100000 in
theorem qX11_onShut_202 (x1 : Int32) (x4 : Int32) (M : mv_M) : mv_frm (mv_S [76] [(62, 9), (62, 10), (62, 44)]) (fX11_onShut_202 x1 x4 M) M := by
  unfold fX11_onShut_202
  refine frm_chk ?_
  refine frm_letM (sm_si (mv_Sc (by decide))) (fun M20 => ?_)
  exact frm_some
set_option maxRecDepth 100000 in
theorem qX11_onShut_191 (x1 : Int32) (x4 : Int32) (M : mv_M) : mv_frm (mv_S [76] [(62, 9), (62, 10), (62, 44)]) (fX11_onShut_191 x1 x4 M) M := by
  unfold fX11_onShut_191
  refine frm_chk ?_
  refine frm_bind (by decide) (qX11_stop 5 (M.1 75 x1.toNatClampNeg) M) (fun _ M18 => ?_)
  exact qX11_onShut_202 x1 x4 M18
set_option maxRecDepth 100000 in
theorem qX11_onShut_180 (x1 : Int32) (x2 : Int32) (x4 : Int32) (M : mv_M) : mv_frm (mv_S [76] [(62, 9), (62, 10), (62, 44)]) (fX11_onShut_180 x1 x2 x4 M) M := by
  unfold fX11_onShut_180
  refine frm_if ?_ ?_
  · refine frm_if ?_ ?_
    · exact qX11_onShut_191 x1 x4 M
    · exact qX11_onShut_202 x1 x4 M
  · exact qX11_onShut_202 x1 x4 M
set_option maxRecDepth 100000 in
theorem qX11_onShut_162 (x1 : Int32) (x2 : Int32) (s0 : Int32) (M : mv_M) : mv_frm (mv_S [76] [(62, 9), (62, 10), (62, 44)]) (fX11_onShut_162 x1 x2 s0 M) M := by
  unfold fX11_onShut_162
  refine frm_if ?_ ?_
  · exact qX11_onShut_191 x1 s0 M
  · refine frm_if ?_ ?_
    · exact qX11_onShut_180 x1 x2 s0 M
    · refine frm_if ?_ ?_
      · exact qX11_onShut_180 x1 x2 s0 M
      · exact qX11_onShut_191 x1 s0 M
set_option maxRecDepth 100000 in
theorem qX11_onShut_93 (x1 : Int32) (x2 : Int32) (M : mv_M) : mv_frm (mv_S [76] [(62, 9), (62, 10), (62, 44)]) (fX11_onShut_93 x1 x2 M) M := by
  unfold fX11_onShut_93
  refine frm_chk ?_
  refine frm_chk ?_
  exact qX11_onShut_162 x1 x2 (M.1 76 (M.1 73 x1.toNatClampNeg).toNatClampNeg) M
set_option maxRecDepth 100000 in
theorem qX11_onShut_31 (x1 : Int32) (x2 : Int32) (x3 : Int32) (s0 : Int32) (s1 : Int32) (M : mv_M) : mv_frm (mv_S [76] [(62, 9), (62, 10), (62, 44)]) (fX11_onShut_31 x1 x2 x3 s0 s1 M) M := by
  unfold fX11_onShut_31
  refine frm_letM (sm_si (mv_Ss (by decide))) (fun M3 => ?_)
  refine frm_if ?_ ?_
  · refine frm_chk ?_
    exact qX11_onShut_162 x1 x2 (M3.1 72 x1.toNatClampNeg) M3
  · refine frm_if ?_ ?_
    · refine frm_chk ?_
      refine frm_chk ?_
      exact qX11_onShut_162 x1 x2 (M3.1 70 ((16 * (M3.1 62 33)) + (M3.1 72 x1.toNatClampNeg)).toNatClampNeg) M3
    · refine frm_if ?_ ?_
      · exact qX11_onShut_93 x1 x2 M3
      · refine frm_if ?_ ?_
        · exact qX11_onShut_93 x1 x2 M3
        · refine frm_if ?_ ?_
          · exact qX11_onShut_93 x1 x2 M3
          · refine frm_if ?_ ?_
            · refine frm_chk ?_
              refine frm_chk ?_
              exact qX11_onShut_162 x1 x2 (M3.1 65 (M3.1 74 x1.toNatClampNeg).toNatClampNeg) M3
            · refine frm_if ?_ ?_
              · refine frm_chk ?_
                refine frm_chk ?_
                refine frm_chk ?_
                refine frm_chk ?_
                refine frm_bind (by decide) (qX11_pairOf (M3.1 76 (M3.1 72 x1.toNatClampNeg).toNatClampNeg) (M3.1 76 (M3.1 73 x1.toNatClampNeg).toNatClampNeg) M3) (fun r8 M9 => ?_)
                exact qX11_onShut_162 x1 x2 r8 M9
              · exact qX11_onShut_162 x1 x2 0 M3
set_option maxRecDepth 100000 in
theorem qX11_onShut (a0 : Int32) (a1 : Int32) (M : mv_M) : mv_frm (mv_S [76] [(62, 9), (62, 10), (62, 44)]) (fX11_onShut a0 a1 M) M := by
  unfold fX11_onShut
  refine frm_chk ?_
  refine frm_let (fun v2 => ?_)
  refine frm_if ?_ ?_
  · exact qX11_onShut_31 a0 a1 v2 1 (M.1 62 44) M
  · refine frm_if ?_ ?_
    · exact qX11_onShut_31 a0 a1 v2 2 (M.1 62 44) M
    · exact qX11_onShut_31 a0 a1 v2 0 (M.1 62 44) M
set_option maxRecDepth 100000 in
theorem qX11_judge_271 (M : mv_M) : mv_frm (mv_S [70, 72, 74, 76, 81, 82, 85, 86] [(62, 9), (62, 10), (62, 36), (62, 44)]) (fX11_judge_271 M) M := by
  unfold fX11_judge_271
  exact frm_some
set_option maxRecDepth 100000 in
theorem qX11_judge_177 (s0 : Int32) (s1 : Int32) (s2 : Int32) (M : mv_M) : mv_frm (mv_S [70, 72, 74, 76, 81, 82, 85, 86] [(62, 9), (62, 10), (62, 36), (62, 44)]) (fX11_judge_177 s0 s1 s2 M) M := by
  unfold fX11_judge_177
  refine frm_bind (by decide) (qX11_task s2 s1 s0 M) (fun _ M37 => ?_)
  exact qX11_judge_271 M37
set_option maxRecDepth 100000 in
theorem qX11_judge_262 (M : mv_M) : mv_frm (mv_S [70, 72, 74, 76, 81, 82, 85, 86] [(62, 9), (62, 10), (62, 36), (62, 44)]) (fX11_judge_262 M) M := by
  unfold fX11_judge_262
  exact qX11_judge_271 M
set_option maxRecDepth 100000 in
theorem qX11_judge_233 (x1 : Int32) (x3 : Int32) (s0 : Int32) (s1 : Int32) (M : mv_M) : mv_frm (mv_S [70, 72, 74, 76, 81, 82, 85, 86] [(62, 9), (62, 10), (62, 36), (62, 44)]) (fX11_judge_233 x1 x3 s0 s1 M) M := by
  unfold fX11_judge_233
  refine frm_bind (by decide) (qX11_tells s1 s0 M) (fun _ M31 => ?_)
  refine frm_chk ?_
  refine frm_if ?_ ?_
  · refine frm_chk ?_
    refine frm_bind (by decide) (qX11_secondOf x3 M31) (fun r34 M35 => ?_)
    refine frm_bind (by decide) (qX11_tells ((M31.1 74 x1.toNatClampNeg) + 1) r34 M35) (fun _ M36 => ?_)
    exact qX11_judge_262 M36
  · exact qX11_judge_262 M31
set_option maxRecDepth 100000 in
theorem qX11_judge_71 (M : mv_M) : mv_frm (mv_S [70, 72, 74, 76, 81, 82, 85, 86] [(62, 9), (62, 10), (62, 36), (62, 44)]) (fX11_judge_71 M) M := by
  unfold fX11_judge_71
  refine frm_loop ?_ _ M
  intro s M
  try dsimp only
  unfold gX11_judge_71
  refine frm_if ?_ ?_
  · exact frm_some
  · refine frm_if ?_ ?_
    · refine frm_letM (sm_si (mv_Ss (by decide))) (fun M11 => ?_)
      refine frm_chk ?_
      refine frm_let (fun v13 => ?_)
      refine frm_chk ?_
      refine frm_let (fun v15 => ?_)
      refine frm_chk ?_
      refine frm_if ?_ ?_
      · refine frm_bind (by decide) (qX11_onJudge v13 v15 M11) (fun _ M30 => ?_)
        exact qX11_judge_271 M30
      · refine frm_chk ?_
        refine frm_if ?_ ?_
        · refine frm_chk ?_
          refine frm_if ?_ ?_
          · exact qX11_judge_177 v15 (M11.1 74 v13.toNatClampNeg) 1 M11
          · refine frm_chk ?_
            refine frm_chk ?_
            exact qX11_judge_177 (M11.1 76 (M11.1 73 v13.toNatClampNeg).toNatClampNeg) (M11.1 74 v13.toNatClampNeg) 1 M11
        · refine frm_chk ?_
          refine frm_if ?_ ?_
          · refine frm_chk ?_
            refine frm_chk ?_
            refine frm_let (fun v22 => ?_)
            refine frm_chk ?_
            refine frm_chk ?_
            refine frm_if ?_ ?_
            · exact qX11_judge_233 v13 v22 v22 (M11.1 74 v13.toNatClampNeg) M11
            · refine frm_bind (by decide) (qX11_firstOf v22 M11) (fun r25 M26 => ?_)
              exact qX11_judge_233 v13 v22 r25 (M11.1 74 v13.toNatClampNeg) M26
          · refine frm_bind (by decide) (qX11_onShut v13 v15 M11) (fun _ M19 => ?_)
            exact qX11_judge_271 M19
    · exact frm_some
set_option maxRecDepth 100000 in
theorem qX11_judge_7 (x1 : Int32) (M : mv_M) : mv_frm (mv_S [70, 72, 74, 76, 81, 82, 85, 86] [(62, 9), (62, 10), (62, 36), (62, 44)]) (fX11_judge_7 x1 M) M := by
  unfold fX11_judge_7
  refine frm_loop ?_ _ M
  intro x1 M
  try dsimp only
  unfold gX11_judge_7
  refine frm_chk ?_
  refine frm_if ?_ ?_
  · refine frm_letM (sm_si (mv_Ss (by decide))) (fun M3 => ?_)
    refine frm_chk ?_
    refine frm_chk ?_
    refine frm_bind (by decide) (qX11_task 1 (M3.1 68 (M3.1 62 33).toNatClampNeg) (M3.1 65 (M3.1 62 33).toNatClampNeg) M3) (fun _ M6 => ?_)
    exact frm_inr (qX11_judge_71 M6)
  · refine frm_chk ?_
    refine frm_letM (sm_si (mv_Sc (by decide))) (fun M8 => ?_)
    refine frm_letM (sm_si (mv_Ss (by decide))) (fun M9 => ?_)
    refine frm_let (fun v10 => ?_)
    exact frm_some
set_option maxRecDepth 100000 in
theorem qX11_judge (M : mv_M) : mv_frm (mv_S [70, 72, 74, 76, 81, 82, 85, 86] [(62, 9), (62, 10), (62, 36), (62, 44)]) (fX11_judge M) M := by
  unfold fX11_judge
  refine frm_letM (sm_si (mv_Ss (by decide))) (fun M1 => ?_)
  exact qX11_judge_7 0 M1
set_option maxRecDepth 100000 in
theorem qX11_read_168 (M : mv_M) : mv_frm (mv_S [64, 65, 66, 67, 68, 69, 70, 71, 72, 73, 74, 75, 76, 77, 78, 79, 80, 81, 82, 83, 84, 85, 86] [(62, 0), (62, 2), (62, 3), (62, 4), (62, 5), (62, 6), (62, 7), (62, 8), (62, 9), (62, 10), (62, 27), (62, 28), (62, 29), (62, 30), (62, 32), (62, 33), (62, 36), (62, 38), (62, 40), (62, 41), (62, 44), (62, 45), (62, 46), (62, 47), (62, 75)]) (fX11_read_168 M) M := by
  unfold fX11_read_168
  refine frm_letM (sm_si (mv_Ss (by decide))) (fun M17 => ?_)
  refine frm_if ?_ ?_
  · refine frm_letM (sm_si (mv_Ss (by decide))) (fun M18 => ?_)
    refine frm_chk ?_
    refine frm_letM (sm_si (mv_Sc (by decide))) (fun M20 => ?_)
    refine frm_letM (sm_si (mv_Ss (by decide))) (fun M21 => ?_)
    refine frm_letM (sm_si (mv_Ss (by decide))) (fun M22 => ?_)
    refine frm_letM (sm_si (mv_Ss (by decide))) (fun M23 => ?_)
    exact frm_some
  · exact frm_some
set_option maxRecDepth 100000 in
theorem qX11_read_125 (M : mv_M) : mv_frm (mv_S [64, 65, 66, 67, 68, 69, 70, 71, 72, 73, 74, 75, 76, 77, 78, 79, 80, 81, 82, 83, 84, 85, 86] [(62, 0), (62, 2), (62, 3), (62, 4), (62, 5), (62, 6), (62, 7), (62, 8), (62, 9), (62, 10), (62, 27), (62, 28), (62, 29), (62, 30), (62, 32), (62, 33), (62, 36), (62, 38), (62, 40), (62, 41), (62, 44), (62, 45), (62, 46), (62, 47), (62, 75)]) (fX11_read_125 M) M := by
  unfold fX11_read_125
  refine frm_loop ?_ _ M
  intro s M
  try dsimp only
  unfold gX11_read_125
  refine frm_if ?_ ?_
  · exact frm_inr (qX11_read_168 M)
  · refine frm_if ?_ ?_
    · refine frm_bind (by decide) (qX11_judge M) (fun _ M15 => ?_)
      refine frm_letM (sm_si (mv_Ss (by decide))) (fun M16 => ?_)
      exact frm_some
    · exact frm_inr (qX11_read_168 M)
set_option maxRecDepth 100000 in
theorem qX11_read_114 (M : mv_M) : mv_frm (mv_S [64, 65, 66, 67, 68, 69, 70, 71, 72, 73, 74, 75, 76, 77, 78, 79, 80, 81, 82, 83, 84, 85, 86] [(62, 0), (62, 2), (62, 3), (62, 4), (62, 5), (62, 6), (62, 7), (62, 8), (62, 9), (62, 10), (62, 27), (62, 28), (62, 29), (62, 30), (62, 32), (62, 33), (62, 36), (62, 38), (62, 40), (62, 41), (62, 44), (62, 45), (62, 46), (62, 47), (62, 75)]) (fX11_read_114 M) M := by
  unfold fX11_read_114
  refine frm_letM (sm_si (mv_Ss (by decide))) (fun M14 => ?_)
  exact qX11_read_125 M14
set_option maxRecDepth 100000 in
theorem qX11_read_91 (M : mv_M) : mv_frm (mv_S [64, 65, 66, 67, 68, 69, 70, 71, 72, 73, 74, 75, 76, 77, 78, 79, 80, 81, 82, 83, 84, 85, 86] [(62, 0), (62, 2), (62, 3), (62, 4), (62, 5), (62, 6), (62, 7), (62, 8), (62, 9), (62, 10), (62, 27), (62, 28), (62, 29), (62, 30), (62, 32), (62, 33), (62, 36), (62, 38), (62, 40), (62, 41), (62, 44), (62, 45), (62, 46), (62, 47), (62, 75)]) (fX11_read_91 M) M := by
  unfold fX11_read_91
  refine frm_loop ?_ _ M
  intro s M
  try dsimp only
  unfold gX11_read_91
  refine frm_if ?_ ?_
  · refine frm_if ?_ ?_
    · exact frm_inr (qX11_read_114 M)
    · refine frm_bind (by decide) (qX11_definition M) (fun _ M13 => ?_)
      exact frm_some
  · exact frm_inr (qX11_read_114 M)
set_option maxRecDepth 100000 in
theorem qX11_read_26 (s0 : Int32) (M : mv_M) : mv_frm (mv_S [64, 65, 66, 67, 68, 69, 70, 71, 72, 73, 74, 75, 76, 77, 78, 79, 80, 81, 82, 83, 84, 85, 86] [(62, 0), (62, 2), (62, 3), (62, 4), (62, 5), (62, 6), (62, 7), (62, 8), (62, 9), (62, 10), (62, 27), (62, 28), (62, 29), (62, 30), (62, 32), (62, 33), (62, 36), (62, 38), (62, 40), (62, 41), (62, 44), (62, 45), (62, 46), (62, 47), (62, 75)]) (fX11_read_26 s0 M) M := by
  unfold fX11_read_26
  refine frm_letM (sm_si (mv_Ss (by decide))) (fun M2 => ?_)
  refine frm_letM (sm_si (mv_Ss (by decide))) (fun M3 => ?_)
  refine frm_letM (sm_si (mv_Ss (by decide))) (fun M4 => ?_)
  refine frm_letM (sm_si (mv_Ss (by decide))) (fun M5 => ?_)
  refine frm_letM (sm_si (mv_Ss (by decide))) (fun M6 => ?_)
  refine frm_letM (sm_si (mv_Ss (by decide))) (fun M7 => ?_)
  refine frm_letM (sm_si (mv_Ss (by decide))) (fun M8 => ?_)
  refine frm_letM (sm_si (mv_Ss (by decide))) (fun M9 => ?_)
  refine frm_letM (sm_si (mv_Ss (by decide))) (fun M10 => ?_)
  refine frm_bind (by decide) (qX11_next M10) (fun _ M11 => ?_)
  refine frm_bind (by decide) (qX11_definition M11) (fun _ M12 => ?_)
  exact qX11_read_91 M12
set_option maxRecDepth 100000 in
theorem qX11_read (M : mv_M) : mv_frm (mv_S [64, 65, 66, 67, 68, 69, 70, 71, 72, 73, 74, 75, 76, 77, 78, 79, 80, 81, 82, 83, 84, 85, 86] [(62, 0), (62, 2), (62, 3), (62, 4), (62, 5), (62, 6), (62, 7), (62, 8), (62, 9), (62, 10), (62, 27), (62, 28), (62, 29), (62, 30), (62, 32), (62, 33), (62, 36), (62, 38), (62, 40), (62, 41), (62, 44), (62, 45), (62, 46), (62, 47), (62, 75)]) (fX11_read M) M := by
  unfold fX11_read
  refine frm_letM (sm_si (mv_Ss (by decide))) (fun M1 => ?_)
  refine frm_if ?_ ?_
  · exact qX11_read_26 (M1.1 62 47) M1
  · exact qX11_read_26 (1 - (M1.1 62 47)) M1
set_option maxRecDepth 100000 in
theorem qX11_place (M : mv_M) : mv_frm (mv_S [] [(62, 0)]) (fX11_place M) M := by
  unfold fX11_place
  refine frm_letM (sm_si (mv_Ss (by decide))) (fun M1 => ?_)
  exact frm_some
set_option maxRecDepth 100000 in
theorem qX11_isFn (a0 : Int32) (M : mv_M) : mv_frm (mv_S [] []) (fX11_isFn a0 M) M := by
  unfold fX11_isFn
  refine frm_if ?_ ?_
  · exact frm_some
  · refine frm_chk ?_
    refine frm_bind (by decide) (qX11_within (a0.toInt64) 0 (((M.1 79 (M.1 62 47).toNatClampNeg) - 1).toInt64) M) (fun r2 M3 => ?_)
    refine frm_if ?_ ?_
    · exact frm_some
    · exact frm_some
set_option maxRecDepth 100000 in
theorem qX11_function_120 (s0 : Int32) (M : mv_M) : mv_frm (mv_S [] [(62, 0)]) (fX11_function_120 s0 M) M := by
  unfold fX11_function_120
  refine frm_bind (by decide) (qX11_demands s0 M) (fun r14 M15 => ?_)
  exact frm_some
set_option maxRecDepth 100000 in
theorem qX11_function_54 (x2 : Int32) (x3 : Int32) (s0 : Int32) (M : mv_M) : mv_frm (mv_S [] [(62, 0)]) (fX11_function_54 x2 x3 s0 M) M := by
  unfold fX11_function_54
  refine frm_letM (sm_si (mv_Ss (by decide))) (fun M9 => ?_)
  refine frm_if ?_ ?_
  · refine frm_if ?_ ?_
    · refine frm_chk ?_
      exact frm_some
    · refine frm_if ?_ ?_
      · refine frm_chk ?_
        exact frm_some
      · refine frm_if ?_ ?_
        · refine frm_chk ?_
          exact qX11_function_120 (M9.1 65 x3.toNatClampNeg) M9
        · refine frm_chk ?_
          exact qX11_function_120 (M9.1 70 (((16 * x3) + x2) - 3).toNatClampNeg) M9
  · exact frm_some
set_option maxRecDepth 100000 in
theorem qX11_function_53 (x2 : Int32) (x3 : Int32) (M : mv_M) : mv_frm (mv_S [] [(62, 0)]) (fX11_function_53 x2 x3 M) M := by
  unfold fX11_function_53
  exact qX11_function_54 x2 x3 1 M
set_option maxRecDepth 100000 in
theorem qX11_function_40 (x2 : Int32) (x3 : Int32) (s0 : Int32) (s2 : Int32) (s3 : Int64) (s4 : Int64) (M : mv_M) : mv_frm (mv_S [] [(62, 0)]) (fX11_function_40 x2 x3 s0 s2 s3 s4 M) M := by
  unfold fX11_function_40
  refine frm_chk ?_
  refine frm_bind (by decide) (qX11_within s4 s3 ((s2 + (M.1 66 s0.toNatClampNeg)).toInt64) M) (fun r7 M8 => ?_)
  refine frm_if ?_ ?_
  · exact qX11_function_53 x2 x3 M8
  · exact qX11_function_54 x2 x3 0 M8
set_option maxRecDepth 100000 in
theorem qX11_function (a0 : Int32) (a1 : Int32) (M : mv_M) : mv_frm (mv_S [] [(62, 0)]) (fX11_function a0 a1 M) M := by
  unfold fX11_function
  refine frm_let (fun v1 => ?_)
  refine frm_bind (by decide) (qX11_isFn a0 M) (fun r2 M3 => ?_)
  refine frm_if ?_ ?_
  · exact qX11_function_53 a1 v1 M3
  · refine frm_bind (by decide) (qX11_isFn a0 M3) (fun r4 M5 => ?_)
    refine frm_if ?_ ?_
    · exact qX11_function_40 a1 v1 0 2 0 (a1.toInt64) M5
    · exact qX11_function_40 a1 v1 v1 2 0 (a1.toInt64) M5
set_option maxRecDepth 100000 in
theorem qX11_asking (a0 : Int32) (a1 : Int32) (a2 : Int32) (a3 : Int32) (M : mv_M) : mv_frm (mv_S [81, 82, 85, 87] [(62, 36)]) (fX11_asking a0 a1 a2 a3 M) M := by
  unfold fX11_asking
  refine frm_if ?_ ?_
  · exact frm_some
  · refine frm_if ?_ ?_
    · exact frm_some
    · refine frm_chk ?_
      refine frm_letM (sm_si (mv_Sc (by decide))) (fun M2 => ?_)
      refine frm_bind (by decide) (qX11_task a0 a1 a3 M2) (fun _ M3 => ?_)
      exact frm_some
set_option maxRecDepth 100000 in
theorem qX11_join_123 (x1 : Int32) (x2 : Int32) (x3 : Int32) (x4 : Int32) (x5 : Int32) (s0 : Int32) (s1 : Int32) (M : mv_M) : mv_frm (mv_S [88, 89] []) (fX11_join_123 x1 x2 x3 x4 x5 s0 s1 M) M := by
  unfold fX11_join_123
  refine frm_chk ?_
  refine frm_letM (sm_si (mv_Sc (by decide))) (fun M13 => ?_)
  refine frm_let (fun v14 => ?_)
  exact frm_some
set_option maxRecDepth 100000 in
theorem qX11_join_100 (x1 : Int32) (x2 : Int32) (x3 : Int32) (x4 : Int32) (x5 : Int32) (x6 : Int32) (x7 : Int32) (s0 : Int32) (M : mv_M) : mv_frm (mv_S [88, 89] []) (fX11_join_100 x1 x2 x3 x4 x5 x6 x7 s0 M) M := by
  unfold fX11_join_100
  refine frm_chk ?_
  refine frm_bind (by decide) (qX11_joined (M.1 70 ((16 * (M.1 62 33)) + x5).toNatClampNeg) x6 x7 x2 M) (fun r16 M17 => ?_)
  exact qX11_join_123 x1 x2 x3 x4 x5 r16 s0 M17
set_option maxRecDepth 100000 in
theorem qX11_join_86 (x1 : Int32) (x2 : Int32) (x3 : Int32) (x4 : Int32) (x5 : Int32) (x6 : Int32) (x7 : Int32) (s0 : Int32) (M : mv_M) : mv_frm (mv_S [88, 89] []) (fX11_join_86 x1 x2 x3 x4 x5 x6 x7 s0 M) M := by
  unfold fX11_join_86
  refine frm_if ?_ ?_
  · refine frm_if ?_ ?_
    · exact qX11_join_100 x1 x2 x3 x4 x5 x6 x7 s0 M
    · exact qX11_join_123 x1 x2 x3 x4 x5 x6 s0 M
  · exact qX11_join_100 x1 x2 x3 x4 x5 x6 x7 s0 M
set_option maxRecDepth 100000 in
theorem qX11_join_173 (s0 : Int32) (s1 : Int32) (M : mv_M) : mv_frm (mv_S [88, 89] []) (fX11_join_173 s0 s1 M) M := by
  unfold fX11_join_173
  refine frm_chk ?_
  refine frm_letM (sm_si (mv_Sc (by decide))) (fun M11 => ?_)
  exact frm_some
set_option maxRecDepth 100000 in
theorem qX11_join_151 (s0 : Int32) (M : mv_M) : mv_frm (mv_S [88, 89] []) (fX11_join_151 s0 M) M := by
  unfold fX11_join_151
  exact qX11_join_173 1 s0 M
set_option maxRecDepth 100000 in
theorem qX11_join_172 (s0 : Int32) (M : mv_M) : mv_frm (mv_S [88, 89] []) (fX11_join_172 s0 M) M := by
  unfold fX11_join_172
  exact qX11_join_173 0 s0 M
set_option maxRecDepth 100000 in
theorem qX11_join_26 (x1 : Int32) (x2 : Int32) (x3 : Int32) (x4 : Int32) (x5 : Int32) (M : mv_M) : mv_frm (mv_S [88, 89] []) (fX11_join_26 x1 x2 x3 x4 x5 M) M := by
  unfold fX11_join_26
  refine frm_loop ?_ _ M
  rintro ⟨x1, x2, x3, x4, x5⟩ M
  try dsimp only
  unfold gX11_join_26
  refine frm_chk ?_
  refine frm_if ?_ ?_
  · refine frm_if ?_ ?_
    · refine frm_if ?_ ?_
      · exact frm_inr (qX11_join_172 (x1 / 16) M)
      · refine frm_if ?_ ?_
        · exact frm_inr (qX11_join_172 (x1 / 16) M)
        · exact frm_inr (qX11_join_173 1 (x1 / 16) M)
    · refine frm_if ?_ ?_
      · refine frm_if ?_ ?_
        · exact frm_inr (qX11_join_173 0 (x1 / 16) M)
        · exact frm_inr (qX11_join_151 (x1 / 16) M)
      · exact frm_inr (qX11_join_151 (x1 / 16) M)
  · refine frm_chk ?_
    refine frm_let (fun v7 => ?_)
    refine frm_chk ?_
    refine frm_let (fun v9 => ?_)
    refine frm_if ?_ ?_
    · refine frm_if ?_ ?_
      · exact qX11_join_86 x1 x2 x3 x4 x5 v7 v9 (x1 + x5) M
      · exact qX11_join_123 x1 x2 x3 x4 x5 v9 (x1 + x5) M
    · exact qX11_join_86 x1 x2 x3 x4 x5 v7 v9 (x1 + x5) M
set_option maxRecDepth 100000 in
theorem qX11_join (a0 : Int32) (a1 : Int32) (M : mv_M) : mv_frm (mv_S [88, 89] []) (fX11_join a0 a1 M) M := by
  unfold fX11_join
  refine frm_chk ?_
  refine frm_let (fun v2 => ?_)
  refine frm_chk ?_
  refine frm_let (fun v4 => ?_)
  exact qX11_join_26 a0 a1 v2 v4 0 M
set_option maxRecDepth 100000 in
theorem qX11_onAsk_233 (M : mv_M) : mv_frm (mv_S [81, 82, 85, 87, 88, 89] [(62, 36)]) (fX11_onAsk_233 M) M := by
  unfold fX11_onAsk_233
  exact frm_some
set_option maxRecDepth 100000 in
theorem qX11_onAsk_214 (x1 : Int32) (x3 : Int32) (x6 : Int32) (M : mv_M) : mv_frm (mv_S [81, 82, 85, 87, 88, 89] [(62, 36)]) (fX11_onAsk_214 x1 x3 x6 M) M := by
  unfold fX11_onAsk_214
  refine frm_if ?_ ?_
  · exact qX11_onAsk_233 M
  · refine frm_chk ?_
    refine frm_bind (by decide) (qX11_asking 1 (M.1 72 x1.toNatClampNeg) x6 x3 M) (fun _ M37 => ?_)
    exact qX11_onAsk_233 M37
set_option maxRecDepth 100000 in
theorem qX11_onAsk_182 (x1 : Int32) (x3 : Int32) (x6 : Int32) (s0 : Int32) (M : mv_M) : mv_frm (mv_S [81, 82, 85, 87, 88, 89] [(62, 36)]) (fX11_onAsk_182 x1 x3 x6 s0 M) M := by
  unfold fX11_onAsk_182
  refine frm_if ?_ ?_
  · exact qX11_onAsk_214 x1 x3 x6 M
  · refine frm_bind (by decide) (qX11_asking 2 x1 0 x3 M) (fun _ M33 => ?_)
    refine frm_chk ?_
    refine frm_bind (by decide) (qX11_asking 1 (M33.1 73 x1.toNatClampNeg) s0 (x3 + 16) M33) (fun _ M35 => ?_)
    exact qX11_onAsk_214 x1 x3 x6 M35
set_option maxRecDepth 100000 in
theorem qX11_onAsk_163 (x1 : Int32) (x2 : Int32) (x3 : Int32) (x4 : Int32) (x5 : Int32) (s0 : Int32) (M : mv_M) : mv_frm (mv_S [81, 82, 85, 87, 88, 89] [(62, 36)]) (fX11_onAsk_163 x1 x2 x3 x4 x5 s0 M) M := by
  unfold fX11_onAsk_163
  refine frm_if ?_ ?_
  · refine frm_chk ?_
    exact qX11_onAsk_182 x1 x3 s0 ((x2 - 1) - (x2 - 1) / x5 * x5) M
  · exact qX11_onAsk_182 x1 x3 s0 1 M
set_option maxRecDepth 100000 in
theorem qX11_onAsk_144 (x1 : Int32) (x2 : Int32) (x3 : Int32) (x4 : Int32) (s0 : Int32) (M : mv_M) : mv_frm (mv_S [81, 82, 85, 87, 88, 89] [(62, 36)]) (fX11_onAsk_144 x1 x2 x3 x4 s0 M) M := by
  unfold fX11_onAsk_144
  refine frm_if ?_ ?_
  · refine frm_chk ?_
    exact qX11_onAsk_163 x1 x2 x3 x4 s0 ((x2 - 1) / s0) M
  · exact qX11_onAsk_163 x1 x2 x3 x4 s0 1 M
set_option maxRecDepth 100000 in
theorem qX11_onAsk_121 (x1 : Int32) (x2 : Int32) (x3 : Int32) (x4 : Int32) (M : mv_M) : mv_frm (mv_S [81, 82, 85, 87, 88, 89] [(62, 36)]) (fX11_onAsk_121 x1 x2 x3 x4 M) M := by
  unfold fX11_onAsk_121
  refine frm_if ?_ ?_
  · refine frm_chk ?_
    refine frm_bind (by decide) (qX11_secondOf (M.1 76 x1.toNatClampNeg) M) (fun r24 M25 => ?_)
    refine frm_bind (by decide) (qX11_demands r24 M25) (fun r26 M27 => ?_)
    exact qX11_onAsk_144 x1 x2 x3 x4 r26 M27
  · exact qX11_onAsk_144 x1 x2 x3 x4 1 M
set_option maxRecDepth 100000 in
theorem qX11_onAsk_333 (x1 : Int32) (x2 : Int32) (x3 : Int32) (s0 : Int32) (M : mv_M) : mv_frm (mv_S [81, 82, 85, 87, 88, 89] [(62, 36)]) (fX11_onAsk_333 x1 x2 x3 s0 M) M := by
  unfold fX11_onAsk_333
  refine frm_bind (by decide) (qX11_asking s0 x1 0 x3 M) (fun _ M29 => ?_)
  refine frm_chk ?_
  refine frm_bind (by decide) (qX11_asking 1 (M29.1 73 x1.toNatClampNeg) x2 x3 M29) (fun _ M31 => ?_)
  exact frm_some
set_option maxRecDepth 100000 in
theorem qX11_onAsk_321 (x1 : Int32) (x2 : Int32) (x3 : Int32) (x4 : Int32) (M : mv_M) : mv_frm (mv_S [81, 82, 85, 87, 88, 89] [(62, 36)]) (fX11_onAsk_321 x1 x2 x3 x4 M) M := by
  unfold fX11_onAsk_321
  refine frm_if ?_ ?_
  · exact qX11_onAsk_333 x1 x2 x3 4 M
  · exact qX11_onAsk_333 x1 x2 x3 5 M
set_option maxRecDepth 100000 in
theorem qX11_onAsk_83 (x1 : Int32) (x2 : Int32) (x3 : Int32) (x4 : Int32) (s0 : Int32) (s1 : Int32) (M : mv_M) : mv_frm (mv_S [81, 82, 85, 87, 88, 89] [(62, 36)]) (fX11_onAsk_83 x1 x2 x3 x4 s0 s1 M) M := by
  unfold fX11_onAsk_83
  refine frm_chk ?_
  refine frm_letM (sm_si (mv_Sc (by decide))) (fun M9 => ?_)
  refine frm_if ?_ ?_
  · refine frm_chk ?_
    refine frm_chk ?_
    refine frm_letM (sm_si (mv_Sc (by decide))) (fun M22 => ?_)
    exact frm_some
  · refine frm_if ?_ ?_
    · exact qX11_onAsk_121 x1 x2 x3 x4 M9
    · refine frm_if ?_ ?_
      · exact qX11_onAsk_121 x1 x2 x3 x4 M9
      · refine frm_if ?_ ?_
        · refine frm_bind (by decide) (qX11_asking 2 x1 0 x3 M9) (fun _ M12 => ?_)
          refine frm_bind (by decide) (qX11_asking 3 x1 0 (x3 + 16) M12) (fun _ M13 => ?_)
          refine frm_chk ?_
          refine frm_bind (by decide) (qX11_asking 1 (M13.1 74 x1.toNatClampNeg) x2 (x3 + 32) M13) (fun _ M15 => ?_)
          refine frm_chk ?_
          refine frm_bind (by decide) (qX11_asking 1 (M15.1 73 x1.toNatClampNeg) x2 (x3 + 16) M15) (fun _ M17 => ?_)
          refine frm_chk ?_
          refine frm_bind (by decide) (qX11_asking 1 (M17.1 72 x1.toNatClampNeg) 1 x3 M17) (fun _ M19 => ?_)
          exact frm_some
        · refine frm_if ?_ ?_
          · exact qX11_onAsk_321 x1 x2 x3 x4 M9
          · refine frm_if ?_ ?_
            · exact qX11_onAsk_321 x1 x2 x3 x4 M9
            · refine frm_if ?_ ?_
              · refine frm_chk ?_
                refine frm_if ?_ ?_
                · refine frm_bind (by decide) (qX11_asking 6 x1 (8 * x2) x3 M9) (fun _ M11 => ?_)
                  exact frm_some
                · exact frm_some
              · exact frm_some
set_option maxRecDepth 100000 in
theorem qX11_onAsk_78 (x1 : Int32) (x2 : Int32) (x3 : Int32) (x4 : Int32) (s0 : Int32) (M : mv_M) : mv_frm (mv_S [81, 82, 85, 87, 88, 89] [(62, 36)]) (fX11_onAsk_78 x1 x2 x3 x4 s0 M) M := by
  unfold fX11_onAsk_78
  exact qX11_onAsk_83 x1 x2 x3 x4 1 s0 M
set_option maxRecDepth 100000 in
theorem qX11_onAsk_82 (x1 : Int32) (x2 : Int32) (x3 : Int32) (x4 : Int32) (s0 : Int32) (M : mv_M) : mv_frm (mv_S [81, 82, 85, 87, 88, 89] [(62, 36)]) (fX11_onAsk_82 x1 x2 x3 x4 s0 M) M := by
  unfold fX11_onAsk_82
  exact qX11_onAsk_83 x1 x2 x3 x4 0 s0 M
set_option maxRecDepth 100000 in
theorem qX11_onAsk_3 (x1 : Int32) (x2 : Int32) (x3 : Int32) (x4 : Int32) (M : mv_M) : mv_frm (mv_S [81, 82, 85, 87, 88, 89] [(62, 36)]) (fX11_onAsk_3 x1 x2 x3 x4 M) M := by
  unfold fX11_onAsk_3
  refine frm_loop ?_ _ M
  rintro ⟨x1, x2, x3, x4⟩ M
  try dsimp only
  unfold gX11_onAsk_3
  refine frm_if ?_ ?_
  · refine frm_chk ?_
    refine frm_let (fun v2 => ?_)
    refine frm_if ?_ ?_
    · exact frm_inr (qX11_onAsk_78 x1 x2 x3 v2 (x3 / 16) M)
    · refine frm_if ?_ ?_
      · refine frm_chk ?_
        refine frm_chk ?_
        refine frm_if ?_ ?_
        · exact frm_inr (qX11_onAsk_82 x1 x2 x3 v2 (x3 / 16) M)
        · exact frm_inr (qX11_onAsk_78 x1 x2 x3 v2 (x3 / 16) M)
      · exact frm_inr (qX11_onAsk_82 x1 x2 x3 v2 (x3 / 16) M)
  · refine frm_chk ?_
    refine frm_letM (sm_si (mv_Sc (by decide))) (fun M6 => ?_)
    refine frm_let (fun v7 => ?_)
    exact frm_some
set_option maxRecDepth 100000 in
theorem qX11_onAsk (a0 : Int32) (a1 : Int32) (a2 : Int32) (M : mv_M) : mv_frm (mv_S [81, 82, 85, 87, 88, 89] [(62, 36)]) (fX11_onAsk a0 a1 a2 M) M := by
  unfold fX11_onAsk
  exact qX11_onAsk_3 a0 a1 a2 0 M
set_option maxRecDepth 100000 in
theorem qX11_onArgument_57 (x1 : Int32) (x2 : Int32) (x3 : Int32) (x4 : Int32) (x5 : Int32) (M : mv_M) : mv_frm (mv_S [81, 82, 85, 87] [(62, 36)]) (fX11_onArgument_57 x1 x2 x3 x4 x5 M) M := by
  unfold fX11_onArgument_57
  refine frm_chk ?_
  refine frm_if ?_ ?_
  · exact frm_some
  · refine frm_chk ?_
    refine frm_if ?_ ?_
    · refine frm_bind (by decide) (qX11_asking 6 x1 ((((x2 / 8) * 8) + x5) + 1) x3 M) (fun _ M9 => ?_)
      refine frm_bind (by decide) (qX11_asking 2 x1 0 x3 M9) (fun _ M10 => ?_)
      refine frm_chk ?_
      refine frm_chk ?_
      refine frm_chk ?_
      refine frm_bind (by decide) (qX11_asking 1 (M10.1 78 ((M10.1 72 x1.toNatClampNeg) + x5).toNatClampNeg) (M10.1 90 ((4 * x4) + x5).toNatClampNeg) (x3 + 16) M10) (fun _ M14 => ?_)
      exact frm_some
    · exact frm_some
set_option maxRecDepth 100000 in
theorem qX11_onArgument_25 (x1 : Int32) (x2 : Int32) (x3 : Int32) (x4 : Int32) (x5 : Int32) (M : mv_M) : mv_frm (mv_S [81, 82, 85, 87] [(62, 36)]) (fX11_onArgument_25 x1 x2 x3 x4 x5 M) M := by
  unfold fX11_onArgument_25
  refine frm_loop ?_ _ M
  rintro ⟨x1, x2, x3, x4, x5⟩ M
  try dsimp only
  unfold gX11_onArgument_25
  refine frm_chk ?_
  refine frm_if ?_ ?_
  · exact frm_inr (qX11_onArgument_57 x1 x2 x3 x4 x5 M)
  · refine frm_chk ?_
    refine frm_if ?_ ?_
    · refine frm_let (fun v6 => ?_)
      exact frm_some
    · exact frm_inr (qX11_onArgument_57 x1 x2 x3 x4 x5 M)
set_option maxRecDepth 100000 in
theorem qX11_onArgument (a0 : Int32) (a1 : Int32) (a2 : Int32) (M : mv_M) : mv_frm (mv_S [81, 82, 85, 87] [(62, 36)]) (fX11_onArgument a0 a1 a2 M) M := by
  unfold fX11_onArgument
  refine frm_chk ?_
  refine frm_let (fun v2 => ?_)
  refine frm_let (fun v3 => ?_)
  exact qX11_onArgument_25 a0 a1 a2 v2 v3 M
set_option maxRecDepth 100000 in
theorem qX11_asks_256 (M : mv_M) : mv_frm (mv_S [81, 82, 85, 87, 88, 89] [(62, 36)]) (fX11_asks_256 M) M := by
  unfold fX11_asks_256
  exact frm_some
set_option maxRecDepth 100000 in
theorem qX11_asks_114 (s0 : Int32) (s1 : Int32) (M : mv_M) : mv_frm (mv_S [81, 82, 85, 87, 88, 89] [(62, 36)]) (fX11_asks_114 s0 s1 M) M := by
  unfold fX11_asks_114
  refine frm_bind (by decide) (qX11_join s1 s0 M) (fun _ M30 => ?_)
  exact qX11_asks_256 M30
set_option maxRecDepth 100000 in
theorem qX11_asks_101 (x3 : Int32) (x6 : Int32) (M : mv_M) : mv_frm (mv_S [81, 82, 85, 87, 88, 89] [(62, 36)]) (fX11_asks_101 x3 x6 M) M := by
  unfold fX11_asks_101
  refine frm_if ?_ ?_
  · exact qX11_asks_114 1 x6 M
  · exact qX11_asks_114 0 x6 M
set_option maxRecDepth 100000 in
theorem qX11_asks_220 (x4 : Int32) (x6 : Int32) (s0 : Int32) (M : mv_M) : mv_frm (mv_S [81, 82, 85, 87, 88, 89] [(62, 36)]) (fX11_asks_220 x4 x6 s0 M) M := by
  unfold fX11_asks_220
  refine frm_if ?_ ?_
  · exact qX11_asks_256 M
  · refine frm_bind (by decide) (qX11_asking 2 x4 0 x6 M) (fun _ M27 => ?_)
    refine frm_chk ?_
    refine frm_bind (by decide) (qX11_asking 1 (M27.1 72 x4.toNatClampNeg) s0 (x6 + 16) M27) (fun _ M29 => ?_)
    exact qX11_asks_256 M29
set_option maxRecDepth 100000 in
theorem qX11_asks_13 (M : mv_M) : mv_frm (mv_S [81, 82, 85, 87, 88, 89] [(62, 36)]) (fX11_asks_13 M) M := by
  unfold fX11_asks_13
  refine frm_loop ?_ _ M
  intro s M
  try dsimp only
  unfold gX11_asks_13
  refine frm_if ?_ ?_
  · refine frm_chk ?_
    exact frm_some
  · refine frm_letM (sm_si (mv_Ss (by decide))) (fun M4 => ?_)
    refine frm_chk ?_
    refine frm_let (fun v6 => ?_)
    refine frm_chk ?_
    refine frm_let (fun v8 => ?_)
    refine frm_chk ?_
    refine frm_let (fun v10 => ?_)
    refine frm_chk ?_
    refine frm_let (fun v12 => ?_)
    refine frm_if ?_ ?_
    · refine frm_bind (by decide) (qX11_onAsk v8 v10 v12 M4) (fun _ M26 => ?_)
      exact qX11_asks_256 M26
    · refine frm_if ?_ ?_
      · exact qX11_asks_101 v6 v12 M4
      · refine frm_if ?_ ?_
        · exact qX11_asks_101 v6 v12 M4
        · refine frm_if ?_ ?_
          · refine frm_bind (by decide) (qX11_onArgument v8 v10 v12 M4) (fun _ M25 => ?_)
            exact qX11_asks_256 M25
          · refine frm_chk ?_
            refine frm_if ?_ ?_
            · refine frm_chk ?_
              refine frm_chk ?_
              refine frm_let (fun v16 => ?_)
              refine frm_if ?_ ?_
              · exact qX11_asks_220 v8 v12 v16 M4
              · refine frm_chk ?_
                refine frm_chk ?_
                refine frm_bind (by decide) (qX11_secondOf (M4.1 76 (M4.1 72 v8.toNatClampNeg).toNatClampNeg) M4) (fun r19 M20 => ?_)
                refine frm_bind (by decide) (qX11_demands r19 M20) (fun r21 M22 => ?_)
                refine frm_chk ?_
                refine frm_chk ?_
                exact qX11_asks_220 v8 v12 ((1 + (v16 * r21)) + (M22.1 88 ((v12 + (M22.1 74 v8.toNatClampNeg)) + 1).toNatClampNeg)) M22
            · exact qX11_asks_256 M4
set_option maxRecDepth 100000 in
theorem qX11_asks (a0 : Int32) (a1 : Int32) (M : mv_M) : mv_frm (mv_S [81, 82, 85, 87, 88, 89] [(62, 36)]) (fX11_asks a0 a1 M) M := by
  unfold fX11_asks
  refine frm_letM (sm_si (mv_Ss (by decide))) (fun M1 => ?_)
  refine frm_bind (by decide) (qX11_asking 1 a0 a1 0 M1) (fun _ M2 => ?_)
  exact qX11_asks_13 M2
set_option maxRecDepth 100000 in
theorem qX11_all (a0 : Int32) (a1 : Int32) (M : mv_M) : mv_frm (mv_S [] []) (fX11_all a0 a1 M) M := by
  unfold fX11_all
  refine frm_chk ?_
  refine frm_bind (by decide) (qX11_demands (M.1 70 ((16 * ((12 * (M.1 62 47)) + a0)) + a1).toNatClampNeg) M) (fun r2 M3 => ?_)
  exact frm_some
set_option maxRecDepth 100000 in
theorem qX11_renewed_128 (x3 : Int32) (x4 : Int32) (x6 : Int32) (x7 : Int32) (s0 : Int32) (M : mv_M) : mv_frm (mv_S [81, 82, 85, 87, 88, 89, 90, 91] [(62, 33), (62, 36)]) (fX11_renewed_128 x3 x4 x6 x7 s0 M) M := by
  unfold fX11_renewed_128
  refine frm_chk ?_
  refine frm_letM (sm_si (mv_Sc (by decide))) (fun M14 => ?_)
  refine frm_let (fun v15 => ?_)
  exact frm_some
set_option maxRecDepth 100000 in
theorem qX11_renewed_123 (x3 : Int32) (x4 : Int32) (x6 : Int32) (x7 : Int32) (M : mv_M) : mv_frm (mv_S [81, 82, 85, 87, 88, 89, 90, 91] [(62, 33), (62, 36)]) (fX11_renewed_123 x3 x4 x6 x7 M) M := by
  unfold fX11_renewed_123
  exact qX11_renewed_128 x3 x4 x6 x7 1 M
set_option maxRecDepth 100000 in
theorem qX11_renewed_127 (x3 : Int32) (x4 : Int32) (x6 : Int32) (x7 : Int32) (M : mv_M) : mv_frm (mv_S [81, 82, 85, 87, 88, 89, 90, 91] [(62, 33), (62, 36)]) (fX11_renewed_127 x3 x4 x6 x7 M) M := by
  unfold fX11_renewed_127
  exact qX11_renewed_128 x3 x4 x6 x7 0 M
set_option maxRecDepth 100000 in
theorem qX11_renewed_95 (x3 : Int32) (x4 : Int32) (x5 : Int32) (x6 : Int32) (s0 : Int32) (M : mv_M) : mv_frm (mv_S [81, 82, 85, 87, 88, 89, 90, 91] [(62, 33), (62, 36)]) (fX11_renewed_95 x3 x4 x5 x6 s0 M) M := by
  unfold fX11_renewed_95
  refine frm_if ?_ ?_
  · refine frm_if ?_ ?_
    · refine frm_chk ?_
      refine frm_if ?_ ?_
      · exact qX11_renewed_127 x3 x4 x6 s0 M
      · exact qX11_renewed_123 x3 x4 x6 s0 M
    · exact qX11_renewed_127 x3 x4 x6 s0 M
  · exact qX11_renewed_123 x3 x4 x6 s0 M
set_option maxRecDepth 100000 in
theorem qX11_renewed_65 (x3 : Int32) (x4 : Int32) (x5 : Int32) (x6 : Int32) (M : mv_M) : mv_frm (mv_S [81, 82, 85, 87, 88, 89, 90, 91] [(62, 33), (62, 36)]) (fX11_renewed_65 x3 x4 x5 x6 M) M := by
  unfold fX11_renewed_65
  refine frm_loop ?_ _ M
  rintro ⟨x3, x4, x5, x6⟩ M
  try dsimp only
  unfold gX11_renewed_65
  refine frm_chk ?_
  refine frm_if ?_ ?_
  · refine frm_chk ?_
    exact frm_some
  · refine frm_if ?_ ?_
    · refine frm_chk ?_
      exact qX11_renewed_95 x3 x4 x5 x6 (M.1 88 x6.toNatClampNeg) M
    · exact qX11_renewed_95 x3 x4 x5 x6 0 M
set_option maxRecDepth 100000 in
theorem qX11_renewed_52 (x3 : Int32) (x4 : Int32) (s0 : Int32) (M : mv_M) : mv_frm (mv_S [81, 82, 85, 87, 88, 89, 90, 91] [(62, 33), (62, 36)]) (fX11_renewed_52 x3 x4 s0 M) M := by
  unfold fX11_renewed_52
  refine frm_chk ?_
  refine frm_letM (sm_si (mv_Sc (by decide))) (fun M8 => ?_)
  exact qX11_renewed_65 x3 x4 s0 0 M8
set_option maxRecDepth 100000 in
theorem qX11_renewed (a0 : Int32) (a1 : Int32) (M : mv_M) : mv_frm (mv_S [81, 82, 85, 87, 88, 89, 90, 91] [(62, 33), (62, 36)]) (fX11_renewed a0 a1 M) M := by
  unfold fX11_renewed
  refine frm_letM (sm_si (mv_Ss (by decide))) (fun M1 => ?_)
  refine frm_let (fun v2 => ?_)
  refine frm_chk ?_
  refine frm_bind (by decide) (qX11_asks (M1.1 68 (M1.1 62 33).toNatClampNeg) a1 M1) (fun r4 M5 => ?_)
  refine frm_chk ?_
  refine frm_if ?_ ?_
  · exact qX11_renewed_52 v2 r4 0 M5
  · exact qX11_renewed_52 v2 r4 1 M5
set_option maxRecDepth 100000 in
theorem qX11_rounds_125 (x1 : Int32) (x3 : Int32) (x4 : Int32) (s0 : Int32) (M : mv_M) : mv_frm (mv_S [81, 82, 85, 87, 88, 89, 90, 91] [(62, 0), (62, 33), (62, 36), (62, 46)]) (fX11_rounds_125 x1 x3 x4 s0 M) M := by
  unfold fX11_rounds_125
  refine frm_let (fun v14 => ?_)
  exact frm_some
set_option maxRecDepth 100000 in
theorem qX11_rounds_120 (x1 : Int32) (x3 : Int32) (x4 : Int32) (M : mv_M) : mv_frm (mv_S [81, 82, 85, 87, 88, 89, 90, 91] [(62, 0), (62, 33), (62, 36), (62, 46)]) (fX11_rounds_120 x1 x3 x4 M) M := by
  unfold fX11_rounds_120
  exact qX11_rounds_125 x1 x3 x4 1 M
set_option maxRecDepth 100000 in
theorem qX11_rounds_80 (x1 : Int32) (x2 : Int32) (x3 : Int32) (x4 : Int32) (M : mv_M) : mv_frm (mv_S [81, 82, 85, 87, 88, 89, 90, 91] [(62, 0), (62, 33), (62, 36), (62, 46)]) (fX11_rounds_80 x1 x2 x3 x4 M) M := by
  unfold fX11_rounds_80
  refine frm_loop ?_ _ M
  rintro ⟨x1, x2, x3, x4⟩ M
  try dsimp only
  unfold gX11_rounds_80
  refine frm_chk ?_
  refine frm_bind (by decide) (qX11_demands (M.1 65 ((12 * (M.1 62 47)) + x3).toNatClampNeg) M) (fun r9 M10 => ?_)
  refine frm_if ?_ ?_
  · refine frm_let (fun v11 => ?_)
    exact frm_some
  · refine frm_bind (by decide) (qX11_renewed x3 x4 M10) (fun r12 M13 => ?_)
    refine frm_if ?_ ?_
    · refine frm_if ?_ ?_
      · exact qX11_rounds_125 x1 x3 x4 0 M13
      · exact qX11_rounds_120 x1 x3 x4 M13
    · exact qX11_rounds_120 x1 x3 x4 M13
set_option maxRecDepth 100000 in
theorem qX11_rounds_64 (x1 : Int32) (x2 : Int32) (x3 : Int32) (M : mv_M) : mv_frm (mv_S [81, 82, 85, 87, 88, 89, 90, 91] [(62, 0), (62, 33), (62, 36), (62, 46)]) (fX11_rounds_64 x1 x2 x3 M) M := by
  unfold fX11_rounds_64
  refine frm_loop ?_ _ M
  rintro ⟨x1, x2, x3⟩ M
  try dsimp only
  unfold gX11_rounds_64
  refine frm_chk ?_
  refine frm_if ?_ ?_
  · refine frm_let (fun v7 => ?_)
    exact frm_some
  · exact qX11_rounds_80 x1 x2 x3 1 M
set_option maxRecDepth 100000 in
theorem qX11_rounds_56 (x1 : Int32) (x2 : Int32) (M : mv_M) : mv_frm (mv_S [81, 82, 85, 87, 88, 89, 90, 91] [(62, 0), (62, 33), (62, 36), (62, 46)]) (fX11_rounds_56 x1 x2 M) M := by
  unfold fX11_rounds_56
  refine frm_loop ?_ _ M
  rintro ⟨x1, x2⟩ M
  try dsimp only
  unfold gX11_rounds_56
  refine frm_if ?_ ?_
  · exact frm_some
  · exact qX11_rounds_64 x1 0 0 M
set_option maxRecDepth 100000 in
theorem qX11_rounds_32 (x1 : Int32) (M : mv_M) : mv_frm (mv_S [81, 82, 85, 87, 88, 89, 90, 91] [(62, 0), (62, 33), (62, 36), (62, 46)]) (fX11_rounds_32 x1 M) M := by
  unfold fX11_rounds_32
  refine frm_loop ?_ _ M
  intro x1 M
  try dsimp only
  unfold gX11_rounds_32
  refine frm_if ?_ ?_
  · exact frm_inr (qX11_rounds_56 0 1 M)
  · refine frm_chk ?_
    refine frm_letM (sm_si (mv_Sc (by decide))) (fun M4 => ?_)
    refine frm_let (fun v5 => ?_)
    exact frm_some
set_option maxRecDepth 100000 in
theorem qX11_rounds_13 (s0 : Int32) (M : mv_M) : mv_frm (mv_S [81, 82, 85, 87, 88, 89, 90, 91] [(62, 0), (62, 33), (62, 36), (62, 46)]) (fX11_rounds_13 s0 M) M := by
  unfold fX11_rounds_13
  refine frm_letM (sm_si (mv_Ss (by decide))) (fun M1 => ?_)
  refine frm_if ?_ ?_
  · refine frm_letM (sm_si (mv_Ss (by decide))) (fun M2 => ?_)
    exact qX11_rounds_32 0 M2
  · exact frm_some
set_option maxRecDepth 100000 in
theorem qX11_rounds (M : mv_M) : mv_frm (mv_S [81, 82, 85, 87, 88, 89, 90, 91] [(62, 0), (62, 33), (62, 36), (62, 46)]) (fX11_rounds M) M := by
  unfold fX11_rounds
  refine frm_if ?_ ?_
  · exact qX11_rounds_13 1 M
  · exact qX11_rounds_13 0 M
set_option maxRecDepth 100000 in
theorem qX11_isRowThere_35 (s0 : Int32) (s1 : Int32) (s3 : Int64) (s4 : Int64) (M : mv_M) : mv_frm (mv_S [] []) (fX11_isRowThere_35 s0 s1 s3 s4 M) M := by
  unfold fX11_isRowThere_35
  refine frm_chk ?_
  refine frm_bind (by decide) (qX11_demands (M.1 65 (s1 + s0).toNatClampNeg) M) (fun r6 M7 => ?_)
  refine frm_bind (by decide) (qX11_within s4 s3 ((r6 - 1).toInt64) M7) (fun r8 M9 => ?_)
  refine frm_if ?_ ?_
  · exact frm_some
  · exact frm_some
set_option maxRecDepth 100000 in
theorem qX11_isRowThere (a0 : Int32) (a1 : Int32) (M : mv_M) : mv_frm (mv_S [] []) (fX11_isRowThere a0 a1 M) M := by
  unfold fX11_isRowThere
  refine frm_bind (by decide) (qX11_isFn a0 M) (fun r1 M2 => ?_)
  refine frm_if ?_ ?_
  · exact frm_some
  · refine frm_bind (by decide) (qX11_isFn a0 M2) (fun r3 M4 => ?_)
    refine frm_if ?_ ?_
    · exact qX11_isRowThere_35 0 (12 * (M2.1 62 47)) 1 (a1.toInt64) M4
    · exact qX11_isRowThere_35 a0 (12 * (M2.1 62 47)) 1 (a1.toInt64) M4
set_option maxRecDepth 100000 in
theorem qX11_has (a0 : Int32) (a1 : Int32) (a2 : Int32) (M : mv_M) : mv_frm (mv_S [] []) (fX11_has a0 a1 a2 M) M := by
  unfold fX11_has
  refine frm_chk ?_
  refine frm_if ?_ ?_
  · refine frm_chk ?_
    exact frm_some
  · refine frm_bind (by decide) (qX11_all a0 a2 M) (fun r3 M4 => ?_)
    exact frm_some
set_option maxRecDepth 100000 in
theorem qX11_dead_26 (x1 : Int32) (x2 : Int32) (s0 : Int32) (M : mv_M) : mv_frm (mv_S [] [(62, 0)]) (fX11_dead_26 x1 x2 s0 M) M := by
  unfold fX11_dead_26
  refine frm_letM (sm_si (mv_Ss (by decide))) (fun M3 => ?_)
  refine frm_if ?_ ?_
  · refine frm_chk ?_
    refine frm_if ?_ ?_
    · exact frm_some
    · exact frm_some
  · exact frm_some
set_option maxRecDepth 100000 in
theorem qX11_dead (a0 : Int32) (a1 : Int32) (M : mv_M) : mv_frm (mv_S [] [(62, 0)]) (fX11_dead a0 a1 M) M := by
  unfold fX11_dead
  refine frm_if ?_ ?_
  · exact qX11_dead_26 a0 a1 1 M
  · refine frm_bind (by decide) (qX11_isRowThere a0 a1 M) (fun r1 M2 => ?_)
    refine frm_if ?_ ?_
    · exact qX11_dead_26 a0 a1 2 M2
    · exact qX11_dead_26 a0 a1 0 M2
set_option maxRecDepth 100000 in
theorem qX11_isParamOf (a0 : Int32) (a1 : Int32) (M : mv_M) : mv_frm (mv_S [] []) (fX11_isParamOf a0 a1 M) M := by
  unfold fX11_isParamOf
  refine frm_bind (by decide) (qX11_isFn a0 M) (fun r1 M2 => ?_)
  refine frm_if ?_ ?_
  · exact frm_some
  · refine frm_chk ?_
    refine frm_bind (by decide) (qX11_within (a1.toInt64) 0 (((M2.1 66 ((12 * (M2.1 62 47)) + a0).toNatClampNeg) - 1).toInt64) M2) (fun r4 M5 => ?_)
    refine frm_if ?_ ?_
    · exact frm_some
    · exact frm_some
set_option maxRecDepth 100000 in
theorem qX11_asks__35 (x1 : Int32) (x2 : Int32) (x3 : Int32) (s0 : Int32) (M : mv_M) : mv_frm (mv_S [] [(62, 0)]) (fX11_asks__35 x1 x2 x3 s0 M) M := by
  unfold fX11_asks__35
  refine frm_letM (sm_si (mv_Ss (by decide))) (fun M5 => ?_)
  refine frm_if ?_ ?_
  · refine frm_bind (by decide) (qX11_has x1 x2 x3 M5) (fun r6 M7 => ?_)
    exact frm_some
  · exact frm_some
set_option maxRecDepth 100000 in
theorem qX11_asks__30 (x1 : Int32) (x2 : Int32) (x3 : Int32) (M : mv_M) : mv_frm (mv_S [] [(62, 0)]) (fX11_asks__30 x1 x2 x3 M) M := by
  unfold fX11_asks__30
  exact qX11_asks__35 x1 x2 x3 2 M
set_option maxRecDepth 100000 in
theorem qX11_asks_ (a0 : Int32) (a1 : Int32) (a2 : Int32) (M : mv_M) : mv_frm (mv_S [] [(62, 0)]) (fX11_asks_ a0 a1 a2 M) M := by
  unfold fX11_asks_
  refine frm_if ?_ ?_
  · exact qX11_asks__35 a0 a1 a2 1 M
  · refine frm_bind (by decide) (qX11_isRowThere a0 a1 M) (fun r1 M2 => ?_)
    refine frm_if ?_ ?_
    · exact qX11_asks__30 a0 a1 a2 M2
    · refine frm_bind (by decide) (qX11_isParamOf a0 a2 M2) (fun r3 M4 => ?_)
      refine frm_if ?_ ?_
      · exact qX11_asks__30 a0 a1 a2 M4
      · exact qX11_asks__35 a0 a1 a2 0 M4
set_option maxRecDepth 100000 in
theorem qX11_strict_26 (x1 : Int32) (x2 : Int32) (s0 : Int32) (M : mv_M) : mv_frm (mv_S [] [(62, 0)]) (fX11_strict_26 x1 x2 s0 M) M := by
  unfold fX11_strict_26
  refine frm_letM (sm_si (mv_Ss (by decide))) (fun M3 => ?_)
  refine frm_if ?_ ?_
  · refine frm_bind (by decide) (qX11_has x1 1 x2 M3) (fun r4 M5 => ?_)
    refine frm_if ?_ ?_
    · exact frm_some
    · exact frm_some
  · exact frm_some
set_option maxRecDepth 100000 in
theorem qX11_strict (a0 : Int32) (a1 : Int32) (M : mv_M) : mv_frm (mv_S [] [(62, 0)]) (fX11_strict a0 a1 M) M := by
  unfold fX11_strict
  refine frm_if ?_ ?_
  · exact qX11_strict_26 a0 a1 1 M
  · refine frm_bind (by decide) (qX11_isParamOf a0 a1 M) (fun r1 M2 => ?_)
    refine frm_if ?_ ?_
    · exact qX11_strict_26 a0 a1 2 M2
    · exact qX11_strict_26 a0 a1 0 M2
set_option maxRecDepth 100000 in
theorem qX11_plant_88 (x1 : Int32) (x2 : Int32) (x3 : Int32) (x4 : Int32) (x5 : Int32) (x6 : Int32) (x7 : Int32) (M : mv_M) : mv_frm (mv_S [90, 91] [(62, 0)]) (fX11_plant_88 x1 x2 x3 x4 x5 x6 x7 M) M := by
  unfold fX11_plant_88
  refine frm_loop ?_ _ M
  rintro ⟨x1, x2, x3, x4, x5, x6, x7⟩ M
  try dsimp only
  unfold gX11_plant_88
  refine frm_chk ?_
  refine frm_if ?_ ?_
  · refine frm_chk ?_
    refine frm_letM (sm_si (mv_Sc (by decide))) (fun M15 => ?_)
    refine frm_chk ?_
    refine frm_letM (sm_si (mv_Sc (by decide))) (fun M17 => ?_)
    exact frm_some
  · refine frm_bind (by decide) (qX11_has x1 x2 x7 M) (fun r18 M19 => ?_)
    refine frm_chk ?_
    refine frm_letM (sm_si (mv_Sc (by decide))) (fun M21 => ?_)
    refine frm_let (fun v22 => ?_)
    exact frm_some
set_option maxRecDepth 100000 in
theorem qX11_plant_56 (x1 : Int32) (x2 : Int32) (x3 : Int32) (x4 : Int32) (s0 : Int32) (M : mv_M) : mv_frm (mv_S [90, 91] [(62, 0)]) (fX11_plant_56 x1 x2 x3 x4 s0 M) M := by
  unfold fX11_plant_56
  refine frm_letM (sm_si (mv_Ss (by decide))) (fun M9 => ?_)
  refine frm_if ?_ ?_
  · refine frm_let (fun v10 => ?_)
    refine frm_bind (by decide) (qX11_has x1 x2 x3 M9) (fun r11 M12 => ?_)
    exact qX11_plant_88 x1 x2 x3 x4 v10 r11 0 M12
  · exact frm_some
set_option maxRecDepth 100000 in
theorem qX11_plant_30 (x1 : Int32) (x2 : Int32) (x3 : Int32) (x4 : Int32) (M : mv_M) : mv_frm (mv_S [90, 91] [(62, 0)]) (fX11_plant_30 x1 x2 x3 x4 M) M := by
  unfold fX11_plant_30
  exact qX11_plant_56 x1 x2 x3 x4 2 M
set_option maxRecDepth 100000 in
theorem qX11_plant (a0 : Int32) (a1 : Int32) (a2 : Int32) (a3 : Int32) (M : mv_M) : mv_frm (mv_S [90, 91] [(62, 0)]) (fX11_plant a0 a1 a2 a3 M) M := by
  unfold fX11_plant
  refine frm_if ?_ ?_
  · exact qX11_plant_56 a0 a1 a2 a3 1 M
  · refine frm_bind (by decide) (qX11_isRowThere a0 a1 M) (fun r1 M2 => ?_)
    refine frm_if ?_ ?_
    · exact qX11_plant_30 a0 a1 a2 a3 M2
    · refine frm_bind (by decide) (qX11_isParamOf a0 a2 M2) (fun r3 M4 => ?_)
      refine frm_if ?_ ?_
      · exact qX11_plant_30 a0 a1 a2 a3 M4
      · refine frm_bind (by decide) (qX11_all a0 a2 M4) (fun r5 M6 => ?_)
        refine frm_bind (by decide) (qX11_within (a3.toInt64) 0 (r5.toInt64) M6) (fun r7 M8 => ?_)
        refine frm_if ?_ ?_
        · exact qX11_plant_56 a0 a1 a2 a3 3 M8
        · exact qX11_plant_56 a0 a1 a2 a3 0 M8
set_option maxRecDepth 100000 in
theorem qX11_tellsTooMuch_139 (x1 : Int32) (x2 : Int32) (x3 : Int32) (x5 : Int32) (s0 : Int32) (M : mv_M) : mv_frm (mv_S [81, 82, 85, 87, 88, 89] [(62, 33), (62, 36)]) (fX11_tellsTooMuch_139 x1 x2 x3 x5 s0 M) M := by
  unfold fX11_tellsTooMuch_139
  refine frm_let (fun v16 => ?_)
  exact frm_some
set_option maxRecDepth 100000 in
theorem qX11_tellsTooMuch_134 (x1 : Int32) (x2 : Int32) (x3 : Int32) (x5 : Int32) (M : mv_M) : mv_frm (mv_S [81, 82, 85, 87, 88, 89] [(62, 33), (62, 36)]) (fX11_tellsTooMuch_134 x1 x2 x3 x5 M) M := by
  unfold fX11_tellsTooMuch_134
  exact qX11_tellsTooMuch_139 x1 x2 x3 x5 1 M
set_option maxRecDepth 100000 in
theorem qX11_tellsTooMuch_125 (x1 : Int32) (x2 : Int32) (x3 : Int32) (x5 : Int32) (x6 : Int32) (s0 : Int32) (s1 : Int32) (s2 : Int32) (M : mv_M) : mv_frm (mv_S [81, 82, 85, 87, 88, 89] [(62, 33), (62, 36)]) (fX11_tellsTooMuch_125 x1 x2 x3 x5 x6 s0 s1 s2 M) M := by
  unfold fX11_tellsTooMuch_125
  refine frm_bind (by decide) (qX11_joined s2 s1 s0 0 M) (fun r14 M15 => ?_)
  refine frm_if ?_ ?_
  · exact qX11_tellsTooMuch_139 x1 x2 x3 x5 0 M15
  · exact qX11_tellsTooMuch_134 x1 x2 x3 x5 M15
set_option maxRecDepth 100000 in
theorem qX11_tellsTooMuch_58 (x1 : Int32) (x2 : Int32) (x3 : Int32) (x4 : Int32) (x5 : Int32) (M : mv_M) : mv_frm (mv_S [81, 82, 85, 87, 88, 89] [(62, 33), (62, 36)]) (fX11_tellsTooMuch_58 x1 x2 x3 x4 x5 M) M := by
  unfold fX11_tellsTooMuch_58
  refine frm_loop ?_ _ M
  rintro ⟨x1, x2, x3, x4, x5⟩ M
  try dsimp only
  unfold gX11_tellsTooMuch_58
  refine frm_chk ?_
  refine frm_if ?_ ?_
  · refine frm_chk ?_
    exact frm_some
  · refine frm_bind (by decide) (qX11_has x1 x2 x5 M) (fun r8 M9 => ?_)
    refine frm_if ?_ ?_
    · refine frm_chk ?_
      refine frm_if ?_ ?_
      · refine frm_chk ?_
        exact qX11_tellsTooMuch_125 x1 x2 x3 x5 r8 (M9.1 88 x5.toNatClampNeg) r8 (M9.1 70 ((16 * (M9.1 62 33)) + x5).toNatClampNeg) M9
      · refine frm_bind (by decide) (qX11_all x1 x5 M9) (fun r12 M13 => ?_)
        exact qX11_tellsTooMuch_125 x1 x2 x3 x5 r8 r12 r8 (M9.1 70 ((16 * (M9.1 62 33)) + x5).toNatClampNeg) M13
    · exact qX11_tellsTooMuch_134 x1 x2 x3 x5 M9
set_option maxRecDepth 100000 in
theorem qX11_tellsTooMuch (a0 : Int32) (a1 : Int32) (M : mv_M) : mv_frm (mv_S [81, 82, 85, 87, 88, 89] [(62, 33), (62, 36)]) (fX11_tellsTooMuch a0 a1 M) M := by
  unfold fX11_tellsTooMuch
  refine frm_letM (sm_si (mv_Ss (by decide))) (fun M1 => ?_)
  refine frm_chk ?_
  refine frm_bind (by decide) (qX11_asks (M1.1 68 (M1.1 62 33).toNatClampNeg) a1 M1) (fun r3 M4 => ?_)
  refine frm_chk ?_
  refine frm_if ?_ ?_
  · exact qX11_tellsTooMuch_58 a0 a1 r3 0 0 M4
  · refine frm_if ?_ ?_
    · exact frm_some
    · exact frm_some
set_option maxRecDepth 100000 in
theorem qX11_check_42 (x1 : Int32) (x2 : Int32) (M : mv_M) : mv_frm (mv_S [81, 82, 85, 87, 88, 89] [(62, 0), (62, 33), (62, 36)]) (fX11_check_42 x1 x2 M) M := by
  unfold fX11_check_42
  refine frm_loop ?_ _ M
  rintro ⟨x1, x2⟩ M
  try dsimp only
  unfold gX11_check_42
  refine frm_chk ?_
  refine frm_bind (by decide) (qX11_demands (M.1 65 ((12 * (M.1 62 47)) + x1).toNatClampNeg) M) (fun r4 M5 => ?_)
  refine frm_if ?_ ?_
  · refine frm_let (fun v6 => ?_)
    exact frm_some
  · refine frm_bind (by decide) (qX11_tellsTooMuch x1 x2 M5) (fun r7 M8 => ?_)
    refine frm_if ?_ ?_
    · refine frm_let (fun v9 => ?_)
      exact frm_some
    · exact frm_some
set_option maxRecDepth 100000 in
theorem qX11_check_27 (x1 : Int32) (M : mv_M) : mv_frm (mv_S [81, 82, 85, 87, 88, 89] [(62, 0), (62, 33), (62, 36)]) (fX11_check_27 x1 M) M := by
  unfold fX11_check_27
  refine frm_loop ?_ _ M
  intro x1 M
  try dsimp only
  unfold gX11_check_27
  refine frm_chk ?_
  refine frm_if ?_ ?_
  · exact frm_some
  · exact qX11_check_42 x1 1 M
set_option maxRecDepth 100000 in
theorem qX11_check_13 (s0 : Int32) (M : mv_M) : mv_frm (mv_S [81, 82, 85, 87, 88, 89] [(62, 0), (62, 33), (62, 36)]) (fX11_check_13 s0 M) M := by
  unfold fX11_check_13
  refine frm_letM (sm_si (mv_Ss (by decide))) (fun M1 => ?_)
  refine frm_if ?_ ?_
  · exact qX11_check_27 0 M1
  · exact frm_some
set_option maxRecDepth 100000 in
theorem qX11_check (M : mv_M) : mv_frm (mv_S [81, 82, 85, 87, 88, 89] [(62, 0), (62, 33), (62, 36)]) (fX11_check M) M := by
  unfold fX11_check
  refine frm_if ?_ ?_
  · exact qX11_check_13 1 M
  · exact qX11_check_13 0 M
set_option maxRecDepth 100000 in
theorem qX11_input_31 (x1 : Int32) (x2 : Int32) (s0 : Int32) (M : mv_M) : mv_frm (mv_S [92, 93] [(62, 0), (62, 55)]) (fX11_input_31 x1 x2 s0 M) M := by
  unfold fX11_input_31
  refine frm_letM (sm_si (mv_Ss (by decide))) (fun M3 => ?_)
  refine frm_if ?_ ?_
  · refine frm_chk ?_
    refine frm_letM (sm_si (mv_Sc (by decide))) (fun M5 => ?_)
    refine frm_chk ?_
    refine frm_letM (sm_si (mv_Sc (by decide))) (fun M7 => ?_)
    refine frm_letM (sm_si (mv_Ss (by decide))) (fun M8 => ?_)
    exact frm_some
  · exact frm_some
set_option maxRecDepth 100000 in
theorem qX11_input (a0 : Int32) (a1 : Int32) (M : mv_M) : mv_frm (mv_S [92, 93] [(62, 0), (62, 55)]) (fX11_input a0 a1 M) M := by
  unfold fX11_input
  refine frm_bind (by decide) (qX11_within (a0.toInt64) 0 2 M) (fun r1 M2 => ?_)
  refine frm_if ?_ ?_
  · exact qX11_input_31 a0 a1 1 M2
  · refine frm_if ?_ ?_
    · exact qX11_input_31 a0 a1 2 M2
    · exact qX11_input_31 a0 a1 0 M2
set_option maxRecDepth 100000 in
theorem qX11_behind_118 (x3 : Int32) (x4 : Int32) (M : mv_M) : mv_frm (mv_S [94] []) (fX11_behind_118 x3 x4 M) M := by
  unfold fX11_behind_118
  exact frm_some
set_option maxRecDepth 100000 in
theorem qX11_behind_71 (x4 : Int32) (M : mv_M) : mv_frm (mv_S [94] []) (fX11_behind_71 x4 M) M := by
  unfold fX11_behind_71
  exact qX11_behind_118 (-1) x4 M
set_option maxRecDepth 100000 in
theorem qX11_behind_115 (x3 : Int32) (x4 : Int32) (M : mv_M) : mv_frm (mv_S [94] []) (fX11_behind_115 x3 x4 M) M := by
  unfold fX11_behind_115
  refine frm_let (fun v17 => ?_)
  exact qX11_behind_118 v17 x4 M
set_option maxRecDepth 100000 in
theorem qX11_behind_76 (x3 : Int32) (x4 : Int32) (x5 : Int32) (M : mv_M) : mv_frm (mv_S [94] []) (fX11_behind_76 x3 x4 x5 M) M := by
  unfold fX11_behind_76
  refine frm_chk ?_
  refine frm_if ?_ ?_
  · refine frm_bind (by decide) (qX11_secondOf x5 M) (fun r8 M9 => ?_)
    refine frm_chk ?_
    refine frm_letM (sm_si (mv_Sc (by decide))) (fun M11 => ?_)
    refine frm_bind (by decide) (qX11_firstOf x5 M11) (fun r12 M13 => ?_)
    refine frm_chk ?_
    refine frm_letM (sm_si (mv_Sc (by decide))) (fun M15 => ?_)
    refine frm_let (fun v16 => ?_)
    exact qX11_behind_115 x3 v16 M15
  · exact qX11_behind_115 x3 x4 M
set_option maxRecDepth 100000 in
theorem qX11_behind_56 (x3 : Int32) (x4 : Int32) (x5 : Int32) (M : mv_M) : mv_frm (mv_S [94] []) (fX11_behind_56 x3 x4 x5 M) M := by
  unfold fX11_behind_56
  refine frm_chk ?_
  refine frm_if ?_ ?_
  · refine frm_if ?_ ?_
    · exact qX11_behind_71 x4 M
    · exact qX11_behind_76 x3 x4 x5 M
  · exact qX11_behind_76 x3 x4 x5 M
set_option maxRecDepth 100000 in
theorem qX11_behind_12 (x3 : Int32) (x4 : Int32) (M : mv_M) : mv_frm (mv_S [94] []) (fX11_behind_12 x3 x4 M) M := by
  unfold fX11_behind_12
  refine frm_loop ?_ _ M
  rintro ⟨x3, x4⟩ M
  try dsimp only
  unfold gX11_behind_12
  refine frm_if ?_ ?_
  · exact frm_some
  · refine frm_if ?_ ?_
    · exact frm_some
    · refine frm_let (fun v2 => ?_)
      refine frm_chk ?_
      refine frm_let (fun v4 => ?_)
      refine frm_if ?_ ?_
      · exact qX11_behind_71 v2 M
      · refine frm_chk ?_
        refine frm_if ?_ ?_
        · refine frm_if ?_ ?_
          · exact qX11_behind_71 v2 M
          · exact qX11_behind_56 x3 v2 v4 M
        · exact qX11_behind_56 x3 v2 v4 M
set_option maxRecDepth 100000 in
theorem qX11_behind (a0 : Int32) (a1 : Int32) (M : mv_M) : mv_frm (mv_S [94] []) (fX11_behind a0 a1 M) M := by
  unfold fX11_behind
  refine frm_letM (sm_si (mv_Sc (by decide))) (fun M1 => ?_)
  exact qX11_behind_12 a0 1 M1
set_option maxRecDepth 100000 in
theorem qX11_lay_103 (x1 : Int32) (x2 : Int32) (x3 : Int32) (x4 : Int32) (s0 : Int32) (s1 : Int32) (M : mv_M) : mv_frm (mv_S [94, 97, 98, 99, 100, 101, 102] []) (fX11_lay_103 x1 x2 x3 x4 s0 s1 M) M := by
  unfold fX11_lay_103
  refine frm_chk ?_
  refine frm_letM (sm_si (mv_Sc (by decide))) (fun M24 => ?_)
  refine frm_let (fun v25 => ?_)
  exact frm_some
set_option maxRecDepth 100000 in
theorem qX11_lay_69 (x1 : Int32) (x2 : Int32) (x3 : Int32) (x4 : Int32) (s0 : Int32) (s1 : Int32) (M : mv_M) : mv_frm (mv_S [94, 97, 98, 99, 100, 101, 102] []) (fX11_lay_69 x1 x2 x3 x4 s0 s1 M) M := by
  unfold fX11_lay_69
  refine frm_chk ?_
  refine frm_letM (sm_si (mv_Sc (by decide))) (fun M20 => ?_)
  refine frm_chk ?_
  refine frm_if ?_ ?_
  · exact qX11_lay_103 x1 x2 x3 x4 (1500 + x4) x4 M20
  · refine frm_chk ?_
    exact qX11_lay_103 x1 x2 x3 x4 (M20.1 93 x4.toNatClampNeg) x4 M20
set_option maxRecDepth 100000 in
theorem qX11_lay_46 (x1 : Int32) (x2 : Int32) (x3 : Int32) (x4 : Int32) (s0 : Int32) (s1 : Int32) (M : mv_M) : mv_frm (mv_S [94, 97, 98, 99, 100, 101, 102] []) (fX11_lay_46 x1 x2 x3 x4 s0 s1 M) M := by
  unfold fX11_lay_46
  refine frm_chk ?_
  refine frm_letM (sm_si (mv_Sc (by decide))) (fun M10 => ?_)
  refine frm_chk ?_
  refine frm_if ?_ ?_
  · exact qX11_lay_69 x1 x2 x3 x4 1 x4 M10
  · exact qX11_lay_69 x1 x2 x3 x4 0 x4 M10
set_option maxRecDepth 100000 in
theorem qX11_lay_182 (x1 : Int32) (x2 : Int32) (x3 : Int32) (x4 : Int32) (M : mv_M) : mv_frm (mv_S [94, 97, 98, 99, 100, 101, 102] []) (fX11_lay_182 x1 x2 x3 x4 M) M := by
  unfold fX11_lay_182
  refine frm_let (fun v12 => ?_)
  exact frm_some
set_option maxRecDepth 100000 in
theorem qX11_lay_144 (x1 : Int32) (x2 : Int32) (x3 : Int32) (x4 : Int32) (s0 : Int32) (M : mv_M) : mv_frm (mv_S [94, 97, 98, 99, 100, 101, 102] []) (fX11_lay_144 x1 x2 x3 x4 s0 M) M := by
  unfold fX11_lay_144
  refine frm_chk ?_
  refine frm_letM (sm_si (mv_Sc (by decide))) (fun M14 => ?_)
  refine frm_bind (by decide) (qX11_behind (x4 + 1) s0 M14) (fun r15 M16 => ?_)
  refine frm_chk ?_
  refine frm_letM (sm_si (mv_Sc (by decide))) (fun M18 => ?_)
  exact qX11_lay_182 x1 x2 x3 x4 M18
set_option maxRecDepth 100000 in
theorem qX11_lay_113 (x1 : Int32) (x2 : Int32) (x3 : Int32) (x4 : Int32) (M : mv_M) : mv_frm (mv_S [94, 97, 98, 99, 100, 101, 102] []) (fX11_lay_113 x1 x2 x3 x4 M) M := by
  unfold fX11_lay_113
  refine frm_loop ?_ _ M
  rintro ⟨x1, x2, x3, x4⟩ M
  try dsimp only
  unfold gX11_lay_113
  refine frm_if ?_ ?_
  · exact frm_some
  · refine frm_chk ?_
    refine frm_if ?_ ?_
    · refine frm_if ?_ ?_
      · refine frm_bind (by decide) (qX11_firstOf x2 M) (fun r7 M8 => ?_)
        exact qX11_lay_144 x1 x2 x3 x4 r7 M8
      · exact qX11_lay_144 x1 x2 x3 x4 0 M
    · exact qX11_lay_182 x1 x2 x3 x4 M
set_option maxRecDepth 100000 in
theorem qX11_lay_10 (x1 : Int32) (x2 : Int32) (x3 : Int32) (x4 : Int32) (M : mv_M) : mv_frm (mv_S [94, 97, 98, 99, 100, 101, 102] []) (fX11_lay_10 x1 x2 x3 x4 M) M := by
  unfold fX11_lay_10
  refine frm_loop ?_ _ M
  rintro ⟨x1, x2, x3, x4⟩ M
  try dsimp only
  unfold gX11_lay_10
  refine frm_if ?_ ?_
  · exact frm_inr (qX11_lay_113 x1 x2 x3 x1 M)
  · refine frm_chk ?_
    refine frm_letM (sm_si (mv_Sc (by decide))) (fun M4 => ?_)
    refine frm_chk ?_
    refine frm_if ?_ ?_
    · exact qX11_lay_46 x1 x2 x3 x4 3 x4 M4
    · exact qX11_lay_46 x1 x2 x3 x4 2 x4 M4
set_option maxRecDepth 100000 in
theorem qX11_lay (a0 : Int32) (a1 : Int32) (M : mv_M) : mv_frm (mv_S [94, 97, 98, 99, 100, 101, 102] []) (fX11_lay a0 a1 M) M := by
  unfold fX11_lay
  refine frm_bind (by decide) (qX11_behind a0 a1 M) (fun r1 M2 => ?_)
  exact qX11_lay_10 a0 a1 r1 a0 M2
set_option maxRecDepth 100000 in
theorem qX11_thing (a0 : Int32) (a1 : Int32) (M : mv_M) : mv_frm (mv_S [95, 96, 97, 100] [(62, 67), (62, 74)]) (fX11_thing a0 a1 M) M := by
  unfold fX11_thing
  refine frm_if ?_ ?_
  · refine frm_chk ?_
    refine frm_if ?_ ?_
    · refine frm_chk ?_
      refine frm_chk ?_
      exact frm_some
    · refine frm_if ?_ ?_
      · refine frm_letM (sm_si (mv_Ss (by decide))) (fun M12 => ?_)
        exact frm_some
      · refine frm_let (fun v2 => ?_)
        refine frm_letM (sm_si (mv_Ss (by decide))) (fun M3 => ?_)
        refine frm_chk ?_
        refine frm_letM (sm_si (mv_Sc (by decide))) (fun M5 => ?_)
        refine frm_chk ?_
        refine frm_letM (sm_si (mv_Sc (by decide))) (fun M7 => ?_)
        refine frm_chk ?_
        refine frm_letM (sm_si (mv_Sc (by decide))) (fun M9 => ?_)
        refine frm_chk ?_
        refine frm_letM (sm_si (mv_Sc (by decide))) (fun M11 => ?_)
        exact frm_some
  · exact frm_some
set_option maxRecDepth 100000 in
theorem qX11_gives (a0 : Int32) (a1 : Int32) (M : mv_M) : mv_frm (mv_S [] [(62, 77), (62, 78)]) (fX11_gives a0 a1 M) M := by
  unfold fX11_gives
  refine frm_letM (sm_si (mv_Ss (by decide))) (fun M1 => ?_)
  refine frm_letM (sm_si (mv_Ss (by decide))) (fun M2 => ?_)
  exact frm_some
set_option maxRecDepth 100000 in
theorem qX11_need (a0 : Int32) (M : mv_M) : mv_frm (mv_S [81, 82, 85, 97, 100] [(62, 36), (62, 74), (62, 77), (62, 78)]) (fX11_need a0 M) M := by
  unfold fX11_need
  refine frm_chk ?_
  refine frm_letM (sm_si (mv_Sc (by decide))) (fun M2 => ?_)
  refine frm_chk ?_
  refine frm_if ?_ ?_
  · refine frm_chk ?_
    refine frm_letM (sm_si (mv_Sc (by decide))) (fun M10 => ?_)
    refine frm_bind (by decide) (qX11_task 3 a0 0 M10) (fun _ M11 => ?_)
    refine frm_chk ?_
    refine frm_chk ?_
    refine frm_bind (by decide) (qX11_task 1 (M11.1 95 a0.toNatClampNeg) (M11.1 96 a0.toNatClampNeg) M11) (fun _ M14 => ?_)
    exact frm_some
  · refine frm_chk ?_
    refine frm_if ?_ ?_
    · refine frm_chk ?_
      refine frm_chk ?_
      refine frm_bind (by decide) (qX11_gives (M2.1 98 a0.toNatClampNeg) (M2.1 99 a0.toNatClampNeg) M2) (fun _ M8 => ?_)
      exact frm_some
    · refine frm_letM (sm_si (mv_Ss (by decide))) (fun M5 => ?_)
      exact frm_some
set_option maxRecDepth 100000 in
theorem qX11_called_34 (x1 : Int32) (x2 : Int32) (x3 : Int32) (x4 : Int32) (M : mv_M) : mv_frm (mv_S [81, 82, 85, 95, 96, 97, 100, 103] [(62, 36), (62, 67), (62, 69), (62, 74)]) (fX11_called_34 x1 x2 x3 x4 M) M := by
  unfold fX11_called_34
  refine frm_loop ?_ _ M
  rintro ⟨x1, x2, x3, x4⟩ M
  try dsimp only
  unfold gX11_called_34
  refine frm_chk ?_
  refine frm_if ?_ ?_
  · refine frm_chk ?_
    refine frm_chk ?_
    refine frm_bind (by decide) (qX11_task 1 (M.1 68 (M.1 74 x1.toNatClampNeg).toNatClampNeg) x3 M) (fun _ M7 => ?_)
    exact frm_some
  · refine frm_chk ?_
    refine frm_chk ?_
    refine frm_bind (by decide) (qX11_thing (M.1 78 ((M.1 72 x1.toNatClampNeg) + x4).toNatClampNeg) x2 M) (fun r10 M11 => ?_)
    refine frm_chk ?_
    refine frm_letM (sm_si (mv_Sc (by decide))) (fun M13 => ?_)
    refine frm_let (fun v14 => ?_)
    exact frm_some
set_option maxRecDepth 100000 in
theorem qX11_called (a0 : Int32) (a1 : Int32) (M : mv_M) : mv_frm (mv_S [81, 82, 85, 95, 96, 97, 100, 103] [(62, 36), (62, 67), (62, 69), (62, 74)]) (fX11_called a0 a1 M) M := by
  unfold fX11_called
  refine frm_if ?_ ?_
  · refine frm_letM (sm_si (mv_Ss (by decide))) (fun M3 => ?_)
    exact frm_some
  · refine frm_letM (sm_si (mv_Ss (by decide))) (fun M1 => ?_)
    refine frm_let (fun v2 => ?_)
    exact qX11_called_34 a0 a1 v2 0 M1
set_option maxRecDepth 100000 in
theorem qX11_paired (a0 : Int32) (a1 : Int32) (M : mv_M) : mv_frm (mv_S [95, 96, 97, 100, 101, 102] [(62, 67), (62, 68), (62, 74), (62, 77), (62, 78)]) (fX11_paired a0 a1 M) M := by
  unfold fX11_paired
  refine frm_if ?_ ?_
  · refine frm_letM (sm_si (mv_Ss (by decide))) (fun M14 => ?_)
    exact frm_some
  · refine frm_let (fun v1 => ?_)
    refine frm_letM (sm_si (mv_Ss (by decide))) (fun M2 => ?_)
    refine frm_chk ?_
    refine frm_bind (by decide) (qX11_thing (M2.1 72 a0.toNatClampNeg) a1 M2) (fun r4 M5 => ?_)
    refine frm_chk ?_
    refine frm_letM (sm_si (mv_Sc (by decide))) (fun M7 => ?_)
    refine frm_chk ?_
    refine frm_bind (by decide) (qX11_thing (M7.1 73 a0.toNatClampNeg) a1 M7) (fun r9 M10 => ?_)
    refine frm_chk ?_
    refine frm_letM (sm_si (mv_Sc (by decide))) (fun M12 => ?_)
    refine frm_bind (by decide) (qX11_gives 1 v1 M12) (fun _ M13 => ?_)
    exact frm_some
set_option maxRecDepth 100000 in
theorem qX11_work_85 (x1 : Int32) (x2 : Int32) (s0 : Int32) (M : mv_M) : mv_frm (mv_S [81, 82, 85, 95, 96, 97, 100, 101, 102, 103] [(62, 36), (62, 67), (62, 68), (62, 69), (62, 70), (62, 72), (62, 73), (62, 74), (62, 77), (62, 78)]) (fX11_work_85 x1 x2 s0 M) M := by
  unfold fX11_work_85
  refine frm_letM (sm_si (mv_Ss (by decide))) (fun M4 => ?_)
  refine frm_bind (by decide) (qX11_task 2 0 0 M4) (fun _ M5 => ?_)
  refine frm_chk ?_
  refine frm_if ?_ ?_
  · refine frm_chk ?_
    refine frm_bind (by decide) (qX11_task 5 (M5.1 74 x1.toNatClampNeg) 0 M5) (fun _ M9 => ?_)
    refine frm_chk ?_
    refine frm_bind (by decide) (qX11_task 1 (M9.1 73 x1.toNatClampNeg) x2 M9) (fun _ M11 => ?_)
    refine frm_bind (by decide) (qX11_task 4 0 0 M11) (fun _ M12 => ?_)
    refine frm_chk ?_
    refine frm_bind (by decide) (qX11_task 1 (M12.1 72 x1.toNatClampNeg) x2 M12) (fun _ M14 => ?_)
    exact frm_some
  · skip
    refine frm_if ?_ ?_
    · refine frm_bind (by decide) (qX11_task 6 x1 x2 M5) (fun _ M16 => ?_)
      refine frm_chk ?_
      refine frm_bind (by decide) (qX11_task 1 (M16.1 72 x1.toNatClampNeg) x2 M16) (fun _ M18 => ?_)
      exact frm_some
    · skip
      refine frm_if ?_ ?_
      · refine frm_chk ?_
        refine frm_chk ?_
        refine frm_bind (by decide) (qX11_thing (M5.1 72 x1.toNatClampNeg) x2 M5) (fun r22 M23 => ?_)
        refine frm_chk ?_
        refine frm_letM (sm_si (mv_Sc (by decide))) (fun M25 => ?_)
        refine frm_chk ?_
        refine frm_bind (by decide) (qX11_task 1 (M25.1 73 x1.toNatClampNeg) x2 M25) (fun _ M27 => ?_)
        exact frm_some
      · skip
        refine frm_if ?_ ?_
        · refine frm_bind (by decide) (qX11_task 7 x1 x2 M5) (fun _ M29 => ?_)
          refine frm_chk ?_
          refine frm_bind (by decide) (qX11_task 1 (M29.1 72 x1.toNatClampNeg) x2 M29) (fun _ M31 => ?_)
          exact frm_some
        · skip
          refine frm_if ?_ ?_
          · refine frm_chk ?_
            refine frm_bind (by decide) (qX11_gives 0 (M5.1 72 x1.toNatClampNeg) M5) (fun _ M34 => ?_)
            exact frm_some
          · skip
            refine frm_if ?_ ?_
            · refine frm_letM (sm_si (mv_Ss (by decide))) (fun M36 => ?_)
              exact frm_some
            · skip
              refine frm_if ?_ ?_
              · refine frm_chk ?_
                refine frm_chk ?_
                refine frm_bind (by decide) (qX11_need (M5.1 103 ((16 * x2) + (M5.1 72 x1.toNatClampNeg)).toNatClampNeg) M5) (fun _ M40 => ?_)
                exact frm_some
              · skip
                refine frm_if ?_ ?_
                · refine frm_bind (by decide) (qX11_called x1 x2 M5) (fun _ M42 => ?_)
                  exact frm_some
                · skip
                  refine frm_bind (by decide) (qX11_paired x1 x2 M5) (fun _ M43 => ?_)
                  exact frm_some
set_option maxRecDepth 100000 in
theorem qX11_work_31 (x1 : Int32) (x2 : Int32) (s0 : Int32) (M : mv_M) : mv_frm (mv_S [81, 82, 85, 95, 96, 97, 100, 101, 102, 103] [(62, 36), (62, 67), (62, 68), (62, 69), (62, 70), (62, 72), (62, 73), (62, 74), (62, 77), (62, 78)]) (fX11_work_31 x1 x2 s0 M) M := by
  unfold fX11_work_31
  refine frm_letM (sm_si (mv_Ss (by decide))) (fun M1 => ?_)
  refine frm_if ?_ ?_
  · refine frm_letM (sm_si (mv_Ss (by decide))) (fun M2 => ?_)
    refine frm_letM (sm_si (mv_Ss (by decide))) (fun M3 => ?_)
    refine frm_if ?_ ?_
    · exact qX11_work_85 x1 x2 (M3.1 62 73) M3
    · exact qX11_work_85 x1 x2 (M3.1 62 72) M3
  · exact frm_some
set_option maxRecDepth 100000 in
theorem qX11_work (a0 : Int32) (a1 : Int32) (M : mv_M) : mv_frm (mv_S [81, 82, 85, 95, 96, 97, 100, 101, 102, 103] [(62, 36), (62, 67), (62, 68), (62, 69), (62, 70), (62, 72), (62, 73), (62, 74), (62, 77), (62, 78)]) (fX11_work a0 a1 M) M := by
  unfold fX11_work
  refine frm_if ?_ ?_
  · exact qX11_work_31 a0 a1 3 M
  · refine frm_if ?_ ?_
    · exact qX11_work_31 a0 a1 4 M
    · exact qX11_work_31 a0 a1 0 M
set_option maxRecDepth 100000 in
theorem qX11_demand_61 (x1 : Int32) (x2 : Int32) (x3 : Int32) (x4 : Int32) (M : mv_M) : mv_frm (mv_S [81, 82, 85] [(62, 36)]) (fX11_demand_61 x1 x2 x3 x4 M) M := by
  unfold fX11_demand_61
  refine frm_chk ?_
  refine frm_if ?_ ?_
  · exact frm_some
  · refine frm_bind (by decide) (qX11_firstOf x1 M) (fun r14 M15 => ?_)
    refine frm_chk ?_
    refine frm_bind (by decide) (qX11_task 9 r14 ((x2 - 1) / x4) M15) (fun _ M17 => ?_)
    refine frm_chk ?_
    refine frm_bind (by decide) (qX11_task 8 (M17.1 101 x3.toNatClampNeg) 0 M17) (fun _ M19 => ?_)
    exact frm_some
set_option maxRecDepth 100000 in
theorem qX11_demand (a0 : Int32) (a1 : Int32) (M : mv_M) : mv_frm (mv_S [81, 82, 85] [(62, 36)]) (fX11_demand a0 a1 M) M := by
  unfold fX11_demand
  refine frm_if ?_ ?_
  · exact frm_some
  · refine frm_if ?_ ?_
    · exact frm_some
    · refine frm_let (fun v1 => ?_)
      refine frm_bind (by decide) (qX11_secondOf a0 M) (fun r2 M3 => ?_)
      refine frm_bind (by decide) (qX11_demands r2 M3) (fun r4 M5 => ?_)
      refine frm_chk ?_
      refine frm_if ?_ ?_
      · exact qX11_demand_61 a0 a1 v1 r4 M5
      · refine frm_bind (by decide) (qX11_secondOf a0 M5) (fun r7 M8 => ?_)
        refine frm_chk ?_
        refine frm_bind (by decide) (qX11_task 9 r7 ((a1 - 1) - (a1 - 1) / r4 * r4) M8) (fun _ M10 => ?_)
        refine frm_chk ?_
        refine frm_bind (by decide) (qX11_task 8 (M10.1 102 v1.toNatClampNeg) 0 M10) (fun _ M12 => ?_)
        exact qX11_demand_61 a0 a1 v1 r4 M12
set_option maxRecDepth 100000 in
theorem qX11_goes_394 (M : mv_M) : mv_frm (mv_S [81, 82, 85, 95, 96, 97, 98, 99, 100, 101, 102, 103, 105] [(62, 36), (62, 67), (62, 68), (62, 69), (62, 70), (62, 72), (62, 73), (62, 74), (62, 77), (62, 78), (62, 82)]) (fX11_goes_394 M) M := by
  unfold fX11_goes_394
  exact frm_some
set_option maxRecDepth 100000 in
theorem qX11_goes_276 (s0 : Int32) (s1 : Int32) (M : mv_M) : mv_frm (mv_S [81, 82, 85, 95, 96, 97, 98, 99, 100, 101, 102, 103, 105] [(62, 36), (62, 67), (62, 68), (62, 69), (62, 70), (62, 72), (62, 73), (62, 74), (62, 77), (62, 78), (62, 82)]) (fX11_goes_276 s0 s1 M) M := by
  unfold fX11_goes_276
  refine frm_bind (by decide) (qX11_gives s1 s0 M) (fun _ M44 => ?_)
  exact qX11_goes_394 M44
set_option maxRecDepth 100000 in
theorem qX11_goes_306 (x2 : Int32) (s0 : Int32) (s1 : Int32) (M : mv_M) : mv_frm (mv_S [81, 82, 85, 95, 96, 97, 98, 99, 100, 101, 102, 103, 105] [(62, 36), (62, 67), (62, 68), (62, 69), (62, 70), (62, 72), (62, 73), (62, 74), (62, 77), (62, 78), (62, 82)]) (fX11_goes_306 x2 s0 s1 M) M := by
  unfold fX11_goes_306
  refine frm_bind (by decide) (qX11_task s1 s0 x2 M) (fun _ M45 => ?_)
  exact qX11_goes_394 M45
set_option maxRecDepth 100000 in
theorem qX11_goes_0 (M : mv_M) : mv_frm (mv_S [81, 82, 85, 95, 96, 97, 98, 99, 100, 101, 102, 103, 105] [(62, 36), (62, 67), (62, 68), (62, 69), (62, 70), (62, 72), (62, 73), (62, 74), (62, 77), (62, 78), (62, 82)]) (fX11_goes_0 M) M := by
  unfold fX11_goes_0
  refine frm_loop ?_ _ M
  intro s M
  try dsimp only
  unfold gX11_goes_0
  refine frm_if ?_ ?_
  · exact frm_some
  · refine frm_if ?_ ?_
    · refine frm_letM (sm_si (mv_Ss (by decide))) (fun M1 => ?_)
      refine frm_chk ?_
      refine frm_let (fun v3 => ?_)
      refine frm_chk ?_
      refine frm_let (fun v5 => ?_)
      refine frm_chk ?_
      refine frm_if ?_ ?_
      · refine frm_bind (by decide) (qX11_work v3 v5 M1) (fun _ M8 => ?_)
        exact qX11_goes_394 M8
      · skip
        refine frm_if ?_ ?_
        · refine frm_letM (sm_si (mv_Ss (by decide))) (fun M10 => ?_)
          exact qX11_goes_394 M10
        · skip
          refine frm_if ?_ ?_
          · refine frm_chk ?_
            refine frm_letM (sm_si (mv_Sc (by decide))) (fun M13 => ?_)
            refine frm_chk ?_
            refine frm_letM (sm_si (mv_Sc (by decide))) (fun M15 => ?_)
            refine frm_chk ?_
            refine frm_letM (sm_si (mv_Sc (by decide))) (fun M17 => ?_)
            exact qX11_goes_394 M17
          · skip
            refine frm_if ?_ ?_
            · refine frm_chk ?_
              refine frm_letM (sm_si (mv_Sc (by decide))) (fun M20 => ?_)
              refine frm_letM (sm_si (mv_Ss (by decide))) (fun M21 => ?_)
              exact qX11_goes_394 M21
            · skip
              refine frm_if ?_ ?_
              · refine frm_letM (sm_si (mv_Ss (by decide))) (fun M23 => ?_)
                refine frm_chk ?_
                refine frm_let (fun v25 => ?_)
                refine frm_let (fun v26 => ?_)
                refine frm_if ?_ ?_
                · exact qX11_goes_276 (v25 + v26) 0 M23
                · refine frm_if ?_ ?_
                  · exact qX11_goes_276 (v25 - v26) 0 M23
                  · refine frm_if ?_ ?_
                    · exact qX11_goes_276 (v25 * v26) 0 M23
                    · refine frm_if ?_ ?_
                      · refine frm_if ?_ ?_
                        · exact qX11_goes_276 0 0 M23
                        · exact qX11_goes_276 1 0 M23
                      · refine frm_if ?_ ?_
                        · exact qX11_goes_276 1 0 M23
                        · exact qX11_goes_276 0 0 M23
              · skip
                refine frm_if ?_ ?_
                · refine frm_if ?_ ?_
                  · refine frm_chk ?_
                    exact qX11_goes_306 v5 (M1.1 74 v3.toNatClampNeg) 1 M1
                  · refine frm_chk ?_
                    exact qX11_goes_306 v5 (M1.1 73 v3.toNatClampNeg) 1 M1
                · skip
                  refine frm_if ?_ ?_
                  · refine frm_chk ?_
                    refine frm_chk ?_
                    refine frm_chk ?_
                    refine frm_letM (sm_si (mv_Sc (by decide))) (fun M34 => ?_)
                    refine frm_chk ?_
                    refine frm_chk ?_
                    refine frm_chk ?_
                    refine frm_letM (sm_si (mv_Sc (by decide))) (fun M38 => ?_)
                    refine frm_chk ?_
                    refine frm_bind (by decide) (qX11_task 1 (M38.1 73 v3.toNatClampNeg) v5 M38) (fun _ M40 => ?_)
                    exact qX11_goes_394 M40
                  · skip
                    refine frm_if ?_ ?_
                    · refine frm_bind (by decide) (qX11_need v3 M1) (fun _ M42 => ?_)
                      exact qX11_goes_394 M42
                    · skip
                      refine frm_bind (by decide) (qX11_demand v3 v5 M1) (fun _ M43 => ?_)
                      exact qX11_goes_394 M43
    · exact frm_some
set_option maxRecDepth 100000 in
theorem qX11_goes (M : mv_M) : mv_frm (mv_S [81, 82, 85, 95, 96, 97, 98, 99, 100, 101, 102, 103, 105] [(62, 36), (62, 67), (62, 68), (62, 69), (62, 70), (62, 72), (62, 73), (62, 74), (62, 77), (62, 78), (62, 82)]) (fX11_goes M) M := by
  unfold fX11_goes
  exact qX11_goes_0 M
set_option maxRecDepth 100000 in
theorem qX11_run_333 (s0 : Int32) (M : mv_M) : mv_frm (mv_S [81, 82, 85, 94, 95, 96, 97, 98, 99, 100, 101, 102, 103, 104, 105] [(62, 0), (62, 36), (62, 55), (62, 67), (62, 68), (62, 69), (62, 70), (62, 71), (62, 72), (62, 73), (62, 74), (62, 75), (62, 76), (62, 77), (62, 78), (62, 79), (62, 80), (62, 82)]) (fX11_run_333 s0 M) M := by
  unfold fX11_run_333
  refine frm_letM (sm_si (mv_Ss (by decide))) (fun M43 => ?_)
  exact frm_some
set_option maxRecDepth 100000 in
theorem qX11_run_317 (M : mv_M) : mv_frm (mv_S [81, 82, 85, 94, 95, 96, 97, 98, 99, 100, 101, 102, 103, 104, 105] [(62, 0), (62, 36), (62, 55), (62, 67), (62, 68), (62, 69), (62, 70), (62, 71), (62, 72), (62, 73), (62, 74), (62, 75), (62, 76), (62, 77), (62, 78), (62, 79), (62, 80), (62, 82)]) (fX11_run_317 M) M := by
  unfold fX11_run_317
  refine frm_if ?_ ?_
  · exact qX11_run_333 1 M
  · exact qX11_run_333 (M.1 62 74) M
set_option maxRecDepth 100000 in
theorem qX11_run_144 (x1 : Int32) (x2 : Int32) (x3 : Int32) (x4 : Int32) (x5 : Int32) (x6 : Int32) (M : mv_M) : mv_frm (mv_S [81, 82, 85, 94, 95, 96, 97, 98, 99, 100, 101, 102, 103, 104, 105] [(62, 0), (62, 36), (62, 55), (62, 67), (62, 68), (62, 69), (62, 70), (62, 71), (62, 72), (62, 73), (62, 74), (62, 75), (62, 76), (62, 77), (62, 78), (62, 79), (62, 80), (62, 82)]) (fX11_run_144 x1 x2 x3 x4 x5 x6 M) M := by
  unfold fX11_run_144
  refine frm_loop ?_ _ M
  rintro ⟨x1, x2, x3, x4, x5, x6⟩ M
  try dsimp only
  unfold gX11_run_144
  refine frm_chk ?_
  refine frm_if ?_ ?_
  · refine frm_letM (sm_si (mv_Ss (by decide))) (fun M15 => ?_)
    refine frm_letM (sm_si (mv_Ss (by decide))) (fun M16 => ?_)
    refine frm_letM (sm_si (mv_Ss (by decide))) (fun M17 => ?_)
    refine frm_letM (sm_si (mv_Ss (by decide))) (fun M18 => ?_)
    refine frm_letM (sm_si (mv_Ss (by decide))) (fun M19 => ?_)
    refine frm_letM (sm_si (mv_Ss (by decide))) (fun M20 => ?_)
    refine frm_letM (sm_si (mv_Ss (by decide))) (fun M21 => ?_)
    refine frm_letM (sm_si (mv_Ss (by decide))) (fun M22 => ?_)
    refine frm_letM (sm_si (mv_Ss (by decide))) (fun M23 => ?_)
    refine frm_letM (sm_si (mv_Ss (by decide))) (fun M24 => ?_)
    refine frm_letM (sm_si (mv_Ss (by decide))) (fun M25 => ?_)
    refine frm_letM (sm_si (mv_Ss (by decide))) (fun M26 => ?_)
    refine frm_chk ?_
    refine frm_bind (by decide) (qX11_task 1 (M26.1 68 x4.toNatClampNeg) 0 M26) (fun _ M28 => ?_)
    refine frm_bind (by decide) (qX11_goes M28) (fun _ M29 => ?_)
    refine frm_letM (sm_si (mv_Ss (by decide))) (fun M30 => ?_)
    refine frm_letM (sm_si (mv_Ss (by decide))) (fun M31 => ?_)
    refine frm_if ?_ ?_
    · refine frm_chk ?_
      refine frm_bind (by decide) (qX11_demand (M31.1 65 x4.toNatClampNeg) x2 M31) (fun _ M33 => ?_)
      refine frm_bind (by decide) (qX11_goes M33) (fun _ M34 => ?_)
      exact frm_inr (qX11_run_317 M34)
    · exact frm_inr (qX11_run_317 M31)
  · refine frm_chk ?_
    refine frm_letM (sm_si (mv_Sc (by decide))) (fun M36 => ?_)
    refine frm_chk ?_
    refine frm_letM (sm_si (mv_Sc (by decide))) (fun M38 => ?_)
    refine frm_chk ?_
    refine frm_bind (by decide) (qX11_lay x5 (M38.1 70 ((16 * x4) + x6).toNatClampNeg) M38) (fun r40 M41 => ?_)
    refine frm_let (fun v42 => ?_)
    exact frm_some
set_option maxRecDepth 100000 in
theorem qX11_run_126 (x1 : Int32) (x2 : Int32) (x3 : Int32) (x4 : Int32) (s0 : Int32) (M : mv_M) : mv_frm (mv_S [81, 82, 85, 94, 95, 96, 97, 98, 99, 100, 101, 102, 103, 104, 105] [(62, 0), (62, 36), (62, 55), (62, 67), (62, 68), (62, 69), (62, 70), (62, 71), (62, 72), (62, 73), (62, 74), (62, 75), (62, 76), (62, 77), (62, 78), (62, 79), (62, 80), (62, 82)]) (fX11_run_126 x1 x2 x3 x4 s0 M) M := by
  unfold fX11_run_126
  refine frm_letM (sm_si (mv_Ss (by decide))) (fun M13 => ?_)
  refine frm_if ?_ ?_
  · exact qX11_run_144 x1 x2 x3 x4 0 0 M13
  · exact frm_some
set_option maxRecDepth 100000 in
theorem qX11_run_121 (x1 : Int32) (x2 : Int32) (x3 : Int32) (x4 : Int32) (M : mv_M) : mv_frm (mv_S [81, 82, 85, 94, 95, 96, 97, 98, 99, 100, 101, 102, 103, 104, 105] [(62, 0), (62, 36), (62, 55), (62, 67), (62, 68), (62, 69), (62, 70), (62, 71), (62, 72), (62, 73), (62, 74), (62, 75), (62, 76), (62, 77), (62, 78), (62, 79), (62, 80), (62, 82)]) (fX11_run_121 x1 x2 x3 x4 M) M := by
  unfold fX11_run_121
  exact qX11_run_126 x1 x2 x3 x4 3 M
set_option maxRecDepth 100000 in
theorem qX11_run_75 (x1 : Int32) (x2 : Int32) (x3 : Int32) (x4 : Int32) (x5 : Int32) (M : mv_M) : mv_frm (mv_S [81, 82, 85, 94, 95, 96, 97, 98, 99, 100, 101, 102, 103, 104, 105] [(62, 0), (62, 36), (62, 55), (62, 67), (62, 68), (62, 69), (62, 70), (62, 71), (62, 72), (62, 73), (62, 74), (62, 75), (62, 76), (62, 77), (62, 78), (62, 79), (62, 80), (62, 82)]) (fX11_run_75 x1 x2 x3 x4 x5 M) M := by
  unfold fX11_run_75
  refine frm_if ?_ ?_
  · exact qX11_run_126 x1 x2 x3 x4 1 M
  · refine frm_bind (by decide) (qX11_isRowThere x1 x2 M) (fun r9 M10 => ?_)
    refine frm_if ?_ ?_
    · exact qX11_run_126 x1 x2 x3 x4 2 M10
    · refine frm_bind (by decide) (qX11_within (x3.toInt64) 0 20000 M10) (fun r11 M12 => ?_)
      refine frm_if ?_ ?_
      · exact qX11_run_121 x1 x2 x3 x4 M12
      · refine frm_if ?_ ?_
        · exact qX11_run_126 x1 x2 x3 x4 0 M12
        · exact qX11_run_121 x1 x2 x3 x4 M12
set_option maxRecDepth 100000 in
theorem qX11_run_29 (x1 : Int32) (x2 : Int32) (x3 : Int32) (x4 : Int32) (x5 : Int32) (x6 : Int32) (M : mv_M) : mv_frm (mv_S [81, 82, 85, 94, 95, 96, 97, 98, 99, 100, 101, 102, 103, 104, 105] [(62, 0), (62, 36), (62, 55), (62, 67), (62, 68), (62, 69), (62, 70), (62, 71), (62, 72), (62, 73), (62, 74), (62, 75), (62, 76), (62, 77), (62, 78), (62, 79), (62, 80), (62, 82)]) (fX11_run_29 x1 x2 x3 x4 x5 x6 M) M := by
  unfold fX11_run_29
  refine frm_loop ?_ _ M
  rintro ⟨x1, x2, x3, x4, x5, x6⟩ M
  try dsimp only
  unfold gX11_run_29
  refine frm_if ?_ ?_
  · exact frm_inr (qX11_run_75 x1 x2 x3 x4 x5 M)
  · refine frm_chk ?_
    refine frm_if ?_ ?_
    · exact frm_inr (qX11_run_75 x1 x2 x3 x4 x5 M)
    · refine frm_chk ?_
      refine frm_bind (by decide) (qX11_behind x5 (M.1 70 ((16 * x4) + x6).toNatClampNeg) M) (fun r6 M7 => ?_)
      refine frm_let (fun v8 => ?_)
      exact frm_some
set_option maxRecDepth 100000 in
theorem qX11_run_20 (x1 : Int32) (x2 : Int32) (x3 : Int32) (s0 : Int32) (s1 : Int32) (M : mv_M) : mv_frm (mv_S [81, 82, 85, 94, 95, 96, 97, 98, 99, 100, 101, 102, 103, 104, 105] [(62, 0), (62, 36), (62, 55), (62, 67), (62, 68), (62, 69), (62, 70), (62, 71), (62, 72), (62, 73), (62, 74), (62, 75), (62, 76), (62, 77), (62, 78), (62, 79), (62, 80), (62, 82)]) (fX11_run_20 x1 x2 x3 s0 s1 M) M := by
  unfold fX11_run_20
  refine frm_let (fun v3 => ?_)
  exact qX11_run_29 x1 x2 x3 v3 0 0 M
set_option maxRecDepth 100000 in
theorem qX11_run (a0 : Int32) (a1 : Int32) (a2 : Int32) (M : mv_M) : mv_frm (mv_S [81, 82, 85, 94, 95, 96, 97, 98, 99, 100, 101, 102, 103, 104, 105] [(62, 0), (62, 36), (62, 55), (62, 67), (62, 68), (62, 69), (62, 70), (62, 71), (62, 72), (62, 73), (62, 74), (62, 75), (62, 76), (62, 77), (62, 78), (62, 79), (62, 80), (62, 82)]) (fX11_run a0 a1 a2 M) M := by
  unfold fX11_run
  refine frm_bind (by decide) (qX11_isFn a0 M) (fun r1 M2 => ?_)
  refine frm_if ?_ ?_
  · exact qX11_run_20 a0 a1 a2 0 (12 * (M.1 62 47)) M2
  · exact qX11_run_20 a0 a1 a2 a0 (12 * (M.1 62 47)) M2
set_option maxRecDepth 100000 in
theorem qX11_told_83 (x1 : Int32) (x3 : Int32) (s0 : Int32) (s1 : Int32) (M : mv_M) : mv_frm (mv_S [] [(62, 0)]) (fX11_told_83 x1 x3 s0 s1 M) M := by
  unfold fX11_told_83
  refine frm_let (fun v5 => ?_)
  refine frm_let (fun v6 => ?_)
  exact frm_some
set_option maxRecDepth 100000 in
theorem qX11_told_91 (x1 : Int32) (x2 : Int32) (M : mv_M) : mv_frm (mv_S [] [(62, 0)]) (fX11_told_91 x1 x2 M) M := by
  unfold fX11_told_91
  refine frm_if ?_ ?_
  · exact frm_some
  · refine frm_if ?_ ?_
    · exact frm_some
    · refine frm_if ?_ ?_
      · exact frm_some
      · refine frm_if ?_ ?_
        · exact frm_some
        · refine frm_if ?_ ?_
          · exact frm_some
          · refine frm_if ?_ ?_
            · exact frm_some
            · exact frm_some
set_option maxRecDepth 100000 in
theorem qX11_told_49 (x1 : Int32) (x2 : Int32) (x3 : Int32) (M : mv_M) : mv_frm (mv_S [] [(62, 0)]) (fX11_told_49 x1 x2 x3 M) M := by
  unfold fX11_told_49
  refine frm_loop ?_ _ M
  rintro ⟨x1, x2, x3⟩ M
  try dsimp only
  unfold gX11_told_49
  refine frm_if ?_ ?_
  · exact frm_inr (qX11_told_91 x1 x2 M)
  · refine frm_if ?_ ?_
    · exact frm_inr (qX11_told_91 x1 x2 M)
    · refine frm_chk ?_
      refine frm_if ?_ ?_
      · exact qX11_told_83 x1 x3 1 x2 M
      · exact qX11_told_83 x1 x3 0 x2 M
set_option maxRecDepth 100000 in
theorem qX11_told_44 (x1 : Int32) (M : mv_M) : mv_frm (mv_S [] [(62, 0)]) (fX11_told_44 x1 M) M := by
  unfold fX11_told_44
  exact qX11_told_49 x1 0 40 M
set_option maxRecDepth 100000 in
theorem qX11_told_18 (x1 : Int32) (s0 : Int32) (M : mv_M) : mv_frm (mv_S [] [(62, 0)]) (fX11_told_18 x1 s0 M) M := by
  unfold fX11_told_18
  refine frm_letM (sm_si (mv_Ss (by decide))) (fun M3 => ?_)
  refine frm_if ?_ ?_
  · exact frm_some
  · refine frm_if ?_ ?_
    · exact qX11_told_44 x1 M3
    · refine frm_if ?_ ?_
      · exact frm_some
      · exact qX11_told_44 x1 M3
set_option maxRecDepth 100000 in
theorem qX11_told (a0 : Int32) (M : mv_M) : mv_frm (mv_S [] [(62, 0)]) (fX11_told a0 M) M := by
  unfold fX11_told
  refine frm_bind (by decide) (qX11_within (a0.toInt64) 0 6 M) (fun r1 M2 => ?_)
  refine frm_if ?_ ?_
  · exact qX11_told_18 a0 1 M2
  · exact qX11_told_18 a0 0 M2
set_option maxRecDepth 100000 in
theorem qX11_parted_39 (s0 : Int32) (M : mv_M) : mv_frm (mv_S [] [(62, 77), (62, 78)]) (fX11_parted_39 s0 M) M := by
  unfold fX11_parted_39
  refine frm_chk ?_
  refine frm_if ?_ ?_
  · refine frm_chk ?_
    refine frm_letM (sm_si (mv_Ss (by decide))) (fun M5 => ?_)
    refine frm_chk ?_
    refine frm_letM (sm_si (mv_Ss (by decide))) (fun M7 => ?_)
    exact frm_some
  · exact frm_some
set_option maxRecDepth 100000 in
theorem qX11_parted (a0 : Int32) (a1 : Int32) (M : mv_M) : mv_frm (mv_S [] [(62, 77), (62, 78)]) (fX11_parted a0 a1 M) M := by
  unfold fX11_parted
  refine frm_if ?_ ?_
  · exact frm_some
  · refine frm_if ?_ ?_
    · refine frm_if ?_ ?_
      · refine frm_chk ?_
        exact qX11_parted_39 (M.1 101 (M.1 62 78).toNatClampNeg) M
      · refine frm_chk ?_
        exact qX11_parted_39 (M.1 102 (M.1 62 78).toNatClampNeg) M
    · exact frm_some
set_option maxRecDepth 100000 in
theorem qX11_result_114 (s0 : Int32) (M : mv_M) : mv_frm (mv_S [] [(62, 0), (62, 77), (62, 78)]) (fX11_result_114 s0 M) M := by
  unfold fX11_result_114
  refine frm_letM (sm_si (mv_Ss (by decide))) (fun M9 => ?_)
  refine frm_if ?_ ?_
  · exact frm_some
  · exact frm_some
set_option maxRecDepth 100000 in
theorem qX11_result_113 (M : mv_M) : mv_frm (mv_S [] [(62, 0), (62, 77), (62, 78)]) (fX11_result_113 M) M := by
  unfold fX11_result_113
  exact qX11_result_114 1 M
set_option maxRecDepth 100000 in
theorem qX11_result_97 (x2 : Int32) (M : mv_M) : mv_frm (mv_S [] [(62, 0), (62, 77), (62, 78)]) (fX11_result_97 x2 M) M := by
  unfold fX11_result_97
  refine frm_if ?_ ?_
  · exact qX11_result_113 M
  · refine frm_if ?_ ?_
    · exact qX11_result_114 0 M
    · exact qX11_result_113 M
set_option maxRecDepth 100000 in
theorem qX11_result_93 (s0 : Int32) (s1 : Int32) (M : mv_M) : mv_frm (mv_S [] [(62, 0), (62, 77), (62, 78)]) (fX11_result_93 s0 s1 M) M := by
  unfold fX11_result_93
  refine frm_bind (by decide) (qX11_parted s1 s0 M) (fun r7 M8 => ?_)
  exact qX11_result_97 r7 M8
set_option maxRecDepth 100000 in
theorem qX11_result_75 (x1 : Int32) (x2 : Int32) (M : mv_M) : mv_frm (mv_S [] [(62, 0), (62, 77), (62, 78)]) (fX11_result_75 x1 x2 M) M := by
  unfold fX11_result_75
  refine frm_if ?_ ?_
  · exact qX11_result_97 x2 M
  · refine frm_if ?_ ?_
    · exact qX11_result_93 1 x2 M
    · exact qX11_result_93 0 x2 M
set_option maxRecDepth 100000 in
theorem qX11_result_71 (x1 : Int32) (s0 : Int32) (s1 : Int32) (M : mv_M) : mv_frm (mv_S [] [(62, 0), (62, 77), (62, 78)]) (fX11_result_71 x1 s0 s1 M) M := by
  unfold fX11_result_71
  refine frm_bind (by decide) (qX11_parted s1 s0 M) (fun r5 M6 => ?_)
  exact qX11_result_75 x1 r5 M6
set_option maxRecDepth 100000 in
theorem qX11_result_66 (x1 : Int32) (s0 : Int32) (M : mv_M) : mv_frm (mv_S [] [(62, 0), (62, 77), (62, 78)]) (fX11_result_66 x1 s0 M) M := by
  unfold fX11_result_66
  exact qX11_result_71 x1 1 s0 M
set_option maxRecDepth 100000 in
theorem qX11_result_33 (x1 : Int32) (s0 : Int32) (M : mv_M) : mv_frm (mv_S [] [(62, 0), (62, 77), (62, 78)]) (fX11_result_33 x1 s0 M) M := by
  unfold fX11_result_33
  refine frm_letM (sm_si (mv_Ss (by decide))) (fun M3 => ?_)
  refine frm_letM (sm_si (mv_Ss (by decide))) (fun M4 => ?_)
  refine frm_if ?_ ?_
  · exact qX11_result_75 x1 s0 M4
  · refine frm_if ?_ ?_
    · exact qX11_result_66 x1 s0 M4
    · refine frm_if ?_ ?_
      · exact qX11_result_71 x1 0 s0 M4
      · exact qX11_result_66 x1 s0 M4
set_option maxRecDepth 100000 in
theorem qX11_result_32 (x1 : Int32) (M : mv_M) : mv_frm (mv_S [] [(62, 0), (62, 77), (62, 78)]) (fX11_result_32 x1 M) M := by
  unfold fX11_result_32
  exact qX11_result_33 x1 0 M
set_option maxRecDepth 100000 in
theorem qX11_result (a0 : Int32) (M : mv_M) : mv_frm (mv_S [] [(62, 0), (62, 77), (62, 78)]) (fX11_result a0 M) M := by
  unfold fX11_result
  refine frm_if ?_ ?_
  · exact qX11_result_32 a0 M
  · refine frm_if ?_ ?_
    · refine frm_bind (by decide) (qX11_within (a0.toInt64) 0 6 M) (fun r1 M2 => ?_)
      refine frm_if ?_ ?_
      · exact qX11_result_32 a0 M2
      · exact qX11_result_33 a0 1 M2
    · exact qX11_result_32 a0 M
set_option maxRecDepth 100000 in
theorem qX11_needed_26 (x1 : Int32) (s0 : Int32) (M : mv_M) : mv_frm (mv_S [] [(62, 0)]) (fX11_needed_26 x1 s0 M) M := by
  unfold fX11_needed_26
  refine frm_letM (sm_si (mv_Ss (by decide))) (fun M3 => ?_)
  refine frm_if ?_ ?_
  · refine frm_chk ?_
    refine frm_chk ?_
    refine frm_if ?_ ?_
    · exact frm_some
    · exact frm_some
  · exact frm_some
set_option maxRecDepth 100000 in
theorem qX11_needed_25 (x1 : Int32) (M : mv_M) : mv_frm (mv_S [] [(62, 0)]) (fX11_needed_25 x1 M) M := by
  unfold fX11_needed_25
  exact qX11_needed_26 x1 1 M
set_option maxRecDepth 100000 in
theorem qX11_needed (a0 : Int32) (M : mv_M) : mv_frm (mv_S [] [(62, 0)]) (fX11_needed a0 M) M := by
  unfold fX11_needed
  refine frm_if ?_ ?_
  · exact qX11_needed_25 a0 M
  · refine frm_bind (by decide) (qX11_isParamOf (M.1 62 75) a0 M) (fun r1 M2 => ?_)
    refine frm_if ?_ ?_
    · exact qX11_needed_25 a0 M2
    · exact qX11_needed_26 a0 0 M2
set_option maxRecDepth 100000 in
theorem qL_feed (a1 : Int32) (a2 : Int32) (a3 : Int32) (a4 : Int32) (a5 : Int32) (M : mv_M) : mv_frm (mv_S [39, 106] [(2, 1)]) (fL_feed a1 a2 a3 a4 a5 M) M := by
  unfold fL_feed
  refine frm_tryx (by decide) (qX10_feed a1 a2 a3 a4 a5 M) (fun r3 M2 => ?_) (fun E4 M2 => ?_)
  · refine frm_letM (sm_sl (mv_Sc (by decide))) (fun M6 => ?_)
    exact frm_some
  · refine frm_if frm_some ?_; exact frm_none
set_option maxRecDepth 100000 in
theorem qL_cut (a1 : Int32) (M : mv_M) : mv_frm (mv_S [106] [(2, 1)]) (fL_cut a1 M) M := by
  unfold fL_cut
  refine frm_tryx (by decide) (qX10_cut a1 M) (fun r3 M2 => ?_) (fun E4 M2 => ?_)
  · refine frm_letM (sm_sl (mv_Sc (by decide))) (fun M6 => ?_)
    exact frm_some
  · refine frm_if frm_some ?_; exact frm_none
set_option maxRecDepth 100000 in
theorem qL_function (a1 : Int32) (a2 : Int32) (M : mv_M) : mv_frm (mv_S [106] []) (fL_function a1 a2 M) M := by
  unfold fL_function
  refine frm_tryx (by decide) (qX10_function a1 a2 M) (fun r3 M2 => ?_) (fun E4 M2 => ?_)
  · refine frm_letM (sm_sl (mv_Sc (by decide))) (fun M6 => ?_)
    exact frm_some
  · refine frm_if frm_some ?_; exact frm_none
set_option maxRecDepth 100000 in
theorem qL_rounds (M : mv_M) : mv_frm (mv_S [44, 45, 46, 47, 106] [(5, 0), (5, 1), (5, 2)]) (fL_rounds M) M := by
  unfold fL_rounds
  refine frm_tryx (by decide) (qX10_rounds M) (fun r3 M2 => ?_) (fun E4 M2 => ?_)
  · refine frm_letM (sm_sl (mv_Sc (by decide))) (fun M6 => ?_)
    exact frm_some
  · refine frm_if frm_some ?_; exact frm_none
set_option maxRecDepth 100000 in
theorem qL_dead_16 (s0 : Int64) (s1 : Int32) (M : mv_M) : mv_frm (mv_S [106] []) (fL_dead_16 s0 s1 M) M := by
  unfold fL_dead_16
  refine frm_chk ?_
  refine frm_letM (sm_sl (mv_Sc (by decide))) (fun M8 => ?_)
  exact frm_some
set_option maxRecDepth 100000 in
theorem qL_dead (a1 : Int32) (a2 : Int32) (M : mv_M) : mv_frm (mv_S [106] []) (fL_dead a1 a2 M) M := by
  unfold fL_dead
  refine frm_tryx (by decide) (qX10_dead a1 a2 M) (fun r3 M2 => ?_) (fun E4 M2 => ?_)
  · refine frm_if ?_ ?_
    · exact qL_dead_16 0 0 M2
    · exact qL_dead_16 1 0 M2
  · refine frm_if frm_some ?_; refine frm_if frm_some ?_; exact frm_none
set_option maxRecDepth 100000 in
theorem qL_asks (a1 : Int32) (a2 : Int32) (a3 : Int32) (M : mv_M) : mv_frm (mv_S [106] []) (fL_asks a1 a2 a3 M) M := by
  unfold fL_asks
  refine frm_tryx (by decide) (qX10_asks a1 a2 a3 M) (fun r3 M2 => ?_) (fun E4 M2 => ?_)
  · refine frm_letM (sm_sl (mv_Sc (by decide))) (fun M7 => ?_)
    exact frm_some
  · refine frm_if frm_some ?_; refine frm_if frm_some ?_; exact frm_none
set_option maxRecDepth 100000 in
theorem qL_strict_16 (s0 : Int64) (s1 : Int32) (M : mv_M) : mv_frm (mv_S [106] []) (fL_strict_16 s0 s1 M) M := by
  unfold fL_strict_16
  refine frm_chk ?_
  refine frm_letM (sm_sl (mv_Sc (by decide))) (fun M8 => ?_)
  exact frm_some
set_option maxRecDepth 100000 in
theorem qL_strict (a1 : Int32) (a2 : Int32) (M : mv_M) : mv_frm (mv_S [106] []) (fL_strict a1 a2 M) M := by
  unfold fL_strict
  refine frm_tryx (by decide) (qX10_strict a1 a2 M) (fun r3 M2 => ?_) (fun E4 M2 => ?_)
  · refine frm_if ?_ ?_
    · exact qL_strict_16 0 0 M2
    · exact qL_strict_16 1 0 M2
  · refine frm_if frm_some ?_; refine frm_if frm_some ?_; exact frm_none
set_option maxRecDepth 100000 in
theorem qL_plant (a1 : Int32) (a2 : Int32) (a3 : Int32) (a4 : Int32) (M : mv_M) : mv_frm (mv_S [44, 45, 106] []) (fL_plant a1 a2 a3 a4 M) M := by
  unfold fL_plant
  refine frm_tryx (by decide) (qX10_plant a1 a2 a3 a4 M) (fun r3 M2 => ?_) (fun E4 M2 => ?_)
  · refine frm_letM (sm_sl (mv_Sc (by decide))) (fun M8 => ?_)
    exact frm_some
  · refine frm_if frm_some ?_; refine frm_if frm_some ?_; refine frm_if frm_some ?_; exact frm_none
set_option maxRecDepth 100000 in
theorem qL_check (M : mv_M) : mv_frm (mv_S [46, 47, 106] [(5, 2)]) (fL_check M) M := by
  unfold fL_check
  refine frm_tryx (by decide) (qX10_check M) (fun r3 M2 => ?_) (fun E4 M2 => ?_)
  · refine frm_letM (sm_sl (mv_Sc (by decide))) (fun M6 => ?_)
    exact frm_some
  · refine frm_if frm_some ?_; exact frm_none
set_option maxRecDepth 100000 in
theorem qL_input (a1 : Int32) (a2 : Int32) (M : mv_M) : mv_frm (mv_S [48, 49, 106] [(6, 0)]) (fL_input a1 a2 M) M := by
  unfold fL_input
  refine frm_tryx (by decide) (qX10_input a1 a2 M) (fun r3 M2 => ?_) (fun E4 M2 => ?_)
  · refine frm_letM (sm_sl (mv_Sc (by decide))) (fun M7 => ?_)
    exact frm_some
  · refine frm_if frm_some ?_; refine frm_if frm_some ?_; exact frm_none
set_option maxRecDepth 100000 in
theorem qL_run (a1 : Int32) (a2 : Int32) (a3 : Int32) (M : mv_M) : mv_frm (mv_S [50, 51, 52, 53, 54, 55, 56, 57, 58, 59, 60, 61, 106] [(6, 0), (7, 1), (7, 2), (7, 3), (7, 4), (7, 5), (7, 6), (7, 7), (7, 8), (7, 9), (7, 10), (8, 0), (8, 1)]) (fL_run a1 a2 a3 M) M := by
  unfold fL_run
  refine frm_tryx (by decide) (qX10_run a1 a2 a3 M) (fun r3 M2 => ?_) (fun E4 M2 => ?_)
  · refine frm_letM (sm_sl (mv_Sc (by decide))) (fun M8 => ?_)
    exact frm_some
  · refine frm_if frm_some ?_; refine frm_if frm_some ?_; refine frm_if frm_some ?_; exact frm_none
set_option maxRecDepth 100000 in
theorem qL_told (a1 : Int32) (M : mv_M) : mv_frm (mv_S [106] []) (fL_told a1 M) M := by
  unfold fL_told
  refine frm_tryx (by decide) (qX10_told a1 M) (fun r3 M2 => ?_) (fun E4 M2 => ?_)
  · refine frm_letM (sm_sl (mv_Sc (by decide))) (fun M6 => ?_)
    exact frm_some
  · refine frm_if frm_some ?_; exact frm_none
set_option maxRecDepth 100000 in
theorem qL_result (a1 : Int32) (M : mv_M) : mv_frm (mv_S [106] []) (fL_result a1 M) M := by
  unfold fL_result
  refine frm_tryx (by decide) (qX10_result a1 M) (fun r3 M2 => ?_) (fun E4 M2 => ?_)
  · refine frm_letM (sm_sl (mv_Sc (by decide))) (fun M6 => ?_)
    exact frm_some
  · refine frm_if frm_some ?_; exact frm_none
set_option maxRecDepth 100000 in
theorem qL_needed_15 (s0 : Int64) (s1 : Int32) (M : mv_M) : mv_frm (mv_S [106] []) (fL_needed_15 s0 s1 M) M := by
  unfold fL_needed_15
  refine frm_chk ?_
  refine frm_letM (sm_sl (mv_Sc (by decide))) (fun M7 => ?_)
  exact frm_some
set_option maxRecDepth 100000 in
theorem qL_needed (a1 : Int32) (M : mv_M) : mv_frm (mv_S [106] []) (fL_needed a1 M) M := by
  unfold fL_needed
  refine frm_tryx (by decide) (qX10_needed a1 M) (fun r3 M2 => ?_) (fun E4 M2 => ?_)
  · refine frm_if ?_ ?_
    · exact qL_needed_15 0 0 M2
    · exact qL_needed_15 1 0 M2
  · refine frm_if frm_some ?_; exact frm_none
set_option maxRecDepth 100000 in
theorem qL_law_1107 {K23 : Int32 → mv_M → Option (Int32 × mv_M)} (hQ23 : ∀ (x4 : Int32) (M : mv_M), mv_frm (mv_S [10, 11, 12, 13, 14, 15, 16, 17, 18, 19, 20, 21, 22, 23, 25, 26, 27, 28, 29, 30, 31, 32, 33, 34, 35, 36, 37, 38, 39, 40, 41, 42, 43, 44, 45, 46, 47, 48, 49, 50, 51, 52, 53, 54, 55, 56, 57, 58, 59, 60, 61, 63, 64, 65, 66, 67, 68, 69, 70, 71, 72, 73, 74, 75, 76, 77, 78, 79, 80, 81, 82, 83, 84, 85, 86, 87, 88, 89, 90, 91, 92, 93, 94, 95, 96, 97, 98, 99, 100, 101, 102, 103, 104, 105, 106] [(0, 7), (0, 8), (1, 0), (1, 1), (2, 1), (2, 2), (3, 2), (3, 3), (3, 4), (4, 2), (4, 3), (4, 5), (5, 0), (5, 1), (5, 2), (6, 0), (7, 1), (7, 2), (7, 3), (7, 4), (7, 5), (7, 6), (7, 7), (7, 8), (7, 9), (7, 10), (8, 0), (8, 1), (9, 0), (9, 8), (24, 0), (24, 8), (62, 0), (62, 2), (62, 3), (62, 4), (62, 5), (62, 6), (62, 7), (62, 8), (62, 9), (62, 10), (62, 27), (62, 28), (62, 29), (62, 30), (62, 32), (62, 33), (62, 36), (62, 38), (62, 40), (62, 41), (62, 44), (62, 45), (62, 46), (62, 47), (62, 55), (62, 67), (62, 68), (62, 69), (62, 70), (62, 71), (62, 72), (62, 73), (62, 74), (62, 75), (62, 76), (62, 77), (62, 78), (62, 79), (62, 80), (62, 82)]) (K23 x4 M) M) (x4 : Int32) (M : mv_M) : mv_frm (mv_S [10, 11, 12, 13, 14, 15, 16, 17, 18, 19, 20, 21, 22, 23, 25, 26, 27, 28, 29, 30, 31, 32, 33, 34, 35, 36, 37, 38, 39, 40, 41, 42, 43, 44, 45, 46, 47, 48, 49, 50, 51, 52, 53, 54, 55, 56, 57, 58, 59, 60, 61, 63, 64, 65, 66, 67, 68, 69, 70, 71, 72, 73, 74, 75, 76, 77, 78, 79, 80, 81, 82, 83, 84, 85, 86, 87, 88, 89, 90, 91, 92, 93, 94, 95, 96, 97, 98, 99, 100, 101, 102, 103, 104, 105, 106] [(0, 7), (0, 8), (1, 0), (1, 1), (2, 1), (2, 2), (3, 2), (3, 3), (3, 4), (4, 2), (4, 3), (4, 5), (5, 0), (5, 1), (5, 2), (6, 0), (7, 1), (7, 2), (7, 3), (7, 4), (7, 5), (7, 6), (7, 7), (7, 8), (7, 9), (7, 10), (8, 0), (8, 1), (9, 0), (9, 8), (24, 0), (24, 8), (62, 0), (62, 2), (62, 3), (62, 4), (62, 5), (62, 6), (62, 7), (62, 8), (62, 9), (62, 10), (62, 27), (62, 28), (62, 29), (62, 30), (62, 32), (62, 33), (62, 36), (62, 38), (62, 40), (62, 41), (62, 44), (62, 45), (62, 46), (62, 47), (62, 55), (62, 67), (62, 68), (62, 69), (62, 70), (62, 71), (62, 72), (62, 73), (62, 74), (62, 75), (62, 76), (62, 77), (62, 78), (62, 79), (62, 80), (62, 82)]) (fL_law_1107 K23 x4 M) M := by
  unfold fL_law_1107
  refine frm_let (fun v220 => ?_)
  exact hQ23 v220 M
set_option maxRecDepth 100000 in
theorem qL_law_221 {K23 : Int32 → mv_M → Option (Int32 × mv_M)} (hQ23 : ∀ (x4 : Int32) (M : mv_M), mv_frm (mv_S [10, 11, 12, 13, 14, 15, 16, 17, 18, 19, 20, 21, 22, 23, 25, 26, 27, 28, 29, 30, 31, 32, 33, 34, 35, 36, 37, 38, 39, 40, 41, 42, 43, 44, 45, 46, 47, 48, 49, 50, 51, 52, 53, 54, 55, 56, 57, 58, 59, 60, 61, 63, 64, 65, 66, 67, 68, 69, 70, 71, 72, 73, 74, 75, 76, 77, 78, 79, 80, 81, 82, 83, 84, 85, 86, 87, 88, 89, 90, 91, 92, 93, 94, 95, 96, 97, 98, 99, 100, 101, 102, 103, 104, 105, 106] [(0, 7), (0, 8), (1, 0), (1, 1), (2, 1), (2, 2), (3, 2), (3, 3), (3, 4), (4, 2), (4, 3), (4, 5), (5, 0), (5, 1), (5, 2), (6, 0), (7, 1), (7, 2), (7, 3), (7, 4), (7, 5), (7, 6), (7, 7), (7, 8), (7, 9), (7, 10), (8, 0), (8, 1), (9, 0), (9, 8), (24, 0), (24, 8), (62, 0), (62, 2), (62, 3), (62, 4), (62, 5), (62, 6), (62, 7), (62, 8), (62, 9), (62, 10), (62, 27), (62, 28), (62, 29), (62, 30), (62, 32), (62, 33), (62, 36), (62, 38), (62, 40), (62, 41), (62, 44), (62, 45), (62, 46), (62, 47), (62, 55), (62, 67), (62, 68), (62, 69), (62, 70), (62, 71), (62, 72), (62, 73), (62, 74), (62, 75), (62, 76), (62, 77), (62, 78), (62, 79), (62, 80), (62, 82)]) (K23 x4 M) M) (x4 : Int32) (M : mv_M) : mv_frm (mv_S [10, 11, 12, 13, 14, 15, 16, 17, 18, 19, 20, 21, 22, 23, 25, 26, 27, 28, 29, 30, 31, 32, 33, 34, 35, 36, 37, 38, 39, 40, 41, 42, 43, 44, 45, 46, 47, 48, 49, 50, 51, 52, 53, 54, 55, 56, 57, 58, 59, 60, 61, 63, 64, 65, 66, 67, 68, 69, 70, 71, 72, 73, 74, 75, 76, 77, 78, 79, 80, 81, 82, 83, 84, 85, 86, 87, 88, 89, 90, 91, 92, 93, 94, 95, 96, 97, 98, 99, 100, 101, 102, 103, 104, 105, 106] [(0, 7), (0, 8), (1, 0), (1, 1), (2, 1), (2, 2), (3, 2), (3, 3), (3, 4), (4, 2), (4, 3), (4, 5), (5, 0), (5, 1), (5, 2), (6, 0), (7, 1), (7, 2), (7, 3), (7, 4), (7, 5), (7, 6), (7, 7), (7, 8), (7, 9), (7, 10), (8, 0), (8, 1), (9, 0), (9, 8), (24, 0), (24, 8), (62, 0), (62, 2), (62, 3), (62, 4), (62, 5), (62, 6), (62, 7), (62, 8), (62, 9), (62, 10), (62, 27), (62, 28), (62, 29), (62, 30), (62, 32), (62, 33), (62, 36), (62, 38), (62, 40), (62, 41), (62, 44), (62, 45), (62, 46), (62, 47), (62, 55), (62, 67), (62, 68), (62, 69), (62, 70), (62, 71), (62, 72), (62, 73), (62, 74), (62, 75), (62, 76), (62, 77), (62, 78), (62, 79), (62, 80), (62, 82)]) (fL_law_221 K23 x4 M) M := by
  unfold fL_law_221
  exact qL_law_1107 hQ23 x4 M
set_option maxRecDepth 100000 in
theorem qL_law_277 {K23 : Int32 → mv_M → Option (Int32 × mv_M)} (hQ23 : ∀ (x4 : Int32) (M : mv_M), mv_frm (mv_S [10, 11, 12, 13, 14, 15, 16, 17, 18, 19, 20, 21, 22, 23, 25, 26, 27, 28, 29, 30, 31, 32, 33, 34, 35, 36, 37, 38, 39, 40, 41, 42, 43, 44, 45, 46, 47, 48, 49, 50, 51, 52, 53, 54, 55, 56, 57, 58, 59, 60, 61, 63, 64, 65, 66, 67, 68, 69, 70, 71, 72, 73, 74, 75, 76, 77, 78, 79, 80, 81, 82, 83, 84, 85, 86, 87, 88, 89, 90, 91, 92, 93, 94, 95, 96, 97, 98, 99, 100, 101, 102, 103, 104, 105, 106] [(0, 7), (0, 8), (1, 0), (1, 1), (2, 1), (2, 2), (3, 2), (3, 3), (3, 4), (4, 2), (4, 3), (4, 5), (5, 0), (5, 1), (5, 2), (6, 0), (7, 1), (7, 2), (7, 3), (7, 4), (7, 5), (7, 6), (7, 7), (7, 8), (7, 9), (7, 10), (8, 0), (8, 1), (9, 0), (9, 8), (24, 0), (24, 8), (62, 0), (62, 2), (62, 3), (62, 4), (62, 5), (62, 6), (62, 7), (62, 8), (62, 9), (62, 10), (62, 27), (62, 28), (62, 29), (62, 30), (62, 32), (62, 33), (62, 36), (62, 38), (62, 40), (62, 41), (62, 44), (62, 45), (62, 46), (62, 47), (62, 55), (62, 67), (62, 68), (62, 69), (62, 70), (62, 71), (62, 72), (62, 73), (62, 74), (62, 75), (62, 76), (62, 77), (62, 78), (62, 79), (62, 80), (62, 82)]) (K23 x4 M) M) (x4 : Int32) (M : mv_M) : mv_frm (mv_S [10, 11, 12, 13, 14, 15, 16, 17, 18, 19, 20, 21, 22, 23, 25, 26, 27, 28, 29, 30, 31, 32, 33, 34, 35, 36, 37, 38, 39, 40, 41, 42, 43, 44, 45, 46, 47, 48, 49, 50, 51, 52, 53, 54, 55, 56, 57, 58, 59, 60, 61, 63, 64, 65, 66, 67, 68, 69, 70, 71, 72, 73, 74, 75, 76, 77, 78, 79, 80, 81, 82, 83, 84, 85, 86, 87, 88, 89, 90, 91, 92, 93, 94, 95, 96, 97, 98, 99, 100, 101, 102, 103, 104, 105, 106] [(0, 7), (0, 8), (1, 0), (1, 1), (2, 1), (2, 2), (3, 2), (3, 3), (3, 4), (4, 2), (4, 3), (4, 5), (5, 0), (5, 1), (5, 2), (6, 0), (7, 1), (7, 2), (7, 3), (7, 4), (7, 5), (7, 6), (7, 7), (7, 8), (7, 9), (7, 10), (8, 0), (8, 1), (9, 0), (9, 8), (24, 0), (24, 8), (62, 0), (62, 2), (62, 3), (62, 4), (62, 5), (62, 6), (62, 7), (62, 8), (62, 9), (62, 10), (62, 27), (62, 28), (62, 29), (62, 30), (62, 32), (62, 33), (62, 36), (62, 38), (62, 40), (62, 41), (62, 44), (62, 45), (62, 46), (62, 47), (62, 55), (62, 67), (62, 68), (62, 69), (62, 70), (62, 71), (62, 72), (62, 73), (62, 74), (62, 75), (62, 76), (62, 77), (62, 78), (62, 79), (62, 80), (62, 82)]) (fL_law_277 K23 x4 M) M := by
  unfold fL_law_277
  exact qL_law_1107 hQ23 x4 M
set_option maxRecDepth 100000 in
theorem qL_law_371 {K23 : Int32 → mv_M → Option (Int32 × mv_M)} (hQ23 : ∀ (x4 : Int32) (M : mv_M), mv_frm (mv_S [10, 11, 12, 13, 14, 15, 16, 17, 18, 19, 20, 21, 22, 23, 25, 26, 27, 28, 29, 30, 31, 32, 33, 34, 35, 36, 37, 38, 39, 40, 41, 42, 43, 44, 45, 46, 47, 48, 49, 50, 51, 52, 53, 54, 55, 56, 57, 58, 59, 60, 61, 63, 64, 65, 66, 67, 68, 69, 70, 71, 72, 73, 74, 75, 76, 77, 78, 79, 80, 81, 82, 83, 84, 85, 86, 87, 88, 89, 90, 91, 92, 93, 94, 95, 96, 97, 98, 99, 100, 101, 102, 103, 104, 105, 106] [(0, 7), (0, 8), (1, 0), (1, 1), (2, 1), (2, 2), (3, 2), (3, 3), (3, 4), (4, 2), (4, 3), (4, 5), (5, 0), (5, 1), (5, 2), (6, 0), (7, 1), (7, 2), (7, 3), (7, 4), (7, 5), (7, 6), (7, 7), (7, 8), (7, 9), (7, 10), (8, 0), (8, 1), (9, 0), (9, 8), (24, 0), (24, 8), (62, 0), (62, 2), (62, 3), (62, 4), (62, 5), (62, 6), (62, 7), (62, 8), (62, 9), (62, 10), (62, 27), (62, 28), (62, 29), (62, 30), (62, 32), (62, 33), (62, 36), (62, 38), (62, 40), (62, 41), (62, 44), (62, 45), (62, 46), (62, 47), (62, 55), (62, 67), (62, 68), (62, 69), (62, 70), (62, 71), (62, 72), (62, 73), (62, 74), (62, 75), (62, 76), (62, 77), (62, 78), (62, 79), (62, 80), (62, 82)]) (K23 x4 M) M) (x4 : Int32) (M : mv_M) : mv_frm (mv_S [10, 11, 12, 13, 14, 15, 16, 17, 18, 19, 20, 21, 22, 23, 25, 26, 27, 28, 29, 30, 31, 32, 33, 34, 35, 36, 37, 38, 39, 40, 41, 42, 43, 44, 45, 46, 47, 48, 49, 50, 51, 52, 53, 54, 55, 56, 57, 58, 59, 60, 61, 63, 64, 65, 66, 67, 68, 69, 70, 71, 72, 73, 74, 75, 76, 77, 78, 79, 80, 81, 82, 83, 84, 85, 86, 87, 88, 89, 90, 91, 92, 93, 94, 95, 96, 97, 98, 99, 100, 101, 102, 103, 104, 105, 106] [(0, 7), (0, 8), (1, 0), (1, 1), (2, 1), (2, 2), (3, 2), (3, 3), (3, 4), (4, 2), (4, 3), (4, 5), (5, 0), (5, 1), (5, 2), (6, 0), (7, 1), (7, 2), (7, 3), (7, 4), (7, 5), (7, 6), (7, 7), (7, 8), (7, 9), (7, 10), (8, 0), (8, 1), (9, 0), (9, 8), (24, 0), (24, 8), (62, 0), (62, 2), (62, 3), (62, 4), (62, 5), (62, 6), (62, 7), (62, 8), (62, 9), (62, 10), (62, 27), (62, 28), (62, 29), (62, 30), (62, 32), (62, 33), (62, 36), (62, 38), (62, 40), (62, 41), (62, 44), (62, 45), (62, 46), (62, 47), (62, 55), (62, 67), (62, 68), (62, 69), (62, 70), (62, 71), (62, 72), (62, 73), (62, 74), (62, 75), (62, 76), (62, 77), (62, 78), (62, 79), (62, 80), (62, 82)]) (fL_law_371 K23 x4 M) M := by
  unfold fL_law_371
  exact qL_law_1107 hQ23 x4 M
set_option maxRecDepth 100000 in
theorem qL_law_415 {K23 : Int32 → mv_M → Option (Int32 × mv_M)} (hQ23 : ∀ (x4 : Int32) (M : mv_M), mv_frm (mv_S [10, 11, 12, 13, 14, 15, 16, 17, 18, 19, 20, 21, 22, 23, 25, 26, 27, 28, 29, 30, 31, 32, 33, 34, 35, 36, 37, 38, 39, 40, 41, 42, 43, 44, 45, 46, 47, 48, 49, 50, 51, 52, 53, 54, 55, 56, 57, 58, 59, 60, 61, 63, 64, 65, 66, 67, 68, 69, 70, 71, 72, 73, 74, 75, 76, 77, 78, 79, 80, 81, 82, 83, 84, 85, 86, 87, 88, 89, 90, 91, 92, 93, 94, 95, 96, 97, 98, 99, 100, 101, 102, 103, 104, 105, 106] [(0, 7), (0, 8), (1, 0), (1, 1), (2, 1), (2, 2), (3, 2), (3, 3), (3, 4), (4, 2), (4, 3), (4, 5), (5, 0), (5, 1), (5, 2), (6, 0), (7, 1), (7, 2), (7, 3), (7, 4), (7, 5), (7, 6), (7, 7), (7, 8), (7, 9), (7, 10), (8, 0), (8, 1), (9, 0), (9, 8), (24, 0), (24, 8), (62, 0), (62, 2), (62, 3), (62, 4), (62, 5), (62, 6), (62, 7), (62, 8), (62, 9), (62, 10), (62, 27), (62, 28), (62, 29), (62, 30), (62, 32), (62, 33), (62, 36), (62, 38), (62, 40), (62, 41), (62, 44), (62, 45), (62, 46), (62, 47), (62, 55), (62, 67), (62, 68), (62, 69), (62, 70), (62, 71), (62, 72), (62, 73), (62, 74), (62, 75), (62, 76), (62, 77), (62, 78), (62, 79), (62, 80), (62, 82)]) (K23 x4 M) M) (x4 : Int32) (M : mv_M) : mv_frm (mv_S [10, 11, 12, 13, 14, 15, 16, 17, 18, 19, 20, 21, 22, 23, 25, 26, 27, 28, 29, 30, 31, 32, 33, 34, 35, 36, 37, 38, 39, 40, 41, 42, 43, 44, 45, 46, 47, 48, 49, 50, 51, 52, 53, 54, 55, 56, 57, 58, 59, 60, 61, 63, 64, 65, 66, 67, 68, 69, 70, 71, 72, 73, 74, 75, 76, 77, 78, 79, 80, 81, 82, 83, 84, 85, 86, 87, 88, 89, 90, 91, 92, 93, 94, 95, 96, 97, 98, 99, 100, 101, 102, 103, 104, 105, 106] [(0, 7), (0, 8), (1, 0), (1, 1), (2, 1), (2, 2), (3, 2), (3, 3), (3, 4), (4, 2), (4, 3), (4, 5), (5, 0), (5, 1), (5, 2), (6, 0), (7, 1), (7, 2), (7, 3), (7, 4), (7, 5), (7, 6), (7, 7), (7, 8), (7, 9), (7, 10), (8, 0), (8, 1), (9, 0), (9, 8), (24, 0), (24, 8), (62, 0), (62, 2), (62, 3), (62, 4), (62, 5), (62, 6), (62, 7), (62, 8), (62, 9), (62, 10), (62, 27), (62, 28), (62, 29), (62, 30), (62, 32), (62, 33), (62, 36), (62, 38), (62, 40), (62, 41), (62, 44), (62, 45), (62, 46), (62, 47), (62, 55), (62, 67), (62, 68), (62, 69), (62, 70), (62, 71), (62, 72), (62, 73), (62, 74), (62, 75), (62, 76), (62, 77), (62, 78), (62, 79), (62, 80), (62, 82)]) (fL_law_415 K23 x4 M) M := by
  unfold fL_law_415
  exact qL_law_1107 hQ23 x4 M
set_option maxRecDepth 100000 in
theorem qL_law_490 {K23 : Int32 → mv_M → Option (Int32 × mv_M)} (hQ23 : ∀ (x4 : Int32) (M : mv_M), mv_frm (mv_S [10, 11, 12, 13, 14, 15, 16, 17, 18, 19, 20, 21, 22, 23, 25, 26, 27, 28, 29, 30, 31, 32, 33, 34, 35, 36, 37, 38, 39, 40, 41, 42, 43, 44, 45, 46, 47, 48, 49, 50, 51, 52, 53, 54, 55, 56, 57, 58, 59, 60, 61, 63, 64, 65, 66, 67, 68, 69, 70, 71, 72, 73, 74, 75, 76, 77, 78, 79, 80, 81, 82, 83, 84, 85, 86, 87, 88, 89, 90, 91, 92, 93, 94, 95, 96, 97, 98, 99, 100, 101, 102, 103, 104, 105, 106] [(0, 7), (0, 8), (1, 0), (1, 1), (2, 1), (2, 2), (3, 2), (3, 3), (3, 4), (4, 2), (4, 3), (4, 5), (5, 0), (5, 1), (5, 2), (6, 0), (7, 1), (7, 2), (7, 3), (7, 4), (7, 5), (7, 6), (7, 7), (7, 8), (7, 9), (7, 10), (8, 0), (8, 1), (9, 0), (9, 8), (24, 0), (24, 8), (62, 0), (62, 2), (62, 3), (62, 4), (62, 5), (62, 6), (62, 7), (62, 8), (62, 9), (62, 10), (62, 27), (62, 28), (62, 29), (62, 30), (62, 32), (62, 33), (62, 36), (62, 38), (62, 40), (62, 41), (62, 44), (62, 45), (62, 46), (62, 47), (62, 55), (62, 67), (62, 68), (62, 69), (62, 70), (62, 71), (62, 72), (62, 73), (62, 74), (62, 75), (62, 76), (62, 77), (62, 78), (62, 79), (62, 80), (62, 82)]) (K23 x4 M) M) (x4 : Int32) (M : mv_M) : mv_frm (mv_S [10, 11, 12, 13, 14, 15, 16, 17, 18, 19, 20, 21, 22, 23, 25, 26, 27, 28, 29, 30, 31, 32, 33, 34, 35, 36, 37, 38, 39, 40, 41, 42, 43, 44, 45, 46, 47, 48, 49, 50, 51, 52, 53, 54, 55, 56, 57, 58, 59, 60, 61, 63, 64, 65, 66, 67, 68, 69, 70, 71, 72, 73, 74, 75, 76, 77, 78, 79, 80, 81, 82, 83, 84, 85, 86, 87, 88, 89, 90, 91, 92, 93, 94, 95, 96, 97, 98, 99, 100, 101, 102, 103, 104, 105, 106] [(0, 7), (0, 8), (1, 0), (1, 1), (2, 1), (2, 2), (3, 2), (3, 3), (3, 4), (4, 2), (4, 3), (4, 5), (5, 0), (5, 1), (5, 2), (6, 0), (7, 1), (7, 2), (7, 3), (7, 4), (7, 5), (7, 6), (7, 7), (7, 8), (7, 9), (7, 10), (8, 0), (8, 1), (9, 0), (9, 8), (24, 0), (24, 8), (62, 0), (62, 2), (62, 3), (62, 4), (62, 5), (62, 6), (62, 7), (62, 8), (62, 9), (62, 10), (62, 27), (62, 28), (62, 29), (62, 30), (62, 32), (62, 33), (62, 36), (62, 38), (62, 40), (62, 41), (62, 44), (62, 45), (62, 46), (62, 47), (62, 55), (62, 67), (62, 68), (62, 69), (62, 70), (62, 71), (62, 72), (62, 73), (62, 74), (62, 75), (62, 76), (62, 77), (62, 78), (62, 79), (62, 80), (62, 82)]) (fL_law_490 K23 x4 M) M := by
  unfold fL_law_490
  exact qL_law_1107 hQ23 x4 M
set_option maxRecDepth 100000 in
theorem qL_law_484 {K23 : Int32 → mv_M → Option (Int32 × mv_M)} (hQ23 : ∀ (x4 : Int32) (M : mv_M), mv_frm (mv_S [10, 11, 12, 13, 14, 15, 16, 17, 18, 19, 20, 21, 22, 23, 25, 26, 27, 28, 29, 30, 31, 32, 33, 34, 35, 36, 37, 38, 39, 40, 41, 42, 43, 44, 45, 46, 47, 48, 49, 50, 51, 52, 53, 54, 55, 56, 57, 58, 59, 60, 61, 63, 64, 65, 66, 67, 68, 69, 70, 71, 72, 73, 74, 75, 76, 77, 78, 79, 80, 81, 82, 83, 84, 85, 86, 87, 88, 89, 90, 91, 92, 93, 94, 95, 96, 97, 98, 99, 100, 101, 102, 103, 104, 105, 106] [(0, 7), (0, 8), (1, 0), (1, 1), (2, 1), (2, 2), (3, 2), (3, 3), (3, 4), (4, 2), (4, 3), (4, 5), (5, 0), (5, 1), (5, 2), (6, 0), (7, 1), (7, 2), (7, 3), (7, 4), (7, 5), (7, 6), (7, 7), (7, 8), (7, 9), (7, 10), (8, 0), (8, 1), (9, 0), (9, 8), (24, 0), (24, 8), (62, 0), (62, 2), (62, 3), (62, 4), (62, 5), (62, 6), (62, 7), (62, 8), (62, 9), (62, 10), (62, 27), (62, 28), (62, 29), (62, 30), (62, 32), (62, 33), (62, 36), (62, 38), (62, 40), (62, 41), (62, 44), (62, 45), (62, 46), (62, 47), (62, 55), (62, 67), (62, 68), (62, 69), (62, 70), (62, 71), (62, 72), (62, 73), (62, 74), (62, 75), (62, 76), (62, 77), (62, 78), (62, 79), (62, 80), (62, 82)]) (K23 x4 M) M) (x4 : Int32) (s0 : Int64) (s1 : Int64) (M : mv_M) : mv_frm (mv_S [10, 11, 12, 13, 14, 15, 16, 17, 18, 19, 20, 21, 22, 23, 25, 26, 27, 28, 29, 30, 31, 32, 33, 34, 35, 36, 37, 38, 39, 40, 41, 42, 43, 44, 45, 46, 47, 48, 49, 50, 51, 52, 53, 54, 55, 56, 57, 58, 59, 60, 61, 63, 64, 65, 66, 67, 68, 69, 70, 71, 72, 73, 74, 75, 76, 77, 78, 79, 80, 81, 82, 83, 84, 85, 86, 87, 88, 89, 90, 91, 92, 93, 94, 95, 96, 97, 98, 99, 100, 101, 102, 103, 104, 105, 106] [(0, 7), (0, 8), (1, 0), (1, 1), (2, 1), (2, 2), (3, 2), (3, 3), (3, 4), (4, 2), (4, 3), (4, 5), (5, 0), (5, 1), (5, 2), (6, 0), (7, 1), (7, 2), (7, 3), (7, 4), (7, 5), (7, 6), (7, 7), (7, 8), (7, 9), (7, 10), (8, 0), (8, 1), (9, 0), (9, 8), (24, 0), (24, 8), (62, 0), (62, 2), (62, 3), (62, 4), (62, 5), (62, 6), (62, 7), (62, 8), (62, 9), (62, 10), (62, 27), (62, 28), (62, 29), (62, 30), (62, 32), (62, 33), (62, 36), (62, 38), (62, 40), (62, 41), (62, 44), (62, 45), (62, 46), (62, 47), (62, 55), (62, 67), (62, 68), (62, 69), (62, 70), (62, 71), (62, 72), (62, 73), (62, 74), (62, 75), (62, 76), (62, 77), (62, 78), (62, 79), (62, 80), (62, 82)]) (fL_law_484 K23 x4 s0 s1 M) M := by
  unfold fL_law_484
  refine frm_if ?_ ?_
  · exact qL_law_490 hQ23 x4 M
  · exact frm_some
set_option maxRecDepth 100000 in
theorem qL_law_570 {K23 : Int32 → mv_M → Option (Int32 × mv_M)} (hQ23 : ∀ (x4 : Int32) (M : mv_M), mv_frm (mv_S [10, 11, 12, 13, 14, 15, 16, 17, 18, 19, 20, 21, 22, 23, 25, 26, 27, 28, 29, 30, 31, 32, 33, 34, 35, 36, 37, 38, 39, 40, 41, 42, 43, 44, 45, 46, 47, 48, 49, 50, 51, 52, 53, 54, 55, 56, 57, 58, 59, 60, 61, 63, 64, 65, 66, 67, 68, 69, 70, 71, 72, 73, 74, 75, 76, 77, 78, 79, 80, 81, 82, 83, 84, 85, 86, 87, 88, 89, 90, 91, 92, 93, 94, 95, 96, 97, 98, 99, 100, 101, 102, 103, 104, 105, 106] [(0, 7), (0, 8), (1, 0), (1, 1), (2, 1), (2, 2), (3, 2), (3, 3), (3, 4), (4, 2), (4, 3), (4, 5), (5, 0), (5, 1), (5, 2), (6, 0), (7, 1), (7, 2), (7, 3), (7, 4), (7, 5), (7, 6), (7, 7), (7, 8), (7, 9), (7, 10), (8, 0), (8, 1), (9, 0), (9, 8), (24, 0), (24, 8), (62, 0), (62, 2), (62, 3), (62, 4), (62, 5), (62, 6), (62, 7), (62, 8), (62, 9), (62, 10), (62, 27), (62, 28), (62, 29), (62, 30), (62, 32), (62, 33), (62, 36), (62, 38), (62, 40), (62, 41), (62, 44), (62, 45), (62, 46), (62, 47), (62, 55), (62, 67), (62, 68), (62, 69), (62, 70), (62, 71), (62, 72), (62, 73), (62, 74), (62, 75), (62, 76), (62, 77), (62, 78), (62, 79), (62, 80), (62, 82)]) (K23 x4 M) M) (x4 : Int32) (M : mv_M) : mv_frm (mv_S [10, 11, 12, 13, 14, 15, 16, 17, 18, 19, 20, 21, 22, 23, 25, 26, 27, 28, 29, 30, 31, 32, 33, 34, 35, 36, 37, 38, 39, 40, 41, 42, 43, 44, 45, 46, 47, 48, 49, 50, 51, 52, 53, 54, 55, 56, 57, 58, 59, 60, 61, 63, 64, 65, 66, 67, 68, 69, 70, 71, 72, 73, 74, 75, 76, 77, 78, 79, 80, 81, 82, 83, 84, 85, 86, 87, 88, 89, 90, 91, 92, 93, 94, 95, 96, 97, 98, 99, 100, 101, 102, 103, 104, 105, 106] [(0, 7), (0, 8), (1, 0), (1, 1), (2, 1), (2, 2), (3, 2), (3, 3), (3, 4), (4, 2), (4, 3), (4, 5), (5, 0), (5, 1), (5, 2), (6, 0), (7, 1), (7, 2), (7, 3), (7, 4), (7, 5), (7, 6), (7, 7), (7, 8), (7, 9), (7, 10), (8, 0), (8, 1), (9, 0), (9, 8), (24, 0), (24, 8), (62, 0), (62, 2), (62, 3), (62, 4), (62, 5), (62, 6), (62, 7), (62, 8), (62, 9), (62, 10), (62, 27), (62, 28), (62, 29), (62, 30), (62, 32), (62, 33), (62, 36), (62, 38), (62, 40), (62, 41), (62, 44), (62, 45), (62, 46), (62, 47), (62, 55), (62, 67), (62, 68), (62, 69), (62, 70), (62, 71), (62, 72), (62, 73), (62, 74), (62, 75), (62, 76), (62, 77), (62, 78), (62, 79), (62, 80), (62, 82)]) (fL_law_570 K23 x4 M) M := by
  unfold fL_law_570
  exact qL_law_1107 hQ23 x4 M
set_option maxRecDepth 100000 in
theorem qL_law_645 {K23 : Int32 → mv_M → Option (Int32 × mv_M)} (hQ23 : ∀ (x4 : Int32) (M : mv_M), mv_frm (mv_S [10, 11, 12, 13, 14, 15, 16, 17, 18, 19, 20, 21, 22, 23, 25, 26, 27, 28, 29, 30, 31, 32, 33, 34, 35, 36, 37, 38, 39, 40, 41, 42, 43, 44, 45, 46, 47, 48, 49, 50, 51, 52, 53, 54, 55, 56, 57, 58, 59, 60, 61, 63, 64, 65, 66, 67, 68, 69, 70, 71, 72, 73, 74, 75, 76, 77, 78, 79, 80, 81, 82, 83, 84, 85, 86, 87, 88, 89, 90, 91, 92, 93, 94, 95, 96, 97, 98, 99, 100, 101, 102, 103, 104, 105, 106] [(0, 7), (0, 8), (1, 0), (1, 1), (2, 1), (2, 2), (3, 2), (3, 3), (3, 4), (4, 2), (4, 3), (4, 5), (5, 0), (5, 1), (5, 2), (6, 0), (7, 1), (7, 2), (7, 3), (7, 4), (7, 5), (7, 6), (7, 7), (7, 8), (7, 9), (7, 10), (8, 0), (8, 1), (9, 0), (9, 8), (24, 0), (24, 8), (62, 0), (62, 2), (62, 3), (62, 4), (62, 5), (62, 6), (62, 7), (62, 8), (62, 9), (62, 10), (62, 27), (62, 28), (62, 29), (62, 30), (62, 32), (62, 33), (62, 36), (62, 38), (62, 40), (62, 41), (62, 44), (62, 45), (62, 46), (62, 47), (62, 55), (62, 67), (62, 68), (62, 69), (62, 70), (62, 71), (62, 72), (62, 73), (62, 74), (62, 75), (62, 76), (62, 77), (62, 78), (62, 79), (62, 80), (62, 82)]) (K23 x4 M) M) (x4 : Int32) (M : mv_M) : mv_frm (mv_S [10, 11, 12, 13, 14, 15, 16, 17, 18, 19, 20, 21, 22, 23, 25, 26, 27, 28, 29, 30, 31, 32, 33, 34, 35, 36, 37, 38, 39, 40, 41, 42, 43, 44, 45, 46, 47, 48, 49, 50, 51, 52, 53, 54, 55, 56, 57, 58, 59, 60, 61, 63, 64, 65, 66, 67, 68, 69, 70, 71, 72, 73, 74, 75, 76, 77, 78, 79, 80, 81, 82, 83, 84, 85, 86, 87, 88, 89, 90, 91, 92, 93, 94, 95, 96, 97, 98, 99, 100, 101, 102, 103, 104, 105, 106] [(0, 7), (0, 8), (1, 0), (1, 1), (2, 1), (2, 2), (3, 2), (3, 3), (3, 4), (4, 2), (4, 3), (4, 5), (5, 0), (5, 1), (5, 2), (6, 0), (7, 1), (7, 2), (7, 3), (7, 4), (7, 5), (7, 6), (7, 7), (7, 8), (7, 9), (7, 10), (8, 0), (8, 1), (9, 0), (9, 8), (24, 0), (24, 8), (62, 0), (62, 2), (62, 3), (62, 4), (62, 5), (62, 6), (62, 7), (62, 8), (62, 9), (62, 10), (62, 27), (62, 28), (62, 29), (62, 30), (62, 32), (62, 33), (62, 36), (62, 38), (62, 40), (62, 41), (62, 44), (62, 45), (62, 46), (62, 47), (62, 55), (62, 67), (62, 68), (62, 69), (62, 70), (62, 71), (62, 72), (62, 73), (62, 74), (62, 75), (62, 76), (62, 77), (62, 78), (62, 79), (62, 80), (62, 82)]) (fL_law_645 K23 x4 M) M := by
  unfold fL_law_645
  exact qL_law_1107 hQ23 x4 M
set_option maxRecDepth 100000 in
theorem qL_law_639 {K23 : Int32 → mv_M → Option (Int32 × mv_M)} (hQ23 : ∀ (x4 : Int32) (M : mv_M), mv_frm (mv_S [10, 11, 12, 13, 14, 15, 16, 17, 18, 19, 20, 21, 22, 23, 25, 26, 27, 28, 29, 30, 31, 32, 33, 34, 35, 36, 37, 38, 39, 40, 41, 42, 43, 44, 45, 46, 47, 48, 49, 50, 51, 52, 53, 54, 55, 56, 57, 58, 59, 60, 61, 63, 64, 65, 66, 67, 68, 69, 70, 71, 72, 73, 74, 75, 76, 77, 78, 79, 80, 81, 82, 83, 84, 85, 86, 87, 88, 89, 90, 91, 92, 93, 94, 95, 96, 97, 98, 99, 100, 101, 102, 103, 104, 105, 106] [(0, 7), (0, 8), (1, 0), (1, 1), (2, 1), (2, 2), (3, 2), (3, 3), (3, 4), (4, 2), (4, 3), (4, 5), (5, 0), (5, 1), (5, 2), (6, 0), (7, 1), (7, 2), (7, 3), (7, 4), (7, 5), (7, 6), (7, 7), (7, 8), (7, 9), (7, 10), (8, 0), (8, 1), (9, 0), (9, 8), (24, 0), (24, 8), (62, 0), (62, 2), (62, 3), (62, 4), (62, 5), (62, 6), (62, 7), (62, 8), (62, 9), (62, 10), (62, 27), (62, 28), (62, 29), (62, 30), (62, 32), (62, 33), (62, 36), (62, 38), (62, 40), (62, 41), (62, 44), (62, 45), (62, 46), (62, 47), (62, 55), (62, 67), (62, 68), (62, 69), (62, 70), (62, 71), (62, 72), (62, 73), (62, 74), (62, 75), (62, 76), (62, 77), (62, 78), (62, 79), (62, 80), (62, 82)]) (K23 x4 M) M) (x4 : Int32) (s0 : Int64) (s1 : Int64) (M : mv_M) : mv_frm (mv_S [10, 11, 12, 13, 14, 15, 16, 17, 18, 19, 20, 21, 22, 23, 25, 26, 27, 28, 29, 30, 31, 32, 33, 34, 35, 36, 37, 38, 39, 40, 41, 42, 43, 44, 45, 46, 47, 48, 49, 50, 51, 52, 53, 54, 55, 56, 57, 58, 59, 60, 61, 63, 64, 65, 66, 67, 68, 69, 70, 71, 72, 73, 74, 75, 76, 77, 78, 79, 80, 81, 82, 83, 84, 85, 86, 87, 88, 89, 90, 91, 92, 93, 94, 95, 96, 97, 98, 99, 100, 101, 102, 103, 104, 105, 106] [(0, 7), (0, 8), (1, 0), (1, 1), (2, 1), (2, 2), (3, 2), (3, 3), (3, 4), (4, 2), (4, 3), (4, 5), (5, 0), (5, 1), (5, 2), (6, 0), (7, 1), (7, 2), (7, 3), (7, 4), (7, 5), (7, 6), (7, 7), (7, 8), (7, 9), (7, 10), (8, 0), (8, 1), (9, 0), (9, 8), (24, 0), (24, 8), (62, 0), (62, 2), (62, 3), (62, 4), (62, 5), (62, 6), (62, 7), (62, 8), (62, 9), (62, 10), (62, 27), (62, 28), (62, 29), (62, 30), (62, 32), (62, 33), (62, 36), (62, 38), (62, 40), (62, 41), (62, 44), (62, 45), (62, 46), (62, 47), (62, 55), (62, 67), (62, 68), (62, 69), (62, 70), (62, 71), (62, 72), (62, 73), (62, 74), (62, 75), (62, 76), (62, 77), (62, 78), (62, 79), (62, 80), (62, 82)]) (fL_law_639 K23 x4 s0 s1 M) M := by
  unfold fL_law_639
  refine frm_if ?_ ?_
  · exact qL_law_645 hQ23 x4 M
  · exact frm_some
set_option maxRecDepth 100000 in
theorem qL_law_737 {K23 : Int32 → mv_M → Option (Int32 × mv_M)} (hQ23 : ∀ (x4 : Int32) (M : mv_M), mv_frm (mv_S [10, 11, 12, 13, 14, 15, 16, 17, 18, 19, 20, 21, 22, 23, 25, 26, 27, 28, 29, 30, 31, 32, 33, 34, 35, 36, 37, 38, 39, 40, 41, 42, 43, 44, 45, 46, 47, 48, 49, 50, 51, 52, 53, 54, 55, 56, 57, 58, 59, 60, 61, 63, 64, 65, 66, 67, 68, 69, 70, 71, 72, 73, 74, 75, 76, 77, 78, 79, 80, 81, 82, 83, 84, 85, 86, 87, 88, 89, 90, 91, 92, 93, 94, 95, 96, 97, 98, 99, 100, 101, 102, 103, 104, 105, 106] [(0, 7), (0, 8), (1, 0), (1, 1), (2, 1), (2, 2), (3, 2), (3, 3), (3, 4), (4, 2), (4, 3), (4, 5), (5, 0), (5, 1), (5, 2), (6, 0), (7, 1), (7, 2), (7, 3), (7, 4), (7, 5), (7, 6), (7, 7), (7, 8), (7, 9), (7, 10), (8, 0), (8, 1), (9, 0), (9, 8), (24, 0), (24, 8), (62, 0), (62, 2), (62, 3), (62, 4), (62, 5), (62, 6), (62, 7), (62, 8), (62, 9), (62, 10), (62, 27), (62, 28), (62, 29), (62, 30), (62, 32), (62, 33), (62, 36), (62, 38), (62, 40), (62, 41), (62, 44), (62, 45), (62, 46), (62, 47), (62, 55), (62, 67), (62, 68), (62, 69), (62, 70), (62, 71), (62, 72), (62, 73), (62, 74), (62, 75), (62, 76), (62, 77), (62, 78), (62, 79), (62, 80), (62, 82)]) (K23 x4 M) M) (x4 : Int32) (M : mv_M) : mv_frm (mv_S [10, 11, 12, 13, 14, 15, 16, 17, 18, 19, 20, 21, 22, 23, 25, 26, 27, 28, 29, 30, 31, 32, 33, 34, 35, 36, 37, 38, 39, 40, 41, 42, 43, 44, 45, 46, 47, 48, 49, 50, 51, 52, 53, 54, 55, 56, 57, 58, 59, 60, 61, 63, 64, 65, 66, 67, 68, 69, 70, 71, 72, 73, 74, 75, 76, 77, 78, 79, 80, 81, 82, 83, 84, 85, 86, 87, 88, 89, 90, 91, 92, 93, 94, 95, 96, 97, 98, 99, 100, 101, 102, 103, 104, 105, 106] [(0, 7), (0, 8), (1, 0), (1, 1), (2, 1), (2, 2), (3, 2), (3, 3), (3, 4), (4, 2), (4, 3), (4, 5), (5, 0), (5, 1), (5, 2), (6, 0), (7, 1), (7, 2), (7, 3), (7, 4), (7, 5), (7, 6), (7, 7), (7, 8), (7, 9), (7, 10), (8, 0), (8, 1), (9, 0), (9, 8), (24, 0), (24, 8), (62, 0), (62, 2), (62, 3), (62, 4), (62, 5), (62, 6), (62, 7), (62, 8), (62, 9), (62, 10), (62, 27), (62, 28), (62, 29), (62, 30), (62, 32), (62, 33), (62, 36), (62, 38), (62, 40), (62, 41), (62, 44), (62, 45), (62, 46), (62, 47), (62, 55), (62, 67), (62, 68), (62, 69), (62, 70), (62, 71), (62, 72), (62, 73), (62, 74), (62, 75), (62, 76), (62, 77), (62, 78), (62, 79), (62, 80), (62, 82)]) (fL_law_737 K23 x4 M) M := by
  unfold fL_law_737
  exact qL_law_1107 hQ23 x4 M
set_option maxRecDepth 100000 in
theorem qL_law_781 {K23 : Int32 → mv_M → Option (Int32 × mv_M)} (hQ23 : ∀ (x4 : Int32) (M : mv_M), mv_frm (mv_S [10, 11, 12, 13, 14, 15, 16, 17, 18, 19, 20, 21, 22, 23, 25, 26, 27, 28, 29, 30, 31, 32, 33, 34, 35, 36, 37, 38, 39, 40, 41, 42, 43, 44, 45, 46, 47, 48, 49, 50, 51, 52, 53, 54, 55, 56, 57, 58, 59, 60, 61, 63, 64, 65, 66, 67, 68, 69, 70, 71, 72, 73, 74, 75, 76, 77, 78, 79, 80, 81, 82, 83, 84, 85, 86, 87, 88, 89, 90, 91, 92, 93, 94, 95, 96, 97, 98, 99, 100, 101, 102, 103, 104, 105, 106] [(0, 7), (0, 8), (1, 0), (1, 1), (2, 1), (2, 2), (3, 2), (3, 3), (3, 4), (4, 2), (4, 3), (4, 5), (5, 0), (5, 1), (5, 2), (6, 0), (7, 1), (7, 2), (7, 3), (7, 4), (7, 5), (7, 6), (7, 7), (7, 8), (7, 9), (7, 10), (8, 0), (8, 1), (9, 0), (9, 8), (24, 0), (24, 8), (62, 0), (62, 2), (62, 3), (62, 4), (62, 5), (62, 6), (62, 7), (62, 8), (62, 9), (62, 10), (62, 27), (62, 28), (62, 29), (62, 30), (62, 32), (62, 33), (62, 36), (62, 38), (62, 40), (62, 41), (62, 44), (62, 45), (62, 46), (62, 47), (62, 55), (62, 67), (62, 68), (62, 69), (62, 70), (62, 71), (62, 72), (62, 73), (62, 74), (62, 75), (62, 76), (62, 77), (62, 78), (62, 79), (62, 80), (62, 82)]) (K23 x4 M) M) (x4 : Int32) (M : mv_M) : mv_frm (mv_S [10, 11, 12, 13, 14, 15, 16, 17, 18, 19, 20, 21, 22, 23, 25, 26, 27, 28, 29, 30, 31, 32, 33, 34, 35, 36, 37, 38, 39, 40, 41, 42, 43, 44, 45, 46, 47, 48, 49, 50, 51, 52, 53, 54, 55, 56, 57, 58, 59, 60, 61, 63, 64, 65, 66, 67, 68, 69, 70, 71, 72, 73, 74, 75, 76, 77, 78, 79, 80, 81, 82, 83, 84, 85, 86, 87, 88, 89, 90, 91, 92, 93, 94, 95, 96, 97, 98, 99, 100, 101, 102, 103, 104, 105, 106] [(0, 7), (0, 8), (1, 0), (1, 1), (2, 1), (2, 2), (3, 2), (3, 3), (3, 4), (4, 2), (4, 3), (4, 5), (5, 0), (5, 1), (5, 2), (6, 0), (7, 1), (7, 2), (7, 3), (7, 4), (7, 5), (7, 6), (7, 7), (7, 8), (7, 9), (7, 10), (8, 0), (8, 1), (9, 0), (9, 8), (24, 0), (24, 8), (62, 0), (62, 2), (62, 3), (62, 4), (62, 5), (62, 6), (62, 7), (62, 8), (62, 9), (62, 10), (62, 27), (62, 28), (62, 29), (62, 30), (62, 32), (62, 33), (62, 36), (62, 38), (62, 40), (62, 41), (62, 44), (62, 45), (62, 46), (62, 47), (62, 55), (62, 67), (62, 68), (62, 69), (62, 70), (62, 71), (62, 72), (62, 73), (62, 74), (62, 75), (62, 76), (62, 77), (62, 78), (62, 79), (62, 80), (62, 82)]) (fL_law_781 K23 x4 M) M := by
  unfold fL_law_781
  exact qL_law_1107 hQ23 x4 M
set_option maxRecDepth 100000 in
theorem qL_law_849 {K23 : Int32 → mv_M → Option (Int32 × mv_M)} (hQ23 : ∀ (x4 : Int32) (M : mv_M), mv_frm (mv_S [10, 11, 12, 13, 14, 15, 16, 17, 18, 19, 20, 21, 22, 23, 25, 26, 27, 28, 29, 30, 31, 32, 33, 34, 35, 36, 37, 38, 39, 40, 41, 42, 43, 44, 45, 46, 47, 48, 49, 50, 51, 52, 53, 54, 55, 56, 57, 58, 59, 60, 61, 63, 64, 65, 66, 67, 68, 69, 70, 71, 72, 73, 74, 75, 76, 77, 78, 79, 80, 81, 82, 83, 84, 85, 86, 87, 88, 89, 90, 91, 92, 93, 94, 95, 96, 97, 98, 99, 100, 101, 102, 103, 104, 105, 106] [(0, 7), (0, 8), (1, 0), (1, 1), (2, 1), (2, 2), (3, 2), (3, 3), (3, 4), (4, 2), (4, 3), (4, 5), (5, 0), (5, 1), (5, 2), (6, 0), (7, 1), (7, 2), (7, 3), (7, 4), (7, 5), (7, 6), (7, 7), (7, 8), (7, 9), (7, 10), (8, 0), (8, 1), (9, 0), (9, 8), (24, 0), (24, 8), (62, 0), (62, 2), (62, 3), (62, 4), (62, 5), (62, 6), (62, 7), (62, 8), (62, 9), (62, 10), (62, 27), (62, 28), (62, 29), (62, 30), (62, 32), (62, 33), (62, 36), (62, 38), (62, 40), (62, 41), (62, 44), (62, 45), (62, 46), (62, 47), (62, 55), (62, 67), (62, 68), (62, 69), (62, 70), (62, 71), (62, 72), (62, 73), (62, 74), (62, 75), (62, 76), (62, 77), (62, 78), (62, 79), (62, 80), (62, 82)]) (K23 x4 M) M) (x4 : Int32) (M : mv_M) : mv_frm (mv_S [10, 11, 12, 13, 14, 15, 16, 17, 18, 19, 20, 21, 22, 23, 25, 26, 27, 28, 29, 30, 31, 32, 33, 34, 35, 36, 37, 38, 39, 40, 41, 42, 43, 44, 45, 46, 47, 48, 49, 50, 51, 52, 53, 54, 55, 56, 57, 58, 59, 60, 61, 63, 64, 65, 66, 67, 68, 69, 70, 71, 72, 73, 74, 75, 76, 77, 78, 79, 80, 81, 82, 83, 84, 85, 86, 87, 88, 89, 90, 91, 92, 93, 94, 95, 96, 97, 98, 99, 100, 101, 102, 103, 104, 105, 106] [(0, 7), (0, 8), (1, 0), (1, 1), (2, 1), (2, 2), (3, 2), (3, 3), (3, 4), (4, 2), (4, 3), (4, 5), (5, 0), (5, 1), (5, 2), (6, 0), (7, 1), (7, 2), (7, 3), (7, 4), (7, 5), (7, 6), (7, 7), (7, 8), (7, 9), (7, 10), (8, 0), (8, 1), (9, 0), (9, 8), (24, 0), (24, 8), (62, 0), (62, 2), (62, 3), (62, 4), (62, 5), (62, 6), (62, 7), (62, 8), (62, 9), (62, 10), (62, 27), (62, 28), (62, 29), (62, 30), (62, 32), (62, 33), (62, 36), (62, 38), (62, 40), (62, 41), (62, 44), (62, 45), (62, 46), (62, 47), (62, 55), (62, 67), (62, 68), (62, 69), (62, 70), (62, 71), (62, 72), (62, 73), (62, 74), (62, 75), (62, 76), (62, 77), (62, 78), (62, 79), (62, 80), (62, 82)]) (fL_law_849 K23 x4 M) M := by
  unfold fL_law_849
  exact qL_law_1107 hQ23 x4 M
set_option maxRecDepth 100000 in
theorem qL_law_929 {K23 : Int32 → mv_M → Option (Int32 × mv_M)} (hQ23 : ∀ (x4 : Int32) (M : mv_M), mv_frm (mv_S [10, 11, 12, 13, 14, 15, 16, 17, 18, 19, 20, 21, 22, 23, 25, 26, 27, 28, 29, 30, 31, 32, 33, 34, 35, 36, 37, 38, 39, 40, 41, 42, 43, 44, 45, 46, 47, 48, 49, 50, 51, 52, 53, 54, 55, 56, 57, 58, 59, 60, 61, 63, 64, 65, 66, 67, 68, 69, 70, 71, 72, 73, 74, 75, 76, 77, 78, 79, 80, 81, 82, 83, 84, 85, 86, 87, 88, 89, 90, 91, 92, 93, 94, 95, 96, 97, 98, 99, 100, 101, 102, 103, 104, 105, 106] [(0, 7), (0, 8), (1, 0), (1, 1), (2, 1), (2, 2), (3, 2), (3, 3), (3, 4), (4, 2), (4, 3), (4, 5), (5, 0), (5, 1), (5, 2), (6, 0), (7, 1), (7, 2), (7, 3), (7, 4), (7, 5), (7, 6), (7, 7), (7, 8), (7, 9), (7, 10), (8, 0), (8, 1), (9, 0), (9, 8), (24, 0), (24, 8), (62, 0), (62, 2), (62, 3), (62, 4), (62, 5), (62, 6), (62, 7), (62, 8), (62, 9), (62, 10), (62, 27), (62, 28), (62, 29), (62, 30), (62, 32), (62, 33), (62, 36), (62, 38), (62, 40), (62, 41), (62, 44), (62, 45), (62, 46), (62, 47), (62, 55), (62, 67), (62, 68), (62, 69), (62, 70), (62, 71), (62, 72), (62, 73), (62, 74), (62, 75), (62, 76), (62, 77), (62, 78), (62, 79), (62, 80), (62, 82)]) (K23 x4 M) M) (x4 : Int32) (M : mv_M) : mv_frm (mv_S [10, 11, 12, 13, 14, 15, 16, 17, 18, 19, 20, 21, 22, 23, 25, 26, 27, 28, 29, 30, 31, 32, 33, 34, 35, 36, 37, 38, 39, 40, 41, 42, 43, 44, 45, 46, 47, 48, 49, 50, 51, 52, 53, 54, 55, 56, 57, 58, 59, 60, 61, 63, 64, 65, 66, 67, 68, 69, 70, 71, 72, 73, 74, 75, 76, 77, 78, 79, 80, 81, 82, 83, 84, 85, 86, 87, 88, 89, 90, 91, 92, 93, 94, 95, 96, 97, 98, 99, 100, 101, 102, 103, 104, 105, 106] [(0, 7), (0, 8), (1, 0), (1, 1), (2, 1), (2, 2), (3, 2), (3, 3), (3, 4), (4, 2), (4, 3), (4, 5), (5, 0), (5, 1), (5, 2), (6, 0), (7, 1), (7, 2), (7, 3), (7, 4), (7, 5), (7, 6), (7, 7), (7, 8), (7, 9), (7, 10), (8, 0), (8, 1), (9, 0), (9, 8), (24, 0), (24, 8), (62, 0), (62, 2), (62, 3), (62, 4), (62, 5), (62, 6), (62, 7), (62, 8), (62, 9), (62, 10), (62, 27), (62, 28), (62, 29), (62, 30), (62, 32), (62, 33), (62, 36), (62, 38), (62, 40), (62, 41), (62, 44), (62, 45), (62, 46), (62, 47), (62, 55), (62, 67), (62, 68), (62, 69), (62, 70), (62, 71), (62, 72), (62, 73), (62, 74), (62, 75), (62, 76), (62, 77), (62, 78), (62, 79), (62, 80), (62, 82)]) (fL_law_929 K23 x4 M) M := by
  unfold fL_law_929
  exact qL_law_1107 hQ23 x4 M
set_option maxRecDepth 100000 in
theorem qL_law_985 {K23 : Int32 → mv_M → Option (Int32 × mv_M)} (hQ23 : ∀ (x4 : Int32) (M : mv_M), mv_frm (mv_S [10, 11, 12, 13, 14, 15, 16, 17, 18, 19, 20, 21, 22, 23, 25, 26, 27, 28, 29, 30, 31, 32, 33, 34, 35, 36, 37, 38, 39, 40, 41, 42, 43, 44, 45, 46, 47, 48, 49, 50, 51, 52, 53, 54, 55, 56, 57, 58, 59, 60, 61, 63, 64, 65, 66, 67, 68, 69, 70, 71, 72, 73, 74, 75, 76, 77, 78, 79, 80, 81, 82, 83, 84, 85, 86, 87, 88, 89, 90, 91, 92, 93, 94, 95, 96, 97, 98, 99, 100, 101, 102, 103, 104, 105, 106] [(0, 7), (0, 8), (1, 0), (1, 1), (2, 1), (2, 2), (3, 2), (3, 3), (3, 4), (4, 2), (4, 3), (4, 5), (5, 0), (5, 1), (5, 2), (6, 0), (7, 1), (7, 2), (7, 3), (7, 4), (7, 5), (7, 6), (7, 7), (7, 8), (7, 9), (7, 10), (8, 0), (8, 1), (9, 0), (9, 8), (24, 0), (24, 8), (62, 0), (62, 2), (62, 3), (62, 4), (62, 5), (62, 6), (62, 7), (62, 8), (62, 9), (62, 10), (62, 27), (62, 28), (62, 29), (62, 30), (62, 32), (62, 33), (62, 36), (62, 38), (62, 40), (62, 41), (62, 44), (62, 45), (62, 46), (62, 47), (62, 55), (62, 67), (62, 68), (62, 69), (62, 70), (62, 71), (62, 72), (62, 73), (62, 74), (62, 75), (62, 76), (62, 77), (62, 78), (62, 79), (62, 80), (62, 82)]) (K23 x4 M) M) (x4 : Int32) (M : mv_M) : mv_frm (mv_S [10, 11, 12, 13, 14, 15, 16, 17, 18, 19, 20, 21, 22, 23, 25, 26, 27, 28, 29, 30, 31, 32, 33, 34, 35, 36, 37, 38, 39, 40, 41, 42, 43, 44, 45, 46, 47, 48, 49, 50, 51, 52, 53, 54, 55, 56, 57, 58, 59, 60, 61, 63, 64, 65, 66, 67, 68, 69, 70, 71, 72, 73, 74, 75, 76, 77, 78, 79, 80, 81, 82, 83, 84, 85, 86, 87, 88, 89, 90, 91, 92, 93, 94, 95, 96, 97, 98, 99, 100, 101, 102, 103, 104, 105, 106] [(0, 7), (0, 8), (1, 0), (1, 1), (2, 1), (2, 2), (3, 2), (3, 3), (3, 4), (4, 2), (4, 3), (4, 5), (5, 0), (5, 1), (5, 2), (6, 0), (7, 1), (7, 2), (7, 3), (7, 4), (7, 5), (7, 6), (7, 7), (7, 8), (7, 9), (7, 10), (8, 0), (8, 1), (9, 0), (9, 8), (24, 0), (24, 8), (62, 0), (62, 2), (62, 3), (62, 4), (62, 5), (62, 6), (62, 7), (62, 8), (62, 9), (62, 10), (62, 27), (62, 28), (62, 29), (62, 30), (62, 32), (62, 33), (62, 36), (62, 38), (62, 40), (62, 41), (62, 44), (62, 45), (62, 46), (62, 47), (62, 55), (62, 67), (62, 68), (62, 69), (62, 70), (62, 71), (62, 72), (62, 73), (62, 74), (62, 75), (62, 76), (62, 77), (62, 78), (62, 79), (62, 80), (62, 82)]) (fL_law_985 K23 x4 M) M := by
  unfold fL_law_985
  exact qL_law_1107 hQ23 x4 M
set_option maxRecDepth 100000 in
theorem qL_law_1041 {K23 : Int32 → mv_M → Option (Int32 × mv_M)} (hQ23 : ∀ (x4 : Int32) (M : mv_M), mv_frm (mv_S [10, 11, 12, 13, 14, 15, 16, 17, 18, 19, 20, 21, 22, 23, 25, 26, 27, 28, 29, 30, 31, 32, 33, 34, 35, 36, 37, 38, 39, 40, 41, 42, 43, 44, 45, 46, 47, 48, 49, 50, 51, 52, 53, 54, 55, 56, 57, 58, 59, 60, 61, 63, 64, 65, 66, 67, 68, 69, 70, 71, 72, 73, 74, 75, 76, 77, 78, 79, 80, 81, 82, 83, 84, 85, 86, 87, 88, 89, 90, 91, 92, 93, 94, 95, 96, 97, 98, 99, 100, 101, 102, 103, 104, 105, 106] [(0, 7), (0, 8), (1, 0), (1, 1), (2, 1), (2, 2), (3, 2), (3, 3), (3, 4), (4, 2), (4, 3), (4, 5), (5, 0), (5, 1), (5, 2), (6, 0), (7, 1), (7, 2), (7, 3), (7, 4), (7, 5), (7, 6), (7, 7), (7, 8), (7, 9), (7, 10), (8, 0), (8, 1), (9, 0), (9, 8), (24, 0), (24, 8), (62, 0), (62, 2), (62, 3), (62, 4), (62, 5), (62, 6), (62, 7), (62, 8), (62, 9), (62, 10), (62, 27), (62, 28), (62, 29), (62, 30), (62, 32), (62, 33), (62, 36), (62, 38), (62, 40), (62, 41), (62, 44), (62, 45), (62, 46), (62, 47), (62, 55), (62, 67), (62, 68), (62, 69), (62, 70), (62, 71), (62, 72), (62, 73), (62, 74), (62, 75), (62, 76), (62, 77), (62, 78), (62, 79), (62, 80), (62, 82)]) (K23 x4 M) M) (x4 : Int32) (M : mv_M) : mv_frm (mv_S [10, 11, 12, 13, 14, 15, 16, 17, 18, 19, 20, 21, 22, 23, 25, 26, 27, 28, 29, 30, 31, 32, 33, 34, 35, 36, 37, 38, 39, 40, 41, 42, 43, 44, 45, 46, 47, 48, 49, 50, 51, 52, 53, 54, 55, 56, 57, 58, 59, 60, 61, 63, 64, 65, 66, 67, 68, 69, 70, 71, 72, 73, 74, 75, 76, 77, 78, 79, 80, 81, 82, 83, 84, 85, 86, 87, 88, 89, 90, 91, 92, 93, 94, 95, 96, 97, 98, 99, 100, 101, 102, 103, 104, 105, 106] [(0, 7), (0, 8), (1, 0), (1, 1), (2, 1), (2, 2), (3, 2), (3, 3), (3, 4), (4, 2), (4, 3), (4, 5), (5, 0), (5, 1), (5, 2), (6, 0), (7, 1), (7, 2), (7, 3), (7, 4), (7, 5), (7, 6), (7, 7), (7, 8), (7, 9), (7, 10), (8, 0), (8, 1), (9, 0), (9, 8), (24, 0), (24, 8), (62, 0), (62, 2), (62, 3), (62, 4), (62, 5), (62, 6), (62, 7), (62, 8), (62, 9), (62, 10), (62, 27), (62, 28), (62, 29), (62, 30), (62, 32), (62, 33), (62, 36), (62, 38), (62, 40), (62, 41), (62, 44), (62, 45), (62, 46), (62, 47), (62, 55), (62, 67), (62, 68), (62, 69), (62, 70), (62, 71), (62, 72), (62, 73), (62, 74), (62, 75), (62, 76), (62, 77), (62, 78), (62, 79), (62, 80), (62, 82)]) (fL_law_1041 K23 x4 M) M := by
  unfold fL_law_1041
  exact qL_law_1107 hQ23 x4 M
set_option maxRecDepth 100000 in
theorem qL_law_1104 {K23 : Int32 → mv_M → Option (Int32 × mv_M)} (hQ23 : ∀ (x4 : Int32) (M : mv_M), mv_frm (mv_S [10, 11, 12, 13, 14, 15, 16, 17, 18, 19, 20, 21, 22, 23, 25, 26, 27, 28, 29, 30, 31, 32, 33, 34, 35, 36, 37, 38, 39, 40, 41, 42, 43, 44, 45, 46, 47, 48, 49, 50, 51, 52, 53, 54, 55, 56, 57, 58, 59, 60, 61, 63, 64, 65, 66, 67, 68, 69, 70, 71, 72, 73, 74, 75, 76, 77, 78, 79, 80, 81, 82, 83, 84, 85, 86, 87, 88, 89, 90, 91, 92, 93, 94, 95, 96, 97, 98, 99, 100, 101, 102, 103, 104, 105, 106] [(0, 7), (0, 8), (1, 0), (1, 1), (2, 1), (2, 2), (3, 2), (3, 3), (3, 4), (4, 2), (4, 3), (4, 5), (5, 0), (5, 1), (5, 2), (6, 0), (7, 1), (7, 2), (7, 3), (7, 4), (7, 5), (7, 6), (7, 7), (7, 8), (7, 9), (7, 10), (8, 0), (8, 1), (9, 0), (9, 8), (24, 0), (24, 8), (62, 0), (62, 2), (62, 3), (62, 4), (62, 5), (62, 6), (62, 7), (62, 8), (62, 9), (62, 10), (62, 27), (62, 28), (62, 29), (62, 30), (62, 32), (62, 33), (62, 36), (62, 38), (62, 40), (62, 41), (62, 44), (62, 45), (62, 46), (62, 47), (62, 55), (62, 67), (62, 68), (62, 69), (62, 70), (62, 71), (62, 72), (62, 73), (62, 74), (62, 75), (62, 76), (62, 77), (62, 78), (62, 79), (62, 80), (62, 82)]) (K23 x4 M) M) (x4 : Int32) (M : mv_M) : mv_frm (mv_S [10, 11, 12, 13, 14, 15, 16, 17, 18, 19, 20, 21, 22, 23, 25, 26, 27, 28, 29, 30, 31, 32, 33, 34, 35, 36, 37, 38, 39, 40, 41, 42, 43, 44, 45, 46, 47, 48, 49, 50, 51, 52, 53, 54, 55, 56, 57, 58, 59, 60, 61, 63, 64, 65, 66, 67, 68, 69, 70, 71, 72, 73, 74, 75, 76, 77, 78, 79, 80, 81, 82, 83, 84, 85, 86, 87, 88, 89, 90, 91, 92, 93, 94, 95, 96, 97, 98, 99, 100, 101, 102, 103, 104, 105, 106] [(0, 7), (0, 8), (1, 0), (1, 1), (2, 1), (2, 2), (3, 2), (3, 3), (3, 4), (4, 2), (4, 3), (4, 5), (5, 0), (5, 1), (5, 2), (6, 0), (7, 1), (7, 2), (7, 3), (7, 4), (7, 5), (7, 6), (7, 7), (7, 8), (7, 9), (7, 10), (8, 0), (8, 1), (9, 0), (9, 8), (24, 0), (24, 8), (62, 0), (62, 2), (62, 3), (62, 4), (62, 5), (62, 6), (62, 7), (62, 8), (62, 9), (62, 10), (62, 27), (62, 28), (62, 29), (62, 30), (62, 32), (62, 33), (62, 36), (62, 38), (62, 40), (62, 41), (62, 44), (62, 45), (62, 46), (62, 47), (62, 55), (62, 67), (62, 68), (62, 69), (62, 70), (62, 71), (62, 72), (62, 73), (62, 74), (62, 75), (62, 76), (62, 77), (62, 78), (62, 79), (62, 80), (62, 82)]) (fL_law_1104 K23 x4 M) M := by
  unfold fL_law_1104
  exact qL_law_1107 hQ23 x4 M
set_option maxRecDepth 100000 in
theorem qL_law_1098 {K23 : Int32 → mv_M → Option (Int32 × mv_M)} (hQ23 : ∀ (x4 : Int32) (M : mv_M), mv_frm (mv_S [10, 11, 12, 13, 14, 15, 16, 17, 18, 19, 20, 21, 22, 23, 25, 26, 27, 28, 29, 30, 31, 32, 33, 34, 35, 36, 37, 38, 39, 40, 41, 42, 43, 44, 45, 46, 47, 48, 49, 50, 51, 52, 53, 54, 55, 56, 57, 58, 59, 60, 61, 63, 64, 65, 66, 67, 68, 69, 70, 71, 72, 73, 74, 75, 76, 77, 78, 79, 80, 81, 82, 83, 84, 85, 86, 87, 88, 89, 90, 91, 92, 93, 94, 95, 96, 97, 98, 99, 100, 101, 102, 103, 104, 105, 106] [(0, 7), (0, 8), (1, 0), (1, 1), (2, 1), (2, 2), (3, 2), (3, 3), (3, 4), (4, 2), (4, 3), (4, 5), (5, 0), (5, 1), (5, 2), (6, 0), (7, 1), (7, 2), (7, 3), (7, 4), (7, 5), (7, 6), (7, 7), (7, 8), (7, 9), (7, 10), (8, 0), (8, 1), (9, 0), (9, 8), (24, 0), (24, 8), (62, 0), (62, 2), (62, 3), (62, 4), (62, 5), (62, 6), (62, 7), (62, 8), (62, 9), (62, 10), (62, 27), (62, 28), (62, 29), (62, 30), (62, 32), (62, 33), (62, 36), (62, 38), (62, 40), (62, 41), (62, 44), (62, 45), (62, 46), (62, 47), (62, 55), (62, 67), (62, 68), (62, 69), (62, 70), (62, 71), (62, 72), (62, 73), (62, 74), (62, 75), (62, 76), (62, 77), (62, 78), (62, 79), (62, 80), (62, 82)]) (K23 x4 M) M) (x4 : Int32) (s0 : Int64) (s1 : Int64) (M : mv_M) : mv_frm (mv_S [10, 11, 12, 13, 14, 15, 16, 17, 18, 19, 20, 21, 22, 23, 25, 26, 27, 28, 29, 30, 31, 32, 33, 34, 35, 36, 37, 38, 39, 40, 41, 42, 43, 44, 45, 46, 47, 48, 49, 50, 51, 52, 53, 54, 55, 56, 57, 58, 59, 60, 61, 63, 64, 65, 66, 67, 68, 69, 70, 71, 72, 73, 74, 75, 76, 77, 78, 79, 80, 81, 82, 83, 84, 85, 86, 87, 88, 89, 90, 91, 92, 93, 94, 95, 96, 97, 98, 99, 100, 101, 102, 103, 104, 105, 106] [(0, 7), (0, 8), (1, 0), (1, 1), (2, 1), (2, 2), (3, 2), (3, 3), (3, 4), (4, 2), (4, 3), (4, 5), (5, 0), (5, 1), (5, 2), (6, 0), (7, 1), (7, 2), (7, 3), (7, 4), (7, 5), (7, 6), (7, 7), (7, 8), (7, 9), (7, 10), (8, 0), (8, 1), (9, 0), (9, 8), (24, 0), (24, 8), (62, 0), (62, 2), (62, 3), (62, 4), (62, 5), (62, 6), (62, 7), (62, 8), (62, 9), (62, 10), (62, 27), (62, 28), (62, 29), (62, 30), (62, 32), (62, 33), (62, 36), (62, 38), (62, 40), (62, 41), (62, 44), (62, 45), (62, 46), (62, 47), (62, 55), (62, 67), (62, 68), (62, 69), (62, 70), (62, 71), (62, 72), (62, 73), (62, 74), (62, 75), (62, 76), (62, 77), (62, 78), (62, 79), (62, 80), (62, 82)]) (fL_law_1098 K23 x4 s0 s1 M) M := by
  unfold fL_law_1098
  refine frm_if ?_ ?_
  · exact qL_law_1104 hQ23 x4 M
  · exact frm_some
set_option maxRecDepth 100000 in
theorem qL_law_23 : ∀ (n : Nat) (x4 : Int32) (M : mv_M), mv_frm (mv_S [10, 11, 12, 13, 14, 15, 16, 17, 18, 19, 20, 21, 22, 23, 25, 26, 27, 28, 29, 30, 31, 32, 33, 34, 35, 36, 37, 38, 39, 40, 41, 42, 43, 44, 45, 46, 47, 48, 49, 50, 51, 52, 53, 54, 55, 56, 57, 58, 59, 60, 61, 63, 64, 65, 66, 67, 68, 69, 70, 71, 72, 73, 74, 75, 76, 77, 78, 79, 80, 81, 82, 83, 84, 85, 86, 87, 88, 89, 90, 91, 92, 93, 94, 95, 96, 97, 98, 99, 100, 101, 102, 103, 104, 105, 106] [(0, 7), (0, 8), (1, 0), (1, 1), (2, 1), (2, 2), (3, 2), (3, 3), (3, 4), (4, 2), (4, 3), (4, 5), (5, 0), (5, 1), (5, 2), (6, 0), (7, 1), (7, 2), (7, 3), (7, 4), (7, 5), (7, 6), (7, 7), (7, 8), (7, 9), (7, 10), (8, 0), (8, 1), (9, 0), (9, 8), (24, 0), (24, 8), (62, 0), (62, 2), (62, 3), (62, 4), (62, 5), (62, 6), (62, 7), (62, 8), (62, 9), (62, 10), (62, 27), (62, 28), (62, 29), (62, 30), (62, 32), (62, 33), (62, 36), (62, 38), (62, 40), (62, 41), (62, 44), (62, 45), (62, 46), (62, 47), (62, 55), (62, 67), (62, 68), (62, 69), (62, 70), (62, 71), (62, 72), (62, 73), (62, 74), (62, 75), (62, 76), (62, 77), (62, 78), (62, 79), (62, 80), (62, 82)]) (fL_law_23 n x4 M) M := by
  intro n
  induction n with
  | zero =>
    intro x4 M
    rw [fL_law_23]
    exact frm_none
  | succ n ih =>
    intro x4 M
    rw [fL_law_23]
    refine frm_len (fun L1 => ?_)
    refine frm_if ?_ ?_
    · exact frm_some
    · refine frm_len (fun L2 => ?_)
      refine frm_chk ?_
      refine frm_if ?_ ?_
      · refine frm_len (fun L5 => ?_)
        refine frm_chk ?_
        refine frm_len (fun L7 => ?_)
        refine frm_chk ?_
        refine frm_len (fun L9 => ?_)
        refine frm_chk ?_
        refine frm_len (fun L11 => ?_)
        refine frm_chk ?_
        refine frm_len (fun L13 => ?_)
        refine frm_chk ?_
        refine frm_bind (by decide) (qL_feed (M.1 302 (x4 + 1).toNatClampNeg) (M.1 302 (x4 + 2).toNatClampNeg) (M.1 302 (x4 + 3).toNatClampNeg) (M.1 302 (x4 + 4).toNatClampNeg) (M.1 302 (x4 + 5).toNatClampNeg) M) (fun r15 M16 => ?_)
        refine frm_len (fun L17 => ?_)
        refine frm_chk ?_
        refine frm_len (fun L19 => ?_)
        refine frm_chk ?_
        refine frm_len (fun L21 => ?_)
        refine frm_chk ?_
        refine frm_len (fun L23 => ?_)
        refine frm_chk ?_
        refine frm_len (fun L25 => ?_)
        refine frm_chk ?_
        refine frm_bind (by decide) (qX11_feed (M16.1 302 (x4 + 1).toNatClampNeg) (M16.1 302 (x4 + 2).toNatClampNeg) (M16.1 302 (x4 + 3).toNatClampNeg) (M16.1 302 (x4 + 4).toNatClampNeg) (M16.1 302 (x4 + 5).toNatClampNeg) M16) (fun r27 M28 => ?_)
        refine frm_bind (by decide) (qX11_thrown M28) (fun r29 M30 => ?_)
        refine frm_if ?_ ?_
        · refine frm_if ?_ ?_
          · refine frm_if ?_ ?_
            · exact qL_law_221 ih x4 M30
            · exact frm_some
          · exact qL_law_221 ih x4 M30
        · exact frm_some
      · skip
        refine frm_if ?_ ?_
        · refine frm_len (fun L32 => ?_)
          refine frm_chk ?_
          refine frm_bind (by decide) (qL_cut (M.1 302 (x4 + 1).toNatClampNeg) M) (fun r34 M35 => ?_)
          refine frm_len (fun L36 => ?_)
          refine frm_chk ?_
          refine frm_bind (by decide) (qX11_cut (M35.1 302 (x4 + 1).toNatClampNeg) M35) (fun r38 M39 => ?_)
          refine frm_bind (by decide) (qX11_thrown M39) (fun r40 M41 => ?_)
          refine frm_if ?_ ?_
          · refine frm_if ?_ ?_
            · refine frm_if ?_ ?_
              · exact qL_law_277 ih x4 M41
              · exact frm_some
            · exact qL_law_277 ih x4 M41
          · exact frm_some
        · skip
          refine frm_if ?_ ?_
          · refine frm_bind (by decide) (qX10_read M) (fun r43 M44 => ?_)
            refine frm_bind (by decide) (qX11_read M44) (fun r45 M46 => ?_)
            refine frm_if ?_ ?_
            · exact qL_law_1107 ih x4 M46
            · exact frm_some
          · skip
            refine frm_if ?_ ?_
            · refine frm_bind (by decide) (qX10_place M) (fun r48 M49 => ?_)
              refine frm_bind (by decide) (qX11_place M49) (fun r50 M51 => ?_)
              refine frm_if ?_ ?_
              · exact qL_law_1107 ih x4 M51
              · exact frm_some
            · skip
              refine frm_if ?_ ?_
              · refine frm_len (fun L53 => ?_)
                refine frm_chk ?_
                refine frm_len (fun L55 => ?_)
                refine frm_chk ?_
                refine frm_bind (by decide) (qL_function (M.1 302 (x4 + 1).toNatClampNeg) (M.1 302 (x4 + 2).toNatClampNeg) M) (fun r57 M58 => ?_)
                refine frm_len (fun L59 => ?_)
                refine frm_chk ?_
                refine frm_len (fun L61 => ?_)
                refine frm_chk ?_
                refine frm_bind (by decide) (qX11_function (M58.1 302 (x4 + 1).toNatClampNeg) (M58.1 302 (x4 + 2).toNatClampNeg) M58) (fun r63 M64 => ?_)
                refine frm_bind (by decide) (qX11_thrown M64) (fun r65 M66 => ?_)
                refine frm_if ?_ ?_
                · refine frm_if ?_ ?_
                  · refine frm_if ?_ ?_
                    · exact qL_law_371 ih x4 M66
                    · exact frm_some
                  · exact qL_law_371 ih x4 M66
                · exact frm_some
              · skip
                refine frm_if ?_ ?_
                · refine frm_bind (by decide) (qL_rounds M) (fun r68 M69 => ?_)
                  refine frm_bind (by decide) (qX11_rounds M69) (fun r70 M71 => ?_)
                  refine frm_bind (by decide) (qX11_thrown M71) (fun r72 M73 => ?_)
                  refine frm_if ?_ ?_
                  · refine frm_if ?_ ?_
                    · refine frm_if ?_ ?_
                      · exact qL_law_415 ih x4 M73
                      · exact frm_some
                    · exact qL_law_415 ih x4 M73
                  · exact frm_some
                · skip
                  refine frm_if ?_ ?_
                  · refine frm_len (fun L75 => ?_)
                    refine frm_chk ?_
                    refine frm_len (fun L77 => ?_)
                    refine frm_chk ?_
                    refine frm_bind (by decide) (qL_dead (M.1 302 (x4 + 1).toNatClampNeg) (M.1 302 (x4 + 2).toNatClampNeg) M) (fun r79 M80 => ?_)
                    refine frm_len (fun L81 => ?_)
                    refine frm_chk ?_
                    refine frm_len (fun L83 => ?_)
                    refine frm_chk ?_
                    refine frm_bind (by decide) (qX11_dead (M80.1 302 (x4 + 1).toNatClampNeg) (M80.1 302 (x4 + 2).toNatClampNeg) M80) (fun r85 M86 => ?_)
                    refine frm_bind (by decide) (qX11_thrown M86) (fun r87 M88 => ?_)
                    refine frm_if ?_ ?_
                    · refine frm_if ?_ ?_
                      · refine frm_if ?_ ?_
                        · exact qL_law_484 ih x4 0 (M88.2.1 106 (0 : Int32).toNatClampNeg) M88
                        · exact qL_law_484 ih x4 1 (M88.2.1 106 (0 : Int32).toNatClampNeg) M88
                      · exact qL_law_490 ih x4 M88
                    · exact frm_some
                  · skip
                    refine frm_if ?_ ?_
                    · refine frm_len (fun L90 => ?_)
                      refine frm_chk ?_
                      refine frm_len (fun L92 => ?_)
                      refine frm_chk ?_
                      refine frm_len (fun L94 => ?_)
                      refine frm_chk ?_
                      refine frm_bind (by decide) (qL_asks (M.1 302 (x4 + 1).toNatClampNeg) (M.1 302 (x4 + 2).toNatClampNeg) (M.1 302 (x4 + 3).toNatClampNeg) M) (fun r96 M97 => ?_)
                      refine frm_len (fun L98 => ?_)
                      refine frm_chk ?_
                      refine frm_len (fun L100 => ?_)
                      refine frm_chk ?_
                      refine frm_len (fun L102 => ?_)
                      refine frm_chk ?_
                      refine frm_bind (by decide) (qX11_asks_ (M97.1 302 (x4 + 1).toNatClampNeg) (M97.1 302 (x4 + 2).toNatClampNeg) (M97.1 302 (x4 + 3).toNatClampNeg) M97) (fun r104 M105 => ?_)
                      refine frm_bind (by decide) (qX11_thrown M105) (fun r106 M107 => ?_)
                      refine frm_if ?_ ?_
                      · refine frm_if ?_ ?_
                        · refine frm_if ?_ ?_
                          · exact qL_law_570 ih x4 M107
                          · exact frm_some
                        · exact qL_law_570 ih x4 M107
                      · exact frm_some
                    · skip
                      refine frm_if ?_ ?_
                      · refine frm_len (fun L109 => ?_)
                        refine frm_chk ?_
                        refine frm_len (fun L111 => ?_)
                        refine frm_chk ?_
                        refine frm_bind (by decide) (qL_strict (M.1 302 (x4 + 1).toNatClampNeg) (M.1 302 (x4 + 2).toNatClampNeg) M) (fun r113 M114 => ?_)
                        refine frm_len (fun L115 => ?_)
                        refine frm_chk ?_
                        refine frm_len (fun L117 => ?_)
                        refine frm_chk ?_
                        refine frm_bind (by decide) (qX11_strict (M114.1 302 (x4 + 1).toNatClampNeg) (M114.1 302 (x4 + 2).toNatClampNeg) M114) (fun r119 M120 => ?_)
                        refine frm_bind (by decide) (qX11_thrown M120) (fun r121 M122 => ?_)
                        refine frm_if ?_ ?_
                        · refine frm_if ?_ ?_
                          · refine frm_if ?_ ?_
                            · exact qL_law_639 ih x4 0 (M122.2.1 106 (0 : Int32).toNatClampNeg) M122
                            · exact qL_law_639 ih x4 1 (M122.2.1 106 (0 : Int32).toNatClampNeg) M122
                          · exact qL_law_645 ih x4 M122
                        · exact frm_some
                      · skip
                        refine frm_if ?_ ?_
                        · refine frm_len (fun L124 => ?_)
                          refine frm_chk ?_
                          refine frm_len (fun L126 => ?_)
                          refine frm_chk ?_
                          refine frm_len (fun L128 => ?_)
                          refine frm_chk ?_
                          refine frm_len (fun L130 => ?_)
                          refine frm_chk ?_
                          refine frm_bind (by decide) (qL_plant (M.1 302 (x4 + 1).toNatClampNeg) (M.1 302 (x4 + 2).toNatClampNeg) (M.1 302 (x4 + 3).toNatClampNeg) (M.1 302 (x4 + 4).toNatClampNeg) M) (fun r132 M133 => ?_)
                          refine frm_len (fun L134 => ?_)
                          refine frm_chk ?_
                          refine frm_len (fun L136 => ?_)
                          refine frm_chk ?_
                          refine frm_len (fun L138 => ?_)
                          refine frm_chk ?_
                          refine frm_len (fun L140 => ?_)
                          refine frm_chk ?_
                          refine frm_bind (by decide) (qX11_plant (M133.1 302 (x4 + 1).toNatClampNeg) (M133.1 302 (x4 + 2).toNatClampNeg) (M133.1 302 (x4 + 3).toNatClampNeg) (M133.1 302 (x4 + 4).toNatClampNeg) M133) (fun r142 M143 => ?_)
                          refine frm_bind (by decide) (qX11_thrown M143) (fun r144 M145 => ?_)
                          refine frm_if ?_ ?_
                          · refine frm_if ?_ ?_
                            · refine frm_if ?_ ?_
                              · exact qL_law_737 ih x4 M145
                              · exact frm_some
                            · exact qL_law_737 ih x4 M145
                          · exact frm_some
                        · skip
                          refine frm_if ?_ ?_
                          · refine frm_bind (by decide) (qL_check M) (fun r147 M148 => ?_)
                            refine frm_bind (by decide) (qX11_check M148) (fun r149 M150 => ?_)
                            refine frm_bind (by decide) (qX11_thrown M150) (fun r151 M152 => ?_)
                            refine frm_if ?_ ?_
                            · refine frm_if ?_ ?_
                              · refine frm_if ?_ ?_
                                · exact qL_law_781 ih x4 M152
                                · exact frm_some
                              · exact qL_law_781 ih x4 M152
                            · exact frm_some
                          · skip
                            refine frm_if ?_ ?_
                            · refine frm_len (fun L154 => ?_)
                              refine frm_chk ?_
                              refine frm_len (fun L156 => ?_)
                              refine frm_chk ?_
                              refine frm_bind (by decide) (qL_input (M.1 302 (x4 + 1).toNatClampNeg) (M.1 302 (x4 + 2).toNatClampNeg) M) (fun r158 M159 => ?_)
                              refine frm_len (fun L160 => ?_)
                              refine frm_chk ?_
                              refine frm_len (fun L162 => ?_)
                              refine frm_chk ?_
                              refine frm_bind (by decide) (qX11_input (M159.1 302 (x4 + 1).toNatClampNeg) (M159.1 302 (x4 + 2).toNatClampNeg) M159) (fun r164 M165 => ?_)
                              refine frm_bind (by decide) (qX11_thrown M165) (fun r166 M167 => ?_)
                              refine frm_if ?_ ?_
                              · refine frm_if ?_ ?_
                                · refine frm_if ?_ ?_
                                  · exact qL_law_849 ih x4 M167
                                  · exact frm_some
                                · exact qL_law_849 ih x4 M167
                              · exact frm_some
                            · skip
                              refine frm_if ?_ ?_
                              · refine frm_len (fun L169 => ?_)
                                refine frm_chk ?_
                                refine frm_len (fun L171 => ?_)
                                refine frm_chk ?_
                                refine frm_len (fun L173 => ?_)
                                refine frm_chk ?_
                                refine frm_bind (by decide) (qL_run (M.1 302 (x4 + 1).toNatClampNeg) (M.1 302 (x4 + 2).toNatClampNeg) (M.1 302 (x4 + 3).toNatClampNeg) M) (fun r175 M176 => ?_)
                                refine frm_len (fun L177 => ?_)
                                refine frm_chk ?_
                                refine frm_len (fun L179 => ?_)
                                refine frm_chk ?_
                                refine frm_len (fun L181 => ?_)
                                refine frm_chk ?_
                                refine frm_bind (by decide) (qX11_run (M176.1 302 (x4 + 1).toNatClampNeg) (M176.1 302 (x4 + 2).toNatClampNeg) (M176.1 302 (x4 + 3).toNatClampNeg) M176) (fun r183 M184 => ?_)
                                refine frm_bind (by decide) (qX11_thrown M184) (fun r185 M186 => ?_)
                                refine frm_if ?_ ?_
                                · refine frm_if ?_ ?_
                                  · refine frm_if ?_ ?_
                                    · exact qL_law_929 ih x4 M186
                                    · exact frm_some
                                  · exact qL_law_929 ih x4 M186
                                · exact frm_some
                              · skip
                                refine frm_if ?_ ?_
                                · refine frm_len (fun L188 => ?_)
                                  refine frm_chk ?_
                                  refine frm_bind (by decide) (qL_told (M.1 302 (x4 + 1).toNatClampNeg) M) (fun r190 M191 => ?_)
                                  refine frm_len (fun L192 => ?_)
                                  refine frm_chk ?_
                                  refine frm_bind (by decide) (qX11_told (M191.1 302 (x4 + 1).toNatClampNeg) M191) (fun r194 M195 => ?_)
                                  refine frm_bind (by decide) (qX11_thrown M195) (fun r196 M197 => ?_)
                                  refine frm_if ?_ ?_
                                  · refine frm_if ?_ ?_
                                    · refine frm_if ?_ ?_
                                      · exact qL_law_985 ih x4 M197
                                      · exact frm_some
                                    · exact qL_law_985 ih x4 M197
                                  · exact frm_some
                                · skip
                                  refine frm_if ?_ ?_
                                  · refine frm_len (fun L199 => ?_)
                                    refine frm_chk ?_
                                    refine frm_bind (by decide) (qL_result (M.1 302 (x4 + 1).toNatClampNeg) M) (fun r201 M202 => ?_)
                                    refine frm_len (fun L203 => ?_)
                                    refine frm_chk ?_
                                    refine frm_bind (by decide) (qX11_result (M202.1 302 (x4 + 1).toNatClampNeg) M202) (fun r205 M206 => ?_)
                                    refine frm_bind (by decide) (qX11_thrown M206) (fun r207 M208 => ?_)
                                    refine frm_if ?_ ?_
                                    · refine frm_if ?_ ?_
                                      · refine frm_if ?_ ?_
                                        · exact qL_law_1041 ih x4 M208
                                        · exact frm_some
                                      · exact qL_law_1041 ih x4 M208
                                    · exact frm_some
                                  · skip
                                    refine frm_if ?_ ?_
                                    · refine frm_len (fun L210 => ?_)
                                      refine frm_chk ?_
                                      refine frm_bind (by decide) (qL_needed (M.1 302 (x4 + 1).toNatClampNeg) M) (fun r212 M213 => ?_)
                                      refine frm_len (fun L214 => ?_)
                                      refine frm_chk ?_
                                      refine frm_bind (by decide) (qX11_needed (M213.1 302 (x4 + 1).toNatClampNeg) M213) (fun r216 M217 => ?_)
                                      refine frm_bind (by decide) (qX11_thrown M217) (fun r218 M219 => ?_)
                                      refine frm_if ?_ ?_
                                      · refine frm_if ?_ ?_
                                        · refine frm_if ?_ ?_
                                          · exact qL_law_1098 ih x4 0 (M219.2.1 106 (0 : Int32).toNatClampNeg) M219
                                          · exact qL_law_1098 ih x4 1 (M219.2.1 106 (0 : Int32).toNatClampNeg) M219
                                        · exact qL_law_1104 ih x4 M219
                                      · exact frm_some
                                    · skip
                                      exact qL_law_1107 ih x4 M
set_option maxRecDepth 100000 in
theorem qL_law (M : mv_M) : mv_frm (mv_S [10, 11, 12, 13, 14, 15, 16, 17, 18, 19, 20, 21, 22, 23, 25, 26, 27, 28, 29, 30, 31, 32, 33, 34, 35, 36, 37, 38, 39, 40, 41, 42, 43, 44, 45, 46, 47, 48, 49, 50, 51, 52, 53, 54, 55, 56, 57, 58, 59, 60, 61, 63, 64, 65, 66, 67, 68, 69, 70, 71, 72, 73, 74, 75, 76, 77, 78, 79, 80, 81, 82, 83, 84, 85, 86, 87, 88, 89, 90, 91, 92, 93, 94, 95, 96, 97, 98, 99, 100, 101, 102, 103, 104, 105, 106] [(0, 7), (0, 8), (1, 0), (1, 1), (2, 1), (2, 2), (3, 2), (3, 3), (3, 4), (4, 2), (4, 3), (4, 5), (5, 0), (5, 1), (5, 2), (6, 0), (7, 1), (7, 2), (7, 3), (7, 4), (7, 5), (7, 6), (7, 7), (7, 8), (7, 9), (7, 10), (8, 0), (8, 1), (9, 0), (9, 8), (24, 0), (24, 8), (62, 0), (62, 2), (62, 3), (62, 4), (62, 5), (62, 6), (62, 7), (62, 8), (62, 9), (62, 10), (62, 27), (62, 28), (62, 29), (62, 30), (62, 32), (62, 33), (62, 36), (62, 38), (62, 40), (62, 41), (62, 44), (62, 45), (62, 46), (62, 47), (62, 55), (62, 67), (62, 68), (62, 69), (62, 70), (62, 71), (62, 72), (62, 73), (62, 74), (62, 75), (62, 76), (62, 77), (62, 78), (62, 79), (62, 80), (62, 82)]) (fL_law M) M := by
  unfold fL_law
  exact qL_law_23 520 0 M
