/-! rounds and check: their loops leave what is thrown alone (the rows of part 56, with a smaller set) -/
set_option maxRecDepth 100000 in
theorem yX11_rounds_125 (x1 : Int32) (x3 : Int32) (x4 : Int32) (s0 : Int32) (M : mv_M) : mv_frm (mv_S [81, 82, 85, 87, 88, 89, 90, 91] [(62, 33), (62, 36)]) (fX11_rounds_125 x1 x3 x4 s0 M) M := by
  unfold fX11_rounds_125
  refine frm_let (fun v14 => ?_)
  exact frm_some
set_option maxRecDepth 100000 in
theorem yX11_rounds_120 (x1 : Int32) (x3 : Int32) (x4 : Int32) (M : mv_M) : mv_frm (mv_S [81, 82, 85, 87, 88, 89, 90, 91] [(62, 33), (62, 36)]) (fX11_rounds_120 x1 x3 x4 M) M := by
  unfold fX11_rounds_120
  exact yX11_rounds_125 x1 x3 x4 1 M
set_option maxRecDepth 100000 in
theorem yX11_rounds_80 (x1 : Int32) (x2 : Int32) (x3 : Int32) (x4 : Int32) (M : mv_M) : mv_frm (mv_S [81, 82, 85, 87, 88, 89, 90, 91] [(62, 33), (62, 36)]) (fX11_rounds_80 x1 x2 x3 x4 M) M := by
  unfold fX11_rounds_80
  refine frm_loop ?_ _ M
  rintro ⟨x1, x2, x3, x4⟩ M
  try dsimp only
  unfold gX11_rounds_80
  refine frm_chk ?_
  refine frm_bind (by decide) (qX11_demands (M.1 65 ((12 * (M.1 62 47)) + x3).toNatClampNeg) M) (fun r9 M10 => ?_)
  refine frm_if ?_ ?_
  · refine frm_let (fun v11 => ?_)
    exact frm_some
  · refine frm_bind (by decide) (qX11_renewed x3 x4 M10) (fun r12 M13 => ?_)
    refine frm_if ?_ ?_
    · refine frm_if ?_ ?_
      · exact yX11_rounds_125 x1 x3 x4 0 M13
      · exact yX11_rounds_120 x1 x3 x4 M13
    · exact yX11_rounds_120 x1 x3 x4 M13
set_option maxRecDepth 100000 in
theorem yX11_rounds_64 (x1 : Int32) (x2 : Int32) (x3 : Int32) (M : mv_M) : mv_frm (mv_S [81, 82, 85, 87, 88, 89, 90, 91] [(62, 33), (62, 36)]) (fX11_rounds_64 x1 x2 x3 M) M := by
  unfold fX11_rounds_64
  refine frm_loop ?_ _ M
  rintro ⟨x1, x2, x3⟩ M
  try dsimp only
  unfold gX11_rounds_64
  refine frm_chk ?_
  refine frm_if ?_ ?_
  · refine frm_let (fun v7 => ?_)
    exact frm_some
  · exact yX11_rounds_80 x1 x2 x3 1 M
set_option maxRecDepth 100000 in
theorem yX11_rounds_56 (x1 : Int32) (x2 : Int32) (M : mv_M) : mv_frm (mv_S [81, 82, 85, 87, 88, 89, 90, 91] [(62, 33), (62, 36)]) (fX11_rounds_56 x1 x2 M) M := by
  unfold fX11_rounds_56
  refine frm_loop ?_ _ M
  rintro ⟨x1, x2⟩ M
  try dsimp only
  unfold gX11_rounds_56
  refine frm_if ?_ ?_
  · exact frm_some
  · exact yX11_rounds_64 x1 0 0 M
set_option maxRecDepth 100000 in
theorem yX11_rounds_32 (x1 : Int32) (M : mv_M) : mv_frm (mv_S [81, 82, 85, 87, 88, 89, 90, 91] [(62, 33), (62, 36)]) (fX11_rounds_32 x1 M) M := by
  unfold fX11_rounds_32
  refine frm_loop ?_ _ M
  intro x1 M
  try dsimp only
  unfold gX11_rounds_32
  refine frm_if ?_ ?_
  · exact frm_inr (yX11_rounds_56 0 1 M)
  · refine frm_chk ?_
    refine frm_letM (sm_si (mv_Sc (by decide))) (fun M4 => ?_)
    refine frm_let (fun v5 => ?_)
    exact frm_some
set_option maxRecDepth 100000 in
theorem yX11_check_42 (x1 : Int32) (x2 : Int32) (M : mv_M) : mv_frm (mv_S [81, 82, 85, 87, 88, 89] [(62, 33), (62, 36)]) (fX11_check_42 x1 x2 M) M := by
  unfold fX11_check_42
  refine frm_loop ?_ _ M
  rintro ⟨x1, x2⟩ M
  try dsimp only
  unfold gX11_check_42
  refine frm_chk ?_
  refine frm_bind (by decide) (qX11_demands (M.1 65 ((12 * (M.1 62 47)) + x1).toNatClampNeg) M) (fun r4 M5 => ?_)
  refine frm_if ?_ ?_
  · refine frm_let (fun v6 => ?_)
    exact frm_some
  · refine frm_bind (by decide) (qX11_tellsTooMuch x1 x2 M5) (fun r7 M8 => ?_)
    refine frm_if ?_ ?_
    · refine frm_let (fun v9 => ?_)
      exact frm_some
    · exact frm_some
set_option maxRecDepth 100000 in
theorem yX11_check_27 (x1 : Int32) (M : mv_M) : mv_frm (mv_S [81, 82, 85, 87, 88, 89] [(62, 33), (62, 36)]) (fX11_check_27 x1 M) M := by
  unfold fX11_check_27
  refine frm_loop ?_ _ M
  intro x1 M
  try dsimp only
  unfold gX11_check_27
  refine frm_chk ?_
  refine frm_if ?_ ?_
  · exact frm_some
  · exact yX11_check_42 x1 1 M
