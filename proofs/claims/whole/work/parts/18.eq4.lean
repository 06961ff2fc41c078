/-! PeacockDeskModel.daysGo(I)V -/
set_option maxRecDepth 20000 in
theorem m_Mod_daysGo_eq (x1 : Int) (M : pz_M) : m_Mod_daysGo x1 M = bM (pz_wr M 100 38 0) fun M1 => bM (pz_wr M1 100 39 0) fun M2 => m_Mod_daysGo_12 x1 0 M2 := by
  show pzr 12 193 (0, [pzR 100, pzI x1, pzN], [], M) = _
  refine (pz_goes tq_193 2 (σ' := (2, [pzR 100, pzI x1, pzN], [pzI 0, pzR 100], M)) rfl).trans ?_
  refine (e_putI rfl tq_193 rfl).trans ?_
  refine e_bM (f := fun M1 => pzr 12 193 (5, [pzR 100, pzI x1, pzN], [], M1)) (fun M1 => ?_)
  refine (pz_goes tq_193 2 (σ' := (7, [pzR 100, pzI x1, pzN], [pzI 0, pzR 100], M1)) rfl).trans ?_
  refine (e_putI rfl tq_193 rfl).trans ?_
  refine e_bM (f := fun M2 => pzr 12 193 (10, [pzR 100, pzI x1, pzN], [], M2)) (fun M2 => ?_)
  refine (pz_goes tq_193 2 (σ' := (12, [pzR 100, pzI x1, pzI 0], [], M2)) rfl).trans ?_
  rfl
set_option maxRecDepth 20000 in
theorem m_Mod_daysGo_12_eq (x1 : Int) (x2 : Int) (M : pz_M) : m_Mod_daysGo_12 x1 x2 M = if x2 < x1 then (if (M 101 81) < (9999 : Int) then (bV (m_Mod_dayGoes M) fun M1 => m_Mod_daysGo_12 x1 (ia x2 (1)) M1) else (some (none, M))) else (some (none, M)) := by
  show pzr 12 193 (12, [pzR 100, pzI x1, pzI x2], [], M) = _
  refine (pz_goes tq_193 2 (σ' := (14, [pzR 100, pzI x1, pzI x2], [pzI x1, pzI x2], M)) rfl).trans ?_
  refine (e_icmp_ge tq_193 rfl).trans (e_ite ?_ ?_)
  · refine (pz_goes tq_193 3 (σ' := (23, [pzR 100, pzI x1, pzI x2], [pzI 81, pzR 101], M)) rfl).trans ?_
    refine ((e_iald (n := 83) rfl rfl tq_193 rfl).trans (grd_pos (by decide))).trans ?_
    show pzr 12 193 (24, [pzR 100, pzI x1, pzI x2], [pzI (M 101 81)], M) = _
    refine (pz_goes tq_193 1 (σ' := (27, [pzR 100, pzI x1, pzI x2], [pzI 9999, pzI (M 101 81)], M)) rfl).trans ?_
    refine (e_icmp_ge tq_193 rfl).trans (e_ite ?_ ?_)
    · refine (pz_goes tq_193 1 (σ' := (31, [pzR 100, pzI x1, pzI x2], [pzR 100], M)) rfl).trans ?_
      refine (e_callV (as := [pzR 100, pzN]) (rest := []) (d' := 11) tq_192 rfl rfl rfl rfl rfl tq_193 rfl).trans (e_bV rfl fun M1 => ?_)
      refine (pz_goes tq_193 2 (σ' := (12, [pzR 100, pzI x1, pzI (ia x2 (1))], [], M1)) rfl).trans ?_
      rfl
    · exact e_ret tq_193 rfl
  · exact e_ret tq_193 rfl
/-! PeacockDeskModel.days(I)I -/
set_option maxRecDepth 20000 in
theorem m_Mod_days_eq (x1 : Int) (M : pz_M) : m_Mod_days x1 M = bI (m_Mod_in x1 1 100 M) fun r2 M1 => if r2 = 0 then some (some (pzI (-1)), M1) else (bV (m_Mod_daysGo x1 M1) fun M3 => some (some (pzI (M3 100 38)), M3)) := by
  show pzr 13 194 (0, [pzR 100, pzI x1], [], M) = _
  refine (pz_goes tq_194 3 (σ' := (4, [pzR 100, pzI x1], [pzI 100, pzI 1, pzI x1], M)) rfl).trans ?_
  refine (e_callI (as := [pzI x1, pzI 1, pzI 100]) (rest := []) (d' := 3) tq_138 rfl rfl rfl rfl rfl tq_194 rfl).trans (e_bI rfl fun r2 M1 => ?_)
  refine (e_if_ne tq_194 rfl).trans (e_ite ?_ ?_)
  · refine (pz_goes tq_194 1 (σ' := (11, [pzR 100, pzI x1], [pzI (-1)], M1)) rfl).trans ?_
    exact e_iret tq_194 rfl
  · refine (pz_goes tq_194 2 (σ' := (14, [pzR 100, pzI x1], [pzI x1, pzR 100], M1)) rfl).trans ?_
    refine (e_callV (as := [pzR 100, pzI x1, pzN]) (rest := []) (d' := 12) tq_193 rfl rfl rfl rfl rfl tq_194 rfl).trans (e_bV rfl fun M3 => ?_)
    refine (pz_goes tq_194 2 (σ' := (21, [pzR 100, pzI x1], [pzI (M3 100 38)], M3)) rfl).trans ?_
    exact e_iret tq_194 rfl
/-! PeacockDeskModel.tried(II)I -/
set_option maxRecDepth 20000 in
theorem m_Mod_tried_eq (x1 : Int) (x2 : Int) (M : pz_M) : m_Mod_tried x1 x2 M = bI (m_Mod_in x1 1 100 M) fun r2 M1 => if r2 = 0 then some (some (pzI (-1)), M1) else (bI (m_Mod_in x2 0 3 M1) fun r4 M3 => if r4 = 0 then (bI (m_Mod_in (isb x2 10) 0 8 M3) fun r6 M5 => if r6 = 0 then (bI (m_Mod_isCase (isb x2 30) M5) fun r8 M7 => if r8 = 0 then some (some (pzI (-1)), M7) else (m_Mod_tried_45 x1 x2 pzN M7)) else (m_Mod_tried_45 x1 x2 pzN M5)) else (m_Mod_tried_45 x1 x2 pzN M3)) := by
  show pzr 13 195 (0, [pzR 100, pzI x1, pzI x2, pzN], [], M) = _
  refine (pz_goes tq_195 3 (σ' := (4, [pzR 100, pzI x1, pzI x2, pzN], [pzI 100, pzI 1, pzI x1], M)) rfl).trans ?_
  refine (e_callI (as := [pzI x1, pzI 1, pzI 100]) (rest := []) (d' := 3) tq_138 rfl rfl rfl rfl rfl tq_195 rfl).trans (e_bI rfl fun r2 M1 => ?_)
  refine (e_if_eq tq_195 rfl).trans (e_ite ?_ ?_)
  · refine (pz_goes tq_195 1 (σ' := (44, [pzR 100, pzI x1, pzI x2, pzN], [pzI (-1)], M1)) rfl).trans ?_
    exact e_iret tq_195 rfl
  · refine (pz_goes tq_195 3 (σ' := (13, [pzR 100, pzI x1, pzI x2, pzN], [pzI 3, pzI 0, pzI x2], M1)) rfl).trans ?_
    refine (e_callI (as := [pzI x2, pzI 0, pzI 3]) (rest := []) (d' := 3) tq_138 rfl rfl rfl rfl rfl tq_195 rfl).trans (e_bI rfl fun r4 M3 => ?_)
    refine (e_if_ne tq_195 rfl).trans (e_ite ?_ ?_)
    · refine (pz_goes tq_195 5 (σ' := (26, [pzR 100, pzI x1, pzI x2, pzN], [pzI 8, pzI 0, pzI (isb x2 10)], M3)) rfl).trans ?_
      refine (e_callI (as := [pzI (isb x2 10), pzI 0, pzI 8]) (rest := []) (d' := 3) tq_138 rfl rfl rfl rfl rfl tq_195 rfl).trans (e_bI rfl fun r6 M5 => ?_)
      refine (e_if_ne tq_195 rfl).trans (e_ite ?_ ?_)
      · refine (pz_goes tq_195 4 (σ' := (37, [pzR 100, pzI x1, pzI x2, pzN], [pzI (isb x2 30), pzR 100], M5)) rfl).trans ?_
        refine (e_callI (as := [pzR 100, pzI (isb x2 30)]) (rest := []) (d' := 4) tq_145 rfl rfl rfl rfl rfl tq_195 rfl).trans (e_bI rfl fun r8 M7 => ?_)
        refine (e_if_ne tq_195 rfl).trans (e_ite ?_ ?_)
        · refine (pz_goes tq_195 1 (σ' := (44, [pzR 100, pzI x1, pzI x2, pzN], [pzI (-1)], M7)) rfl).trans ?_
          exact e_iret tq_195 rfl
        · rfl
      · rfl
    · rfl
set_option maxRecDepth 20000 in
theorem m_Mod_tried_45_eq (x1 : Int) (x2 : Int) (w3 : pz_V) (M : pz_M) : m_Mod_tried_45 x1 x2 w3 M = bV (m_Mod_copies 101 102 M) fun M1 => bV (m_Mod_daysGo x1 M1) fun M2 => if x2 = 0 then (m_Mod_tried_156 (pzI x1) (pzI x2) (M2 100 38) M2) else (if x2 = 1 then (m_Mod_tried_156 (pzI x1) (pzI x2) (M2 100 39) M2) else (if x2 = 2 then (bI (m_Mod_inState 0 M2) fun r4 M3 => m_Mod_tried_156 (pzI x1) (pzI x2) r4 M3) else (if x2 = 3 then (bI (m_Mod_inState 2 M2) fun r6 M5 => m_Mod_tried_156 (pzI x1) (pzI x2) r6 M5) else (if x2 < (30 : Int) then (bI (m_Mod_casesOf (isb x2 10) M2) fun r8 M7 => m_Mod_tried_155 (pzI x1) (pzI x2) w3 r8 M7) else (grd (0 ≤ (isb (ia 48 x2) 30) ∧ (isb (ia 48 x2) 30) < 83) (m_Mod_tried_155 (pzI x1) (pzI x2) w3 (M2 101 (((isb (ia 48 x2) 30)).toNat)) M2)))))) := by
  show pzr 13 195 (45, [pzR 100, pzI x1, pzI x2, w3], [], M) = _
  refine (pz_goes tq_195 4 (σ' := (53, [pzR 100, pzI x1, pzI x2, w3], [pzR 102, pzR 101], M)) rfl).trans ?_
  refine (e_callV (as := [pzR 101, pzR 102, pzN]) (rest := []) (d' := 3) tq_144 rfl rfl rfl rfl rfl tq_195 rfl).trans (e_bV rfl fun M1 => ?_)
  refine (pz_goes tq_195 2 (σ' := (58, [pzR 100, pzI x1, pzI x2, w3], [pzI x1, pzR 100], M1)) rfl).trans ?_
  refine (e_callV (as := [pzR 100, pzI x1, pzN]) (rest := []) (d' := 12) tq_193 rfl rfl rfl rfl rfl tq_195 rfl).trans (e_bV rfl fun M2 => ?_)
  refine (pz_goes tq_195 1 (σ' := (62, [pzR 100, pzI x1, pzI x2, w3], [pzI x2], M2)) rfl).trans ?_
  refine (e_sw tq_195 rfl).trans ?_
  refine e_sel.trans (e_ite ?_ ?_)
  · refine (pz_goes tq_195 4 (σ' := (156, [pzR 100, pzI x1, pzI x2, pzI (M2 100 38)], [], M2)) rfl).trans ?_
    rfl
  refine e_sel.trans (e_ite ?_ ?_)
  · refine (pz_goes tq_195 4 (σ' := (156, [pzR 100, pzI x1, pzI x2, pzI (M2 100 39)], [], M2)) rfl).trans ?_
    rfl
  refine e_sel.trans (e_ite ?_ ?_)
  · refine (pz_goes tq_195 2 (σ' := (110, [pzR 100, pzI x1, pzI x2, w3], [pzI 0, pzR 100], M2)) rfl).trans ?_
    refine (e_callI (as := [pzR 100, pzI 0, pzN, pzN]) (rest := []) (d' := 3) tq_149 rfl rfl rfl rfl rfl tq_195 rfl).trans (e_bI rfl fun r4 M3 => ?_)
    refine (pz_goes tq_195 2 (σ' := (156, [pzR 100, pzI x1, pzI x2, pzI r4], [], M3)) rfl).trans ?_
    rfl
  refine e_sel.trans (e_ite ?_ ?_)
  · refine (pz_goes tq_195 2 (σ' := (119, [pzR 100, pzI x1, pzI x2, w3], [pzI 2, pzR 100], M2)) rfl).trans ?_
    refine (e_callI (as := [pzR 100, pzI 2, pzN, pzN]) (rest := []) (d' := 3) tq_149 rfl rfl rfl rfl rfl tq_195 rfl).trans (e_bI rfl fun r6 M5 => ?_)
    refine (pz_goes tq_195 2 (σ' := (156, [pzR 100, pzI x1, pzI x2, pzI r6], [], M5)) rfl).trans ?_
    rfl
  refine (show pzr 13 195 (pz_sel [] 126 x2, [pzR 100, pzI x1, pzI x2, w3], [], M2) = pzr 13 195 (126, [pzR 100, pzI x1, pzI x2, w3], [], M2) from rfl).trans ?_
  refine (pz_goes tq_195 2 (σ' := (129, [pzR 100, pzI x1, pzI x2, w3], [pzI 30, pzI x2], M2)) rfl).trans ?_
  refine (e_icmp_ge tq_195 rfl).trans (e_ite ?_ ?_)
  · refine (pz_goes tq_195 4 (σ' := (137, [pzR 100, pzI x1, pzI x2, w3], [pzI (isb x2 10), pzR 100], M2)) rfl).trans ?_
    refine (e_callI (as := [pzR 100, pzI (isb x2 10), pzN, pzN]) (rest := []) (d' := 6) tq_148 rfl rfl rfl rfl rfl tq_195 rfl).trans (e_bI rfl fun r8 M7 => ?_)
    refine (pz_goes tq_195 1 (σ' := (155, [pzR 100, pzI x1, pzI x2, w3], [pzI r8], M7)) rfl).trans ?_
    rfl
  · refine (pz_goes tq_195 7 (σ' := (154, [pzR 100, pzI x1, pzI x2, w3], [pzI (isb (ia 48 x2) 30), pzR 101], M2)) rfl).trans ?_
    refine (e_iald (n := 83) rfl rfl tq_195 rfl).trans (e_grd ?_)
    rfl
set_option maxRecDepth 20000 in
theorem m_Mod_tried_156_eq (w1 : pz_V) (w2 : pz_V) (x3 : Int) (M : pz_M) : m_Mod_tried_156 w1 w2 x3 M = bV (m_Mod_copies 102 101 M) fun M1 => some (some (pzI x3), M1) := by
  show pzr 13 195 (156, [pzR 100, w1, w2, pzI x3], [], M) = _
  refine (pz_goes tq_195 4 (σ' := (164, [pzR 100, w1, w2, pzI x3], [pzR 101, pzR 102], M)) rfl).trans ?_
  refine (e_callV (as := [pzR 102, pzR 101, pzN]) (rest := []) (d' := 3) tq_144 rfl rfl rfl rfl rfl tq_195 rfl).trans (e_bV rfl fun M1 => ?_)
  refine (pz_goes tq_195 1 (σ' := (168, [pzR 100, w1, w2, pzI x3], [pzI x3], M1)) rfl).trans ?_
  exact e_iret tq_195 rfl
set_option maxRecDepth 20000 in
theorem m_Mod_tried_155_eq (w1 : pz_V) (w2 : pz_V) (w3 : pz_V) (s0 : Int) (M : pz_M) : m_Mod_tried_155 w1 w2 w3 s0 M = m_Mod_tried_156 w1 w2 s0 M := by
  show pzr 13 195 (155, [pzR 100, w1, w2, w3], [pzI s0], M) = _
  refine (pz_goes tq_195 1 (σ' := (156, [pzR 100, w1, w2, pzI s0], [], M)) rfl).trans ?_
  rfl
/-! PeacockDeskModel.caseIs(II)I -/
set_option maxRecDepth 20000 in
theorem m_Mod_caseIs_eq (x1 : Int) (x2 : Int) (M : pz_M) : m_Mod_caseIs x1 x2 M = bI (m_Mod_isCase x1 M) fun r2 M1 => if r2 = 0 then some (some (pzI (-1)), M1) else (if x2 = 0 then (grd (0 ≤ x1 ∧ x1 < 24) (some (some (pzI (M1 104 ((x1).toNat))), M1))) else (if x2 = 1 then (grd (0 ≤ x1 ∧ x1 < 24) (some (some (pzI (M1 105 ((x1).toNat))), M1))) else (if x2 = 2 then (grd (0 ≤ x1 ∧ x1 < 24) (some (some (pzI (M1 106 ((x1).toNat))), M1))) else (if x2 = 3 then (grd (0 ≤ (ia 0 x1) ∧ (ia 0 x1) < 83) (some (some (pzI (M1 101 (((ia 0 x1)).toNat))), M1))) else (if x2 = 4 then (grd (0 ≤ (ia 0 x1) ∧ (ia 0 x1) < 83) (if (M1 101 (((ia 0 x1)).toNat)) = (1 : Int) then (grd (0 ≤ (ia 24 x1) ∧ (ia 24 x1) < 83) (some (some (pzI (M1 101 (((ia 24 x1)).toNat))), M1))) else (some (some (pzI (-2)), M1)))) else (if x2 = 5 then (grd (0 ≤ (ia 48 x1) ∧ (ia 48 x1) < 83) (some (some (pzI (M1 101 (((ia 48 x1)).toNat))), M1))) else (some (some (pzI (-1)), M1)))))))) := by
  show pzr 5 196 (0, [pzR 100, pzI x1, pzI x2], [], M) = _
  refine (pz_goes tq_196 2 (σ' := (2, [pzR 100, pzI x1, pzI x2], [pzI x1, pzR 100], M)) rfl).trans ?_
  refine (e_callI (as := [pzR 100, pzI x1]) (rest := []) (d' := 4) tq_145 rfl rfl rfl rfl rfl tq_196 rfl).trans (e_bI rfl fun r2 M1 => ?_)
  refine (e_if_ne tq_196 rfl).trans (e_ite ?_ ?_)
  · refine (pz_goes tq_196 1 (σ' := (9, [pzR 100, pzI x1, pzI x2], [pzI (-1)], M1)) rfl).trans ?_
    exact e_iret tq_196 rfl
  · refine (pz_goes tq_196 1 (σ' := (11, [pzR 100, pzI x1, pzI x2], [pzI x2], M1)) rfl).trans ?_
    refine (e_sw tq_196 rfl).trans ?_
    refine e_sel.trans (e_ite ?_ ?_)
    · refine (pz_goes tq_196 3 (σ' := (53, [pzR 100, pzI x1, pzI x2], [pzI x1, pzR 104], M1)) rfl).trans ?_
      refine (e_iald (n := 24) rfl rfl tq_196 rfl).trans (e_grd ?_)
      exact e_iret tq_196 rfl
    refine e_sel.trans (e_ite ?_ ?_)
    · refine (pz_goes tq_196 3 (σ' := (60, [pzR 100, pzI x1, pzI x2], [pzI x1, pzR 105], M1)) rfl).trans ?_
      refine (e_iald (n := 24) rfl rfl tq_196 rfl).trans (e_grd ?_)
      exact e_iret tq_196 rfl
    refine e_sel.trans (e_ite ?_ ?_)
    · refine (pz_goes tq_196 3 (σ' := (67, [pzR 100, pzI x1, pzI x2], [pzI x1, pzR 106], M1)) rfl).trans ?_
      refine (e_iald (n := 24) rfl rfl tq_196 rfl).trans (e_grd ?_)
      exact e_iret tq_196 rfl
    refine e_sel.trans (e_ite ?_ ?_)
    · refine (pz_goes tq_196 5 (σ' := (76, [pzR 100, pzI x1, pzI x2], [pzI (ia 0 x1), pzR 101], M1)) rfl).trans ?_
      refine (e_iald (n := 83) rfl rfl tq_196 rfl).trans (e_grd ?_)
      exact e_iret tq_196 rfl
    refine e_sel.trans (e_ite ?_ ?_)
    · refine (pz_goes tq_196 5 (σ' := (85, [pzR 100, pzI x1, pzI x2], [pzI (ia 0 x1), pzR 101], M1)) rfl).trans ?_
      refine (e_iald (n := 83) rfl rfl tq_196 rfl).trans (e_grd ?_)
      refine (pz_goes tq_196 1 (σ' := (87, [pzR 100, pzI x1, pzI x2], [pzI 1, pzI (M1 101 (((ia 0 x1)).toNat))], M1)) rfl).trans ?_
      refine (e_icmp_ne tq_196 rfl).trans (e_ite ?_ ?_)
      · refine (pz_goes tq_196 5 (σ' := (98, [pzR 100, pzI x1, pzI x2], [pzI (ia 24 x1), pzR 101], M1)) rfl).trans ?_
        refine (e_iald (n := 83) rfl rfl tq_196 rfl).trans (e_grd ?_)
        refine (pz_goes tq_196 1 (σ' := (104, [pzR 100, pzI x1, pzI x2], [pzI (M1 101 (((ia 24 x1)).toNat))], M1)) rfl).trans ?_
        exact e_iret tq_196 rfl
      · refine (pz_goes tq_196 1 (σ' := (104, [pzR 100, pzI x1, pzI x2], [pzI (-2)], M1)) rfl).trans ?_
        exact e_iret tq_196 rfl
    refine e_sel.trans (e_ite ?_ ?_)
    · refine (pz_goes tq_196 5 (σ' := (113, [pzR 100, pzI x1, pzI x2], [pzI (ia 48 x1), pzR 101], M1)) rfl).trans ?_
      refine (e_iald (n := 83) rfl rfl tq_196 rfl).trans (e_grd ?_)
      exact e_iret tq_196 rfl
    refine (show pzr 5 196 (pz_sel [] 115 x2, [pzR 100, pzI x1, pzI x2], [], M1) = pzr 5 196 (115, [pzR 100, pzI x1, pzI x2], [], M1) from rfl).trans ?_
    refine (pz_goes tq_196 1 (σ' := (116, [pzR 100, pzI x1, pzI x2], [pzI (-1)], M1)) rfl).trans ?_
    exact e_iret tq_196 rfl
/-! PeacockDeskModel.weightsOf(I)I -/
set_option maxRecDepth 20000 in
theorem m_Mod_weightsOf_eq (x1 : Int) (M : pz_M) : m_Mod_weightsOf x1 M = m_Mod_weightsOf_4 x1 0 0 M := by
  show pzr 4 197 (0, [pzR 100, pzI x1, pzN, pzN], [], M) = _
  refine (pz_goes tq_197 4 (σ' := (4, [pzR 100, pzI x1, pzI 0, pzI 0], [], M)) rfl).trans ?_
  rfl
set_option maxRecDepth 20000 in
theorem m_Mod_weightsOf_4_eq (x1 : Int) (x2 : Int) (x3 : Int) (M : pz_M) : m_Mod_weightsOf_4 x1 x2 x3 M = if x3 < (M 100 6) then (bI (m_Mod_has x1 x3 M) fun r2 M1 => if r2 = 0 then (m_Mod_weightsOf_4 x1 x2 (ia x3 (1)) M1) else (grd (0 ≤ x3 ∧ x3 < 24) (m_Mod_weightsOf_4 x1 (ia x2 (M1 105 ((x3).toNat))) (ia x3 (1)) M1))) else (some (some (pzI x2), M)) := by
  show pzr 4 197 (4, [pzR 100, pzI x1, pzI x2, pzI x3], [], M) = _
  refine (pz_goes tq_197 3 (σ' := (9, [pzR 100, pzI x1, pzI x2, pzI x3], [pzI (M 100 6), pzI x3], M)) rfl).trans ?_
  refine (e_icmp_ge tq_197 rfl).trans (e_ite ?_ ?_)
  · refine (pz_goes tq_197 2 (σ' := (14, [pzR 100, pzI x1, pzI x2, pzI x3], [pzI x3, pzI x1], M)) rfl).trans ?_
    refine (e_callI (as := [pzI x1, pzI x3]) (rest := []) (d' := 3) tq_142 rfl rfl rfl rfl rfl tq_197 rfl).trans (e_bI rfl fun r2 M1 => ?_)
    refine (e_if_eq tq_197 rfl).trans (e_ite ?_ ?_)
    · refine (pz_goes tq_197 2 (σ' := (4, [pzR 100, pzI x1, pzI x2, pzI (ia x3 (1))], [], M1)) rfl).trans ?_
      rfl
    · refine (pz_goes tq_197 4 (σ' := (26, [pzR 100, pzI x1, pzI x2, pzI x3], [pzI x3, pzR 105, pzI x2], M1)) rfl).trans ?_
      refine (e_iald (n := 24) rfl rfl tq_197 rfl).trans (e_grd ?_)
      refine (pz_goes tq_197 4 (σ' := (4, [pzR 100, pzI x1, pzI (ia x2 (M1 105 ((x3).toNat))), pzI (ia x3 (1))], [], M1)) rfl).trans ?_
      rfl
  · refine (pz_goes tq_197 1 (σ' := (36, [pzR 100, pzI x1, pzI x2, pzI x3], [pzI x2], M)) rfl).trans ?_
    exact e_iret tq_197 rfl
/-! PeacockDeskModel.peacockIs(II)I -/
set_option maxRecDepth 20000 in
theorem m_Mod_peacockIs_eq (x1 : Int) (x2 : Int) (M : pz_M) : m_Mod_peacockIs x1 x2 M = bI (m_Mod_in x1 0 8 M) fun r2 M1 => if r2 = 0 then some (some (pzI (-1)), M1) else (if x2 = 0 then (bI (m_Mod_casesOf x1 M1) fun r4 M3 => some (some (pzI r4), M3)) else (if x2 = 1 then (grd (0 ≤ (ia 72 x1) ∧ (ia 72 x1) < 83) (some (some (pzI (M1 101 (((ia 72 x1)).toNat))), M1))) else (if x2 = 2 then (bI (m_Mod_casesOf x1 M1) fun r6 M5 => bI (m_Mod_weightsOf r6 M5) fun r8 M7 => some (some (pzI r8), M7)) else (some (some (pzI (-1)), M1))))) := by
  show pzr 7 198 (0, [pzR 100, pzI x1, pzI x2], [], M) = _
  refine (pz_goes tq_198 3 (σ' := (4, [pzR 100, pzI x1, pzI x2], [pzI 8, pzI 0, pzI x1], M)) rfl).trans ?_
  refine (e_callI (as := [pzI x1, pzI 0, pzI 8]) (rest := []) (d' := 3) tq_138 rfl rfl rfl rfl rfl tq_198 rfl).trans (e_bI rfl fun r2 M1 => ?_)
  refine (e_if_ne tq_198 rfl).trans (e_ite ?_ ?_)
  · refine (pz_goes tq_198 1 (σ' := (11, [pzR 100, pzI x1, pzI x2], [pzI (-1)], M1)) rfl).trans ?_
    exact e_iret tq_198 rfl
  · refine (pz_goes tq_198 1 (σ' := (13, [pzR 100, pzI x1, pzI x2], [pzI x2], M1)) rfl).trans ?_
    refine (e_sw tq_198 rfl).trans ?_
    refine e_sel.trans (e_ite ?_ ?_)
    · refine (pz_goes tq_198 2 (σ' := (42, [pzR 100, pzI x1, pzI x2], [pzI x1, pzR 100], M1)) rfl).trans ?_
      refine (e_callI (as := [pzR 100, pzI x1, pzN, pzN]) (rest := []) (d' := 6) tq_148 rfl rfl rfl rfl rfl tq_198 rfl).trans (e_bI rfl fun r4 M3 => ?_)
      exact e_iret tq_198 rfl
    refine e_sel.trans (e_ite ?_ ?_)
    · refine (pz_goes tq_198 5 (σ' := (54, [pzR 100, pzI x1, pzI x2], [pzI (ia 72 x1), pzR 101], M1)) rfl).trans ?_
      refine (e_iald (n := 83) rfl rfl tq_198 rfl).trans (e_grd ?_)
      exact e_iret tq_198 rfl
    refine e_sel.trans (e_ite ?_ ?_)
    · refine (pz_goes tq_198 3 (σ' := (59, [pzR 100, pzI x1, pzI x2], [pzI x1, pzR 100, pzR 100], M1)) rfl).trans ?_
      refine (e_callI (as := [pzR 100, pzI x1, pzN, pzN]) (rest := [pzR 100]) (d' := 6) tq_148 rfl rfl rfl rfl rfl tq_198 rfl).trans (e_bI rfl fun r6 M5 => ?_)
      refine (e_callI (as := [pzR 100, pzI r6, pzN, pzN]) (rest := []) (d' := 4) tq_197 rfl rfl rfl rfl rfl tq_198 rfl).trans (e_bI rfl fun r8 M7 => ?_)
      exact e_iret tq_198 rfl
    refine (show pzr 7 198 (pz_sel [] 66 x2, [pzR 100, pzI x1, pzI x2], [], M1) = pzr 7 198 (66, [pzR 100, pzI x1, pzI x2], [], M1) from rfl).trans ?_
    refine (pz_goes tq_198 1 (σ' := (67, [pzR 100, pzI x1, pzI x2], [pzI (-1)], M1)) rfl).trans ?_
    exact e_iret tq_198 rfl
/-! PeacockDeskModel.byWhen(II)I -/
set_option maxRecDepth 20000 in
theorem m_Mod_byWhen_eq (x1 : Int) (x2 : Int) (M : pz_M) : m_Mod_byWhen x1 x2 M = bI (m_Mod_isCase x1 M) fun r2 M1 => if r2 = 0 then some (some (pzI (-1)), M1) else (bI (m_Mod_in x2 1 100 M1) fun r4 M3 => if r4 = 0 then some (some (pzI (-1)), M3) else (bV (m_Mod_copies 101 102 M3) fun M5 => m_Mod_byWhen_33 x1 x2 0 pzN M5)) := by
  show pzr 12 199 (0, [pzR 100, pzI x1, pzI x2, pzN, pzN], [], M) = _
  refine (pz_goes tq_199 2 (σ' := (2, [pzR 100, pzI x1, pzI x2, pzN, pzN], [pzI x1, pzR 100], M)) rfl).trans ?_
  refine (e_callI (as := [pzR 100, pzI x1]) (rest := []) (d' := 4) tq_145 rfl rfl rfl rfl rfl tq_199 rfl).trans (e_bI rfl fun r2 M1 => ?_)
  refine (e_if_eq tq_199 rfl).trans (e_ite ?_ ?_)
  · refine (pz_goes tq_199 1 (σ' := (19, [pzR 100, pzI x1, pzI x2, pzN, pzN], [pzI (-1)], M1)) rfl).trans ?_
    exact e_iret tq_199 rfl
  · refine (pz_goes tq_199 3 (σ' := (12, [pzR 100, pzI x1, pzI x2, pzN, pzN], [pzI 100, pzI 1, pzI x2], M1)) rfl).trans ?_
    refine (e_callI (as := [pzI x2, pzI 1, pzI 100]) (rest := []) (d' := 3) tq_138 rfl rfl rfl rfl rfl tq_199 rfl).trans (e_bI rfl fun r4 M3 => ?_)
    refine (e_if_ne tq_199 rfl).trans (e_ite ?_ ?_)
    · refine (pz_goes tq_199 1 (σ' := (19, [pzR 100, pzI x1, pzI x2, pzN, pzN], [pzI (-1)], M3)) rfl).trans ?_
      exact e_iret tq_199 rfl
    · refine (pz_goes tq_199 4 (σ' := (28, [pzR 100, pzI x1, pzI x2, pzN, pzN], [pzR 102, pzR 101], M3)) rfl).trans ?_
      refine (e_callV (as := [pzR 101, pzR 102, pzN]) (rest := []) (d' := 3) tq_144 rfl rfl rfl rfl rfl tq_199 rfl).trans (e_bV rfl fun M5 => ?_)
      refine (pz_goes tq_199 2 (σ' := (33, [pzR 100, pzI x1, pzI x2, pzI 0, pzN], [], M5)) rfl).trans ?_
      rfl
set_option maxRecDepth 20000 in
theorem m_Mod_byWhen_33_eq (x1 : Int) (x2 : Int) (x3 : Int) (w4 : pz_V) (M : pz_M) : m_Mod_byWhen_33 x1 x2 x3 w4 M = bI (m_Mod_isLeft x1 M) fun r2 M1 => if r2 = 0 then (m_Mod_byWhen_70 x1 (pzI x2) x3 w4 M1) else (if x3 < x2 then (if (M1 101 81) < (9999 : Int) then (bV (m_Mod_dayGoes M1) fun M3 => m_Mod_byWhen_33 x1 x2 (ia x3 1) w4 M3) else (m_Mod_byWhen_70 x1 (pzI x2) x3 w4 M1)) else (m_Mod_byWhen_70 x1 (pzI x2) x3 w4 M1)) := by
  show pzr 12 199 (33, [pzR 100, pzI x1, pzI x2, pzI x3, w4], [], M) = _
  refine (pz_goes tq_199 2 (σ' := (35, [pzR 100, pzI x1, pzI x2, pzI x3, w4], [pzI x1, pzR 100], M)) rfl).trans ?_
  refine (e_callI (as := [pzR 100, pzI x1]) (rest := []) (d' := 5) tq_146 rfl rfl rfl rfl rfl tq_199 rfl).trans (e_bI rfl fun r2 M1 => ?_)
  refine (e_if_eq tq_199 rfl).trans (e_ite ?_ ?_)
  · rfl
  · refine (pz_goes tq_199 2 (σ' := (43, [pzR 100, pzI x1, pzI x2, pzI x3, w4], [pzI x2, pzI x3], M1)) rfl).trans ?_
    refine (e_icmp_ge tq_199 rfl).trans (e_ite ?_ ?_)
    · refine (pz_goes tq_199 3 (σ' := (52, [pzR 100, pzI x1, pzI x2, pzI x3, w4], [pzI 81, pzR 101], M1)) rfl).trans ?_
      refine ((e_iald (n := 83) rfl rfl tq_199 rfl).trans (grd_pos (by decide))).trans ?_
      show pzr 12 199 (53, [pzR 100, pzI x1, pzI x2, pzI x3, w4], [pzI (M1 101 81)], M1) = _
      refine (pz_goes tq_199 1 (σ' := (56, [pzR 100, pzI x1, pzI x2, pzI x3, w4], [pzI 9999, pzI (M1 101 81)], M1)) rfl).trans ?_
      refine (e_icmp_ge tq_199 rfl).trans (e_ite ?_ ?_)
      · refine (pz_goes tq_199 1 (σ' := (60, [pzR 100, pzI x1, pzI x2, pzI x3, w4], [pzR 100], M1)) rfl).trans ?_
        refine (e_callV (as := [pzR 100, pzN]) (rest := []) (d' := 11) tq_192 rfl rfl rfl rfl rfl tq_199 rfl).trans (e_bV rfl fun M3 => ?_)
        refine (pz_goes tq_199 5 (σ' := (33, [pzR 100, pzI x1, pzI x2, pzI (ia x3 1), w4], [], M3)) rfl).trans ?_
        rfl
      · rfl
    · rfl
set_option maxRecDepth 20000 in
theorem m_Mod_byWhen_70_eq (x1 : Int) (w2 : pz_V) (x3 : Int) (w4 : pz_V) (M : pz_M) : m_Mod_byWhen_70 x1 w2 x3 w4 M = bI (m_Mod_isLeft x1 M) fun r2 M1 => bV (m_Mod_copies 102 101 M1) fun M3 => if r2 = 0 then some (some (pzI x3), M3) else (some (some (pzI (-2)), M3)) := by
  show pzr 12 199 (70, [pzR 100, pzI x1, w2, pzI x3, w4], [], M) = _
  refine (pz_goes tq_199 2 (σ' := (72, [pzR 100, pzI x1, w2, pzI x3, w4], [pzI x1, pzR 100], M)) rfl).trans ?_
  refine (e_callI (as := [pzR 100, pzI x1]) (rest := []) (d' := 5) tq_146 rfl rfl rfl rfl rfl tq_199 rfl).trans (e_bI rfl fun r2 M1 => ?_)
  refine (pz_goes tq_199 5 (σ' := (85, [pzR 100, pzI x1, w2, pzI x3, pzI r2], [pzR 101, pzR 102], M1)) rfl).trans ?_
  refine (e_callV (as := [pzR 102, pzR 101, pzN]) (rest := []) (d' := 3) tq_144 rfl rfl rfl rfl rfl tq_199 rfl).trans (e_bV rfl fun M3 => ?_)
  refine (pz_goes tq_199 1 (σ' := (90, [pzR 100, pzI x1, w2, pzI x3, pzI r2], [pzI r2], M3)) rfl).trans ?_
  refine (e_if_eq tq_199 rfl).trans (e_ite ?_ ?_)
  · refine (pz_goes tq_199 1 (σ' := (99, [pzR 100, pzI x1, w2, pzI x3, pzI r2], [pzI x3], M3)) rfl).trans ?_
    exact e_iret tq_199 rfl
  · refine (pz_goes tq_199 2 (σ' := (99, [pzR 100, pzI x1, w2, pzI x3, pzI r2], [pzI (-2)], M3)) rfl).trans ?_
    exact e_iret tq_199 rfl
/-! PeacockDeskModel.anyLeft()Z -/
set_option maxRecDepth 20000 in
theorem m_Mod_anyLeft_eq (M : pz_M) : m_Mod_anyLeft M = m_Mod_anyLeft_2 0 M := by
  show pzr 6 200 (0, [pzR 100, pzN], [], M) = _
  refine (pz_goes tq_200 2 (σ' := (2, [pzR 100, pzI 0], [], M)) rfl).trans ?_
  rfl
set_option maxRecDepth 20000 in
theorem m_Mod_anyLeft_2_eq (x1 : Int) (M : pz_M) : m_Mod_anyLeft_2 x1 M = if x1 < (M 100 6) then (bI (m_Mod_isLeft x1 M) fun r2 M1 => if r2 = 0 then (m_Mod_anyLeft_2 (ia x1 (1)) M1) else (some (some (pzI 1), M1))) else (some (some (pzI 0), M)) := by
  show pzr 6 200 (2, [pzR 100, pzI x1], [], M) = _
  refine (pz_goes tq_200 3 (σ' := (7, [pzR 100, pzI x1], [pzI (M 100 6), pzI x1], M)) rfl).trans ?_
  refine (e_icmp_ge tq_200 rfl).trans (e_ite ?_ ?_)
  · refine (pz_goes tq_200 2 (σ' := (12, [pzR 100, pzI x1], [pzI x1, pzR 100], M)) rfl).trans ?_
    refine (e_callI (as := [pzR 100, pzI x1]) (rest := []) (d' := 5) tq_146 rfl rfl rfl rfl rfl tq_200 rfl).trans (e_bI rfl fun r2 M1 => ?_)
    refine (e_if_eq tq_200 rfl).trans (e_ite ?_ ?_)
    · refine (pz_goes tq_200 2 (σ' := (2, [pzR 100, pzI (ia x1 (1))], [], M1)) rfl).trans ?_
      rfl
    · refine (pz_goes tq_200 1 (σ' := (19, [pzR 100, pzI x1], [pzI 1], M1)) rfl).trans ?_
      exact (e_zret tq_200 rfl).trans (grd_pos (by decide))
  · refine (pz_goes tq_200 1 (σ' := (27, [pzR 100, pzI x1], [pzI 0], M)) rfl).trans ?_
    exact (e_zret tq_200 rfl).trans (grd_pos (by decide))
/-! PeacockDeskModel.allQuiet(I)I -/
set_option maxRecDepth 20000 in
theorem m_Mod_allQuiet_eq (x1 : Int) (M : pz_M) : m_Mod_allQuiet x1 M = bI (m_Mod_in x1 1 100 M) fun r2 M1 => if r2 = 0 then some (some (pzI (-1)), M1) else (bV (m_Mod_copies 101 102 M1) fun M3 => m_Mod_allQuiet_25 x1 0 pzN M3) := by
  show pzr 12 201 (0, [pzR 100, pzI x1, pzN, pzN], [], M) = _
  refine (pz_goes tq_201 3 (σ' := (4, [pzR 100, pzI x1, pzN, pzN], [pzI 100, pzI 1, pzI x1], M)) rfl).trans ?_
  refine (e_callI (as := [pzI x1, pzI 1, pzI 100]) (rest := []) (d' := 3) tq_138 rfl rfl rfl rfl rfl tq_201 rfl).trans (e_bI rfl fun r2 M1 => ?_)
  refine (e_if_ne tq_201 rfl).trans (e_ite ?_ ?_)
  · refine (pz_goes tq_201 1 (σ' := (11, [pzR 100, pzI x1, pzN, pzN], [pzI (-1)], M1)) rfl).trans ?_
    exact e_iret tq_201 rfl
  · refine (pz_goes tq_201 4 (σ' := (20, [pzR 100, pzI x1, pzN, pzN], [pzR 102, pzR 101], M1)) rfl).trans ?_
    refine (e_callV (as := [pzR 101, pzR 102, pzN]) (rest := []) (d' := 3) tq_144 rfl rfl rfl rfl rfl tq_201 rfl).trans (e_bV rfl fun M3 => ?_)
    refine (pz_goes tq_201 2 (σ' := (25, [pzR 100, pzI x1, pzI 0, pzN], [], M3)) rfl).trans ?_
    rfl
set_option maxRecDepth 20000 in
theorem m_Mod_allQuiet_25_eq (x1 : Int) (x2 : Int) (w3 : pz_V) (M : pz_M) : m_Mod_allQuiet_25 x1 x2 w3 M = bI (m_Mod_anyLeft M) fun r2 M1 => if r2 = 0 then (m_Mod_allQuiet_61 (pzI x1) x2 w3 M1) else (if x2 < x1 then (if (M1 101 81) < (9999 : Int) then (bV (m_Mod_dayGoes M1) fun M3 => m_Mod_allQuiet_25 x1 (ia x2 1) w3 M3) else (m_Mod_allQuiet_61 (pzI x1) x2 w3 M1)) else (m_Mod_allQuiet_61 (pzI x1) x2 w3 M1)) := by
  show pzr 12 201 (25, [pzR 100, pzI x1, pzI x2, w3], [], M) = _
  refine (pz_goes tq_201 1 (σ' := (26, [pzR 100, pzI x1, pzI x2, w3], [pzR 100], M)) rfl).trans ?_
  refine (e_callI (as := [pzR 100, pzN]) (rest := []) (d' := 6) tq_200 rfl rfl rfl rfl rfl tq_201 rfl).trans (e_bI rfl fun r2 M1 => ?_)
  refine (e_if_eq tq_201 rfl).trans (e_ite ?_ ?_)
  · rfl
  · refine (pz_goes tq_201 2 (σ' := (34, [pzR 100, pzI x1, pzI x2, w3], [pzI x1, pzI x2], M1)) rfl).trans ?_
    refine (e_icmp_ge tq_201 rfl).trans (e_ite ?_ ?_)
    · refine (pz_goes tq_201 3 (σ' := (43, [pzR 100, pzI x1, pzI x2, w3], [pzI 81, pzR 101], M1)) rfl).trans ?_
      refine ((e_iald (n := 83) rfl rfl tq_201 rfl).trans (grd_pos (by decide))).trans ?_
      show pzr 12 201 (44, [pzR 100, pzI x1, pzI x2, w3], [pzI (M1 101 81)], M1) = _
      refine (pz_goes tq_201 1 (σ' := (47, [pzR 100, pzI x1, pzI x2, w3], [pzI 9999, pzI (M1 101 81)], M1)) rfl).trans ?_
      refine (e_icmp_ge tq_201 rfl).trans (e_ite ?_ ?_)
      · refine (pz_goes tq_201 1 (σ' := (51, [pzR 100, pzI x1, pzI x2, w3], [pzR 100], M1)) rfl).trans ?_
        refine (e_callV (as := [pzR 100, pzN]) (rest := []) (d' := 11) tq_192 rfl rfl rfl rfl rfl tq_201 rfl).trans (e_bV rfl fun M3 => ?_)
        refine (pz_goes tq_201 5 (σ' := (25, [pzR 100, pzI x1, pzI (ia x2 1), w3], [], M3)) rfl).trans ?_
        rfl
      · rfl
    · rfl
set_option maxRecDepth 20000 in
theorem m_Mod_allQuiet_61_eq (w1 : pz_V) (x2 : Int) (w3 : pz_V) (M : pz_M) : m_Mod_allQuiet_61 w1 x2 w3 M = bI (m_Mod_anyLeft M) fun r2 M1 => bV (m_Mod_copies 102 101 M1) fun M3 => if r2 = 0 then some (some (pzI x2), M3) else (some (some (pzI (-2)), M3)) := by
  show pzr 12 201 (61, [pzR 100, w1, pzI x2, w3], [], M) = _
  refine (pz_goes tq_201 1 (σ' := (62, [pzR 100, w1, pzI x2, w3], [pzR 100], M)) rfl).trans ?_
  refine (e_callI (as := [pzR 100, pzN]) (rest := []) (d' := 6) tq_200 rfl rfl rfl rfl rfl tq_201 rfl).trans (e_bI rfl fun r2 M1 => ?_)
  refine (pz_goes tq_201 5 (σ' := (74, [pzR 100, w1, pzI x2, pzI r2], [pzR 101, pzR 102], M1)) rfl).trans ?_
  refine (e_callV (as := [pzR 102, pzR 101, pzN]) (rest := []) (d' := 3) tq_144 rfl rfl rfl rfl rfl tq_201 rfl).trans (e_bV rfl fun M3 => ?_)
  refine (pz_goes tq_201 1 (σ' := (78, [pzR 100, w1, pzI x2, pzI r2], [pzI r2], M3)) rfl).trans ?_
  refine (e_if_eq tq_201 rfl).trans (e_ite ?_ ?_)
  · refine (pz_goes tq_201 1 (σ' := (87, [pzR 100, w1, pzI x2, pzI r2], [pzI x2], M3)) rfl).trans ?_
    exact e_iret tq_201 rfl
  · refine (pz_goes tq_201 2 (σ' := (87, [pzR 100, w1, pzI x2, pzI r2], [pzI (-2)], M3)) rfl).trans ?_
    exact e_iret tq_201 rfl
/-! PeacockDeskModel.heard(I)I -/
set_option maxRecDepth 20000 in
theorem m_Mod_heard_eq (x1 : Int) (M : pz_M) : m_Mod_heard x1 M = bI (m_Mod_in x1 0 1 M) fun r2 M1 => if r2 = 0 then some (some (pzI (-1)), M1) else (m_Mod_heard_15 x1 0 1 M1) := by
  show pzr 4 202 (0, [pzR 100, pzI x1, pzN, pzN], [], M) = _
  refine (pz_goes tq_202 3 (σ' := (3, [pzR 100, pzI x1, pzN, pzN], [pzI 1, pzI 0, pzI x1], M)) rfl).trans ?_
  refine (e_callI (as := [pzI x1, pzI 0, pzI 1]) (rest := []) (d' := 3) tq_138 rfl rfl rfl rfl rfl tq_202 rfl).trans (e_bI rfl fun r2 M1 => ?_)
  refine (e_if_ne tq_202 rfl).trans (e_ite ?_ ?_)
  · refine (pz_goes tq_202 1 (σ' := (10, [pzR 100, pzI x1, pzN, pzN], [pzI (-1)], M1)) rfl).trans ?_
    exact e_iret tq_202 rfl
  · refine (pz_goes tq_202 4 (σ' := (15, [pzR 100, pzI x1, pzI 0, pzI 1], [], M1)) rfl).trans ?_
    rfl
set_option maxRecDepth 20000 in
theorem m_Mod_heard_15_eq (x1 : Int) (x2 : Int) (x3 : Int) (M : pz_M) : m_Mod_heard_15 x1 x2 x3 M = if x3 < (9 : Int) then (grd (0 ≤ (ia 72 x3) ∧ (ia 72 x3) < 83) (grd (0 ≤ (ia 72 x2) ∧ (ia 72 x2) < 83) (if (M 101 (((ia 72 x2)).toNat)) < (M 101 (((ia 72 x3)).toNat)) then (m_Mod_heard_15 x1 x3 (ia x3 (1)) M) else (m_Mod_heard_15 x1 x2 (ia x3 (1)) M)))) else (if x1 = 0 then some (some (pzI x2), M) else (grd (0 ≤ (ia 72 x2) ∧ (ia 72 x2) < 83) (some (some (pzI (M 101 (((ia 72 x2)).toNat))), M)))) := by
  show pzr 4 202 (15, [pzR 100, pzI x1, pzI x2, pzI x3], [], M) = _
  refine (pz_goes tq_202 2 (σ' := (18, [pzR 100, pzI x1, pzI x2, pzI x3], [pzI 9, pzI x3], M)) rfl).trans ?_
  refine (e_icmp_ge tq_202 rfl).trans (e_ite ?_ ?_)
  · refine (pz_goes tq_202 5 (σ' := (29, [pzR 100, pzI x1, pzI x2, pzI x3], [pzI (ia 72 x3), pzR 101], M)) rfl).trans ?_
    refine (e_iald (n := 83) rfl rfl tq_202 rfl).trans (e_grd ?_)
    refine (pz_goes tq_202 5 (σ' := (38, [pzR 100, pzI x1, pzI x2, pzI x3], [pzI (ia 72 x2), pzR 101, pzI (M 101 (((ia 72 x3)).toNat))], M)) rfl).trans ?_
    refine (e_iald (n := 83) rfl rfl tq_202 rfl).trans (e_grd ?_)
    refine (e_icmp_le tq_202 rfl).trans (e_ite ?_ ?_)
    · refine (pz_goes tq_202 4 (σ' := (15, [pzR 100, pzI x1, pzI x3, pzI (ia x3 (1))], [], M)) rfl).trans ?_
      rfl
    · refine (pz_goes tq_202 2 (σ' := (15, [pzR 100, pzI x1, pzI x2, pzI (ia x3 (1))], [], M)) rfl).trans ?_
      rfl
  · refine (pz_goes tq_202 1 (σ' := (51, [pzR 100, pzI x1, pzI x2, pzI x3], [pzI x1], M)) rfl).trans ?_
    refine (e_if_ne tq_202 rfl).trans (e_ite ?_ ?_)
    · refine (pz_goes tq_202 2 (σ' := (67, [pzR 100, pzI x1, pzI x2, pzI x3], [pzI x2], M)) rfl).trans ?_
      exact e_iret tq_202 rfl
    · refine (pz_goes tq_202 5 (σ' := (66, [pzR 100, pzI x1, pzI x2, pzI x3], [pzI (ia 72 x2), pzR 101], M)) rfl).trans ?_
      refine (e_iald (n := 83) rfl rfl tq_202 rfl).trans (e_grd ?_)
      exact e_iret tq_202 rfl
/-! PeacockDeskModel.longest()I -/
set_option maxRecDepth 20000 in
theorem m_Mod_longest_eq (M : pz_M) : m_Mod_longest M = m_Mod_longest_5 (-2) 0 M := by
  show pzr 6 203 (0, [pzR 100, pzN, pzN], [], M) = _
  refine (pz_goes tq_203 4 (σ' := (5, [pzR 100, pzI (-2), pzI 0], [], M)) rfl).trans ?_
  rfl
set_option maxRecDepth 20000 in
theorem m_Mod_longest_5_eq (x1 : Int) (x2 : Int) (M : pz_M) : m_Mod_longest_5 x1 x2 M = if x2 < (M 100 6) then (bI (m_Mod_isLeft x2 M) fun r2 M1 => if r2 = 0 then (m_Mod_longest_5 x1 (ia x2 (1)) M1) else (if x1 = (-2 : Int) then (m_Mod_longest_5 x2 (ia x2 (1)) M1) else (grd (0 ≤ (ia 48 x2) ∧ (ia 48 x2) < 83) (grd (0 ≤ (ia 48 x1) ∧ (ia 48 x1) < 83) (if (M1 101 (((ia 48 x1)).toNat)) < (M1 101 (((ia 48 x2)).toNat)) then (m_Mod_longest_5 x2 (ia x2 (1)) M1) else (m_Mod_longest_5 x1 (ia x2 (1)) M1)))))) else (some (some (pzI x1), M)) := by
  show pzr 6 203 (5, [pzR 100, pzI x1, pzI x2], [], M) = _
  refine (pz_goes tq_203 3 (σ' := (10, [pzR 100, pzI x1, pzI x2], [pzI (M 100 6), pzI x2], M)) rfl).trans ?_
  refine (e_icmp_ge tq_203 rfl).trans (e_ite ?_ ?_)
  · refine (pz_goes tq_203 2 (σ' := (15, [pzR 100, pzI x1, pzI x2], [pzI x2, pzR 100], M)) rfl).trans ?_
    refine (e_callI (as := [pzR 100, pzI x2]) (rest := []) (d' := 5) tq_146 rfl rfl rfl rfl rfl tq_203 rfl).trans (e_bI rfl fun r2 M1 => ?_)
    refine (e_if_eq tq_203 rfl).trans (e_ite ?_ ?_)
    · refine (pz_goes tq_203 2 (σ' := (5, [pzR 100, pzI x1, pzI (ia x2 (1))], [], M1)) rfl).trans ?_
      rfl
    · refine (pz_goes tq_203 2 (σ' := (24, [pzR 100, pzI x1, pzI x2], [pzI (-2), pzI x1], M1)) rfl).trans ?_
      refine (e_icmp_eq tq_203 rfl).trans (e_ite ?_ ?_)
      · refine (pz_goes tq_203 4 (σ' := (5, [pzR 100, pzI x2, pzI (ia x2 (1))], [], M1)) rfl).trans ?_
        rfl
      · refine (pz_goes tq_203 5 (σ' := (35, [pzR 100, pzI x1, pzI x2], [pzI (ia 48 x2), pzR 101], M1)) rfl).trans ?_
        refine (e_iald (n := 83) rfl rfl tq_203 rfl).trans (e_grd ?_)
        refine (pz_goes tq_203 5 (σ' := (44, [pzR 100, pzI x1, pzI x2], [pzI (ia 48 x1), pzR 101, pzI (M1 101 (((ia 48 x2)).toNat))], M1)) rfl).trans ?_
        refine (e_iald (n := 83) rfl rfl tq_203 rfl).trans (e_grd ?_)
        refine (e_icmp_le tq_203 rfl).trans (e_ite ?_ ?_)
        · refine (pz_goes tq_203 4 (σ' := (5, [pzR 100, pzI x2, pzI (ia x2 (1))], [], M1)) rfl).trans ?_
          rfl
        · refine (pz_goes tq_203 2 (σ' := (5, [pzR 100, pzI x1, pzI (ia x2 (1))], [], M1)) rfl).trans ?_
          rfl
  · refine (pz_goes tq_203 1 (σ' := (57, [pzR 100, pzI x1, pzI x2], [pzI x1], M)) rfl).trans ?_
    exact e_iret tq_203 rfl
/-! PeacockDeskModel.ofSubject(II)I -/
set_option maxRecDepth 20000 in
theorem m_Mod_ofSubject_eq (x1 : Int) (x2 : Int) (M : pz_M) : m_Mod_ofSubject x1 x2 M = bI (m_Mod_in x1 0 15 M) fun r2 M1 => if r2 = 0 then some (some (pzI (-1)), M1) else (bI (m_Mod_in x2 0 1 M1) fun r4 M3 => if r4 = 0 then some (some (pzI (-1)), M3) else (m_Mod_ofSubject_29 x1 x2 0 0 0 M3)) := by
  show pzr 6 204 (0, [pzR 100, pzI x1, pzI x2, pzN, pzN, pzN], [], M) = _
  refine (pz_goes tq_204 3 (σ' := (4, [pzR 100, pzI x1, pzI x2, pzN, pzN, pzN], [pzI 15, pzI 0, pzI x1], M)) rfl).trans ?_
  refine (e_callI (as := [pzI x1, pzI 0, pzI 15]) (rest := []) (d' := 3) tq_138 rfl rfl rfl rfl rfl tq_204 rfl).trans (e_bI rfl fun r2 M1 => ?_)
  refine (e_if_eq tq_204 rfl).trans (e_ite ?_ ?_)
  · refine (pz_goes tq_204 1 (σ' := (20, [pzR 100, pzI x1, pzI x2, pzN, pzN, pzN], [pzI (-1)], M1)) rfl).trans ?_
    exact e_iret tq_204 rfl
  · refine (pz_goes tq_204 3 (σ' := (13, [pzR 100, pzI x1, pzI x2, pzN, pzN, pzN], [pzI 1, pzI 0, pzI x2], M1)) rfl).trans ?_
    refine (e_callI (as := [pzI x2, pzI 0, pzI 1]) (rest := []) (d' := 3) tq_138 rfl rfl rfl rfl rfl tq_204 rfl).trans (e_bI rfl fun r4 M3 => ?_)
    refine (e_if_ne tq_204 rfl).trans (e_ite ?_ ?_)
    · refine (pz_goes tq_204 1 (σ' := (20, [pzR 100, pzI x1, pzI x2, pzN, pzN, pzN], [pzI (-1)], M3)) rfl).trans ?_
      exact e_iret tq_204 rfl
    · refine (pz_goes tq_204 6 (σ' := (29, [pzR 100, pzI x1, pzI x2, pzI 0, pzI 0, pzI 0], [], M3)) rfl).trans ?_
      rfl
set_option maxRecDepth 20000 in
theorem m_Mod_ofSubject_29_eq (x1 : Int) (x2 : Int) (x3 : Int) (x4 : Int) (x5 : Int) (M : pz_M) : m_Mod_ofSubject_29 x1 x2 x3 x4 x5 M = if x5 < (M 100 6) then (grd (0 ≤ x5 ∧ x5 < 24) (if (M 104 ((x5).toNat)) = x1 then (bI (m_Mod_isLeft x5 M) fun r2 M1 => if r2 = 0 then (m_Mod_ofSubject_29 x1 x2 (ia x3 1) x4 (ia x5 (1)) M1) else (grd (0 ≤ x5 ∧ x5 < 24) (m_Mod_ofSubject_29 x1 x2 (ia x3 1) (ia x4 (M1 105 ((x5).toNat))) (ia x5 (1)) M1))) else (m_Mod_ofSubject_29 x1 x2 x3 x4 (ia x5 (1)) M))) else (if x2 = 0 then some (some (pzI x3), M) else (some (some (pzI x4), M))) := by
  show pzr 6 204 (29, [pzR 100, pzI x1, pzI x2, pzI x3, pzI x4, pzI x5], [], M) = _
  refine (pz_goes tq_204 3 (σ' := (35, [pzR 100, pzI x1, pzI x2, pzI x3, pzI x4, pzI x5], [pzI (M 100 6), pzI x5], M)) rfl).trans ?_
  refine (e_icmp_ge tq_204 rfl).trans (e_ite ?_ ?_)
  · refine (pz_goes tq_204 3 (σ' := (44, [pzR 100, pzI x1, pzI x2, pzI x3, pzI x4, pzI x5], [pzI x5, pzR 104], M)) rfl).trans ?_
    refine (e_iald (n := 24) rfl rfl tq_204 rfl).trans (e_grd ?_)
    refine (pz_goes tq_204 1 (σ' := (46, [pzR 100, pzI x1, pzI x2, pzI x3, pzI x4, pzI x5], [pzI x1, pzI (M 104 ((x5).toNat))], M)) rfl).trans ?_
    refine (e_icmp_eq tq_204 rfl).trans (e_ite ?_ ?_)
    · refine (pz_goes tq_204 6 (σ' := (59, [pzR 100, pzI x1, pzI x2, pzI (ia x3 1), pzI x4, pzI x5], [pzI x5, pzR 100], M)) rfl).trans ?_
      refine (e_callI (as := [pzR 100, pzI x5]) (rest := []) (d' := 5) tq_146 rfl rfl rfl rfl rfl tq_204 rfl).trans (e_bI rfl fun r2 M1 => ?_)
      refine (e_if_eq tq_204 rfl).trans (e_ite ?_ ?_)
      · refine (pz_goes tq_204 2 (σ' := (29, [pzR 100, pzI x1, pzI x2, pzI (ia x3 1), pzI x4, pzI (ia x5 (1))], [], M1)) rfl).trans ?_
        rfl
      · refine (pz_goes tq_204 4 (σ' := (73, [pzR 100, pzI x1, pzI x2, pzI (ia x3 1), pzI x4, pzI x5], [pzI x5, pzR 105, pzI x4], M1)) rfl).trans ?_
        refine (e_iald (n := 24) rfl rfl tq_204 rfl).trans (e_grd ?_)
        refine (pz_goes tq_204 4 (σ' := (29, [pzR 100, pzI x1, pzI x2, pzI (ia x3 1), pzI (ia x4 (M1 105 ((x5).toNat))), pzI (ia x5 (1))], [], M1)) rfl).trans ?_
        rfl
    · refine (pz_goes tq_204 3 (σ' := (29, [pzR 100, pzI x1, pzI x2, pzI x3, pzI x4, pzI (ia x5 (1))], [], M)) rfl).trans ?_
      rfl
  · refine (pz_goes tq_204 1 (σ' := (84, [pzR 100, pzI x1, pzI x2, pzI x3, pzI x4, pzI x5], [pzI x2], M)) rfl).trans ?_
    refine (e_if_ne tq_204 rfl).trans (e_ite ?_ ?_)
    · refine (pz_goes tq_204 2 (σ' := (93, [pzR 100, pzI x1, pzI x2, pzI x3, pzI x4, pzI x5], [pzI x3], M)) rfl).trans ?_
      exact e_iret tq_204 rfl
    · refine (pz_goes tq_204 1 (σ' := (93, [pzR 100, pzI x1, pzI x2, pzI x3, pzI x4, pzI x5], [pzI x4], M)) rfl).trans ?_
      exact e_iret tq_204 rfl
/-! PeacockDeskModel.spread()I -/
set_option maxRecDepth 20000 in
theorem m_Mod_spread_eq (M : pz_M) : m_Mod_spread M = m_Mod_spread_7 0 24 0 M := by
  show pzr 7 205 (0, [pzR 100, pzN, pzN, pzN], [], M) = _
  refine (pz_goes tq_205 6 (σ' := (7, [pzR 100, pzI 0, pzI 24, pzI 0], [], M)) rfl).trans ?_
  rfl
set_option maxRecDepth 20000 in
theorem m_Mod_spread_7_eq (x1 : Int) (x2 : Int) (x3 : Int) (M : pz_M) : m_Mod_spread_7 x1 x2 x3 M = if x3 < (9 : Int) then (bI (m_Mod_casesOf x3 M) fun r2 M1 => bI (m_Mod_bits r2 M1) fun r4 M3 => bI (m_Mod_max x1 r4 M3) fun r6 M5 => bI (m_Mod_casesOf x3 M5) fun r8 M7 => bI (m_Mod_bits r8 M7) fun r10 M9 => bI (m_Mod_min x2 r10 M9) fun r12 M11 => m_Mod_spread_7 r6 r12 (ia x3 (1)) M11) else (some (some (pzI (isb x1 x2)), M)) := by
  show pzr 7 205 (7, [pzR 100, pzI x1, pzI x2, pzI x3], [], M) = _
  refine (pz_goes tq_205 2 (σ' := (10, [pzR 100, pzI x1, pzI x2, pzI x3], [pzI 9, pzI x3], M)) rfl).trans ?_
  refine (e_icmp_ge tq_205 rfl).trans (e_ite ?_ ?_)
  · refine (pz_goes tq_205 3 (σ' := (16, [pzR 100, pzI x1, pzI x2, pzI x3], [pzI x3, pzR 100, pzI x1], M)) rfl).trans ?_
    refine (e_callI (as := [pzR 100, pzI x3, pzN, pzN]) (rest := [pzI x1]) (d' := 6) tq_148 rfl rfl rfl rfl rfl tq_205 rfl).trans (e_bI rfl fun r2 M1 => ?_)
    refine (e_callI (as := [pzI r2, pzN, pzN]) (rest := [pzI x1]) (d' := 3) tq_143 rfl rfl rfl rfl rfl tq_205 rfl).trans (e_bI rfl fun r4 M3 => ?_)
    refine (e_callI (as := [pzI x1, pzI r4]) (rest := []) (d' := 3) tq_140 rfl rfl rfl rfl rfl tq_205 rfl).trans (e_bI rfl fun r6 M5 => ?_)
    refine (pz_goes tq_205 4 (σ' := (29, [pzR 100, pzI r6, pzI x2, pzI x3], [pzI x3, pzR 100, pzI x2], M5)) rfl).trans ?_
    refine (e_callI (as := [pzR 100, pzI x3, pzN, pzN]) (rest := [pzI x2]) (d' := 6) tq_148 rfl rfl rfl rfl rfl tq_205 rfl).trans (e_bI rfl fun r8 M7 => ?_)
    refine (e_callI (as := [pzI r8, pzN, pzN]) (rest := [pzI x2]) (d' := 3) tq_143 rfl rfl rfl rfl rfl tq_205 rfl).trans (e_bI rfl fun r10 M9 => ?_)
    refine (e_callI (as := [pzI x2, pzI r10]) (rest := []) (d' := 3) tq_139 rfl rfl rfl rfl rfl tq_205 rfl).trans (e_bI rfl fun r12 M11 => ?_)
    refine (pz_goes tq_205 3 (σ' := (7, [pzR 100, pzI r6, pzI r12, pzI (ia x3 (1))], [], M11)) rfl).trans ?_
    rfl
  · refine (pz_goes tq_205 3 (σ' := (48, [pzR 100, pzI x1, pzI x2, pzI x3], [pzI (isb x1 x2)], M)) rfl).trans ?_
    exact e_iret tq_205 rfl
/-! PeacockDeskModel.alikeTwos()I -/
set_option maxRecDepth 20000 in
theorem m_Mod_alikeTwos_eq (M : pz_M) : m_Mod_alikeTwos M = m_Mod_alikeTwos_4 0 0 pzN M := by
  show pzr 3 206 (0, [pzR 100, pzN, pzN, pzN], [], M) = _
  refine (pz_goes tq_206 4 (σ' := (4, [pzR 100, pzI 0, pzI 0, pzN], [], M)) rfl).trans ?_
  rfl
set_option maxRecDepth 20000 in
theorem m_Mod_alikeTwos_4_eq (x1 : Int) (x2 : Int) (w3 : pz_V) (M : pz_M) : m_Mod_alikeTwos_4 x1 x2 w3 M = if x2 < (M 100 6) then (m_Mod_alikeTwos_14 x1 x2 0 M) else (some (some (pzI x1), M)) := by
  show pzr 3 206 (4, [pzR 100, pzI x1, pzI x2, w3], [], M) = _
  refine (pz_goes tq_206 3 (σ' := (9, [pzR 100, pzI x1, pzI x2, w3], [pzI (M 100 6), pzI x2], M)) rfl).trans ?_
  refine (e_icmp_ge tq_206 rfl).trans (e_ite ?_ ?_)
  · refine (pz_goes tq_206 2 (σ' := (14, [pzR 100, pzI x1, pzI x2, pzI 0], [], M)) rfl).trans ?_
    rfl
  · refine (pz_goes tq_206 1 (σ' := (51, [pzR 100, pzI x1, pzI x2, w3], [pzI x1], M)) rfl).trans ?_
    exact e_iret tq_206 rfl
set_option maxRecDepth 20000 in
theorem m_Mod_alikeTwos_14_eq (x1 : Int) (x2 : Int) (x3 : Int) (M : pz_M) : m_Mod_alikeTwos_14 x1 x2 x3 M = if x3 < x2 then (grd (0 ≤ x2 ∧ x2 < 24) (grd (0 ≤ x3 ∧ x3 < 24) (if (M 104 ((x2).toNat)) = (M 104 ((x3).toNat)) then (m_Mod_alikeTwos_14 (ia x1 1) x2 (ia x3 (1)) M) else (m_Mod_alikeTwos_14 x1 x2 (ia x3 (1)) M)))) else (m_Mod_alikeTwos_4 x1 (ia x2 (1)) (pzI x3) M) := by
  show pzr 3 206 (14, [pzR 100, pzI x1, pzI x2, pzI x3], [], M) = _
  refine (pz_goes tq_206 2 (σ' := (16, [pzR 100, pzI x1, pzI x2, pzI x3], [pzI x2, pzI x3], M)) rfl).trans ?_
  refine (e_icmp_ge tq_206 rfl).trans (e_ite ?_ ?_)
  · refine (pz_goes tq_206 3 (σ' := (24, [pzR 100, pzI x1, pzI x2, pzI x3], [pzI x2, pzR 104], M)) rfl).trans ?_
    refine (e_iald (n := 24) rfl rfl tq_206 rfl).trans (e_grd ?_)
    refine (pz_goes tq_206 3 (σ' := (30, [pzR 100, pzI x1, pzI x2, pzI x3], [pzI x3, pzR 104, pzI (M 104 ((x2).toNat))], M)) rfl).trans ?_
    refine (e_iald (n := 24) rfl rfl tq_206 rfl).trans (e_grd ?_)
    refine (e_icmp_ne tq_206 rfl).trans (e_ite ?_ ?_)
    · refine (pz_goes tq_206 6 (σ' := (14, [pzR 100, pzI (ia x1 1), pzI x2, pzI (ia x3 (1))], [], M)) rfl).trans ?_
      rfl
    · refine (pz_goes tq_206 2 (σ' := (14, [pzR 100, pzI x1, pzI x2, pzI (ia x3 (1))], [], M)) rfl).trans ?_
      rfl
  · refine (pz_goes tq_206 2 (σ' := (4, [pzR 100, pzI x1, pzI (ia x2 (1)), pzI x3], [], M)) rfl).trans ?_
    rfl
/-! PeacockDeskModel.numbers(I)I -/
set_option maxRecDepth 20000 in
theorem m_Mod_numbers_eq (x1 : Int) (M : pz_M) : m_Mod_numbers x1 M = if x1 = 0 then (bI (m_Mod_spread M) fun r2 M1 => some (some (pzI r2), M1)) else (if x1 = (1 : Int) then (bI (m_Mod_alikeTwos M) fun r4 M3 => some (some (pzI r4), M3)) else (some (some (pzI (-1)), M))) := by
  show pzr 8 207 (0, [pzR 100, pzI x1], [], M) = _
  refine (pz_goes tq_207 1 (σ' := (1, [pzR 100, pzI x1], [pzI x1], M)) rfl).trans ?_
  refine (e_if_ne tq_207 rfl).trans (e_ite ?_ ?_)
  · refine (pz_goes tq_207 1 (σ' := (5, [pzR 100, pzI x1], [pzR 100], M)) rfl).trans ?_
    refine (e_callI (as := [pzR 100, pzN, pzN, pzN]) (rest := []) (d' := 7) tq_205 rfl rfl rfl rfl rfl tq_207 rfl).trans (e_bI rfl fun r2 M1 => ?_)
    refine (pz_goes tq_207 1 (σ' := (24, [pzR 100, pzI x1], [pzI r2], M1)) rfl).trans ?_
    exact e_iret tq_207 rfl
  · refine (pz_goes tq_207 2 (σ' := (13, [pzR 100, pzI x1], [pzI 1, pzI x1], M)) rfl).trans ?_
    refine (e_icmp_ne tq_207 rfl).trans (e_ite ?_ ?_)
    · refine (pz_goes tq_207 1 (σ' := (17, [pzR 100, pzI x1], [pzR 100], M)) rfl).trans ?_
      refine (e_callI (as := [pzR 100, pzN, pzN, pzN]) (rest := []) (d' := 3) tq_206 rfl rfl rfl rfl rfl tq_207 rfl).trans (e_bI rfl fun r4 M3 => ?_)
      refine (pz_goes tq_207 1 (σ' := (24, [pzR 100, pzI x1], [pzI r4], M3)) rfl).trans ?_
      exact e_iret tq_207 rfl
    · refine (pz_goes tq_207 1 (σ' := (24, [pzR 100, pzI x1], [pzI (-1)], M)) rfl).trans ?_
      exact e_iret tq_207 rfl
/-! PeacockDeskModel.laysSums()I -/
set_option maxRecDepth 20000 in
theorem m_Mod_laysSums_eq (M : pz_M) : m_Mod_laysSums M = m_Mod_laysSums_4 0 0 pzN M := by
  show pzr 6 208 (0, [pzR 100, pzN, pzN, pzN], [], M) = _
  refine (pz_goes tq_208 4 (σ' := (4, [pzR 100, pzI 0, pzI 0, pzN], [], M)) rfl).trans ?_
  rfl
set_option maxRecDepth 20000 in
theorem m_Mod_laysSums_4_eq (x1 : Int) (x2 : Int) (w3 : pz_V) (M : pz_M) : m_Mod_laysSums_4 x1 x2 w3 M = if x2 < (M 100 6) then (bI (m_Mod_isLeft x2 M) fun r2 M1 => if r2 = 0 then (m_Mod_laysSums_4 x1 (ia x2 (1)) w3 M1) else (if x1 = (10 : Int) then some (some (pzI (-1)), M1) else (m_Mod_laysSums_33 x1 x2 0 M1))) else (some (some (pzI x1), M)) := by
  show pzr 6 208 (4, [pzR 100, pzI x1, pzI x2, w3], [], M) = _
  refine (pz_goes tq_208 3 (σ' := (9, [pzR 100, pzI x1, pzI x2, w3], [pzI (M 100 6), pzI x2], M)) rfl).trans ?_
  refine (e_icmp_ge tq_208 rfl).trans (e_ite ?_ ?_)
  · refine (pz_goes tq_208 2 (σ' := (14, [pzR 100, pzI x1, pzI x2, w3], [pzI x2, pzR 100], M)) rfl).trans ?_
    refine (e_callI (as := [pzR 100, pzI x2]) (rest := []) (d' := 5) tq_146 rfl rfl rfl rfl rfl tq_208 rfl).trans (e_bI rfl fun r2 M1 => ?_)
    refine (e_if_ne tq_208 rfl).trans (e_ite ?_ ?_)
    · refine (pz_goes tq_208 3 (σ' := (4, [pzR 100, pzI x1, pzI (ia x2 (1)), w3], [], M1)) rfl).trans ?_
      rfl
    · refine (pz_goes tq_208 2 (σ' := (26, [pzR 100, pzI x1, pzI x2, w3], [pzI 10, pzI x1], M1)) rfl).trans ?_
      refine (e_icmp_ne tq_208 rfl).trans (e_ite ?_ ?_)
      · refine (pz_goes tq_208 1 (σ' := (30, [pzR 100, pzI x1, pzI x2, w3], [pzI (-1)], M1)) rfl).trans ?_
        exact e_iret tq_208 rfl
      · refine (pz_goes tq_208 2 (σ' := (33, [pzR 100, pzI x1, pzI x2, pzI 0], [], M1)) rfl).trans ?_
        rfl
  · refine (pz_goes tq_208 1 (σ' := (80, [pzR 100, pzI x1, pzI x2, w3], [pzI x1], M)) rfl).trans ?_
    exact e_iret tq_208 rfl
set_option maxRecDepth 20000 in
theorem m_Mod_laysSums_33_eq (x1 : Int) (x2 : Int) (x3 : Int) (M : pz_M) : m_Mod_laysSums_33 x1 x2 x3 M = if x3 < (ihl 1 x1) then (grd (0 ≤ x3 ∧ x3 < 1024) (grd (0 ≤ x2 ∧ x2 < 24) (grd (0 ≤ (iro x3 (ihl 1 x1)) ∧ (iro x3 (ihl 1 x1)) < 1024) (bM (pz_wr M 126 (((iro x3 (ihl 1 x1))).toNat) (ia (M 126 ((x3).toNat)) (M 105 ((x2).toNat)))) fun M1 => m_Mod_laysSums_33 x1 x2 (ia x3 (1)) M1)))) else (m_Mod_laysSums_4 (ia x1 1) (ia x2 (1)) (pzI x3) M) := by
  show pzr 6 208 (33, [pzR 100, pzI x1, pzI x2, pzI x3], [], M) = _
  refine (pz_goes tq_208 4 (σ' := (37, [pzR 100, pzI x1, pzI x2, pzI x3], [pzI (ihl 1 x1), pzI x3], M)) rfl).trans ?_
  refine (e_icmp_ge tq_208 rfl).trans (e_ite ?_ ?_)
  · refine (pz_goes tq_208 10 (σ' := (54, [pzR 100, pzI x1, pzI x2, pzI x3], [pzI x3, pzR 126, pzI (iro x3 (ihl 1 x1)), pzR 126], M)) rfl).trans ?_
    refine (e_iald (n := 1024) rfl rfl tq_208 rfl).trans (e_grd ?_)
    refine (pz_goes tq_208 3 (σ' := (60, [pzR 100, pzI x1, pzI x2, pzI x3], [pzI x2, pzR 105, pzI (M 126 ((x3).toNat)), pzI (iro x3 (ihl 1 x1)), pzR 126], M)) rfl).trans ?_
    refine (e_iald (n := 24) rfl rfl tq_208 rfl).trans (e_grd ?_)
    refine (pz_goes tq_208 1 (σ' := (62, [pzR 100, pzI x1, pzI x2, pzI x3], [pzI (ia (M 126 ((x3).toNat)) (M 105 ((x2).toNat))), pzI (iro x3 (ihl 1 x1)), pzR 126], M)) rfl).trans ?_
    refine (e_iast (n := 1024) rfl rfl tq_208 rfl).trans (e_grd ?_)
    refine e_bM (m := pz_wr M 126 (((iro x3 (ihl 1 x1))).toNat) (ia (M 126 ((x3).toNat)) (M 105 ((x2).toNat)))) (f := fun M1 => pzr 6 208 (63, [pzR 100, pzI x1, pzI x2, pzI x3], [], M1)) (fun M1 => ?_)
    refine (pz_goes tq_208 2 (σ' := (33, [pzR 100, pzI x1, pzI x2, pzI (ia x3 (1))], [], M1)) rfl).trans ?_
    rfl
  · refine (pz_goes tq_208 6 (σ' := (4, [pzR 100, pzI (ia x1 1), pzI (ia x2 (1)), pzI x3], [], M)) rfl).trans ?_
    rfl
/-! PeacockDeskModel.fair(I)I -/
set_option maxRecDepth 20000 in
theorem m_Mod_fair_eq (x1 : Int) (M : pz_M) : m_Mod_fair x1 M = bI (m_Mod_in x1 1 4 M) fun r2 M1 => if r2 = 0 then some (some (pzI (-1)), M1) else (bM (pz_wr M1 126 0 0) fun M3 => bI (m_Mod_laysSums M3) fun r5 M4 => if r5 = (-1 : Int) then some (some (pzI (-4)), M4) else (m_Mod_fair_33 x1 r5 0 pzN pzN M4)) := by
  show pzr 7 209 (0, [pzR 100, pzI x1, pzN, pzN, pzN, pzN], [], M) = _
  refine (pz_goes tq_209 3 (σ' := (3, [pzR 100, pzI x1, pzN, pzN, pzN, pzN], [pzI 4, pzI 1, pzI x1], M)) rfl).trans ?_
  refine (e_callI (as := [pzI x1, pzI 1, pzI 4]) (rest := []) (d' := 3) tq_138 rfl rfl rfl rfl rfl tq_209 rfl).trans (e_bI rfl fun r2 M1 => ?_)
  refine (e_if_ne tq_209 rfl).trans (e_ite ?_ ?_)
  · refine (pz_goes tq_209 1 (σ' := (10, [pzR 100, pzI x1, pzN, pzN, pzN, pzN], [pzI (-1)], M1)) rfl).trans ?_
    exact e_iret tq_209 rfl
  · refine (pz_goes tq_209 4 (σ' := (17, [pzR 100, pzI x1, pzN, pzN, pzN, pzN], [pzI 0, pzI 0, pzR 126], M1)) rfl).trans ?_
    refine ((e_iast (n := 1024) rfl rfl tq_209 rfl).trans (grd_pos (by decide))).trans ?_
    refine e_bM (m := pz_wr M1 126 0 0) (f := fun M3 => pzr 7 209 (18, [pzR 100, pzI x1, pzN, pzN, pzN, pzN], [], M3)) (fun M3 => ?_)
    refine (pz_goes tq_209 1 (σ' := (19, [pzR 100, pzI x1, pzN, pzN, pzN, pzN], [pzR 100], M3)) rfl).trans ?_
    refine (e_callI (as := [pzR 100, pzN, pzN, pzN]) (rest := []) (d' := 6) tq_208 rfl rfl rfl rfl rfl tq_209 rfl).trans (e_bI rfl fun r5 M4 => ?_)
    refine (pz_goes tq_209 3 (σ' := (25, [pzR 100, pzI x1, pzI r5, pzN, pzN, pzN], [pzI (-1), pzI r5], M4)) rfl).trans ?_
    refine (e_icmp_ne tq_209 rfl).trans (e_ite ?_ ?_)
    · refine (pz_goes tq_209 1 (σ' := (30, [pzR 100, pzI x1, pzI r5, pzN, pzN, pzN], [pzI (-4)], M4)) rfl).trans ?_
      exact e_iret tq_209 rfl
    · refine (pz_goes tq_209 2 (σ' := (33, [pzR 100, pzI x1, pzI r5, pzI 0, pzN, pzN], [], M4)) rfl).trans ?_
      rfl
set_option maxRecDepth 20000 in
theorem m_Mod_fair_33_eq (x1 : Int) (x2 : Int) (x3 : Int) (w4 : pz_V) (w5 : pz_V) (M : pz_M) : m_Mod_fair_33 x1 x2 x3 w4 w5 M = if x3 < (ihl 1 x2) then (grd (0 ≤ x3 ∧ x3 < 1024) (grd (0 ≤ x3 ∧ x3 < 1024) (bM (pz_wr M 127 ((x3).toNat) (M 126 ((x3).toNat))) fun M1 => m_Mod_fair_33 x1 x2 (ia x3 (1)) w4 w5 M1))) else (m_Mod_fair_60 x1 x2 1 w4 w5 M) := by
  show pzr 7 209 (33, [pzR 100, pzI x1, pzI x2, pzI x3, w4, w5], [], M) = _
  refine (pz_goes tq_209 4 (σ' := (37, [pzR 100, pzI x1, pzI x2, pzI x3, w4, w5], [pzI (ihl 1 x2), pzI x3], M)) rfl).trans ?_
  refine (e_icmp_ge tq_209 rfl).trans (e_ite ?_ ?_)
  · refine (pz_goes tq_209 6 (σ' := (50, [pzR 100, pzI x1, pzI x2, pzI x3, w4, w5], [pzI x3, pzR 126, pzI x3, pzR 127], M)) rfl).trans ?_
    refine (e_iald (n := 1024) rfl rfl tq_209 rfl).trans (e_grd ?_)
    refine (e_iast (n := 1024) rfl rfl tq_209 rfl).trans (e_grd ?_)
    refine e_bM (m := pz_wr M 127 ((x3).toNat) (M 126 ((x3).toNat))) (f := fun M1 => pzr 7 209 (52, [pzR 100, pzI x1, pzI x2, pzI x3, w4, w5], [], M1)) (fun M1 => ?_)
    refine (pz_goes tq_209 2 (σ' := (33, [pzR 100, pzI x1, pzI x2, pzI (ia x3 (1)), w4, w5], [], M1)) rfl).trans ?_
    rfl
  · refine (pz_goes tq_209 2 (σ' := (60, [pzR 100, pzI x1, pzI x2, pzI 1, w4, w5], [], M)) rfl).trans ?_
    rfl
set_option maxRecDepth 20000 in
theorem m_Mod_fair_60_eq (x1 : Int) (x2 : Int) (x3 : Int) (w4 : pz_V) (w5 : pz_V) (M : pz_M) : m_Mod_fair_60 x1 x2 x3 w4 w5 M = if x3 < x1 then (m_Mod_fair_72 x1 x2 x3 (isb (ihl 1 x2) 1) w5 M) else (grd (0 ≤ (isb (ihl 1 x2) 1) ∧ (isb (ihl 1 x2) 1) < 1024) (some (some (pzI (M 127 (((isb (ihl 1 x2) 1)).toNat))), M))) := by
  show pzr 7 209 (60, [pzR 100, pzI x1, pzI x2, pzI x3, w4, w5], [], M) = _
  refine (pz_goes tq_209 2 (σ' := (62, [pzR 100, pzI x1, pzI x2, pzI x3, w4, w5], [pzI x1, pzI x3], M)) rfl).trans ?_
  refine (e_icmp_ge tq_209 rfl).trans (e_ite ?_ ?_)
  · refine (pz_goes tq_209 6 (σ' := (72, [pzR 100, pzI x1, pzI x2, pzI x3, pzI (isb (ihl 1 x2) 1), w5], [], M)) rfl).trans ?_
    rfl
  · refine (pz_goes tq_209 7 (σ' := (158, [pzR 100, pzI x1, pzI x2, pzI x3, w4, w5], [pzI (isb (ihl 1 x2) 1), pzR 127], M)) rfl).trans ?_
    refine (e_iald (n := 1024) rfl rfl tq_209 rfl).trans (e_grd ?_)
    exact e_iret tq_209 rfl
set_option maxRecDepth 20000 in
theorem m_Mod_fair_72_eq (x1 : Int) (x2 : Int) (x3 : Int) (x4 : Int) (w5 : pz_V) (M : pz_M) : m_Mod_fair_72 x1 x2 x3 x4 w5 M = if 0 < x4 then (m_Mod_fair_81 x1 x2 x3 x4 x4 M) else (m_Mod_fair_60 x1 x2 (ia x3 (1)) (pzI x4) w5 M) := by
  show pzr 7 209 (72, [pzR 100, pzI x1, pzI x2, pzI x3, pzI x4, w5], [], M) = _
  refine (pz_goes tq_209 1 (σ' := (74, [pzR 100, pzI x1, pzI x2, pzI x3, pzI x4, w5], [pzI x4], M)) rfl).trans ?_
  refine (e_if_le tq_209 rfl).trans (e_ite ?_ ?_)
  · refine (pz_goes tq_209 2 (σ' := (81, [pzR 100, pzI x1, pzI x2, pzI x3, pzI x4, pzI x4], [], M)) rfl).trans ?_
    rfl
  · refine (pz_goes tq_209 2 (σ' := (60, [pzR 100, pzI x1, pzI x2, pzI (ia x3 (1)), pzI x4, w5], [], M)) rfl).trans ?_
    rfl
set_option maxRecDepth 20000 in
theorem m_Mod_fair_81_eq (x1 : Int) (x2 : Int) (x3 : Int) (x4 : Int) (x5 : Int) (M : pz_M) : m_Mod_fair_81 x1 x2 x3 x4 x5 M = if 0 < x5 then (grd (0 ≤ x4 ∧ x4 < 1024) (grd (0 ≤ x5 ∧ x5 < 1024) (grd (0 ≤ (ian x4 (ixo x5 (-1))) ∧ (ian x4 (ixo x5 (-1))) < 1024) (bI (m_Mod_max (M 126 ((x5).toNat)) (M 127 (((ian x4 (ixo x5 (-1)))).toNat)) M) fun r2 M1 => bI (m_Mod_min (M 127 ((x4).toNat)) r2 M1) fun r4 M3 => grd (0 ≤ x4 ∧ x4 < 1024) (bM (pz_wr M3 127 ((x4).toNat) r4) fun M5 => m_Mod_fair_81 x1 x2 x3 x4 (ian (isb x5 1) x4) M5))))) else (m_Mod_fair_72 x1 x2 x3 (ia x4 (-1)) (pzI x5) M) := by
  show pzr 7 209 (81, [pzR 100, pzI x1, pzI x2, pzI x3, pzI x4, pzI x5], [], M) = _
  refine (pz_goes tq_209 1 (σ' := (83, [pzR 100, pzI x1, pzI x2, pzI x3, pzI x4, pzI x5], [pzI x5], M)) rfl).trans ?_
  refine (e_if_le tq_209 rfl).trans (e_ite ?_ ?_)
  · refine (pz_goes tq_209 6 (σ' := (98, [pzR 100, pzI x1, pzI x2, pzI x3, pzI x4, pzI x5], [pzI x4, pzR 127, pzI x4, pzR 127], M)) rfl).trans ?_
    refine (e_iald (n := 1024) rfl rfl tq_209 rfl).trans (e_grd ?_)
    refine (pz_goes tq_209 3 (σ' := (105, [pzR 100, pzI x1, pzI x2, pzI x3, pzI x4, pzI x5], [pzI x5, pzR 126, pzI (M 127 ((x4).toNat)), pzI x4, pzR 127], M)) rfl).trans ?_
    refine (e_iald (n := 1024) rfl rfl tq_209 rfl).trans (e_grd ?_)
    refine (pz_goes tq_209 7 (σ' := (117, [pzR 100, pzI x1, pzI x2, pzI x3, pzI x4, pzI x5], [pzI (ian x4 (ixo x5 (-1))), pzR 127, pzI (M 126 ((x5).toNat)), pzI (M 127 ((x4).toNat)), pzI x4, pzR 127], M)) rfl).trans ?_
    refine (e_iald (n := 1024) rfl rfl tq_209 rfl).trans (e_grd ?_)
    refine (e_callI (as := [pzI (M 126 ((x5).toNat)), pzI (M 127 (((ian x4 (ixo x5 (-1)))).toNat))]) (rest := [pzI (M 127 ((x4).toNat)), pzI x4, pzR 127]) (d' := 3) tq_140 rfl rfl rfl rfl rfl tq_209 rfl).trans (e_bI rfl fun r2 M1 => ?_)
    refine (e_callI (as := [pzI (M 127 ((x4).toNat)), pzI r2]) (rest := [pzI x4, pzR 127]) (d' := 3) tq_139 rfl rfl rfl rfl rfl tq_209 rfl).trans (e_bI rfl fun r4 M3 => ?_)
    refine (e_iast (n := 1024) rfl rfl tq_209 rfl).trans (e_grd ?_)
    refine e_bM (m := pz_wr M3 127 ((x4).toNat) r4) (f := fun M5 => pzr 7 209 (125, [pzR 100, pzI x1, pzI x2, pzI x3, pzI x4, pzI x5], [], M5)) (fun M5 => ?_)
    refine (pz_goes tq_209 7 (σ' := (81, [pzR 100, pzI x1, pzI x2, pzI x3, pzI x4, pzI (ian (isb x5 1) x4)], [], M5)) rfl).trans ?_
    rfl
  · refine (pz_goes tq_209 2 (σ' := (72, [pzR 100, pzI x1, pzI x2, pzI x3, pzI (ia x4 (-1)), pzI x5], [], M)) rfl).trans ?_
    rfl
/-! PeacockDeskModel.readsOften()Z -/
set_option maxRecDepth 20000 in
theorem m_Mod_readsOften_eq (M : pz_M) : m_Mod_readsOften M = grd (0 ≤ (M 100 37) ∧ (M 100 37) < 12) (bM (pz_wr M 128 (((M 100 37)).toNat) 1) fun M1 => bI (m_Mod_isDigit M1) fun r3 M2 => if r3 = 0 then some (some (pzI 1), M2) else (bI (m_Mod_readsAmount M2) fun r5 M4 => if r5 = 0 then some (some (pzI 0), M4) else (if (M4 100 12) = 0 then (bI (m_Mod_wrongAt 3 (M2 100 9) M4) fun r7 M6 => grd (r7 = 0 ∨ r7 = 1) (some (some (pzI r7), M6))) else (grd (0 ≤ (M4 100 37) ∧ (M4 100 37) < 12) (bM (pz_wr M4 128 (((M4 100 37)).toNat) (M4 100 12)) fun M8 => some (some (pzI 1), M8)))))) := by
  show pzr 6 210 (0, [pzR 100, pzN], [], M) = _
  refine (pz_goes tq_210 5 (σ' := (9, [pzR 100, pzN], [pzI 1, pzI (M 100 37), pzR 128], M)) rfl).trans ?_
  refine (e_iast (n := 12) rfl rfl tq_210 rfl).trans (e_grd ?_)
  refine e_bM (m := pz_wr M 128 (((M 100 37)).toNat) 1) (f := fun M1 => pzr 6 210 (10, [pzR 100, pzN], [], M1)) (fun M1 => ?_)
  refine (pz_goes tq_210 1 (σ' := (11, [pzR 100, pzN], [pzR 100], M1)) rfl).trans ?_
  refine (e_callI (as := [pzR 100]) (rest := []) (d' := 4) tq_156 rfl rfl rfl rfl rfl tq_210 rfl).trans (e_bI rfl fun r3 M2 => ?_)
  refine (e_if_ne tq_210 rfl).trans (e_ite ?_ ?_)
  · refine (pz_goes tq_210 1 (σ' := (18, [pzR 100, pzN], [pzI 1], M2)) rfl).trans ?_
    exact (e_zret tq_210 rfl).trans (grd_pos (by decide))
  · refine (pz_goes tq_210 4 (σ' := (25, [pzR 100, pzI (M2 100 9)], [pzR 100], M2)) rfl).trans ?_
    refine (e_callI (as := [pzR 100, pzN]) (rest := []) (d' := 5) tq_181 rfl rfl rfl rfl rfl tq_210 rfl).trans (e_bI rfl fun r5 M4 => ?_)
    refine (e_if_ne tq_210 rfl).trans (e_ite ?_ ?_)
    · refine (pz_goes tq_210 1 (σ' := (32, [pzR 100, pzI (M2 100 9)], [pzI 0], M4)) rfl).trans ?_
      exact (e_zret tq_210 rfl).trans (grd_pos (by decide))
    · refine (pz_goes tq_210 2 (σ' := (37, [pzR 100, pzI (M2 100 9)], [pzI (M4 100 12)], M4)) rfl).trans ?_
      refine (e_if_ne tq_210 rfl).trans (e_ite ?_ ?_)
      · refine (pz_goes tq_210 3 (σ' := (43, [pzR 100, pzI (M2 100 9)], [pzI (M2 100 9), pzI 3, pzR 100], M4)) rfl).trans ?_
        refine (e_callI (as := [pzR 100, pzI 3, pzI (M2 100 9)]) (rest := []) (d' := 3) tq_157 rfl rfl rfl rfl rfl tq_210 rfl).trans (e_bI rfl fun r7 M6 => ?_)
        exact e_zret tq_210 rfl
      · refine (pz_goes tq_210 6 (σ' := (59, [pzR 100, pzI (M2 100 9)], [pzI (M4 100 12), pzI (M4 100 37), pzR 128], M4)) rfl).trans ?_
        refine (e_iast (n := 12) rfl rfl tq_210 rfl).trans (e_grd ?_)
        refine e_bM (m := pz_wr M4 128 (((M4 100 37)).toNat) (M4 100 12)) (f := fun M8 => pzr 6 210 (60, [pzR 100, pzI (M2 100 9)], [], M8)) (fun M8 => ?_)
        refine (pz_goes tq_210 1 (σ' := (61, [pzR 100, pzI (M2 100 9)], [pzI 1], M8)) rfl).trans ?_
        exact (e_zret tq_210 rfl).trans (grd_pos (by decide))
/-! PeacockDeskModel.readsBallot()Z -/
set_option maxRecDepth 20000 in
theorem m_Mod_readsBallot_eq (M : pz_M) : m_Mod_readsBallot M = bI (m_Mod_here M) fun r2 M1 => bI (m_Mod_in (isb r2 97) 0 (isb (M1 100 44) 1) M1) fun r4 M3 => if r4 = 0 then (bI (m_Mod_isDigit M3) fun r6 M5 => if r6 = 0 then (bI (m_Mod_wrongAt 1 (M5 100 9) M5) fun r8 M7 => grd (r8 = 0 ∨ r8 = 1) (some (some (pzI r8), M7))) else (m_Mod_readsBallot_39 (pzI r4) pzN pzN pzN M5)) else (m_Mod_readsBallot_39 (pzI r4) pzN pzN pzN M3) := by
  show pzr 7 211 (0, [pzR 100, pzN, pzN, pzN, pzN], [], M) = _
  refine (pz_goes tq_211 1 (σ' := (1, [pzR 100, pzN, pzN, pzN, pzN], [pzR 100], M)) rfl).trans ?_
  refine (e_callI (as := [pzR 100]) (rest := []) (d' := 3) tq_155 rfl rfl rfl rfl rfl tq_211 rfl).trans (e_bI rfl fun r2 M1 => ?_)
  refine (pz_goes tq_211 7 (σ' := (14, [pzR 100, pzN, pzN, pzN, pzN], [pzI (isb (M1 100 44) 1), pzI 0, pzI (isb r2 97)], M1)) rfl).trans ?_
  refine (e_callI (as := [pzI (isb r2 97), pzI 0, pzI (isb (M1 100 44) 1)]) (rest := []) (d' := 3) tq_138 rfl rfl rfl rfl rfl tq_211 rfl).trans (e_bI rfl fun r4 M3 => ?_)
  refine (pz_goes tq_211 2 (σ' := (19, [pzR 100, pzI r4, pzN, pzN, pzN], [pzI r4], M3)) rfl).trans ?_
  refine (e_if_ne tq_211 rfl).trans (e_ite ?_ ?_)
  · refine (pz_goes tq_211 1 (σ' := (23, [pzR 100, pzI r4, pzN, pzN, pzN], [pzR 100], M3)) rfl).trans ?_
    refine (e_callI (as := [pzR 100]) (rest := []) (d' := 4) tq_156 rfl rfl rfl rfl rfl tq_211 rfl).trans (e_bI rfl fun r6 M5 => ?_)
    refine (e_if_ne tq_211 rfl).trans (e_ite ?_ ?_)
    · refine (pz_goes tq_211 4 (σ' := (35, [pzR 100, pzI r4, pzN, pzN, pzN], [pzI (M5 100 9), pzI 1, pzR 100], M5)) rfl).trans ?_
      refine (e_callI (as := [pzR 100, pzI 1, pzI (M5 100 9)]) (rest := []) (d' := 3) tq_157 rfl rfl rfl rfl rfl tq_211 rfl).trans (e_bI rfl fun r8 M7 => ?_)
      exact e_zret tq_211 rfl
    · rfl
  · rfl
set_option maxRecDepth 20000 in
theorem m_Mod_readsBallot_39_eq (w1 : pz_V) (w2 : pz_V) (w3 : pz_V) (w4 : pz_V) (M : pz_M) : m_Mod_readsBallot_39 w1 w2 w3 w4 M = if (M 100 37) = (12 : Int) then (bI (m_Mod_wrongAt 4 (M 100 9) M) fun r2 M1 => grd (r2 = 0 ∨ r2 = 1) (some (some (pzI r2), M1))) else (bI (m_Mod_readsOften M) fun r4 M3 => if r4 = 0 then some (some (pzI 0), M3) else (m_Mod_readsBallot_71 w1 0 0 w4 M3)) := by
  show pzr 7 211 (39, [pzR 100, w1, w2, w3, w4], [], M) = _
  refine (pz_goes tq_211 3 (σ' := (45, [pzR 100, w1, w2, w3, w4], [pzI 12, pzI (M 100 37)], M)) rfl).trans ?_
  refine (e_icmp_ne tq_211 rfl).trans (e_ite ?_ ?_)
  · refine (pz_goes tq_211 4 (σ' := (54, [pzR 100, w1, w2, w3, w4], [pzI (M 100 9), pzI 4, pzR 100], M)) rfl).trans ?_
    refine (e_callI (as := [pzR 100, pzI 4, pzI (M 100 9)]) (rest := []) (d' := 3) tq_157 rfl rfl rfl rfl rfl tq_211 rfl).trans (e_bI rfl fun r2 M1 => ?_)
    exact e_zret tq_211 rfl
  · refine (pz_goes tq_211 1 (σ' := (59, [pzR 100, w1, w2, w3, w4], [pzR 100], M)) rfl).trans ?_
    refine (e_callI (as := [pzR 100, pzN]) (rest := []) (d' := 6) tq_210 rfl rfl rfl rfl rfl tq_211 rfl).trans (e_bI rfl fun r4 M3 => ?_)
    refine (e_if_ne tq_211 rfl).trans (e_ite ?_ ?_)
    · refine (pz_goes tq_211 1 (σ' := (66, [pzR 100, w1, w2, w3, w4], [pzI 0], M3)) rfl).trans ?_
      exact (e_zret tq_211 rfl).trans (grd_pos (by decide))
    · refine (pz_goes tq_211 4 (σ' := (71, [pzR 100, w1, pzI 0, pzI 0, w4], [], M3)) rfl).trans ?_
      rfl
set_option maxRecDepth 20000 in
theorem m_Mod_readsBallot_71_eq (w1 : pz_V) (x2 : Int) (x3 : Int) (w4 : pz_V) (M : pz_M) : m_Mod_readsBallot_71 w1 x2 x3 w4 M = if x3 < (M 100 44) then (bI (m_Mod_here M) fun r2 M1 => bI (m_Mod_in (isb r2 97) 0 (isb (M1 100 44) 1) M1) fun r4 M3 => if r4 = 0 then (bI (m_Mod_wrongAt 1 (M3 100 9) M3) fun r6 M5 => grd (r6 = 0 ∨ r6 = 1) (some (some (pzI r6), M5))) else (bI (m_Mod_has x2 (isb r2 97) M3) fun r8 M7 => if r8 = 0 then (grd (0 ≤ (ia (imu 6 (M7 100 37)) (isb r2 97)) ∧ (ia (imu 6 (M7 100 37)) (isb r2 97)) < 72) (bM (pz_wr M7 129 (((ia (imu 6 (M7 100 37)) (isb r2 97))).toNat) x3) fun M9 => bM (pz_wr M9 100 9 (ia (M9 100 9) 1)) fun M10 => m_Mod_readsBallot_71 w1 (iro x2 (ihl 1 (isb r2 97))) (ia x3 (1)) (pzI (isb r2 97)) M10)) else (bI (m_Mod_wrongAt 6 (M7 100 9) M7) fun r12 M11 => grd (r12 = 0 ∨ r12 = 1) (some (some (pzI r12), M11))))) else (bM (pz_wr M 100 37 (ia (M 100 37) 1)) fun M13 => some (some (pzI 1), M13)) := by
  show pzr 7 211 (71, [pzR 100, w1, pzI x2, pzI x3, w4], [], M) = _
  refine (pz_goes tq_211 3 (σ' := (76, [pzR 100, w1, pzI x2, pzI x3, w4], [pzI (M 100 44), pzI x3], M)) rfl).trans ?_
  refine (e_icmp_ge tq_211 rfl).trans (e_ite ?_ ?_)
  · refine (pz_goes tq_211 1 (σ' := (80, [pzR 100, w1, pzI x2, pzI x3, w4], [pzR 100], M)) rfl).trans ?_
    refine (e_callI (as := [pzR 100]) (rest := []) (d' := 3) tq_155 rfl rfl rfl rfl rfl tq_211 rfl).trans (e_bI rfl fun r2 M1 => ?_)
    refine (pz_goes tq_211 9 (σ' := (97, [pzR 100, w1, pzI x2, pzI x3, pzI (isb r2 97)], [pzI (isb (M1 100 44) 1), pzI 0, pzI (isb r2 97)], M1)) rfl).trans ?_
    refine (e_callI (as := [pzI (isb r2 97), pzI 0, pzI (isb (M1 100 44) 1)]) (rest := []) (d' := 3) tq_138 rfl rfl rfl rfl rfl tq_211 rfl).trans (e_bI rfl fun r4 M3 => ?_)
    refine (e_if_ne tq_211 rfl).trans (e_ite ?_ ?_)
    · refine (pz_goes tq_211 4 (σ' := (109, [pzR 100, w1, pzI x2, pzI x3, pzI (isb r2 97)], [pzI (M3 100 9), pzI 1, pzR 100], M3)) rfl).trans ?_
      refine (e_callI (as := [pzR 100, pzI 1, pzI (M3 100 9)]) (rest := []) (d' := 3) tq_157 rfl rfl rfl rfl rfl tq_211 rfl).trans (e_bI rfl fun r6 M5 => ?_)
      exact e_zret tq_211 rfl
    · refine (pz_goes tq_211 2 (σ' := (116, [pzR 100, w1, pzI x2, pzI x3, pzI (isb r2 97)], [pzI (isb r2 97), pzI x2], M3)) rfl).trans ?_
      refine (e_callI (as := [pzI x2, pzI (isb r2 97)]) (rest := []) (d' := 3) tq_142 rfl rfl rfl rfl rfl tq_211 rfl).trans (e_bI rfl fun r8 M7 => ?_)
      refine (e_if_eq tq_211 rfl).trans (e_ite ?_ ?_)
      · refine (pz_goes tq_211 15 (σ' := (155, [pzR 100, w1, pzI (iro x2 (ihl 1 (isb r2 97))), pzI x3, pzI (isb r2 97)], [pzI x3, pzI (ia (imu 6 (M7 100 37)) (isb r2 97)), pzR 129], M7)) rfl).trans ?_
        refine (e_iast (n := 72) rfl rfl tq_211 rfl).trans (e_grd ?_)
        refine e_bM (m := pz_wr M7 129 (((ia (imu 6 (M7 100 37)) (isb r2 97))).toNat) x3) (f := fun M9 => pzr 7 211 (156, [pzR 100, w1, pzI (iro x2 (ihl 1 (isb r2 97))), pzI x3, pzI (isb r2 97)], [], M9)) (fun M9 => ?_)
        refine (pz_goes tq_211 5 (σ' := (163, [pzR 100, w1, pzI (iro x2 (ihl 1 (isb r2 97))), pzI x3, pzI (isb r2 97)], [pzI (ia (M9 100 9) 1), pzR 100], M9)) rfl).trans ?_
        refine (e_putI rfl tq_211 rfl).trans ?_
        refine e_bM (f := fun M10 => pzr 7 211 (166, [pzR 100, w1, pzI (iro x2 (ihl 1 (isb r2 97))), pzI x3, pzI (isb r2 97)], [], M10)) (fun M10 => ?_)
        refine (pz_goes tq_211 2 (σ' := (71, [pzR 100, w1, pzI (iro x2 (ihl 1 (isb r2 97))), pzI (ia x3 (1)), pzI (isb r2 97)], [], M10)) rfl).trans ?_
        rfl
      · refine (pz_goes tq_211 4 (σ' := (129, [pzR 100, w1, pzI x2, pzI x3, pzI (isb r2 97)], [pzI (M7 100 9), pzI 6, pzR 100], M7)) rfl).trans ?_
        refine (e_callI (as := [pzR 100, pzI 6, pzI (M7 100 9)]) (rest := []) (d' := 3) tq_157 rfl rfl rfl rfl rfl tq_211 rfl).trans (e_bI rfl fun r12 M11 => ?_)
        exact e_zret tq_211 rfl
  · refine (pz_goes tq_211 5 (σ' := (179, [pzR 100, w1, pzI x2, pzI x3, w4], [pzI (ia (M 100 37) 1), pzR 100], M)) rfl).trans ?_
    refine (e_putI rfl tq_211 rfl).trans ?_
    refine e_bM (f := fun M13 => pzr 7 211 (182, [pzR 100, w1, pzI x2, pzI x3, w4], [], M13)) (fun M13 => ?_)
    refine (pz_goes tq_211 1 (σ' := (183, [pzR 100, w1, pzI x2, pzI x3, w4], [pzI 1], M13)) rfl).trans ?_
    exact (e_zret tq_211 rfl).trans (grd_pos (by decide))
/-! PeacockDeskModel.ballotMany()I -/
set_option maxRecDepth 20000 in
theorem m_Mod_ballotMany_eq (M : pz_M) : m_Mod_ballotMany M = m_Mod_ballotMany_4 0 0 M := by
  show pzr 3 212 (0, [pzR 100, pzN, pzN], [], M) = _
  refine (pz_goes tq_212 4 (σ' := (4, [pzR 100, pzI 0, pzI 0], [], M)) rfl).trans ?_
  rfl
set_option maxRecDepth 20000 in
theorem m_Mod_ballotMany_4_eq (x1 : Int) (x2 : Int) (M : pz_M) : m_Mod_ballotMany_4 x1 x2 M = if x2 < (M 100 37) then (grd (0 ≤ x2 ∧ x2 < 12) (m_Mod_ballotMany_4 (ia x1 (M 128 ((x2).toNat))) (ia x2 (1)) M)) else (some (some (pzI x1), M)) := by
  show pzr 3 212 (4, [pzR 100, pzI x1, pzI x2], [], M) = _
  refine (pz_goes tq_212 3 (σ' := (9, [pzR 100, pzI x1, pzI x2], [pzI (M 100 37), pzI x2], M)) rfl).trans ?_
  refine (e_icmp_ge tq_212 rfl).trans (e_ite ?_ ?_)
  · refine (pz_goes tq_212 4 (σ' := (18, [pzR 100, pzI x1, pzI x2], [pzI x2, pzR 128, pzI x1], M)) rfl).trans ?_
    refine (e_iald (n := 12) rfl rfl tq_212 rfl).trans (e_grd ?_)
    refine (pz_goes tq_212 4 (σ' := (4, [pzR 100, pzI (ia x1 (M 128 ((x2).toNat))), pzI (ia x2 (1))], [], M)) rfl).trans ?_
    rfl
  · refine (pz_goes tq_212 1 (σ' := (28, [pzR 100, pzI x1, pzI x2], [pzI x1], M)) rfl).trans ?_
    exact e_iret tq_212 rfl
/-! PeacockDeskModel.firstOn(II)I -/
set_option maxRecDepth 20000 in
theorem m_Mod_firstOn_eq (x1 : Int) (x2 : Int) (M : pz_M) : m_Mod_firstOn x1 x2 M = m_Mod_firstOn_5 x1 x2 (-1) 0 M := by
  show pzr 4 213 (0, [pzR 100, pzI x1, pzI x2, pzN, pzN], [], M) = _
  refine (pz_goes tq_213 4 (σ' := (5, [pzR 100, pzI x1, pzI x2, pzI (-1), pzI 0], [], M)) rfl).trans ?_
  rfl
set_option maxRecDepth 20000 in
theorem m_Mod_firstOn_5_eq (x1 : Int) (x2 : Int) (x3 : Int) (x4 : Int) (M : pz_M) : m_Mod_firstOn_5 x1 x2 x3 x4 M = if x4 < (M 100 44) then (bI (m_Mod_has x2 x4 M) fun r2 M1 => if r2 = 0 then (m_Mod_firstOn_5 x1 x2 x3 (ia x4 (1)) M1) else (if x3 = (-1 : Int) then (m_Mod_firstOn_5 x1 x2 x4 (ia x4 (1)) M1) else (grd (0 ≤ (ia (imu 6 x1) x4) ∧ (ia (imu 6 x1) x4) < 72) (grd (0 ≤ (ia (imu 6 x1) x3) ∧ (ia (imu 6 x1) x3) < 72) (if (M1 129 (((ia (imu 6 x1) x4)).toNat)) < (M1 129 (((ia (imu 6 x1) x3)).toNat)) then (m_Mod_firstOn_5 x1 x2 x4 (ia x4 (1)) M1) else (m_Mod_firstOn_5 x1 x2 x3 (ia x4 (1)) M1)))))) else (some (some (pzI x3), M)) := by
  show pzr 4 213 (5, [pzR 100, pzI x1, pzI x2, pzI x3, pzI x4], [], M) = _
  refine (pz_goes tq_213 3 (σ' := (11, [pzR 100, pzI x1, pzI x2, pzI x3, pzI x4], [pzI (M 100 44), pzI x4], M)) rfl).trans ?_
  refine (e_icmp_ge tq_213 rfl).trans (e_ite ?_ ?_)
  · refine (pz_goes tq_213 2 (σ' := (17, [pzR 100, pzI x1, pzI x2, pzI x3, pzI x4], [pzI x4, pzI x2], M)) rfl).trans ?_
    refine (e_callI (as := [pzI x2, pzI x4]) (rest := []) (d' := 3) tq_142 rfl rfl rfl rfl rfl tq_213 rfl).trans (e_bI rfl fun r2 M1 => ?_)
    refine (e_if_eq tq_213 rfl).trans (e_ite ?_ ?_)
    · refine (pz_goes tq_213 2 (σ' := (5, [pzR 100, pzI x1, pzI x2, pzI x3, pzI (ia x4 (1))], [], M1)) rfl).trans ?_
      rfl
    · refine (pz_goes tq_213 2 (σ' := (25, [pzR 100, pzI x1, pzI x2, pzI x3, pzI x4], [pzI (-1), pzI x3], M1)) rfl).trans ?_
      refine (e_icmp_eq tq_213 rfl).trans (e_ite ?_ ?_)
      · refine (pz_goes tq_213 4 (σ' := (5, [pzR 100, pzI x1, pzI x2, pzI x4, pzI (ia x4 (1))], [], M1)) rfl).trans ?_
        rfl
      · refine (pz_goes tq_213 7 (σ' := (39, [pzR 100, pzI x1, pzI x2, pzI x3, pzI x4], [pzI (ia (imu 6 x1) x4), pzR 129], M1)) rfl).trans ?_
        refine (e_iald (n := 72) rfl rfl tq_213 rfl).trans (e_grd ?_)
        refine (pz_goes tq_213 7 (σ' := (50, [pzR 100, pzI x1, pzI x2, pzI x3, pzI x4], [pzI (ia (imu 6 x1) x3), pzR 129, pzI (M1 129 (((ia (imu 6 x1) x4)).toNat))], M1)) rfl).trans ?_
        refine (e_iald (n := 72) rfl rfl tq_213 rfl).trans (e_grd ?_)
        refine (e_icmp_ge tq_213 rfl).trans (e_ite ?_ ?_)
        · refine (pz_goes tq_213 4 (σ' := (5, [pzR 100, pzI x1, pzI x2, pzI x4, pzI (ia x4 (1))], [], M1)) rfl).trans ?_
          rfl
        · refine (pz_goes tq_213 2 (σ' := (5, [pzR 100, pzI x1, pzI x2, pzI x3, pzI (ia x4 (1))], [], M1)) rfl).trans ?_
          rfl
  · refine (pz_goes tq_213 1 (σ' := (64, [pzR 100, pzI x1, pzI x2, pzI x3, pzI x4], [pzI x3], M)) rfl).trans ?_
    exact e_iret tq_213 rfl
/-! PeacockDeskModel.firstsOf(II)I -/
set_option maxRecDepth 20000 in
theorem m_Mod_firstsOf_eq (x1 : Int) (x2 : Int) (M : pz_M) : m_Mod_firstsOf x1 x2 M = m_Mod_firstsOf_5 x1 x2 0 0 M := by
  show pzr 5 214 (0, [pzR 100, pzI x1, pzI x2, pzN, pzN], [], M) = _
  refine (pz_goes tq_214 4 (σ' := (5, [pzR 100, pzI x1, pzI x2, pzI 0, pzI 0], [], M)) rfl).trans ?_
  rfl
set_option maxRecDepth 20000 in
theorem m_Mod_firstsOf_5_eq (x1 : Int) (x2 : Int) (x3 : Int) (x4 : Int) (M : pz_M) : m_Mod_firstsOf_5 x1 x2 x3 x4 M = if x4 < (M 100 37) then (bI (m_Mod_firstOn x4 x2 M) fun r2 M1 => if r2 = x1 then (grd (0 ≤ x4 ∧ x4 < 12) (m_Mod_firstsOf_5 x1 x2 (ia x3 (M1 128 ((x4).toNat))) (ia x4 (1)) M1)) else (m_Mod_firstsOf_5 x1 x2 x3 (ia x4 (1)) M1)) else (some (some (pzI x3), M)) := by
  show pzr 5 214 (5, [pzR 100, pzI x1, pzI x2, pzI x3, pzI x4], [], M) = _
  refine (pz_goes tq_214 3 (σ' := (11, [pzR 100, pzI x1, pzI x2, pzI x3, pzI x4], [pzI (M 100 37), pzI x4], M)) rfl).trans ?_
  refine (e_icmp_ge tq_214 rfl).trans (e_ite ?_ ?_)
  · refine (pz_goes tq_214 3 (σ' := (18, [pzR 100, pzI x1, pzI x2, pzI x3, pzI x4], [pzI x2, pzI x4, pzR 100], M)) rfl).trans ?_
    refine (e_callI (as := [pzR 100, pzI x4, pzI x2, pzN, pzN]) (rest := []) (d' := 4) tq_213 rfl rfl rfl rfl rfl tq_214 rfl).trans (e_bI rfl fun r2 M1 => ?_)
    refine (pz_goes tq_214 1 (σ' := (22, [pzR 100, pzI x1, pzI x2, pzI x3, pzI x4], [pzI x1, pzI r2], M1)) rfl).trans ?_
    refine (e_icmp_ne tq_214 rfl).trans (e_ite ?_ ?_)
    · refine (pz_goes tq_214 4 (σ' := (32, [pzR 100, pzI x1, pzI x2, pzI x3, pzI x4], [pzI x4, pzR 128, pzI x3], M1)) rfl).trans ?_
      refine (e_iald (n := 12) rfl rfl tq_214 rfl).trans (e_grd ?_)
      refine (pz_goes tq_214 4 (σ' := (5, [pzR 100, pzI x1, pzI x2, pzI (ia x3 (M1 128 ((x4).toNat))), pzI (ia x4 (1))], [], M1)) rfl).trans ?_
      rfl
    · refine (pz_goes tq_214 2 (σ' := (5, [pzR 100, pzI x1, pzI x2, pzI x3, pzI (ia x4 (1))], [], M1)) rfl).trans ?_
      rfl
  · refine (pz_goes tq_214 1 (σ' := (42, [pzR 100, pzI x1, pzI x2, pzI x3, pzI x4], [pzI x3], M)) rfl).trans ?_
    exact e_iret tq_214 rfl
/-! PeacockDeskModel.byFirsts()I -/
set_option maxRecDepth 20000 in
theorem m_Mod_byFirsts_eq (M : pz_M) : m_Mod_byFirsts M = m_Mod_byFirsts_13 (isb (ihl 1 (M 100 44)) 1) 0 1 M := by
  show pzr 6 215 (0, [pzR 100, pzN, pzN, pzN], [], M) = _
  refine (pz_goes tq_215 11 (σ' := (13, [pzR 100, pzI (isb (ihl 1 (M 100 44)) 1), pzI 0, pzI 1], [], M)) rfl).trans ?_
  rfl
set_option maxRecDepth 20000 in
theorem m_Mod_byFirsts_13_eq (x1 : Int) (x2 : Int) (x3 : Int) (M : pz_M) : m_Mod_byFirsts_13 x1 x2 x3 M = if x3 < (M 100 44) then (bI (m_Mod_firstsOf x3 x1 M) fun r2 M1 => bI (m_Mod_firstsOf x2 x1 M1) fun r4 M3 => if r4 < r2 then (m_Mod_byFirsts_13 x1 x3 (ia x3 (1)) M3) else (m_Mod_byFirsts_13 x1 x2 (ia x3 (1)) M3)) else (some (some (pzI x2), M)) := by
  show pzr 6 215 (13, [pzR 100, pzI x1, pzI x2, pzI x3], [], M) = _
  refine (pz_goes tq_215 3 (σ' := (18, [pzR 100, pzI x1, pzI x2, pzI x3], [pzI (M 100 44), pzI x3], M)) rfl).trans ?_
  refine (e_icmp_ge tq_215 rfl).trans (e_ite ?_ ?_)
  · refine (pz_goes tq_215 3 (σ' := (24, [pzR 100, pzI x1, pzI x2, pzI x3], [pzI x1, pzI x3, pzR 100], M)) rfl).trans ?_
    refine (e_callI (as := [pzR 100, pzI x3, pzI x1, pzN, pzN]) (rest := []) (d' := 5) tq_214 rfl rfl rfl rfl rfl tq_215 rfl).trans (e_bI rfl fun r2 M1 => ?_)
    refine (pz_goes tq_215 3 (σ' := (30, [pzR 100, pzI x1, pzI x2, pzI x3], [pzI x1, pzI x2, pzR 100, pzI r2], M1)) rfl).trans ?_
    refine (e_callI (as := [pzR 100, pzI x2, pzI x1, pzN, pzN]) (rest := [pzI r2]) (d' := 5) tq_214 rfl rfl rfl rfl rfl tq_215 rfl).trans (e_bI rfl fun r4 M3 => ?_)
    refine (e_icmp_le tq_215 rfl).trans (e_ite ?_ ?_)
    · refine (pz_goes tq_215 4 (σ' := (13, [pzR 100, pzI x1, pzI x3, pzI (ia x3 (1))], [], M3)) rfl).trans ?_
      rfl
    · refine (pz_goes tq_215 2 (σ' := (13, [pzR 100, pzI x1, pzI x2, pzI (ia x3 (1))], [], M3)) rfl).trans ?_
      rfl
  · refine (pz_goes tq_215 1 (σ' := (45, [pzR 100, pzI x1, pzI x2, pzI x3], [pzI x2], M)) rfl).trans ?_
    exact e_iret tq_215 rfl
/-! PeacockDeskModel.pointsOf(I)I -/
set_option maxRecDepth 20000 in
theorem m_Mod_pointsOf_eq (x1 : Int) (M : pz_M) : m_Mod_pointsOf x1 M = m_Mod_pointsOf_4 x1 0 0 M := by
  show pzr 3 216 (0, [pzR 100, pzI x1, pzN, pzN], [], M) = _
  refine (pz_goes tq_216 4 (σ' := (4, [pzR 100, pzI x1, pzI 0, pzI 0], [], M)) rfl).trans ?_
  rfl
set_option maxRecDepth 20000 in
theorem m_Mod_pointsOf_4_eq (x1 : Int) (x2 : Int) (x3 : Int) (M : pz_M) : m_Mod_pointsOf_4 x1 x2 x3 M = if x3 < (M 100 37) then (grd (0 ≤ x3 ∧ x3 < 12) (grd (0 ≤ (ia (imu 6 x3) x1) ∧ (ia (imu 6 x3) x1) < 72) (m_Mod_pointsOf_4 x1 (ia x2 (imu (M 128 ((x3).toNat)) (isb (isb (M 100 44) 1) (M 129 (((ia (imu 6 x3) x1)).toNat))))) (ia x3 (1)) M))) else (some (some (pzI x2), M)) := by
  show pzr 3 216 (4, [pzR 100, pzI x1, pzI x2, pzI x3], [], M) = _
  refine (pz_goes tq_216 3 (σ' := (9, [pzR 100, pzI x1, pzI x2, pzI x3], [pzI (M 100 37), pzI x3], M)) rfl).trans ?_
  refine (e_icmp_ge tq_216 rfl).trans (e_ite ?_ ?_)
  · refine (pz_goes tq_216 4 (σ' := (18, [pzR 100, pzI x1, pzI x2, pzI x3], [pzI x3, pzR 128, pzI x2], M)) rfl).trans ?_
    refine (e_iald (n := 12) rfl rfl tq_216 rfl).trans (e_grd ?_)
    refine (pz_goes tq_216 11 (σ' := (35, [pzR 100, pzI x1, pzI x2, pzI x3], [pzI (ia (imu 6 x3) x1), pzR 129, pzI (isb (M 100 44) 1), pzI (M 128 ((x3).toNat)), pzI x2], M)) rfl).trans ?_
    refine (e_iald (n := 72) rfl rfl tq_216 rfl).trans (e_grd ?_)
    refine (pz_goes tq_216 6 (σ' := (4, [pzR 100, pzI x1, pzI (ia x2 (imu (M 128 ((x3).toNat)) (isb (isb (M 100 44) 1) (M 129 (((ia (imu 6 x3) x1)).toNat))))), pzI (ia x3 (1))], [], M)) rfl).trans ?_
    rfl
  · refine (pz_goes tq_216 1 (σ' := (47, [pzR 100, pzI x1, pzI x2, pzI x3], [pzI x2], M)) rfl).trans ?_
    exact e_iret tq_216 rfl
/-! PeacockDeskModel.byPoints()I -/
set_option maxRecDepth 20000 in
theorem m_Mod_byPoints_eq (M : pz_M) : m_Mod_byPoints M = m_Mod_byPoints_4 0 1 M := by
  show pzr 4 217 (0, [pzR 100, pzN, pzN], [], M) = _
  refine (pz_goes tq_217 4 (σ' := (4, [pzR 100, pzI 0, pzI 1], [], M)) rfl).trans ?_
  rfl
set_option maxRecDepth 20000 in
theorem m_Mod_byPoints_4_eq (x1 : Int) (x2 : Int) (M : pz_M) : m_Mod_byPoints_4 x1 x2 M = if x2 < (M 100 44) then (bI (m_Mod_pointsOf x2 M) fun r2 M1 => bI (m_Mod_pointsOf x1 M1) fun r4 M3 => if r4 < r2 then (m_Mod_byPoints_4 x2 (ia x2 (1)) M3) else (m_Mod_byPoints_4 x1 (ia x2 (1)) M3)) else (some (some (pzI x1), M)) := by
  show pzr 4 217 (4, [pzR 100, pzI x1, pzI x2], [], M) = _
  refine (pz_goes tq_217 3 (σ' := (9, [pzR 100, pzI x1, pzI x2], [pzI (M 100 44), pzI x2], M)) rfl).trans ?_
  refine (e_icmp_ge tq_217 rfl).trans (e_ite ?_ ?_)
  · refine (pz_goes tq_217 2 (σ' := (14, [pzR 100, pzI x1, pzI x2], [pzI x2, pzR 100], M)) rfl).trans ?_
    refine (e_callI (as := [pzR 100, pzI x2, pzN, pzN]) (rest := []) (d' := 3) tq_216 rfl rfl rfl rfl rfl tq_217 rfl).trans (e_bI rfl fun r2 M1 => ?_)
    refine (pz_goes tq_217 2 (σ' := (19, [pzR 100, pzI x1, pzI x2], [pzI x1, pzR 100, pzI r2], M1)) rfl).trans ?_
    refine (e_callI (as := [pzR 100, pzI x1, pzN, pzN]) (rest := [pzI r2]) (d' := 3) tq_216 rfl rfl rfl rfl rfl tq_217 rfl).trans (e_bI rfl fun r4 M3 => ?_)
    refine (e_icmp_le tq_217 rfl).trans (e_ite ?_ ?_)
    · refine (pz_goes tq_217 4 (σ' := (4, [pzR 100, pzI x2, pzI (ia x2 (1))], [], M3)) rfl).trans ?_
      rfl
    · refine (pz_goes tq_217 2 (σ' := (4, [pzR 100, pzI x1, pzI (ia x2 (1))], [], M3)) rfl).trans ?_
      rfl
  · refine (pz_goes tq_217 1 (σ' := (34, [pzR 100, pzI x1, pzI x2], [pzI x1], M)) rfl).trans ?_
    exact e_iret tq_217 rfl
/-! PeacockDeskModel.isAhead(II)Z -/
set_option maxRecDepth 20000 in
theorem m_Mod_isAhead_eq (x1 : Int) (x2 : Int) (M : pz_M) : m_Mod_isAhead x1 x2 M = m_Mod_isAhead_5 x1 x2 0 0 M := by
  show pzr 4 218 (0, [pzR 100, pzI x1, pzI x2, pzN, pzN], [], M) = _
  refine (pz_goes tq_218 4 (σ' := (5, [pzR 100, pzI x1, pzI x2, pzI 0, pzI 0], [], M)) rfl).trans ?_
  rfl
set_option maxRecDepth 20000 in
theorem m_Mod_isAhead_5_eq (x1 : Int) (x2 : Int) (x3 : Int) (x4 : Int) (M : pz_M) : m_Mod_isAhead_5 x1 x2 x3 x4 M = if x4 < (M 100 37) then (grd (0 ≤ (ia (imu 6 x4) x1) ∧ (ia (imu 6 x4) x1) < 72) (grd (0 ≤ (ia (imu 6 x4) x2) ∧ (ia (imu 6 x4) x2) < 72) (if (M 129 (((ia (imu 6 x4) x1)).toNat)) < (M 129 (((ia (imu 6 x4) x2)).toNat)) then (grd (0 ≤ x4 ∧ x4 < 12) (m_Mod_isAhead_5 x1 x2 (ia x3 (M 128 ((x4).toNat))) (ia x4 (1)) M)) else (m_Mod_isAhead_5 x1 x2 x3 (ia x4 (1)) M)))) else (bI (m_Mod_ballotMany M) fun r2 M1 => if r2 < (imu 2 x3) then some (some (pzI 1), M1) else (some (some (pzI 0), M1))) := by
  show pzr 4 218 (5, [pzR 100, pzI x1, pzI x2, pzI x3, pzI x4], [], M) = _
  refine (pz_goes tq_218 3 (σ' := (11, [pzR 100, pzI x1, pzI x2, pzI x3, pzI x4], [pzI (M 100 37), pzI x4], M)) rfl).trans ?_
  refine (e_icmp_ge tq_218 rfl).trans (e_ite ?_ ?_)
  · refine (pz_goes tq_218 7 (σ' := (25, [pzR 100, pzI x1, pzI x2, pzI x3, pzI x4], [pzI (ia (imu 6 x4) x1), pzR 129], M)) rfl).trans ?_
    refine (e_iald (n := 72) rfl rfl tq_218 rfl).trans (e_grd ?_)
    refine (pz_goes tq_218 7 (σ' := (37, [pzR 100, pzI x1, pzI x2, pzI x3, pzI x4], [pzI (ia (imu 6 x4) x2), pzR 129, pzI (M 129 (((ia (imu 6 x4) x1)).toNat))], M)) rfl).trans ?_
    refine (e_iald (n := 72) rfl rfl tq_218 rfl).trans (e_grd ?_)
    refine (e_icmp_ge tq_218 rfl).trans (e_ite ?_ ?_)
    · refine (pz_goes tq_218 4 (σ' := (48, [pzR 100, pzI x1, pzI x2, pzI x3, pzI x4], [pzI x4, pzR 128, pzI x3], M)) rfl).trans ?_
      refine (e_iald (n := 12) rfl rfl tq_218 rfl).trans (e_grd ?_)
      refine (pz_goes tq_218 4 (σ' := (5, [pzR 100, pzI x1, pzI x2, pzI (ia x3 (M 128 ((x4).toNat))), pzI (ia x4 (1))], [], M)) rfl).trans ?_
      rfl
    · refine (pz_goes tq_218 2 (σ' := (5, [pzR 100, pzI x1, pzI x2, pzI x3, pzI (ia x4 (1))], [], M)) rfl).trans ?_
      rfl
  · refine (pz_goes tq_218 4 (σ' := (61, [pzR 100, pzI x1, pzI x2, pzI x3, pzI x4], [pzR 100, pzI (imu 2 x3)], M)) rfl).trans ?_
    refine (e_callI (as := [pzR 100, pzN, pzN]) (rest := [pzI (imu 2 x3)]) (d' := 3) tq_212 rfl rfl rfl rfl rfl tq_218 rfl).trans (e_bI rfl fun r2 M1 => ?_)
    refine (e_icmp_le tq_218 rfl).trans (e_ite ?_ ?_)
    · refine (pz_goes tq_218 2 (σ' := (72, [pzR 100, pzI x1, pzI x2, pzI x3, pzI x4], [pzI 1], M1)) rfl).trans ?_
      exact (e_zret tq_218 rfl).trans (grd_pos (by decide))
    · refine (pz_goes tq_218 1 (σ' := (72, [pzR 100, pzI x1, pzI x2, pzI x3, pzI x4], [pzI 0], M1)) rfl).trans ?_
      exact (e_zret tq_218 rfl).trans (grd_pos (by decide))
/-! PeacockDeskModel.byTwos()I -/
set_option maxRecDepth 20000 in
theorem m_Mod_byTwos_eq (M : pz_M) : m_Mod_byTwos M = m_Mod_byTwos_2 0 pzN pzN M := by
  show pzr 5 219 (0, [pzR 100, pzN, pzN, pzN], [], M) = _
  refine (pz_goes tq_219 2 (σ' := (2, [pzR 100, pzI 0, pzN, pzN], [], M)) rfl).trans ?_
  rfl
set_option maxRecDepth 20000 in
theorem m_Mod_byTwos_2_eq (x1 : Int) (w2 : pz_V) (w3 : pz_V) (M : pz_M) : m_Mod_byTwos_2 x1 w2 w3 M = if x1 < (M 100 44) then (m_Mod_byTwos_14 x1 1 0 M) else (some (some (pzI (-2)), M)) := by
  show pzr 5 219 (2, [pzR 100, pzI x1, w2, w3], [], M) = _
  refine (pz_goes tq_219 3 (σ' := (7, [pzR 100, pzI x1, w2, w3], [pzI (M 100 44), pzI x1], M)) rfl).trans ?_
  refine (e_icmp_ge tq_219 rfl).trans (e_ite ?_ ?_)
  · refine (pz_goes tq_219 4 (σ' := (14, [pzR 100, pzI x1, pzI 1, pzI 0], [], M)) rfl).trans ?_
    rfl
  · refine (pz_goes tq_219 1 (σ' := (58, [pzR 100, pzI x1, w2, w3], [pzI (-2)], M)) rfl).trans ?_
    exact e_iret tq_219 rfl
set_option maxRecDepth 20000 in
theorem m_Mod_byTwos_14_eq (x1 : Int) (x2 : Int) (x3 : Int) (M : pz_M) : m_Mod_byTwos_14 x1 x2 x3 M = if x3 < (M 100 44) then (if x3 = x1 then (m_Mod_byTwos_14 x1 x2 (ia x3 (1)) M) else (bI (m_Mod_isAhead x1 x3 M) fun r2 M1 => if r2 = 0 then (m_Mod_byTwos_14 x1 0 (ia x3 (1)) M1) else (m_Mod_byTwos_14 x1 x2 (ia x3 (1)) M1))) else (if x2 = 0 then (m_Mod_byTwos_2 (ia x1 (1)) (pzI x2) (pzI x3) M) else (some (some (pzI x1), M))) := by
  show pzr 5 219 (14, [pzR 100, pzI x1, pzI x2, pzI x3], [], M) = _
  refine (pz_goes tq_219 3 (σ' := (19, [pzR 100, pzI x1, pzI x2, pzI x3], [pzI (M 100 44), pzI x3], M)) rfl).trans ?_
  refine (e_icmp_ge tq_219 rfl).trans (e_ite ?_ ?_)
  · refine (pz_goes tq_219 2 (σ' := (24, [pzR 100, pzI x1, pzI x2, pzI x3], [pzI x1, pzI x3], M)) rfl).trans ?_
    refine (e_icmp_eq tq_219 rfl).trans (e_ite ?_ ?_)
    · refine (pz_goes tq_219 2 (σ' := (14, [pzR 100, pzI x1, pzI x2, pzI (ia x3 (1))], [], M)) rfl).trans ?_
      rfl
    · refine (pz_goes tq_219 3 (σ' := (30, [pzR 100, pzI x1, pzI x2, pzI x3], [pzI x3, pzI x1, pzR 100], M)) rfl).trans ?_
      refine (e_callI (as := [pzR 100, pzI x1, pzI x3, pzN, pzN]) (rest := []) (d' := 4) tq_218 rfl rfl rfl rfl rfl tq_219 rfl).trans (e_bI rfl fun r2 M1 => ?_)
      refine (e_if_ne tq_219 rfl).trans (e_ite ?_ ?_)
      · refine (pz_goes tq_219 4 (σ' := (14, [pzR 100, pzI x1, pzI 0, pzI (ia x3 (1))], [], M1)) rfl).trans ?_
        rfl
      · refine (pz_goes tq_219 2 (σ' := (14, [pzR 100, pzI x1, pzI x2, pzI (ia x3 (1))], [], M1)) rfl).trans ?_
        rfl
  · refine (pz_goes tq_219 1 (σ' := (45, [pzR 100, pzI x1, pzI x2, pzI x3], [pzI x2], M)) rfl).trans ?_
    refine (e_if_eq tq_219 rfl).trans (e_ite ?_ ?_)
    · refine (pz_goes tq_219 2 (σ' := (2, [pzR 100, pzI (ia x1 (1)), pzI x2, pzI x3], [], M)) rfl).trans ?_
      rfl
    · refine (pz_goes tq_219 1 (σ' := (49, [pzR 100, pzI x1, pzI x2, pzI x3], [pzI x1], M)) rfl).trans ?_
      exact e_iret tq_219 rfl
/-! PeacockDeskModel.byRounds()I -/
set_option maxRecDepth 20000 in
theorem m_Mod_byRounds_eq (M : pz_M) : m_Mod_byRounds M = m_Mod_byRounds_9 (isb (ihl 1 (M 100 44)) 1) pzN pzN M := by
  show pzr 6 220 (0, [pzR 100, pzN, pzN, pzN], [], M) = _
  refine (pz_goes tq_220 7 (σ' := (9, [pzR 100, pzI (isb (ihl 1 (M 100 44)) 1), pzN, pzN], [], M)) rfl).trans ?_
  rfl
set_option maxRecDepth 20000 in
theorem m_Mod_byRounds_9_eq (x1 : Int) (w2 : pz_V) (w3 : pz_V) (M : pz_M) : m_Mod_byRounds_9 x1 w2 w3 M = bI (m_Mod_bits x1 M) fun r2 M1 => if (1 : Int) < r2 then (m_Mod_byRounds_21 x1 (-1) 0 M1) else (bI (m_Mod_firstOn 0 x1 M1) fun r4 M3 => some (some (pzI r4), M3)) := by
  show pzr 6 220 (9, [pzR 100, pzI x1, w2, w3], [], M) = _
  refine (pz_goes tq_220 1 (σ' := (10, [pzR 100, pzI x1, w2, w3], [pzI x1], M)) rfl).trans ?_
  refine (e_callI (as := [pzI x1, pzN, pzN]) (rest := []) (d' := 3) tq_143 rfl rfl rfl rfl rfl tq_220 rfl).trans (e_bI rfl fun r2 M1 => ?_)
  refine (pz_goes tq_220 1 (σ' := (14, [pzR 100, pzI x1, w2, w3], [pzI 1, pzI r2], M1)) rfl).trans ?_
  refine (e_icmp_le tq_220 rfl).trans (e_ite ?_ ?_)
  · refine (pz_goes tq_220 4 (σ' := (21, [pzR 100, pzI x1, pzI (-1), pzI 0], [], M1)) rfl).trans ?_
    rfl
  · refine (pz_goes tq_220 3 (σ' := (79, [pzR 100, pzI x1, w2, w3], [pzI x1, pzI 0, pzR 100], M1)) rfl).trans ?_
    refine (e_callI (as := [pzR 100, pzI 0, pzI x1, pzN, pzN]) (rest := []) (d' := 4) tq_213 rfl rfl rfl rfl rfl tq_220 rfl).trans (e_bI rfl fun r4 M3 => ?_)
    exact e_iret tq_220 rfl
set_option maxRecDepth 20000 in
theorem m_Mod_byRounds_21_eq (x1 : Int) (x2 : Int) (x3 : Int) (M : pz_M) : m_Mod_byRounds_21 x1 x2 x3 M = if x3 < (M 100 44) then (bI (m_Mod_has x1 x3 M) fun r2 M1 => if r2 = 0 then (m_Mod_byRounds_21 x1 x2 (ia x3 (1)) M1) else (if x2 = (-1 : Int) then (m_Mod_byRounds_21 x1 x3 (ia x3 (1)) M1) else (bI (m_Mod_firstsOf x3 x1 M1) fun r4 M3 => bI (m_Mod_firstsOf x2 x1 M3) fun r6 M5 => if r6 < r4 then (m_Mod_byRounds_21 x1 x2 (ia x3 (1)) M5) else (m_Mod_byRounds_21 x1 x3 (ia x3 (1)) M5)))) else (m_Mod_byRounds_9 (ian x1 (ixo (ihl 1 x2) (-1))) (pzI x2) (pzI x3) M) := by
  show pzr 6 220 (21, [pzR 100, pzI x1, pzI x2, pzI x3], [], M) = _
  refine (pz_goes tq_220 3 (σ' := (26, [pzR 100, pzI x1, pzI x2, pzI x3], [pzI (M 100 44), pzI x3], M)) rfl).trans ?_
  refine (e_icmp_ge tq_220 rfl).trans (e_ite ?_ ?_)
  · refine (pz_goes tq_220 2 (σ' := (31, [pzR 100, pzI x1, pzI x2, pzI x3], [pzI x3, pzI x1], M)) rfl).trans ?_
    refine (e_callI (as := [pzI x1, pzI x3]) (rest := []) (d' := 3) tq_142 rfl rfl rfl rfl rfl tq_220 rfl).trans (e_bI rfl fun r2 M1 => ?_)
    refine (e_if_eq tq_220 rfl).trans (e_ite ?_ ?_)
    · refine (pz_goes tq_220 2 (σ' := (21, [pzR 100, pzI x1, pzI x2, pzI (ia x3 (1))], [], M1)) rfl).trans ?_
      rfl
    · refine (pz_goes tq_220 2 (σ' := (39, [pzR 100, pzI x1, pzI x2, pzI x3], [pzI (-1), pzI x2], M1)) rfl).trans ?_
      refine (e_icmp_eq tq_220 rfl).trans (e_ite ?_ ?_)
      · refine (pz_goes tq_220 4 (σ' := (21, [pzR 100, pzI x1, pzI x3, pzI (ia x3 (1))], [], M1)) rfl).trans ?_
        rfl
      · refine (pz_goes tq_220 3 (σ' := (45, [pzR 100, pzI x1, pzI x2, pzI x3], [pzI x1, pzI x3, pzR 100], M1)) rfl).trans ?_
        refine (e_callI (as := [pzR 100, pzI x3, pzI x1, pzN, pzN]) (rest := []) (d' := 5) tq_214 rfl rfl rfl rfl rfl tq_220 rfl).trans (e_bI rfl fun r4 M3 => ?_)
        refine (pz_goes tq_220 3 (σ' := (51, [pzR 100, pzI x1, pzI x2, pzI x3], [pzI x1, pzI x2, pzR 100, pzI r4], M3)) rfl).trans ?_
        refine (e_callI (as := [pzR 100, pzI x2, pzI x1, pzN, pzN]) (rest := [pzI r4]) (d' := 5) tq_214 rfl rfl rfl rfl rfl tq_220 rfl).trans (e_bI rfl fun r6 M5 => ?_)
        refine (e_icmp_gt tq_220 rfl).trans (e_ite ?_ ?_)
        · refine (pz_goes tq_220 2 (σ' := (21, [pzR 100, pzI x1, pzI x2, pzI (ia x3 (1))], [], M5)) rfl).trans ?_
          rfl
        · refine (pz_goes tq_220 4 (σ' := (21, [pzR 100, pzI x1, pzI x3, pzI (ia x3 (1))], [], M5)) rfl).trans ?_
          rfl
  · refine (pz_goes tq_220 9 (σ' := (9, [pzR 100, pzI (ian x1 (ixo (ihl 1 x2) (-1))), pzI x2, pzI x3], [], M)) rfl).trans ?_
    rfl
/-! PeacockDeskModel.ballots(III)I -/
set_option maxRecDepth 20000 in
theorem m_Mod_ballots_eq (x1 : Int) (x2 : Int) (x3 : Int) (M : pz_M) : m_Mod_ballots x1 x2 x3 M = bI (m_Mod_in x1 2 6 M) fun r2 M1 => if r2 = 0 then some (some (pzI (-1)), M1) else (bI (m_Mod_in x2 1 120 M1) fun r4 M3 => if r4 = 0 then some (some (pzI (-1)), M3) else (bI (m_Mod_in x3 0 (isb x1 1) M3) fun r6 M5 => if r6 = 0 then (bI (m_Mod_in x3 100 104 M5) fun r8 M7 => if r8 = 0 then some (some (pzI (-1)), M7) else (m_Mod_ballots_42 x1 x2 x3 pzN M7)) else (m_Mod_ballots_42 x1 x2 x3 pzN M5))) := by
  show pzr 8 221 (0, [pzR 100, pzI x1, pzI x2, pzI x3, pzN], [], M) = _
  refine (pz_goes tq_221 3 (σ' := (4, [pzR 100, pzI x1, pzI x2, pzI x3, pzN], [pzI 6, pzI 2, pzI x1], M)) rfl).trans ?_
  refine (e_callI (as := [pzI x1, pzI 2, pzI 6]) (rest := []) (d' := 3) tq_138 rfl rfl rfl rfl rfl tq_221 rfl).trans (e_bI rfl fun r2 M1 => ?_)
  refine (e_if_eq tq_221 rfl).trans (e_ite ?_ ?_)
  · refine (pz_goes tq_221 1 (σ' := (51, [pzR 100, pzI x1, pzI x2, pzI x3, pzN], [pzI (-1)], M1)) rfl).trans ?_
    exact e_iret tq_221 rfl
  · refine (pz_goes tq_221 3 (σ' := (14, [pzR 100, pzI x1, pzI x2, pzI x3, pzN], [pzI 120, pzI 1, pzI x2], M1)) rfl).trans ?_
    refine (e_callI (as := [pzI x2, pzI 1, pzI 120]) (rest := []) (d' := 3) tq_138 rfl rfl rfl rfl rfl tq_221 rfl).trans (e_bI rfl fun r4 M3 => ?_)
    refine (e_if_eq tq_221 rfl).trans (e_ite ?_ ?_)
    · refine (pz_goes tq_221 1 (σ' := (51, [pzR 100, pzI x1, pzI x2, pzI x3, pzN], [pzI (-1)], M3)) rfl).trans ?_
      exact e_iret tq_221 rfl
    · refine (pz_goes tq_221 5 (σ' := (25, [pzR 100, pzI x1, pzI x2, pzI x3, pzN], [pzI (isb x1 1), pzI 0, pzI x3], M3)) rfl).trans ?_
      refine (e_callI (as := [pzI x3, pzI 0, pzI (isb x1 1)]) (rest := []) (d' := 3) tq_138 rfl rfl rfl rfl rfl tq_221 rfl).trans (e_bI rfl fun r6 M5 => ?_)
      refine (e_if_ne tq_221 rfl).trans (e_ite ?_ ?_)
      · refine (pz_goes tq_221 3 (σ' := (36, [pzR 100, pzI x1, pzI x2, pzI x3, pzN], [pzI 104, pzI 100, pzI x3], M5)) rfl).trans ?_
        refine (e_callI (as := [pzI x3, pzI 100, pzI 104]) (rest := []) (d' := 3) tq_138 rfl rfl rfl rfl rfl tq_221 rfl).trans (e_bI rfl fun r8 M7 => ?_)
        refine (e_if_eq tq_221 rfl).trans (e_ite ?_ ?_)
        · refine (pz_goes tq_221 1 (σ' := (51, [pzR 100, pzI x1, pzI x2, pzI x3, pzN], [pzI (-1)], M7)) rfl).trans ?_
          exact e_iret tq_221 rfl
        · rfl
      · rfl
set_option maxRecDepth 20000 in
theorem m_Mod_ballots_42_eq (x1 : Int) (x2 : Int) (x3 : Int) (w4 : pz_V) (M : pz_M) : m_Mod_ballots_42 x1 x2 x3 w4 M = if (M 100 8) < x2 then some (some (pzI (-1)), M) else (bV (m_Mod_beginsText x2 M) fun M1 => bM (pz_wr M1 100 44 x1) fun M2 => bM (pz_wr M2 100 37 0) fun M3 => bI (m_Mod_readsBallot M3) fun r5 M4 => m_Mod_ballots_73 (pzI x1) (pzI x2) x3 r5 M4) := by
  show pzr 8 221 (42, [pzR 100, pzI x1, pzI x2, pzI x3, w4], [], M) = _
  refine (pz_goes tq_221 3 (σ' := (47, [pzR 100, pzI x1, pzI x2, pzI x3, w4], [pzI (M 100 8), pzI x2], M)) rfl).trans ?_
  refine (e_icmp_le tq_221 rfl).trans (e_ite ?_ ?_)
  · refine (pz_goes tq_221 1 (σ' := (51, [pzR 100, pzI x1, pzI x2, pzI x3, w4], [pzI (-1)], M)) rfl).trans ?_
    exact e_iret tq_221 rfl
  · refine (pz_goes tq_221 2 (σ' := (54, [pzR 100, pzI x1, pzI x2, pzI x3, w4], [pzI x2, pzR 100], M)) rfl).trans ?_
    refine (e_callV (as := [pzR 100, pzI x2]) (rest := []) (d' := 3) tq_175 rfl rfl rfl rfl rfl tq_221 rfl).trans (e_bV rfl fun M1 => ?_)
    refine (pz_goes tq_221 2 (σ' := (59, [pzR 100, pzI x1, pzI x2, pzI x3, w4], [pzI x1, pzR 100], M1)) rfl).trans ?_
    refine (e_putI rfl tq_221 rfl).trans ?_
    refine e_bM (f := fun M2 => pzr 8 221 (62, [pzR 100, pzI x1, pzI x2, pzI x3, w4], [], M2)) (fun M2 => ?_)
    refine (pz_goes tq_221 2 (σ' := (64, [pzR 100, pzI x1, pzI x2, pzI x3, w4], [pzI 0, pzR 100], M2)) rfl).trans ?_
    refine (e_putI rfl tq_221 rfl).trans ?_
    refine e_bM (f := fun M3 => pzr 8 221 (67, [pzR 100, pzI x1, pzI x2, pzI x3, w4], [], M3)) (fun M3 => ?_)
    refine (pz_goes tq_221 1 (σ' := (68, [pzR 100, pzI x1, pzI x2, pzI x3, w4], [pzR 100], M3)) rfl).trans ?_
    refine (e_callI (as := [pzR 100, pzN, pzN, pzN, pzN]) (rest := []) (d' := 7) tq_211 rfl rfl rfl rfl rfl tq_221 rfl).trans (e_bI rfl fun r5 M4 => ?_)
    refine (pz_goes tq_221 1 (σ' := (73, [pzR 100, pzI x1, pzI x2, pzI x3, pzI r5], [], M4)) rfl).trans ?_
    rfl
set_option maxRecDepth 20000 in
theorem m_Mod_ballots_73_eq (w1 : pz_V) (w2 : pz_V) (x3 : Int) (x4 : Int) (M : pz_M) : m_Mod_ballots_73 w1 w2 x3 x4 M = if x4 = 0 then (m_Mod_ballots_115 w1 w2 x3 x4 M) else (if (M 100 9) < (M 100 10) then (bI (m_Mod_takes 59 M) fun r2 M1 => if r2 = 0 then (m_Mod_ballots_73 w1 w2 x3 0 M1) else (bI (m_Mod_readsBallot M1) fun r4 M3 => if r4 = 0 then (m_Mod_ballots_73 w1 w2 x3 0 M3) else (m_Mod_ballots_73 w1 w2 x3 1 M3))) else (m_Mod_ballots_115 w1 w2 x3 x4 M)) := by
  show pzr 8 221 (73, [pzR 100, w1, w2, pzI x3, pzI x4], [], M) = _
  refine (pz_goes tq_221 1 (σ' := (75, [pzR 100, w1, w2, pzI x3, pzI x4], [pzI x4], M)) rfl).trans ?_
  refine (e_if_eq tq_221 rfl).trans (e_ite ?_ ?_)
  · rfl
  · refine (pz_goes tq_221 4 (σ' := (86, [pzR 100, w1, w2, pzI x3, pzI x4], [pzI (M 100 10), pzI (M 100 9)], M)) rfl).trans ?_
    refine (e_icmp_ge tq_221 rfl).trans (e_ite ?_ ?_)
    · refine (pz_goes tq_221 2 (σ' := (92, [pzR 100, w1, w2, pzI x3, pzI x4], [pzI 59, pzR 100], M)) rfl).trans ?_
      refine (e_callI (as := [pzR 100, pzI 59]) (rest := []) (d' := 4) tq_158 rfl rfl rfl rfl rfl tq_221 rfl).trans (e_bI rfl fun r2 M1 => ?_)
      refine (e_if_eq tq_221 rfl).trans (e_ite ?_ ?_)
      · refine (pz_goes tq_221 3 (σ' := (73, [pzR 100, w1, w2, pzI x3, pzI 0], [], M1)) rfl).trans ?_
        rfl
      · refine (pz_goes tq_221 1 (σ' := (99, [pzR 100, w1, w2, pzI x3, pzI x4], [pzR 100], M1)) rfl).trans ?_
        refine (e_callI (as := [pzR 100, pzN, pzN, pzN, pzN]) (rest := []) (d' := 7) tq_211 rfl rfl rfl rfl rfl tq_221 rfl).trans (e_bI rfl fun r4 M3 => ?_)
        refine (e_if_eq tq_221 rfl).trans (e_ite ?_ ?_)
        · refine (pz_goes tq_221 3 (σ' := (73, [pzR 100, w1, w2, pzI x3, pzI 0], [], M3)) rfl).trans ?_
          rfl
        · refine (pz_goes tq_221 4 (σ' := (73, [pzR 100, w1, w2, pzI x3, pzI 1], [], M3)) rfl).trans ?_
          rfl
    · rfl
set_option maxRecDepth 20000 in
theorem m_Mod_ballots_115_eq (w1 : pz_V) (w2 : pz_V) (x3 : Int) (x4 : Int) (M : pz_M) : m_Mod_ballots_115 w1 w2 x3 x4 M = bM (pz_wr M 100 8 0) fun M1 => if x4 = 0 then some (some (pzI (M1 100 11)), M1) else (if x3 = 100 then (bI (m_Mod_ballotMany M1) fun r3 M2 => some (some (pzI r3), M2)) else (if x3 = 101 then (bI (m_Mod_byFirsts M1) fun r5 M4 => some (some (pzI r5), M4)) else (if x3 = 102 then (bI (m_Mod_byPoints M1) fun r7 M6 => some (some (pzI r7), M6)) else (if x3 = 103 then (bI (m_Mod_byTwos M1) fun r9 M8 => some (some (pzI r9), M8)) else (if x3 = 104 then (bI (m_Mod_byRounds M1) fun r11 M10 => some (some (pzI r11), M10)) else (bI (m_Mod_pointsOf x3 M1) fun r13 M12 => some (some (pzI r13), M12))))))) := by
  show pzr 8 221 (115, [pzR 100, w1, w2, pzI x3, pzI x4], [], M) = _
  refine (pz_goes tq_221 2 (σ' := (117, [pzR 100, w1, w2, pzI x3, pzI x4], [pzI 0, pzR 100], M)) rfl).trans ?_
  refine (e_putI rfl tq_221 rfl).trans ?_
  refine e_bM (f := fun M1 => pzr 8 221 (120, [pzR 100, w1, w2, pzI x3, pzI x4], [], M1)) (fun M1 => ?_)
  refine (pz_goes tq_221 1 (σ' := (122, [pzR 100, w1, w2, pzI x3, pzI x4], [pzI x4], M1)) rfl).trans ?_
  refine (e_if_ne tq_221 rfl).trans (e_ite ?_ ?_)
  · refine (pz_goes tq_221 2 (σ' := (129, [pzR 100, w1, w2, pzI x3, pzI x4], [pzI (M1 100 11)], M1)) rfl).trans ?_
    exact e_iret tq_221 rfl
  · refine (pz_goes tq_221 1 (σ' := (131, [pzR 100, w1, w2, pzI x3, pzI x4], [pzI x3], M1)) rfl).trans ?_
    refine (e_sw tq_221 rfl).trans ?_
    refine e_sel.trans (e_ite ?_ ?_)
    · refine (pz_goes tq_221 1 (σ' := (165, [pzR 100, w1, w2, pzI x3, pzI x4], [pzR 100], M1)) rfl).trans ?_
      refine (e_callI (as := [pzR 100, pzN, pzN]) (rest := []) (d' := 3) tq_212 rfl rfl rfl rfl rfl tq_221 rfl).trans (e_bI rfl fun r3 M2 => ?_)
      exact e_iret tq_221 rfl
    refine e_sel.trans (e_ite ?_ ?_)
    · refine (pz_goes tq_221 1 (σ' := (170, [pzR 100, w1, w2, pzI x3, pzI x4], [pzR 100], M1)) rfl).trans ?_
      refine (e_callI (as := [pzR 100, pzN, pzN, pzN]) (rest := []) (d' := 6) tq_215 rfl rfl rfl rfl rfl tq_221 rfl).trans (e_bI rfl fun r5 M4 => ?_)
      exact e_iret tq_221 rfl
    refine e_sel.trans (e_ite ?_ ?_)
    · refine (pz_goes tq_221 1 (σ' := (175, [pzR 100, w1, w2, pzI x3, pzI x4], [pzR 100], M1)) rfl).trans ?_
      refine (e_callI (as := [pzR 100, pzN, pzN]) (rest := []) (d' := 4) tq_217 rfl rfl rfl rfl rfl tq_221 rfl).trans (e_bI rfl fun r7 M6 => ?_)
      exact e_iret tq_221 rfl
    refine e_sel.trans (e_ite ?_ ?_)
    · refine (pz_goes tq_221 1 (σ' := (180, [pzR 100, w1, w2, pzI x3, pzI x4], [pzR 100], M1)) rfl).trans ?_
      refine (e_callI (as := [pzR 100, pzN, pzN, pzN]) (rest := []) (d' := 5) tq_219 rfl rfl rfl rfl rfl tq_221 rfl).trans (e_bI rfl fun r9 M8 => ?_)
      exact e_iret tq_221 rfl
    refine e_sel.trans (e_ite ?_ ?_)
    · refine (pz_goes tq_221 1 (σ' := (185, [pzR 100, w1, w2, pzI x3, pzI x4], [pzR 100], M1)) rfl).trans ?_
      refine (e_callI (as := [pzR 100, pzN, pzN, pzN]) (rest := []) (d' := 6) tq_220 rfl rfl rfl rfl rfl tq_221 rfl).trans (e_bI rfl fun r11 M10 => ?_)
      exact e_iret tq_221 rfl
    refine (show pzr 8 221 (pz_sel [] 189 x3, [pzR 100, w1, w2, pzI x3, pzI x4], [], M1) = pzr 8 221 (189, [pzR 100, w1, w2, pzI x3, pzI x4], [], M1) from rfl).trans ?_
    refine (pz_goes tq_221 2 (σ' := (191, [pzR 100, w1, w2, pzI x3, pzI x4], [pzI x3, pzR 100], M1)) rfl).trans ?_
    refine (e_callI (as := [pzR 100, pzI x3, pzN, pzN]) (rest := []) (d' := 3) tq_216 rfl rfl rfl rfl rfl tq_221 rfl).trans (e_bI rfl fun r13 M12 => ?_)
    exact e_iret tq_221 rfl
/-! PeacockDeskModel.sumUp(I)I -/
set_option maxRecDepth 20000 in
theorem m_Mod_sumUp_eq (x1 : Int) (M : pz_M) : m_Mod_sumUp x1 M = m_Mod_sumUp_4 x1 0 0 M := by
  show pzr 4 222 (0, [pzR 100, pzI x1, pzN, pzN], [], M) = _
  refine (pz_goes tq_222 4 (σ' := (4, [pzR 100, pzI x1, pzI 0, pzI 0], [], M)) rfl).trans ?_
  rfl
set_option maxRecDepth 20000 in
theorem m_Mod_sumUp_4_eq (x1 : Int) (x2 : Int) (x3 : Int) (M : pz_M) : m_Mod_sumUp_4 x1 x2 x3 M = if x3 < x1 then (bI (m_Mod_octet x3 M) fun r2 M1 => m_Mod_sumUp_4 x1 (ia x2 r2) (ia x3 (1)) M1) else (some (some (pzI x2), M)) := by
  show pzr 4 222 (4, [pzR 100, pzI x1, pzI x2, pzI x3], [], M) = _
  refine (pz_goes tq_222 2 (σ' := (6, [pzR 100, pzI x1, pzI x2, pzI x3], [pzI x1, pzI x3], M)) rfl).trans ?_
  refine (e_icmp_ge tq_222 rfl).trans (e_ite ?_ ?_)
  · refine (pz_goes tq_222 3 (σ' := (12, [pzR 100, pzI x1, pzI x2, pzI x3], [pzI x3, pzR 100, pzI x2], M)) rfl).trans ?_
    refine (e_callI (as := [pzR 100, pzI x3]) (rest := [pzI x2]) (d' := 3) tq_154 rfl rfl rfl rfl rfl tq_222 rfl).trans (e_bI rfl fun r2 M1 => ?_)
    refine (pz_goes tq_222 4 (σ' := (4, [pzR 100, pzI x1, pzI (ia x2 r2), pzI (ia x3 (1))], [], M1)) rfl).trans ?_
    rfl
  · refine (pz_goes tq_222 1 (σ' := (24, [pzR 100, pzI x1, pzI x2, pzI x3], [pzI x2], M)) rfl).trans ?_
    exact e_iret tq_222 rfl
/-! PeacockDeskModel.sharesByRests(III)V -/
set_option maxRecDepth 20000 in
theorem m_Mod_sharesByRests_eq (x1 : Int) (x2 : Int) (x3 : Int) (M : pz_M) : m_Mod_sharesByRests x1 x2 x3 M = m_Mod_sharesByRests_6 x1 x2 x3 x2 0 pzN M := by
  show pzr 4 223 (0, [pzR 100, pzI x1, pzI x2, pzI x3, pzN, pzN, pzN], [], M) = _
  refine (pz_goes tq_223 4 (σ' := (6, [pzR 100, pzI x1, pzI x2, pzI x3, pzI x2, pzI 0, pzN], [], M)) rfl).trans ?_
  rfl
set_option maxRecDepth 20000 in
theorem m_Mod_sharesByRests_6_eq (x1 : Int) (x2 : Int) (x3 : Int) (x4 : Int) (x5 : Int) (w6 : pz_V) (M : pz_M) : m_Mod_sharesByRests_6 x1 x2 x3 x4 x5 w6 M = if x5 < x1 then (bI (m_Mod_octet x5 M) fun r2 M1 => grd (x3 ≠ 0) (grd (0 ≤ x5 ∧ x5 < 8) (bM (pz_wr M1 130 ((x5).toNat) (idv (imu r2 x2) x3)) fun M3 => bI (m_Mod_octet x5 M3) fun r5 M4 => grd (x3 ≠ 0) (grd (0 ≤ x5 ∧ x5 < 8) (bM (pz_wr M4 131 ((x5).toNat) (irm (imu r5 x2) x3)) fun M6 => grd (0 ≤ x5 ∧ x5 < 8) (m_Mod_sharesByRests_6 x1 x2 x3 (isb x4 (M6 130 ((x5).toNat))) (ia x5 (1)) w6 M6)))))) else (m_Mod_sharesByRests_64 x1 (pzI x2) (pzI x3) x4 (pzI x5) w6 M) := by
  show pzr 4 223 (6, [pzR 100, pzI x1, pzI x2, pzI x3, pzI x4, pzI x5, w6], [], M) = _
  refine (pz_goes tq_223 2 (σ' := (9, [pzR 100, pzI x1, pzI x2, pzI x3, pzI x4, pzI x5, w6], [pzI x1, pzI x5], M)) rfl).trans ?_
  refine (e_icmp_ge tq_223 rfl).trans (e_ite ?_ ?_)
  · refine (pz_goes tq_223 5 (σ' := (21, [pzR 100, pzI x1, pzI x2, pzI x3, pzI x4, pzI x5, w6], [pzI x5, pzR 100, pzI x5, pzR 130], M)) rfl).trans ?_
    refine (e_callI (as := [pzR 100, pzI x5]) (rest := [pzI x5, pzR 130]) (d' := 3) tq_154 rfl rfl rfl rfl rfl tq_223 rfl).trans (e_bI rfl fun r2 M1 => ?_)
    refine (pz_goes tq_223 3 (σ' := (27, [pzR 100, pzI x1, pzI x2, pzI x3, pzI x4, pzI x5, w6], [pzI x3, pzI (imu r2 x2), pzI x5, pzR 130], M1)) rfl).trans ?_
    refine (e_div tq_223 rfl).trans (e_grd ?_)
    refine (e_iast (n := 8) rfl rfl tq_223 rfl).trans (e_grd ?_)
    refine e_bM (m := pz_wr M1 130 ((x5).toNat) (idv (imu r2 x2) x3)) (f := fun M3 => pzr 4 223 (29, [pzR 100, pzI x1, pzI x2, pzI x3, pzI x4, pzI x5, w6], [], M3)) (fun M3 => ?_)
    refine (pz_goes tq_223 5 (σ' := (38, [pzR 100, pzI x1, pzI x2, pzI x3, pzI x4, pzI x5, w6], [pzI x5, pzR 100, pzI x5, pzR 131], M3)) rfl).trans ?_
    refine (e_callI (as := [pzR 100, pzI x5]) (rest := [pzI x5, pzR 131]) (d' := 3) tq_154 rfl rfl rfl rfl rfl tq_223 rfl).trans (e_bI rfl fun r5 M4 => ?_)
    refine (pz_goes tq_223 3 (σ' := (44, [pzR 100, pzI x1, pzI x2, pzI x3, pzI x4, pzI x5, w6], [pzI x3, pzI (imu r5 x2), pzI x5, pzR 131], M4)) rfl).trans ?_
    refine (e_div tq_223 rfl).trans (e_grd ?_)
    refine (e_iast (n := 8) rfl rfl tq_223 rfl).trans (e_grd ?_)
    refine e_bM (m := pz_wr M4 131 ((x5).toNat) (irm (imu r5 x2) x3)) (f := fun M6 => pzr 4 223 (46, [pzR 100, pzI x1, pzI x2, pzI x3, pzI x4, pzI x5, w6], [], M6)) (fun M6 => ?_)
    refine (pz_goes tq_223 4 (σ' := (54, [pzR 100, pzI x1, pzI x2, pzI x3, pzI x4, pzI x5, w6], [pzI x5, pzR 130, pzI x4], M6)) rfl).trans ?_
    refine (e_iald (n := 8) rfl rfl tq_223 rfl).trans (e_grd ?_)
    refine (pz_goes tq_223 4 (σ' := (6, [pzR 100, pzI x1, pzI x2, pzI x3, pzI (isb x4 (M6 130 ((x5).toNat))), pzI (ia x5 (1)), w6], [], M6)) rfl).trans ?_
    rfl
  · rfl
set_option maxRecDepth 20000 in
theorem m_Mod_sharesByRests_64_eq (x1 : Int) (w2 : pz_V) (w3 : pz_V) (x4 : Int) (w5 : pz_V) (w6 : pz_V) (M : pz_M) : m_Mod_sharesByRests_64 x1 w2 w3 x4 w5 w6 M = if 0 < x4 then (m_Mod_sharesByRests_75 x1 w2 w3 x4 0 1 M) else (some (none, M)) := by
  show pzr 4 223 (64, [pzR 100, pzI x1, w2, w3, pzI x4, w5, w6], [], M) = _
  refine (pz_goes tq_223 1 (σ' := (66, [pzR 100, pzI x1, w2, w3, pzI x4, w5, w6], [pzI x4], M)) rfl).trans ?_
  refine (e_if_le tq_223 rfl).trans (e_ite ?_ ?_)
  · refine (pz_goes tq_223 4 (σ' := (75, [pzR 100, pzI x1, w2, w3, pzI x4, pzI 0, pzI 1], [], M)) rfl).trans ?_
    rfl
  · exact e_ret tq_223 rfl
set_option maxRecDepth 20000 in
theorem m_Mod_sharesByRests_75_eq (x1 : Int) (w2 : pz_V) (w3 : pz_V) (x4 : Int) (x5 : Int) (x6 : Int) (M : pz_M) : m_Mod_sharesByRests_75 x1 w2 w3 x4 x5 x6 M = if x6 < x1 then (grd (0 ≤ x6 ∧ x6 < 8) (grd (0 ≤ x5 ∧ x5 < 8) (if (M 131 ((x5).toNat)) < (M 131 ((x6).toNat)) then (m_Mod_sharesByRests_75 x1 w2 w3 x4 x6 (ia x6 (1)) M) else (m_Mod_sharesByRests_75 x1 w2 w3 x4 x5 (ia x6 (1)) M)))) else (grd (0 ≤ x5 ∧ x5 < 8) (grd (0 ≤ x5 ∧ x5 < 8) (bM (pz_wr M 130 ((x5).toNat) (ia (M 130 ((x5).toNat)) 1)) fun M1 => grd (0 ≤ x5 ∧ x5 < 8) (bM (pz_wr M1 131 ((x5).toNat) (-1)) fun M2 => m_Mod_sharesByRests_64 x1 w2 w3 (isb x4 1) (pzI x5) (pzI x6) M2)))) := by
  show pzr 4 223 (75, [pzR 100, pzI x1, w2, w3, pzI x4, pzI x5, pzI x6], [], M) = _
  refine (pz_goes tq_223 2 (σ' := (78, [pzR 100, pzI x1, w2, w3, pzI x4, pzI x5, pzI x6], [pzI x1, pzI x6], M)) rfl).trans ?_
  refine (e_icmp_ge tq_223 rfl).trans (e_ite ?_ ?_)
  · refine (pz_goes tq_223 3 (σ' := (87, [pzR 100, pzI x1, w2, w3, pzI x4, pzI x5, pzI x6], [pzI x6, pzR 131], M)) rfl).trans ?_
    refine (e_iald (n := 8) rfl rfl tq_223 rfl).trans (e_grd ?_)
    refine (pz_goes tq_223 3 (σ' := (94, [pzR 100, pzI x1, w2, w3, pzI x4, pzI x5, pzI x6], [pzI x5, pzR 131, pzI (M 131 ((x6).toNat))], M)) rfl).trans ?_
    refine (e_iald (n := 8) rfl rfl tq_223 rfl).trans (e_grd ?_)
    refine (e_icmp_le tq_223 rfl).trans (e_ite ?_ ?_)
    · refine (pz_goes tq_223 4 (σ' := (75, [pzR 100, pzI x1, w2, w3, pzI x4, pzI x6, pzI (ia x6 (1))], [], M)) rfl).trans ?_
      rfl
    · refine (pz_goes tq_223 2 (σ' := (75, [pzR 100, pzI x1, w2, w3, pzI x4, pzI x5, pzI (ia x6 (1))], [], M)) rfl).trans ?_
      rfl
  · refine (pz_goes tq_223 6 (σ' := (120, [pzR 100, pzI x1, w2, w3, pzI x4, pzI x5, pzI x6], [pzI x5, pzR 130, pzI x5, pzR 130], M)) rfl).trans ?_
    refine (e_iald (n := 8) rfl rfl tq_223 rfl).trans (e_grd ?_)
    refine (pz_goes tq_223 2 (σ' := (123, [pzR 100, pzI x1, w2, w3, pzI x4, pzI x5, pzI x6], [pzI (ia (M 130 ((x5).toNat)) 1), pzI x5, pzR 130], M)) rfl).trans ?_
    refine (e_iast (n := 8) rfl rfl tq_223 rfl).trans (e_grd ?_)
    refine e_bM (m := pz_wr M 130 ((x5).toNat) (ia (M 130 ((x5).toNat)) 1)) (f := fun M1 => pzr 4 223 (124, [pzR 100, pzI x1, w2, w3, pzI x4, pzI x5, pzI x6], [], M1)) (fun M1 => ?_)
    refine (pz_goes tq_223 4 (σ' := (131, [pzR 100, pzI x1, w2, w3, pzI x4, pzI x5, pzI x6], [pzI (-1), pzI x5, pzR 131], M1)) rfl).trans ?_
    refine (e_iast (n := 8) rfl rfl tq_223 rfl).trans (e_grd ?_)
    refine e_bM (m := pz_wr M1 131 ((x5).toNat) (-1)) (f := fun M2 => pzr 4 223 (132, [pzR 100, pzI x1, w2, w3, pzI x4, pzI x5, pzI x6], [], M2)) (fun M2 => ?_)
    refine (pz_goes tq_223 5 (σ' := (64, [pzR 100, pzI x1, w2, w3, pzI (isb x4 1), pzI x5, pzI x6], [], M2)) rfl).trans ?_
    rfl
/-! PeacockDeskModel.sharesByHighest(II)V -/
set_option maxRecDepth 20000 in
theorem m_Mod_sharesByHighest_eq (x1 : Int) (x2 : Int) (M : pz_M) : m_Mod_sharesByHighest x1 x2 M = m_Mod_sharesByHighest_2 x1 x2 0 pzN pzN M := by
  show pzr 4 224 (0, [pzR 100, pzI x1, pzI x2, pzN, pzN, pzN], [], M) = _
  refine (pz_goes tq_224 2 (σ' := (2, [pzR 100, pzI x1, pzI x2, pzI 0, pzN, pzN], [], M)) rfl).trans ?_
  rfl
set_option maxRecDepth 20000 in
theorem m_Mod_sharesByHighest_2_eq (x1 : Int) (x2 : Int) (x3 : Int) (w4 : pz_V) (w5 : pz_V) (M : pz_M) : m_Mod_sharesByHighest_2 x1 x2 x3 w4 w5 M = if x3 < x1 then (grd (0 ≤ x3 ∧ x3 < 8) (bM (pz_wr M 130 ((x3).toNat) 0) fun M1 => m_Mod_sharesByHighest_2 x1 x2 (ia x3 (1)) w4 w5 M1)) else (m_Mod_sharesByHighest_22 x1 x2 0 w4 w5 M) := by
  show pzr 4 224 (2, [pzR 100, pzI x1, pzI x2, pzI x3, w4, w5], [], M) = _
  refine (pz_goes tq_224 2 (σ' := (4, [pzR 100, pzI x1, pzI x2, pzI x3, w4, w5], [pzI x1, pzI x3], M)) rfl).trans ?_
  refine (e_icmp_ge tq_224 rfl).trans (e_ite ?_ ?_)
  · refine (pz_goes tq_224 4 (σ' := (13, [pzR 100, pzI x1, pzI x2, pzI x3, w4, w5], [pzI 0, pzI x3, pzR 130], M)) rfl).trans ?_
    refine (e_iast (n := 8) rfl rfl tq_224 rfl).trans (e_grd ?_)
    refine e_bM (m := pz_wr M 130 ((x3).toNat) 0) (f := fun M1 => pzr 4 224 (14, [pzR 100, pzI x1, pzI x2, pzI x3, w4, w5], [], M1)) (fun M1 => ?_)
    refine (pz_goes tq_224 2 (σ' := (2, [pzR 100, pzI x1, pzI x2, pzI (ia x3 (1)), w4, w5], [], M1)) rfl).trans ?_
    rfl
  · refine (pz_goes tq_224 2 (σ' := (22, [pzR 100, pzI x1, pzI x2, pzI 0, w4, w5], [], M)) rfl).trans ?_
    rfl
set_option maxRecDepth 20000 in
theorem m_Mod_sharesByHighest_22_eq (x1 : Int) (x2 : Int) (x3 : Int) (w4 : pz_V) (w5 : pz_V) (M : pz_M) : m_Mod_sharesByHighest_22 x1 x2 x3 w4 w5 M = if x3 < x2 then (m_Mod_sharesByHighest_33 x1 x2 x3 0 1 M) else (some (none, M)) := by
  show pzr 4 224 (22, [pzR 100, pzI x1, pzI x2, pzI x3, w4, w5], [], M) = _
  refine (pz_goes tq_224 2 (σ' := (24, [pzR 100, pzI x1, pzI x2, pzI x3, w4, w5], [pzI x2, pzI x3], M)) rfl).trans ?_
  refine (e_icmp_ge tq_224 rfl).trans (e_ite ?_ ?_)
  · refine (pz_goes tq_224 4 (σ' := (33, [pzR 100, pzI x1, pzI x2, pzI x3, pzI 0, pzI 1], [], M)) rfl).trans ?_
    rfl
  · exact e_ret tq_224 rfl
set_option maxRecDepth 20000 in
theorem m_Mod_sharesByHighest_33_eq (x1 : Int) (x2 : Int) (x3 : Int) (x4 : Int) (x5 : Int) (M : pz_M) : m_Mod_sharesByHighest_33 x1 x2 x3 x4 x5 M = if x5 < x1 then (bI (m_Mod_octet x5 M) fun r2 M1 => grd (0 ≤ x4 ∧ x4 < 8) (bI (m_Mod_octet x4 M1) fun r4 M3 => grd (0 ≤ x5 ∧ x5 < 8) (if (imu r4 (ia (M3 130 ((x5).toNat)) 1)) < (imu r2 (ia (M1 130 ((x4).toNat)) 1)) then (m_Mod_sharesByHighest_33 x1 x2 x3 x5 (ia x5 (1)) M3) else (m_Mod_sharesByHighest_33 x1 x2 x3 x4 (ia x5 (1)) M3)))) else (grd (0 ≤ x4 ∧ x4 < 8) (grd (0 ≤ x4 ∧ x4 < 8) (bM (pz_wr M 130 ((x4).toNat) (ia (M 130 ((x4).toNat)) 1)) fun M5 => m_Mod_sharesByHighest_22 x1 x2 (ia x3 (1)) (pzI x4) (pzI x5) M5))) := by
  show pzr 4 224 (33, [pzR 100, pzI x1, pzI x2, pzI x3, pzI x4, pzI x5], [], M) = _
  refine (pz_goes tq_224 2 (σ' := (36, [pzR 100, pzI x1, pzI x2, pzI x3, pzI x4, pzI x5], [pzI x1, pzI x5], M)) rfl).trans ?_
  refine (e_icmp_ge tq_224 rfl).trans (e_ite ?_ ?_)
  · refine (pz_goes tq_224 2 (σ' := (42, [pzR 100, pzI x1, pzI x2, pzI x3, pzI x4, pzI x5], [pzI x5, pzR 100], M)) rfl).trans ?_
    refine (e_callI (as := [pzR 100, pzI x5]) (rest := []) (d' := 3) tq_154 rfl rfl rfl rfl rfl tq_224 rfl).trans (e_bI rfl fun r2 M1 => ?_)
    refine (pz_goes tq_224 3 (σ' := (51, [pzR 100, pzI x1, pzI x2, pzI x3, pzI x4, pzI x5], [pzI x4, pzR 130, pzI r2], M1)) rfl).trans ?_
    refine (e_iald (n := 8) rfl rfl tq_224 rfl).trans (e_grd ?_)
    refine (pz_goes tq_224 5 (σ' := (58, [pzR 100, pzI x1, pzI x2, pzI x3, pzI x4, pzI x5], [pzI x4, pzR 100, pzI (imu r2 (ia (M1 130 ((x4).toNat)) 1))], M1)) rfl).trans ?_
    refine (e_callI (as := [pzR 100, pzI x4]) (rest := [pzI (imu r2 (ia (M1 130 ((x4).toNat)) 1))]) (d' := 3) tq_154 rfl rfl rfl rfl rfl tq_224 rfl).trans (e_bI rfl fun r4 M3 => ?_)
    refine (pz_goes tq_224 3 (σ' := (67, [pzR 100, pzI x1, pzI x2, pzI x3, pzI x4, pzI x5], [pzI x5, pzR 130, pzI r4, pzI (imu r2 (ia (M1 130 ((x4).toNat)) 1))], M3)) rfl).trans ?_
    refine (e_iald (n := 8) rfl rfl tq_224 rfl).trans (e_grd ?_)
    refine (pz_goes tq_224 3 (σ' := (71, [pzR 100, pzI x1, pzI x2, pzI x3, pzI x4, pzI x5], [pzI (imu r4 (ia (M3 130 ((x5).toNat)) 1)), pzI (imu r2 (ia (M1 130 ((x4).toNat)) 1))], M3)) rfl).trans ?_
    refine (e_icmp_le tq_224 rfl).trans (e_ite ?_ ?_)
    · refine (pz_goes tq_224 4 (σ' := (33, [pzR 100, pzI x1, pzI x2, pzI x3, pzI x5, pzI (ia x5 (1))], [], M3)) rfl).trans ?_
      rfl
    · refine (pz_goes tq_224 2 (σ' := (33, [pzR 100, pzI x1, pzI x2, pzI x3, pzI x4, pzI (ia x5 (1))], [], M3)) rfl).trans ?_
      rfl
  · refine (pz_goes tq_224 6 (σ' := (96, [pzR 100, pzI x1, pzI x2, pzI x3, pzI x4, pzI x5], [pzI x4, pzR 130, pzI x4, pzR 130], M)) rfl).trans ?_
    refine (e_iald (n := 8) rfl rfl tq_224 rfl).trans (e_grd ?_)
    refine (pz_goes tq_224 2 (σ' := (99, [pzR 100, pzI x1, pzI x2, pzI x3, pzI x4, pzI x5], [pzI (ia (M 130 ((x4).toNat)) 1), pzI x4, pzR 130], M)) rfl).trans ?_
    refine (e_iast (n := 8) rfl rfl tq_224 rfl).trans (e_grd ?_)
    refine e_bM (m := pz_wr M 130 ((x4).toNat) (ia (M 130 ((x4).toNat)) 1)) (f := fun M5 => pzr 4 224 (100, [pzR 100, pzI x1, pzI x2, pzI x3, pzI x4, pzI x5], [], M5)) (fun M5 => ?_)
    refine (pz_goes tq_224 2 (σ' := (22, [pzR 100, pzI x1, pzI x2, pzI (ia x3 (1)), pzI x4, pzI x5], [], M5)) rfl).trans ?_
    rfl
/-! PeacockDeskModel.seats(IIZI)I -/
set_option maxRecDepth 20000 in
theorem m_Mod_seats_eq (x1 : Int) (x2 : Int) (x3 : Int) (x4 : Int) (M : pz_M) : m_Mod_seats x1 x2 x3 x4 M = bI (m_Mod_in x1 2 8 M) fun r2 M1 => if r2 = 0 then some (some (pzI (-1)), M1) else (bI (m_Mod_in x2 1 60 M1) fun r4 M3 => if r4 = 0 then some (some (pzI (-1)), M3) else (bI (m_Mod_in x4 0 (isb x1 1) M3) fun r6 M5 => if r6 = 0 then some (some (pzI (-1)), M5) else (if (M5 100 8) < x1 then some (some (pzI (-1)), M5) else (bM (pz_wr M5 100 8 0) fun M7 => bI (m_Mod_sumUp x1 M7) fun r9 M8 => if r9 = 0 then some (some (pzI (-2)), M8) else (if x3 = 0 then (bI (m_Mod_sumUp x1 M8) fun r11 M10 => bV (m_Mod_sharesByRests x1 x2 r11 M10) fun M12 => grd (0 ≤ x4 ∧ x4 < 8) (some (some (pzI (M12 130 ((x4).toNat))), M12))) else (bV (m_Mod_sharesByHighest x1 x2 M8) fun M13 => grd (0 ≤ x4 ∧ x4 < 8) (some (some (pzI (M13 130 ((x4).toNat))), M13)))))))) := by
  show pzr 5 225 (0, [pzR 100, pzI x1, pzI x2, pzI x3, pzI x4], [], M) = _
  refine (pz_goes tq_225 3 (σ' := (4, [pzR 100, pzI x1, pzI x2, pzI x3, pzI x4], [pzI 8, pzI 2, pzI x1], M)) rfl).trans ?_
  refine (e_callI (as := [pzI x1, pzI 2, pzI 8]) (rest := []) (d' := 3) tq_138 rfl rfl rfl rfl rfl tq_225 rfl).trans (e_bI rfl fun r2 M1 => ?_)
  refine (e_if_eq tq_225 rfl).trans (e_ite ?_ ?_)
  · refine (pz_goes tq_225 1 (σ' := (41, [pzR 100, pzI x1, pzI x2, pzI x3, pzI x4], [pzI (-1)], M1)) rfl).trans ?_
    exact e_iret tq_225 rfl
  · refine (pz_goes tq_225 3 (σ' := (14, [pzR 100, pzI x1, pzI x2, pzI x3, pzI x4], [pzI 60, pzI 1, pzI x2], M1)) rfl).trans ?_
    refine (e_callI (as := [pzI x2, pzI 1, pzI 60]) (rest := []) (d' := 3) tq_138 rfl rfl rfl rfl rfl tq_225 rfl).trans (e_bI rfl fun r4 M3 => ?_)
    refine (e_if_eq tq_225 rfl).trans (e_ite ?_ ?_)
    · refine (pz_goes tq_225 1 (σ' := (41, [pzR 100, pzI x1, pzI x2, pzI x3, pzI x4], [pzI (-1)], M3)) rfl).trans ?_
      exact e_iret tq_225 rfl
    · refine (pz_goes tq_225 5 (σ' := (26, [pzR 100, pzI x1, pzI x2, pzI x3, pzI x4], [pzI (isb x1 1), pzI 0, pzI x4], M3)) rfl).trans ?_
      refine (e_callI (as := [pzI x4, pzI 0, pzI (isb x1 1)]) (rest := []) (d' := 3) tq_138 rfl rfl rfl rfl rfl tq_225 rfl).trans (e_bI rfl fun r6 M5 => ?_)
      refine (e_if_eq tq_225 rfl).trans (e_ite ?_ ?_)
      · refine (pz_goes tq_225 1 (σ' := (41, [pzR 100, pzI x1, pzI x2, pzI x3, pzI x4], [pzI (-1)], M5)) rfl).trans ?_
        exact e_iret tq_225 rfl
      · refine (pz_goes tq_225 3 (σ' := (37, [pzR 100, pzI x1, pzI x2, pzI x3, pzI x4], [pzI (M5 100 8), pzI x1], M5)) rfl).trans ?_
        refine (e_icmp_le tq_225 rfl).trans (e_ite ?_ ?_)
        · refine (pz_goes tq_225 1 (σ' := (41, [pzR 100, pzI x1, pzI x2, pzI x3, pzI x4], [pzI (-1)], M5)) rfl).trans ?_
          exact e_iret tq_225 rfl
        · refine (pz_goes tq_225 2 (σ' := (44, [pzR 100, pzI x1, pzI x2, pzI x3, pzI x4], [pzI 0, pzR 100], M5)) rfl).trans ?_
          refine (e_putI rfl tq_225 rfl).trans ?_
          refine e_bM (f := fun M7 => pzr 5 225 (47, [pzR 100, pzI x1, pzI x2, pzI x3, pzI x4], [], M7)) (fun M7 => ?_)
          refine (pz_goes tq_225 2 (σ' := (49, [pzR 100, pzI x1, pzI x2, pzI x3, pzI x4], [pzI x1, pzR 100], M7)) rfl).trans ?_
          refine (e_callI (as := [pzR 100, pzI x1, pzN, pzN]) (rest := []) (d' := 4) tq_222 rfl rfl rfl rfl rfl tq_225 rfl).trans (e_bI rfl fun r9 M8 => ?_)
          refine (e_if_ne tq_225 rfl).trans (e_ite ?_ ?_)
          · refine (pz_goes tq_225 1 (σ' := (57, [pzR 100, pzI x1, pzI x2, pzI x3, pzI x4], [pzI (-2)], M8)) rfl).trans ?_
            exact e_iret tq_225 rfl
          · refine (pz_goes tq_225 1 (σ' := (59, [pzR 100, pzI x1, pzI x2, pzI x3, pzI x4], [pzI x3], M8)) rfl).trans ?_
            refine (e_if_eq tq_225 rfl).trans (e_ite ?_ ?_)
            · refine (pz_goes tq_225 5 (σ' := (76, [pzR 100, pzI x1, pzI x2, pzI x3, pzI x4], [pzI x1, pzR 100, pzI x2, pzI x1, pzR 100], M8)) rfl).trans ?_
              refine (e_callI (as := [pzR 100, pzI x1, pzN, pzN]) (rest := [pzI x2, pzI x1, pzR 100]) (d' := 4) tq_222 rfl rfl rfl rfl rfl tq_225 rfl).trans (e_bI rfl fun r11 M10 => ?_)
              refine (e_callV (as := [pzR 100, pzI x1, pzI x2, pzI r11, pzN, pzN, pzN]) (rest := []) (d' := 4) tq_223 rfl rfl rfl rfl rfl tq_225 rfl).trans (e_bV rfl fun M12 => ?_)
              refine (pz_goes tq_225 3 (σ' := (88, [pzR 100, pzI x1, pzI x2, pzI x3, pzI x4], [pzI x4, pzR 130], M12)) rfl).trans ?_
              refine (e_iald (n := 8) rfl rfl tq_225 rfl).trans (e_grd ?_)
              exact e_iret tq_225 rfl
            · refine (pz_goes tq_225 3 (σ' := (65, [pzR 100, pzI x1, pzI x2, pzI x3, pzI x4], [pzI x2, pzI x1, pzR 100], M8)) rfl).trans ?_
              refine (e_callV (as := [pzR 100, pzI x1, pzI x2, pzN, pzN, pzN]) (rest := []) (d' := 4) tq_224 rfl rfl rfl rfl rfl tq_225 rfl).trans (e_bV rfl fun M13 => ?_)
              refine (pz_goes tq_225 4 (σ' := (88, [pzR 100, pzI x1, pzI x2, pzI x3, pzI x4], [pzI x4, pzR 130], M13)) rfl).trans ?_
              refine (e_iald (n := 8) rfl rfl tq_225 rfl).trans (e_grd ?_)
              exact e_iret tq_225 rfl
/-! PeacockDeskModel.ordersOf(I)I -/
set_option maxRecDepth 20000 in
theorem m_Mod_ordersOf_eq (x0 : Int) (M : pz_M) : m_Mod_ordersOf x0 M = m_Mod_ordersOf_4 x0 1 2 M := by
  show pzr 3 226 (0, [pzI x0, pzN, pzN], [], M) = _
  refine (pz_goes tq_226 4 (σ' := (4, [pzI x0, pzI 1, pzI 2], [], M)) rfl).trans ?_
  rfl
set_option maxRecDepth 20000 in
theorem m_Mod_ordersOf_4_eq (x0 : Int) (x1 : Int) (x2 : Int) (M : pz_M) : m_Mod_ordersOf_4 x0 x1 x2 M = if x0 < x2 then some (some (pzI x1), M) else (m_Mod_ordersOf_4 x0 (imu x1 x2) (ia x2 (1)) M) := by
  show pzr 3 226 (4, [pzI x0, pzI x1, pzI x2], [], M) = _
  refine (pz_goes tq_226 2 (σ' := (6, [pzI x0, pzI x1, pzI x2], [pzI x0, pzI x2], M)) rfl).trans ?_
  refine (e_icmp_gt tq_226 rfl).trans (e_ite ?_ ?_)
  · refine (pz_goes tq_226 1 (σ' := (20, [pzI x0, pzI x1, pzI x2], [pzI x1], M)) rfl).trans ?_
    exact e_iret tq_226 rfl
  · refine (pz_goes tq_226 6 (σ' := (4, [pzI x0, pzI (imu x1 x2), pzI (ia x2 (1))], [], M)) rfl).trans ?_
    rfl
/-! PeacockDeskModel.reaches(III)I -/
set_option maxRecDepth 20000 in
theorem m_Mod_reaches_eq (x1 : Int) (x2 : Int) (x3 : Int) (M : pz_M) : m_Mod_reaches x1 x2 x3 M = m_Mod_reaches_6 x1 x2 x3 0 0 pzN pzN M := by
  show pzr 4 227 (0, [pzR 100, pzI x1, pzI x2, pzI x3, pzN, pzN, pzN, pzN], [], M) = _
  refine (pz_goes tq_227 4 (σ' := (6, [pzR 100, pzI x1, pzI x2, pzI x3, pzI 0, pzI 0, pzN, pzN], [], M)) rfl).trans ?_
  rfl
set_option maxRecDepth 20000 in
theorem m_Mod_reaches_6_eq (x1 : Int) (x2 : Int) (x3 : Int) (x4 : Int) (x5 : Int) (w6 : pz_V) (w7 : pz_V) (M : pz_M) : m_Mod_reaches_6 x1 x2 x3 x4 x5 w6 w7 M = if x5 < (ihl 1 x2) then (bI (m_Mod_has x5 x1 M) fun r2 M1 => if r2 = 0 then (m_Mod_reaches_32 x1 x2 x3 x4 x5 0 0 M1) else (m_Mod_reaches_6 x1 x2 x3 x4 (ia x5 (1)) w6 w7 M1)) else (some (some (pzI x4), M)) := by
  show pzr 4 227 (6, [pzR 100, pzI x1, pzI x2, pzI x3, pzI x4, pzI x5, w6, w7], [], M) = _
  refine (pz_goes tq_227 4 (σ' := (11, [pzR 100, pzI x1, pzI x2, pzI x3, pzI x4, pzI x5, w6, w7], [pzI (ihl 1 x2), pzI x5], M)) rfl).trans ?_
  refine (e_icmp_ge tq_227 rfl).trans (e_ite ?_ ?_)
  · refine (pz_goes tq_227 2 (σ' := (17, [pzR 100, pzI x1, pzI x2, pzI x3, pzI x4, pzI x5, w6, w7], [pzI x1, pzI x5], M)) rfl).trans ?_
    refine (e_callI (as := [pzI x5, pzI x1]) (rest := []) (d' := 3) tq_142 rfl rfl rfl rfl rfl tq_227 rfl).trans (e_bI rfl fun r2 M1 => ?_)
    refine (e_if_eq tq_227 rfl).trans (e_ite ?_ ?_)
    · refine (pz_goes tq_227 4 (σ' := (32, [pzR 100, pzI x1, pzI x2, pzI x3, pzI x4, pzI x5, pzI 0, pzI 0], [], M1)) rfl).trans ?_
      rfl
    · refine (pz_goes tq_227 3 (σ' := (6, [pzR 100, pzI x1, pzI x2, pzI x3, pzI x4, pzI (ia x5 (1)), w6, w7], [], M1)) rfl).trans ?_
      rfl
  · refine (pz_goes tq_227 1 (σ' := (117, [pzR 100, pzI x1, pzI x2, pzI x3, pzI x4, pzI x5, w6, w7], [pzI x4], M)) rfl).trans ?_
    exact e_iret tq_227 rfl
set_option maxRecDepth 20000 in
theorem m_Mod_reaches_32_eq (x1 : Int) (x2 : Int) (x3 : Int) (x4 : Int) (x5 : Int) (x6 : Int) (x7 : Int) (M : pz_M) : m_Mod_reaches_32 x1 x2 x3 x4 x5 x6 x7 M = if x7 < x2 then (bI (m_Mod_has x5 x7 M) fun r2 M1 => if r2 = 0 then (m_Mod_reaches_32 x1 x2 x3 x4 x5 x6 (ia x7 (1)) M1) else (bI (m_Mod_octet x7 M1) fun r4 M3 => m_Mod_reaches_32 x1 x2 x3 x4 x5 (ia x6 r4) (ia x7 (1)) M3)) else (if x6 < x3 then (bI (m_Mod_octet x1 M) fun r6 M5 => if (ia x6 r6) < x3 then (m_Mod_reaches_6 x1 x2 x3 x4 (ia x5 (1)) (pzI x6) (pzI x7) M5) else (bI (m_Mod_bits x5 M5) fun r8 M7 => bI (m_Mod_ordersOf r8 M7) fun r10 M9 => bI (m_Mod_bits x5 M9) fun r12 M11 => bI (m_Mod_ordersOf (isb (isb x2 1) r12) M11) fun r14 M13 => m_Mod_reaches_6 x1 x2 x3 (ia x4 (imu r10 r14)) (ia x5 (1)) (pzI x6) (pzI x7) M13)) else (m_Mod_reaches_6 x1 x2 x3 x4 (ia x5 (1)) (pzI x6) (pzI x7) M)) := by
  show pzr 4 227 (32, [pzR 100, pzI x1, pzI x2, pzI x3, pzI x4, pzI x5, pzI x6, pzI x7], [], M) = _
  refine (pz_goes tq_227 2 (σ' := (35, [pzR 100, pzI x1, pzI x2, pzI x3, pzI x4, pzI x5, pzI x6, pzI x7], [pzI x2, pzI x7], M)) rfl).trans ?_
  refine (e_icmp_ge tq_227 rfl).trans (e_ite ?_ ?_)
  · refine (pz_goes tq_227 2 (σ' := (42, [pzR 100, pzI x1, pzI x2, pzI x3, pzI x4, pzI x5, pzI x6, pzI x7], [pzI x7, pzI x5], M)) rfl).trans ?_
    refine (e_callI (as := [pzI x5, pzI x7]) (rest := []) (d' := 3) tq_142 rfl rfl rfl rfl rfl tq_227 rfl).trans (e_bI rfl fun r2 M1 => ?_)
    refine (e_if_eq tq_227 rfl).trans (e_ite ?_ ?_)
    · refine (pz_goes tq_227 2 (σ' := (32, [pzR 100, pzI x1, pzI x2, pzI x3, pzI x4, pzI x5, pzI x6, pzI (ia x7 (1))], [], M1)) rfl).trans ?_
      rfl
    · refine (pz_goes tq_227 3 (σ' := (53, [pzR 100, pzI x1, pzI x2, pzI x3, pzI x4, pzI x5, pzI x6, pzI x7], [pzI x7, pzR 100, pzI x6], M1)) rfl).trans ?_
      refine (e_callI (as := [pzR 100, pzI x7]) (rest := [pzI x6]) (d' := 3) tq_154 rfl rfl rfl rfl rfl tq_227 rfl).trans (e_bI rfl fun r4 M3 => ?_)
      refine (pz_goes tq_227 4 (σ' := (32, [pzR 100, pzI x1, pzI x2, pzI x3, pzI x4, pzI x5, pzI (ia x6 r4), pzI (ia x7 (1))], [], M3)) rfl).trans ?_
      rfl
  · refine (pz_goes tq_227 2 (σ' := (68, [pzR 100, pzI x1, pzI x2, pzI x3, pzI x4, pzI x5, pzI x6, pzI x7], [pzI x3, pzI x6], M)) rfl).trans ?_
    refine (e_icmp_ge tq_227 rfl).trans (e_ite ?_ ?_)
    · refine (pz_goes tq_227 3 (σ' := (75, [pzR 100, pzI x1, pzI x2, pzI x3, pzI x4, pzI x5, pzI x6, pzI x7], [pzI x1, pzR 100, pzI x6], M)) rfl).trans ?_
      refine (e_callI (as := [pzR 100, pzI x1]) (rest := [pzI x6]) (d' := 3) tq_154 rfl rfl rfl rfl rfl tq_227 rfl).trans (e_bI rfl fun r6 M5 => ?_)
      refine (pz_goes tq_227 2 (σ' := (80, [pzR 100, pzI x1, pzI x2, pzI x3, pzI x4, pzI x5, pzI x6, pzI x7], [pzI x3, pzI (ia x6 r6)], M5)) rfl).trans ?_
      refine (e_icmp_lt tq_227 rfl).trans (e_ite ?_ ?_)
      · refine (pz_goes tq_227 2 (σ' := (6, [pzR 100, pzI x1, pzI x2, pzI x3, pzI x4, pzI (ia x5 (1)), pzI x6, pzI x7], [], M5)) rfl).trans ?_
        rfl
      · refine (pz_goes tq_227 2 (σ' := (87, [pzR 100, pzI x1, pzI x2, pzI x3, pzI x4, pzI x5, pzI x6, pzI x7], [pzI x5, pzI x4], M5)) rfl).trans ?_
        refine (e_callI (as := [pzI x5, pzN, pzN]) (rest := [pzI x4]) (d' := 3) tq_143 rfl rfl rfl rfl rfl tq_227 rfl).trans (e_bI rfl fun r8 M7 => ?_)
        refine (e_callI (as := [pzI r8, pzN, pzN]) (rest := [pzI x4]) (d' := 3) tq_226 rfl rfl rfl rfl rfl tq_227 rfl).trans (e_bI rfl fun r10 M9 => ?_)
        refine (pz_goes tq_227 4 (σ' := (98, [pzR 100, pzI x1, pzI x2, pzI x3, pzI x4, pzI x5, pzI x6, pzI x7], [pzI x5, pzI (isb x2 1), pzI r10, pzI x4], M9)) rfl).trans ?_
        refine (e_callI (as := [pzI x5, pzN, pzN]) (rest := [pzI (isb x2 1), pzI r10, pzI x4]) (d' := 3) tq_143 rfl rfl rfl rfl rfl tq_227 rfl).trans (e_bI rfl fun r12 M11 => ?_)
        refine (pz_goes tq_227 1 (σ' := (102, [pzR 100, pzI x1, pzI x2, pzI x3, pzI x4, pzI x5, pzI x6, pzI x7], [pzI (isb (isb x2 1) r12), pzI r10, pzI x4], M11)) rfl).trans ?_
        refine (e_callI (as := [pzI (isb (isb x2 1) r12), pzN, pzN]) (rest := [pzI r10, pzI x4]) (d' := 3) tq_226 rfl rfl rfl rfl rfl tq_227 rfl).trans (e_bI rfl fun r14 M13 => ?_)
        refine (pz_goes tq_227 5 (σ' := (6, [pzR 100, pzI x1, pzI x2, pzI x3, pzI (ia x4 (imu r10 r14)), pzI (ia x5 (1)), pzI x6, pzI x7], [], M13)) rfl).trans ?_
        rfl
    · refine (pz_goes tq_227 2 (σ' := (6, [pzR 100, pzI x1, pzI x2, pzI x3, pzI x4, pzI (ia x5 (1)), pzI x6, pzI x7], [], M)) rfl).trans ?_
      rfl
/-! PeacockDeskModel.power(III)I -/
set_option maxRecDepth 20000 in
theorem m_Mod_power_eq (x1 : Int) (x2 : Int) (x3 : Int) (M : pz_M) : m_Mod_power x1 x2 x3 M = bI (m_Mod_in x1 2 8 M) fun r2 M1 => if r2 = 0 then some (some (pzI (-1)), M1) else (bI (m_Mod_in x2 1 2040 M1) fun r4 M3 => if r4 = 0 then some (some (pzI (-1)), M3) else (bI (m_Mod_in x3 0 (isb x1 1) M3) fun r6 M5 => if r6 = 0 then (if x3 = (100 : Int) then (m_Mod_power_38 x1 x2 x3 pzN pzN M5) else (some (some (pzI (-1)), M5))) else (m_Mod_power_38 x1 x2 x3 pzN pzN M5))) := by
  show pzr 5 228 (0, [pzR 100, pzI x1, pzI x2, pzI x3, pzN, pzN], [], M) = _
  refine (pz_goes tq_228 3 (σ' := (4, [pzR 100, pzI x1, pzI x2, pzI x3, pzN, pzN], [pzI 8, pzI 2, pzI x1], M)) rfl).trans ?_
  refine (e_callI (as := [pzI x1, pzI 2, pzI 8]) (rest := []) (d' := 3) tq_138 rfl rfl rfl rfl rfl tq_228 rfl).trans (e_bI rfl fun r2 M1 => ?_)
  refine (e_if_eq tq_228 rfl).trans (e_ite ?_ ?_)
  · refine (pz_goes tq_228 1 (σ' := (47, [pzR 100, pzI x1, pzI x2, pzI x3, pzN, pzN], [pzI (-1)], M1)) rfl).trans ?_
    exact e_iret tq_228 rfl
  · refine (pz_goes tq_228 3 (σ' := (15, [pzR 100, pzI x1, pzI x2, pzI x3, pzN, pzN], [pzI 2040, pzI 1, pzI x2], M1)) rfl).trans ?_
    refine (e_callI (as := [pzI x2, pzI 1, pzI 2040]) (rest := []) (d' := 3) tq_138 rfl rfl rfl rfl rfl tq_228 rfl).trans (e_bI rfl fun r4 M3 => ?_)
    refine (e_if_eq tq_228 rfl).trans (e_ite ?_ ?_)
    · refine (pz_goes tq_228 1 (σ' := (47, [pzR 100, pzI x1, pzI x2, pzI x3, pzN, pzN], [pzI (-1)], M3)) rfl).trans ?_
      exact e_iret tq_228 rfl
    · refine (pz_goes tq_228 5 (σ' := (26, [pzR 100, pzI x1, pzI x2, pzI x3, pzN, pzN], [pzI (isb x1 1), pzI 0, pzI x3], M3)) rfl).trans ?_
      refine (e_callI (as := [pzI x3, pzI 0, pzI (isb x1 1)]) (rest := []) (d' := 3) tq_138 rfl rfl rfl rfl rfl tq_228 rfl).trans (e_bI rfl fun r6 M5 => ?_)
      refine (e_if_ne tq_228 rfl).trans (e_ite ?_ ?_)
      · refine (pz_goes tq_228 2 (σ' := (35, [pzR 100, pzI x1, pzI x2, pzI x3, pzN, pzN], [pzI 100, pzI x3], M5)) rfl).trans ?_
        refine (e_icmp_ne tq_228 rfl).trans (e_ite ?_ ?_)
        · rfl
        · refine (pz_goes tq_228 1 (σ' := (47, [pzR 100, pzI x1, pzI x2, pzI x3, pzN, pzN], [pzI (-1)], M5)) rfl).trans ?_
          exact e_iret tq_228 rfl
      · rfl
set_option maxRecDepth 20000 in
theorem m_Mod_power_38_eq (x1 : Int) (x2 : Int) (x3 : Int) (w4 : pz_V) (w5 : pz_V) (M : pz_M) : m_Mod_power_38 x1 x2 x3 w4 w5 M = if (M 100 8) < x1 then some (some (pzI (-1)), M) else (bM (pz_wr M 100 8 0) fun M1 => if x3 = (100 : Int) then (m_Mod_power_73 x1 x2 (pzI x3) 0 1 M1) else (bI (m_Mod_reaches x3 x1 x2 M1) fun r3 M2 => some (some (pzI r3), M2))) := by
  show pzr 5 228 (38, [pzR 100, pzI x1, pzI x2, pzI x3, w4, w5], [], M) = _
  refine (pz_goes tq_228 3 (σ' := (43, [pzR 100, pzI x1, pzI x2, pzI x3, w4, w5], [pzI (M 100 8), pzI x1], M)) rfl).trans ?_
  refine (e_icmp_le tq_228 rfl).trans (e_ite ?_ ?_)
  · refine (pz_goes tq_228 1 (σ' := (47, [pzR 100, pzI x1, pzI x2, pzI x3, w4, w5], [pzI (-1)], M)) rfl).trans ?_
    exact e_iret tq_228 rfl
  · refine (pz_goes tq_228 2 (σ' := (50, [pzR 100, pzI x1, pzI x2, pzI x3, w4, w5], [pzI 0, pzR 100], M)) rfl).trans ?_
    refine (e_putI rfl tq_228 rfl).trans ?_
    refine e_bM (f := fun M1 => pzr 5 228 (53, [pzR 100, pzI x1, pzI x2, pzI x3, w4, w5], [], M1)) (fun M1 => ?_)
    refine (pz_goes tq_228 2 (σ' := (56, [pzR 100, pzI x1, pzI x2, pzI x3, w4, w5], [pzI 100, pzI x3], M1)) rfl).trans ?_
    refine (e_icmp_eq tq_228 rfl).trans (e_ite ?_ ?_)
    · refine (pz_goes tq_228 4 (σ' := (73, [pzR 100, pzI x1, pzI x2, pzI x3, pzI 0, pzI 1], [], M1)) rfl).trans ?_
      rfl
    · refine (pz_goes tq_228 4 (σ' := (63, [pzR 100, pzI x1, pzI x2, pzI x3, w4, w5], [pzI x2, pzI x1, pzI x3, pzR 100], M1)) rfl).trans ?_
      refine (e_callI (as := [pzR 100, pzI x3, pzI x1, pzI x2, pzN, pzN, pzN, pzN]) (rest := []) (d' := 4) tq_227 rfl rfl rfl rfl rfl tq_228 rfl).trans (e_bI rfl fun r3 M2 => ?_)
      exact e_iret tq_228 rfl
set_option maxRecDepth 20000 in
theorem m_Mod_power_73_eq (x1 : Int) (x2 : Int) (w3 : pz_V) (x4 : Int) (x5 : Int) (M : pz_M) : m_Mod_power_73 x1 x2 w3 x4 x5 M = if x5 < x1 then (bI (m_Mod_reaches x5 x1 x2 M) fun r2 M1 => bI (m_Mod_reaches x4 x1 x2 M1) fun r4 M3 => if r4 < r2 then (m_Mod_power_73 x1 x2 w3 x5 (ia x5 (1)) M3) else (m_Mod_power_73 x1 x2 w3 x4 (ia x5 (1)) M3)) else (some (some (pzI x4), M)) := by
  show pzr 5 228 (73, [pzR 100, pzI x1, pzI x2, w3, pzI x4, pzI x5], [], M) = _
  refine (pz_goes tq_228 2 (σ' := (76, [pzR 100, pzI x1, pzI x2, w3, pzI x4, pzI x5], [pzI x1, pzI x5], M)) rfl).trans ?_
  refine (e_icmp_ge tq_228 rfl).trans (e_ite ?_ ?_)
  · refine (pz_goes tq_228 4 (σ' := (84, [pzR 100, pzI x1, pzI x2, w3, pzI x4, pzI x5], [pzI x2, pzI x1, pzI x5, pzR 100], M)) rfl).trans ?_
    refine (e_callI (as := [pzR 100, pzI x5, pzI x1, pzI x2, pzN, pzN, pzN, pzN]) (rest := []) (d' := 4) tq_227 rfl rfl rfl rfl rfl tq_228 rfl).trans (e_bI rfl fun r2 M1 => ?_)
    refine (pz_goes tq_228 4 (σ' := (92, [pzR 100, pzI x1, pzI x2, w3, pzI x4, pzI x5], [pzI x2, pzI x1, pzI x4, pzR 100, pzI r2], M1)) rfl).trans ?_
    refine (e_callI (as := [pzR 100, pzI x4, pzI x1, pzI x2, pzN, pzN, pzN, pzN]) (rest := [pzI r2]) (d' := 4) tq_227 rfl rfl rfl rfl rfl tq_228 rfl).trans (e_bI rfl fun r4 M3 => ?_)
    refine (e_icmp_le tq_228 rfl).trans (e_ite ?_ ?_)
    · refine (pz_goes tq_228 4 (σ' := (73, [pzR 100, pzI x1, pzI x2, w3, pzI x5, pzI (ia x5 (1))], [], M3)) rfl).trans ?_
      rfl
    · refine (pz_goes tq_228 2 (σ' := (73, [pzR 100, pzI x1, pzI x2, w3, pzI x4, pzI (ia x5 (1))], [], M3)) rfl).trans ?_
      rfl
  · refine (pz_goes tq_228 1 (σ' := (110, [pzR 100, pzI x1, pzI x2, w3, pzI x4, pzI x5], [pzI x4], M)) rfl).trans ?_
    exact e_iret tq_228 rfl
/-! PeacockDeskModel.elevens(III)I -/
set_option maxRecDepth 20000 in
theorem m_Mod_elevens_eq (x1 : Int) (x2 : Int) (x3 : Int) (M : pz_M) : m_Mod_elevens x1 x2 x3 M = m_Mod_elevens_6 x1 x2 x3 0 0 M := by
  show pzr 4 229 (0, [pzR 100, pzI x1, pzI x2, pzI x3, pzN, pzN], [], M) = _
  refine (pz_goes tq_229 4 (σ' := (6, [pzR 100, pzI x1, pzI x2, pzI x3, pzI 0, pzI 0], [], M)) rfl).trans ?_
  rfl
set_option maxRecDepth 20000 in
theorem m_Mod_elevens_6_eq (x1 : Int) (x2 : Int) (x3 : Int) (x4 : Int) (x5 : Int) (M : pz_M) : m_Mod_elevens_6 x1 x2 x3 x4 x5 M = if x5 < x1 then (if x5 = x2 then (m_Mod_elevens_30 x1 x2 x3 (pzI x4) x5 x3 x4 M) else (bI (m_Mod_octet x5 M) fun r2 M1 => m_Mod_elevens_30 x1 x2 x3 (pzI x4) x5 r2 x4 M1)) else (some (some (pzI (irm x4 11)), M)) := by
  show pzr 4 229 (6, [pzR 100, pzI x1, pzI x2, pzI x3, pzI x4, pzI x5], [], M) = _
  refine (pz_goes tq_229 2 (σ' := (9, [pzR 100, pzI x1, pzI x2, pzI x3, pzI x4, pzI x5], [pzI x1, pzI x5], M)) rfl).trans ?_
  refine (e_icmp_ge tq_229 rfl).trans (e_ite ?_ ?_)
  · refine (pz_goes tq_229 3 (σ' := (17, [pzR 100, pzI x1, pzI x2, pzI x3, pzI x4, pzI x5], [pzI x2, pzI x5, pzI x4], M)) rfl).trans ?_
    refine (e_icmp_ne tq_229 rfl).trans (e_ite ?_ ?_)
    · refine (pz_goes tq_229 2 (σ' := (30, [pzR 100, pzI x1, pzI x2, pzI x3, pzI x4, pzI x5], [pzI x3, pzI x4], M)) rfl).trans ?_
      rfl
    · refine (pz_goes tq_229 2 (σ' := (27, [pzR 100, pzI x1, pzI x2, pzI x3, pzI x4, pzI x5], [pzI x5, pzR 100, pzI x4], M)) rfl).trans ?_
      refine (e_callI (as := [pzR 100, pzI x5]) (rest := [pzI x4]) (d' := 3) tq_154 rfl rfl rfl rfl rfl tq_229 rfl).trans (e_bI rfl fun r2 M1 => ?_)
      rfl
  · refine (pz_goes tq_229 2 (σ' := (48, [pzR 100, pzI x1, pzI x2, pzI x3, pzI x4, pzI x5], [pzI 11, pzI x4], M)) rfl).trans ?_
    refine ((e_div tq_229 rfl).trans (grd_pos (by decide))).trans ?_
    show pzr 4 229 (49, [pzR 100, pzI x1, pzI x2, pzI x3, pzI x4, pzI x5], [pzI (irm x4 11)], M) = _
    exact e_iret tq_229 rfl
set_option maxRecDepth 20000 in
theorem m_Mod_elevens_30_eq (x1 : Int) (x2 : Int) (x3 : Int) (w4 : pz_V) (x5 : Int) (s0 : Int) (s1 : Int) (M : pz_M) : m_Mod_elevens_30 x1 x2 x3 w4 x5 s0 s1 M = m_Mod_elevens_6 x1 x2 x3 (ia s1 (imu s0 (isb x1 x5))) (ia x5 (1)) M := by
  show pzr 4 229 (30, [pzR 100, pzI x1, pzI x2, pzI x3, w4, pzI x5], [pzI s0, pzI s1], M) = _
  refine (pz_goes tq_229 8 (σ' := (6, [pzR 100, pzI x1, pzI x2, pzI x3, pzI (ia s1 (imu s0 (isb x1 x5))), pzI (ia x5 (1))], [], M)) rfl).trans ?_
  rfl
/-! PeacockDeskModel.quills(II)I -/
set_option maxRecDepth 20000 in
theorem m_Mod_quills_eq (x1 : Int) (x2 : Int) (M : pz_M) : m_Mod_quills x1 x2 M = bI (m_Mod_in x1 2 12 M) fun r2 M1 => if r2 = 0 then some (some (pzI (-1)), M1) else (bI (m_Mod_in x2 0 2 M1) fun r4 M3 => if r4 = 0 then some (some (pzI (-1)), M3) else (if (M3 100 8) < x1 then some (some (pzI (-1)), M3) else (bM (pz_wr M3 100 8 0) fun M5 => m_Mod_quills_36 x1 x2 0 pzN pzN M5))) := by
  show pzr 5 230 (0, [pzR 100, pzI x1, pzI x2, pzN, pzN, pzN], [], M) = _
  refine (pz_goes tq_230 3 (σ' := (4, [pzR 100, pzI x1, pzI x2, pzN, pzN, pzN], [pzI 12, pzI 2, pzI x1], M)) rfl).trans ?_
  refine (e_callI (as := [pzI x1, pzI 2, pzI 12]) (rest := []) (d' := 3) tq_138 rfl rfl rfl rfl rfl tq_230 rfl).trans (e_bI rfl fun r2 M1 => ?_)
  refine (e_if_eq tq_230 rfl).trans (e_ite ?_ ?_)
  · refine (pz_goes tq_230 1 (σ' := (28, [pzR 100, pzI x1, pzI x2, pzN, pzN, pzN], [pzI (-1)], M1)) rfl).trans ?_
    exact e_iret tq_230 rfl
  · refine (pz_goes tq_230 3 (σ' := (13, [pzR 100, pzI x1, pzI x2, pzN, pzN, pzN], [pzI 2, pzI 0, pzI x2], M1)) rfl).trans ?_
    refine (e_callI (as := [pzI x2, pzI 0, pzI 2]) (rest := []) (d' := 3) tq_138 rfl rfl rfl rfl rfl tq_230 rfl).trans (e_bI rfl fun r4 M3 => ?_)
    refine (e_if_eq tq_230 rfl).trans (e_ite ?_ ?_)
    · refine (pz_goes tq_230 1 (σ' := (28, [pzR 100, pzI x1, pzI x2, pzN, pzN, pzN], [pzI (-1)], M3)) rfl).trans ?_
      exact e_iret tq_230 rfl
    · refine (pz_goes tq_230 3 (σ' := (24, [pzR 100, pzI x1, pzI x2, pzN, pzN, pzN], [pzI (M3 100 8), pzI x1], M3)) rfl).trans ?_
      refine (e_icmp_le tq_230 rfl).trans (e_ite ?_ ?_)
      · refine (pz_goes tq_230 1 (σ' := (28, [pzR 100, pzI x1, pzI x2, pzN, pzN, pzN], [pzI (-1)], M3)) rfl).trans ?_
        exact e_iret tq_230 rfl
      · refine (pz_goes tq_230 2 (σ' := (31, [pzR 100, pzI x1, pzI x2, pzN, pzN, pzN], [pzI 0, pzR 100], M3)) rfl).trans ?_
        refine (e_putI rfl tq_230 rfl).trans ?_
        refine e_bM (f := fun M5 => pzr 5 230 (34, [pzR 100, pzI x1, pzI x2, pzN, pzN, pzN], [], M5)) (fun M5 => ?_)
        refine (pz_goes tq_230 2 (σ' := (36, [pzR 100, pzI x1, pzI x2, pzI 0, pzN, pzN], [], M5)) rfl).trans ?_
        rfl
set_option maxRecDepth 20000 in
theorem m_Mod_quills_36_eq (x1 : Int) (x2 : Int) (x3 : Int) (w4 : pz_V) (w5 : pz_V) (M : pz_M) : m_Mod_quills_36 x1 x2 x3 w4 w5 M = if x3 < x1 then (bI (m_Mod_octet x3 M) fun r2 M1 => if (9 : Int) < r2 then some (some (pzI (-3)), M1) else (m_Mod_quills_36 x1 x2 (ia x3 (1)) w4 w5 M1)) else (if x2 = 0 then (bI (m_Mod_elevens x1 (-1) 0 M) fun r4 M3 => if r4 = 0 then some (some (pzI 1), M3) else (some (some (pzI 0), M3))) else (if x2 = (1 : Int) then (bI (m_Mod_elevens x1 (isb x1 1) 0 M) fun r6 M5 => some (some (pzI (irm (isb 11 r6) 11)), M5)) else (m_Mod_quills_106 x1 (pzI x2) 0 0 w5 M))) := by
  show pzr 5 230 (36, [pzR 100, pzI x1, pzI x2, pzI x3, w4, w5], [], M) = _
  refine (pz_goes tq_230 2 (σ' := (38, [pzR 100, pzI x1, pzI x2, pzI x3, w4, w5], [pzI x1, pzI x3], M)) rfl).trans ?_
  refine (e_icmp_ge tq_230 rfl).trans (e_ite ?_ ?_)
  · refine (pz_goes tq_230 2 (σ' := (43, [pzR 100, pzI x1, pzI x2, pzI x3, w4, w5], [pzI x3, pzR 100], M)) rfl).trans ?_
    refine (e_callI (as := [pzR 100, pzI x3]) (rest := []) (d' := 3) tq_154 rfl rfl rfl rfl rfl tq_230 rfl).trans (e_bI rfl fun r2 M1 => ?_)
    refine (pz_goes tq_230 1 (σ' := (48, [pzR 100, pzI x1, pzI x2, pzI x3, w4, w5], [pzI 9, pzI r2], M1)) rfl).trans ?_
    refine (e_icmp_le tq_230 rfl).trans (e_ite ?_ ?_)
    · refine (pz_goes tq_230 1 (σ' := (53, [pzR 100, pzI x1, pzI x2, pzI x3, w4, w5], [pzI (-3)], M1)) rfl).trans ?_
      exact e_iret tq_230 rfl
    · refine (pz_goes tq_230 2 (σ' := (36, [pzR 100, pzI x1, pzI x2, pzI (ia x3 (1)), w4, w5], [], M1)) rfl).trans ?_
      rfl
  · refine (pz_goes tq_230 1 (σ' := (61, [pzR 100, pzI x1, pzI x2, pzI x3, w4, w5], [pzI x2], M)) rfl).trans ?_
    refine (e_if_ne tq_230 rfl).trans (e_ite ?_ ?_)
    · refine (pz_goes tq_230 4 (σ' := (68, [pzR 100, pzI x1, pzI x2, pzI x3, w4, w5], [pzI 0, pzI (-1), pzI x1, pzR 100], M)) rfl).trans ?_
      refine (e_callI (as := [pzR 100, pzI x1, pzI (-1), pzI 0, pzN, pzN]) (rest := []) (d' := 4) tq_229 rfl rfl rfl rfl rfl tq_230 rfl).trans (e_bI rfl fun r4 M3 => ?_)
      refine (e_if_ne tq_230 rfl).trans (e_ite ?_ ?_)
      · refine (pz_goes tq_230 2 (σ' := (79, [pzR 100, pzI x1, pzI x2, pzI x3, w4, w5], [pzI 1], M3)) rfl).trans ?_
        exact e_iret tq_230 rfl
      · refine (pz_goes tq_230 1 (σ' := (79, [pzR 100, pzI x1, pzI x2, pzI x3, w4, w5], [pzI 0], M3)) rfl).trans ?_
        exact e_iret tq_230 rfl
    · refine (pz_goes tq_230 2 (σ' := (82, [pzR 100, pzI x1, pzI x2, pzI x3, w4, w5], [pzI 1, pzI x2], M)) rfl).trans ?_
      refine (e_icmp_ne tq_230 rfl).trans (e_ite ?_ ?_)
      · refine (pz_goes tq_230 7 (σ' := (93, [pzR 100, pzI x1, pzI x2, pzI x3, w4, w5], [pzI 0, pzI (isb x1 1), pzI x1, pzR 100, pzI 11], M)) rfl).trans ?_
        refine (e_callI (as := [pzR 100, pzI x1, pzI (isb x1 1), pzI 0, pzN, pzN]) (rest := [pzI 11]) (d' := 4) tq_229 rfl rfl rfl rfl rfl tq_230 rfl).trans (e_bI rfl fun r6 M5 => ?_)
        refine (pz_goes tq_230 2 (σ' := (99, [pzR 100, pzI x1, pzI x2, pzI x3, w4, w5], [pzI 11, pzI (isb 11 r6)], M5)) rfl).trans ?_
        refine ((e_div tq_230 rfl).trans (grd_pos (by decide))).trans ?_
        show pzr 5 230 (100, [pzR 100, pzI x1, pzI x2, pzI x3, w4, w5], [pzI (irm (isb 11 r6) 11)], M5) = _
        exact e_iret tq_230 rfl
      · refine (pz_goes tq_230 4 (σ' := (106, [pzR 100, pzI x1, pzI x2, pzI 0, pzI 0, w5], [], M)) rfl).trans ?_
        rfl
set_option maxRecDepth 20000 in
theorem m_Mod_quills_106_eq (x1 : Int) (w2 : pz_V) (x3 : Int) (x4 : Int) (w5 : pz_V) (M : pz_M) : m_Mod_quills_106 x1 w2 x3 x4 w5 M = if x4 < x1 then (m_Mod_quills_115 x1 w2 x3 x4 0 M) else (some (some (pzI x3), M)) := by
  show pzr 5 230 (106, [pzR 100, pzI x1, w2, pzI x3, pzI x4, w5], [], M) = _
  refine (pz_goes tq_230 2 (σ' := (109, [pzR 100, pzI x1, w2, pzI x3, pzI x4, w5], [pzI x1, pzI x4], M)) rfl).trans ?_
  refine (e_icmp_ge tq_230 rfl).trans (e_ite ?_ ?_)
  · refine (pz_goes tq_230 2 (σ' := (115, [pzR 100, pzI x1, w2, pzI x3, pzI x4, pzI 0], [], M)) rfl).trans ?_
    rfl
  · refine (pz_goes tq_230 1 (σ' := (162, [pzR 100, pzI x1, w2, pzI x3, pzI x4, w5], [pzI x3], M)) rfl).trans ?_
    exact e_iret tq_230 rfl
set_option maxRecDepth 20000 in
theorem m_Mod_quills_115_eq (x1 : Int) (w2 : pz_V) (x3 : Int) (x4 : Int) (x5 : Int) (M : pz_M) : m_Mod_quills_115 x1 w2 x3 x4 x5 M = if x5 < (10 : Int) then (bI (m_Mod_octet x4 M) fun r2 M1 => if x5 = r2 then (m_Mod_quills_115 x1 w2 x3 x4 (ia x5 (1)) M1) else (bI (m_Mod_elevens x1 x4 x5 M1) fun r4 M3 => if r4 = 0 then (m_Mod_quills_115 x1 w2 (ia x3 1) x4 (ia x5 (1)) M3) else (m_Mod_quills_115 x1 w2 x3 x4 (ia x5 (1)) M3))) else (m_Mod_quills_106 x1 w2 x3 (ia x4 (1)) (pzI x5) M) := by
  show pzr 5 230 (115, [pzR 100, pzI x1, w2, pzI x3, pzI x4, pzI x5], [], M) = _
  refine (pz_goes tq_230 2 (σ' := (119, [pzR 100, pzI x1, w2, pzI x3, pzI x4, pzI x5], [pzI 10, pzI x5], M)) rfl).trans ?_
  refine (e_icmp_ge tq_230 rfl).trans (e_ite ?_ ?_)
  · refine (pz_goes tq_230 3 (σ' := (127, [pzR 100, pzI x1, w2, pzI x3, pzI x4, pzI x5], [pzI x4, pzR 100, pzI x5], M)) rfl).trans ?_
    refine (e_callI (as := [pzR 100, pzI x4]) (rest := [pzI x5]) (d' := 3) tq_154 rfl rfl rfl rfl rfl tq_230 rfl).trans (e_bI rfl fun r2 M1 => ?_)
    refine (e_icmp_eq tq_230 rfl).trans (e_ite ?_ ?_)
    · refine (pz_goes tq_230 2 (σ' := (115, [pzR 100, pzI x1, w2, pzI x3, pzI x4, pzI (ia x5 (1))], [], M1)) rfl).trans ?_
      rfl
    · refine (pz_goes tq_230 4 (σ' := (139, [pzR 100, pzI x1, w2, pzI x3, pzI x4, pzI x5], [pzI x5, pzI x4, pzI x1, pzR 100], M1)) rfl).trans ?_
      refine (e_callI (as := [pzR 100, pzI x1, pzI x4, pzI x5, pzN, pzN]) (rest := []) (d' := 4) tq_229 rfl rfl rfl rfl rfl tq_230 rfl).trans (e_bI rfl fun r4 M3 => ?_)
      refine (e_if_ne tq_230 rfl).trans (e_ite ?_ ?_)
      · refine (pz_goes tq_230 6 (σ' := (115, [pzR 100, pzI x1, w2, pzI (ia x3 1), pzI x4, pzI (ia x5 (1))], [], M3)) rfl).trans ?_
        rfl
      · refine (pz_goes tq_230 2 (σ' := (115, [pzR 100, pzI x1, w2, pzI x3, pzI x4, pzI (ia x5 (1))], [], M3)) rfl).trans ?_
        rfl
  · refine (pz_goes tq_230 2 (σ' := (106, [pzR 100, pzI x1, w2, pzI x3, pzI (ia x4 (1)), pzI x5], [], M)) rfl).trans ?_
    rfl
/-! PeacockDeskModel.isLeap(I)Z -/
set_option maxRecDepth 20000 in
theorem m_Mod_isLeap_eq (x0 : Int) (M : pz_M) : m_Mod_isLeap x0 M = if (irm x0 4) = 0 then (if (irm x0 100) = 0 then (if (irm x0 400) = 0 then some (some (pzI 1), M) else (some (some (pzI 0), M))) else (some (some (pzI 1), M))) else (some (some (pzI 0), M)) := by
  show pzr 3 231 (0, [pzI x0], [], M) = _
  refine (pz_goes tq_231 2 (σ' := (2, [pzI x0], [pzI 4, pzI x0], M)) rfl).trans ?_
  refine ((e_div tq_231 rfl).trans (grd_pos (by decide))).trans ?_
  show pzr 3 231 (3, [pzI x0], [pzI (irm x0 4)], M) = _
  refine (e_if_ne tq_231 rfl).trans (e_ite ?_ ?_)
  · refine (pz_goes tq_231 2 (σ' := (9, [pzI x0], [pzI 100, pzI x0], M)) rfl).trans ?_
    refine ((e_div tq_231 rfl).trans (grd_pos (by decide))).trans ?_
    show pzr 3 231 (10, [pzI x0], [pzI (irm x0 100)], M) = _
    refine (e_if_ne tq_231 rfl).trans (e_ite ?_ ?_)
    · refine (pz_goes tq_231 2 (σ' := (17, [pzI x0], [pzI 400, pzI x0], M)) rfl).trans ?_
      refine ((e_div tq_231 rfl).trans (grd_pos (by decide))).trans ?_
      show pzr 3 231 (18, [pzI x0], [pzI (irm x0 400)], M) = _
      refine (e_if_ne tq_231 rfl).trans (e_ite ?_ ?_)
      · refine (pz_goes tq_231 2 (σ' := (26, [pzI x0], [pzI 1], M)) rfl).trans ?_
        exact (e_zret tq_231 rfl).trans (grd_pos (by decide))
      · refine (pz_goes tq_231 1 (σ' := (26, [pzI x0], [pzI 0], M)) rfl).trans ?_
        exact (e_zret tq_231 rfl).trans (grd_pos (by decide))
    · refine (pz_goes tq_231 2 (σ' := (26, [pzI x0], [pzI 1], M)) rfl).trans ?_
      exact (e_zret tq_231 rfl).trans (grd_pos (by decide))
  · refine (pz_goes tq_231 1 (σ' := (26, [pzI x0], [pzI 0], M)) rfl).trans ?_
    exact (e_zret tq_231 rfl).trans (grd_pos (by decide))
/-! PeacockDeskModel.daysIn(II)I -/
set_option maxRecDepth 20000 in
theorem m_Mod_daysIn_eq (x0 : Int) (x1 : Int) (M : pz_M) : m_Mod_daysIn x0 x1 M = if x0 = (2 : Int) then (bI (m_Mod_isLeap x1 M) fun r2 M1 => if r2 = 0 then some (some (pzI 28), M1) else (some (some (pzI 29), M1))) else (if x0 = (4 : Int) then some (some (pzI 30), M) else (if x0 = (6 : Int) then some (some (pzI 30), M) else (if x0 = (9 : Int) then some (some (pzI 30), M) else (if x0 = (11 : Int) then some (some (pzI 30), M) else (some (some (pzI 31), M)))))) := by
  show pzr 4 232 (0, [pzI x0, pzI x1], [], M) = _
  refine (pz_goes tq_232 2 (σ' := (2, [pzI x0, pzI x1], [pzI 2, pzI x0], M)) rfl).trans ?_
  refine (e_icmp_ne tq_232 rfl).trans (e_ite ?_ ?_)
  · refine (pz_goes tq_232 1 (σ' := (6, [pzI x0, pzI x1], [pzI x1], M)) rfl).trans ?_
    refine (e_callI (as := [pzI x1]) (rest := []) (d' := 3) tq_231 rfl rfl rfl rfl rfl tq_232 rfl).trans (e_bI rfl fun r2 M1 => ?_)
    refine (e_if_eq tq_232 rfl).trans (e_ite ?_ ?_)
    · refine (pz_goes tq_232 1 (σ' := (19, [pzI x0, pzI x1], [pzI 28], M1)) rfl).trans ?_
      exact e_iret tq_232 rfl
    · refine (pz_goes tq_232 2 (σ' := (19, [pzI x0, pzI x1], [pzI 29], M1)) rfl).trans ?_
      exact e_iret tq_232 rfl
  · refine (pz_goes tq_232 2 (σ' := (22, [pzI x0, pzI x1], [pzI 4, pzI x0], M)) rfl).trans ?_
    refine (e_icmp_eq tq_232 rfl).trans (e_ite ?_ ?_)
    · refine (pz_goes tq_232 2 (σ' := (50, [pzI x0, pzI x1], [pzI 30], M)) rfl).trans ?_
      exact e_iret tq_232 rfl
    · refine (pz_goes tq_232 2 (σ' := (28, [pzI x0, pzI x1], [pzI 6, pzI x0], M)) rfl).trans ?_
      refine (e_icmp_eq tq_232 rfl).trans (e_ite ?_ ?_)
      · refine (pz_goes tq_232 2 (σ' := (50, [pzI x0, pzI x1], [pzI 30], M)) rfl).trans ?_
        exact e_iret tq_232 rfl
      · refine (pz_goes tq_232 2 (σ' := (34, [pzI x0, pzI x1], [pzI 9, pzI x0], M)) rfl).trans ?_
        refine (e_icmp_eq tq_232 rfl).trans (e_ite ?_ ?_)
        · refine (pz_goes tq_232 2 (σ' := (50, [pzI x0, pzI x1], [pzI 30], M)) rfl).trans ?_
          exact e_iret tq_232 rfl
        · refine (pz_goes tq_232 2 (σ' := (40, [pzI x0, pzI x1], [pzI 11, pzI x0], M)) rfl).trans ?_
          refine (e_icmp_ne tq_232 rfl).trans (e_ite ?_ ?_)
          · refine (pz_goes tq_232 2 (σ' := (50, [pzI x0, pzI x1], [pzI 30], M)) rfl).trans ?_
            exact e_iret tq_232 rfl
          · refine (pz_goes tq_232 1 (σ' := (50, [pzI x0, pzI x1], [pzI 31], M)) rfl).trans ?_
            exact e_iret tq_232 rfl
/-! PeacockDeskModel.weekdayOf(II)I -/
set_option maxRecDepth 20000 in
theorem m_Mod_weekdayOf_eq (x0 : Int) (x1 : Int) (M : pz_M) : m_Mod_weekdayOf x0 x1 M = m_Mod_weekdayOf_6 x0 x1 5 1600 M := by
  show pzr 4 233 (0, [pzI x0, pzI x1, pzN, pzN], [], M) = _
  refine (pz_goes tq_233 4 (σ' := (6, [pzI x0, pzI x1, pzI 5, pzI 1600], [], M)) rfl).trans ?_
  rfl
set_option maxRecDepth 20000 in
theorem m_Mod_weekdayOf_6_eq (x0 : Int) (x1 : Int) (x2 : Int) (x3 : Int) (M : pz_M) : m_Mod_weekdayOf_6 x0 x1 x2 x3 M = if x3 < x0 then (bI (m_Mod_isLeap x3 M) fun r2 M1 => if r2 = 0 then (m_Mod_weekdayOf_6 x0 x1 (ia x2 1) (ia x3 (1)) M1) else (m_Mod_weekdayOf_6 x0 x1 (ia x2 2) (ia x3 (1)) M1)) else (some (some (pzI (irm (isb (ia x2 x1) 1) 7)), M)) := by
  show pzr 4 233 (6, [pzI x0, pzI x1, pzI x2, pzI x3], [], M) = _
  refine (pz_goes tq_233 2 (σ' := (8, [pzI x0, pzI x1, pzI x2, pzI x3], [pzI x0, pzI x3], M)) rfl).trans ?_
  refine (e_icmp_ge tq_233 rfl).trans (e_ite ?_ ?_)
  · refine (pz_goes tq_233 2 (σ' := (13, [pzI x0, pzI x1, pzI x2, pzI x3], [pzI x3, pzI x2], M)) rfl).trans ?_
    refine (e_callI (as := [pzI x3]) (rest := [pzI x2]) (d' := 3) tq_231 rfl rfl rfl rfl rfl tq_233 rfl).trans (e_bI rfl fun r2 M1 => ?_)
    refine (e_if_eq tq_233 rfl).trans (e_ite ?_ ?_)
    · refine (pz_goes tq_233 5 (σ' := (6, [pzI x0, pzI x1, pzI (ia x2 1), pzI (ia x3 (1))], [], M1)) rfl).trans ?_
      rfl
    · refine (pz_goes tq_233 6 (σ' := (6, [pzI x0, pzI x1, pzI (ia x2 2), pzI (ia x3 (1))], [], M1)) rfl).trans ?_
      rfl
  · refine (pz_goes tq_233 6 (σ' := (39, [pzI x0, pzI x1, pzI x2, pzI x3], [pzI 7, pzI (isb (ia x2 x1) 1)], M)) rfl).trans ?_
    refine ((e_div tq_233 rfl).trans (grd_pos (by decide))).trans ?_
    show pzr 4 233 (40, [pzI x0, pzI x1, pzI x2, pzI x3], [pzI (irm (isb (ia x2 x1) 1) 7)], M) = _
    exact e_iret tq_233 rfl
/-! PeacockDeskModel.weekday(III)I -/
set_option maxRecDepth 20000 in
theorem m_Mod_weekday_eq (x1 : Int) (x2 : Int) (x3 : Int) (M : pz_M) : m_Mod_weekday x1 x2 x3 M = bI (m_Mod_in x3 1600 2999 M) fun r2 M1 => if r2 = 0 then some (some (pzI (-1)), M1) else (bI (m_Mod_in x2 1 12 M1) fun r4 M3 => if r4 = 0 then some (some (pzI (-1)), M3) else (bI (m_Mod_daysIn x2 x3 M3) fun r6 M5 => bI (m_Mod_in x1 1 r6 M5) fun r8 M7 => if r8 = 0 then some (some (pzI (-2)), M7) else (m_Mod_weekday_47 (pzI x1) x2 x3 x1 1 M7))) := by
  show pzr 5 234 (0, [pzR 100, pzI x1, pzI x2, pzI x3, pzN, pzN], [], M) = _
  refine (pz_goes tq_234 3 (σ' := (7, [pzR 100, pzI x1, pzI x2, pzI x3, pzN, pzN], [pzI 2999, pzI 1600, pzI x3], M)) rfl).trans ?_
  refine (e_callI (as := [pzI x3, pzI 1600, pzI 2999]) (rest := []) (d' := 3) tq_138 rfl rfl rfl rfl rfl tq_234 rfl).trans (e_bI rfl fun r2 M1 => ?_)
  refine (e_if_eq tq_234 rfl).trans (e_ite ?_ ?_)
  · refine (pz_goes tq_234 1 (σ' := (24, [pzR 100, pzI x1, pzI x2, pzI x3, pzN, pzN], [pzI (-1)], M1)) rfl).trans ?_
    exact e_iret tq_234 rfl
  · refine (pz_goes tq_234 3 (σ' := (17, [pzR 100, pzI x1, pzI x2, pzI x3, pzN, pzN], [pzI 12, pzI 1, pzI x2], M1)) rfl).trans ?_
    refine (e_callI (as := [pzI x2, pzI 1, pzI 12]) (rest := []) (d' := 3) tq_138 rfl rfl rfl rfl rfl tq_234 rfl).trans (e_bI rfl fun r4 M3 => ?_)
    refine (e_if_ne tq_234 rfl).trans (e_ite ?_ ?_)
    · refine (pz_goes tq_234 1 (σ' := (24, [pzR 100, pzI x1, pzI x2, pzI x3, pzN, pzN], [pzI (-1)], M3)) rfl).trans ?_
      exact e_iret tq_234 rfl
    · refine (pz_goes tq_234 4 (σ' := (29, [pzR 100, pzI x1, pzI x2, pzI x3, pzN, pzN], [pzI x3, pzI x2, pzI 1, pzI x1], M3)) rfl).trans ?_
      refine (e_callI (as := [pzI x2, pzI x3]) (rest := [pzI 1, pzI x1]) (d' := 4) tq_232 rfl rfl rfl rfl rfl tq_234 rfl).trans (e_bI rfl fun r6 M5 => ?_)
      refine (e_callI (as := [pzI x1, pzI 1, pzI r6]) (rest := []) (d' := 3) tq_138 rfl rfl rfl rfl rfl tq_234 rfl).trans (e_bI rfl fun r8 M7 => ?_)
      refine (e_if_ne tq_234 rfl).trans (e_ite ?_ ?_)
      · refine (pz_goes tq_234 1 (σ' := (40, [pzR 100, pzI x1, pzI x2, pzI x3, pzN, pzN], [pzI (-2)], M7)) rfl).trans ?_
        exact e_iret tq_234 rfl
      · refine (pz_goes tq_234 4 (σ' := (47, [pzR 100, pzI x1, pzI x2, pzI x3, pzI x1, pzI 1], [], M7)) rfl).trans ?_
        rfl
set_option maxRecDepth 20000 in
theorem m_Mod_weekday_47_eq (w1 : pz_V) (x2 : Int) (x3 : Int) (x4 : Int) (x5 : Int) (M : pz_M) : m_Mod_weekday_47 w1 x2 x3 x4 x5 M = if x5 < x2 then (bI (m_Mod_daysIn x5 x3 M) fun r2 M1 => m_Mod_weekday_47 w1 x2 x3 (ia x4 r2) (ia x5 (1)) M1) else (bI (m_Mod_weekdayOf x3 x4 M) fun r4 M3 => some (some (pzI r4), M3)) := by
  show pzr 5 234 (47, [pzR 100, w1, pzI x2, pzI x3, pzI x4, pzI x5], [], M) = _
  refine (pz_goes tq_234 2 (σ' := (50, [pzR 100, w1, pzI x2, pzI x3, pzI x4, pzI x5], [pzI x2, pzI x5], M)) rfl).trans ?_
  refine (e_icmp_ge tq_234 rfl).trans (e_ite ?_ ?_)
  · refine (pz_goes tq_234 3 (σ' := (58, [pzR 100, w1, pzI x2, pzI x3, pzI x4, pzI x5], [pzI x3, pzI x5, pzI x4], M)) rfl).trans ?_
    refine (e_callI (as := [pzI x5, pzI x3]) (rest := [pzI x4]) (d' := 4) tq_232 rfl rfl rfl rfl rfl tq_234 rfl).trans (e_bI rfl fun r2 M1 => ?_)
    refine (pz_goes tq_234 4 (σ' := (47, [pzR 100, w1, pzI x2, pzI x3, pzI (ia x4 r2), pzI (ia x5 (1))], [], M1)) rfl).trans ?_
    rfl
  · refine (pz_goes tq_234 2 (σ' := (73, [pzR 100, w1, pzI x2, pzI x3, pzI x4, pzI x5], [pzI x4, pzI x3], M)) rfl).trans ?_
    refine (e_callI (as := [pzI x3, pzI x4, pzN, pzN]) (rest := []) (d' := 4) tq_233 rfl rfl rfl rfl rfl tq_234 rfl).trans (e_bI rfl fun r4 M3 => ?_)
    exact e_iret tq_234 rfl
/-! PeacockDeskModel.work(III)I -/
set_option maxRecDepth 20000 in
theorem m_Mod_work_eq (x1 : Int) (x2 : Int) (x3 : Int) (M : pz_M) : m_Mod_work x1 x2 x3 M = bI (m_Mod_in x1 1600 2999 M) fun r2 M1 => if r2 = 0 then some (some (pzI (-1)), M1) else (bI (m_Mod_in x2 1 x3 M1) fun r4 M3 => if r4 = 0 then some (some (pzI (-1)), M3) else (bI (m_Mod_isLeap x1 M3) fun r6 M5 => if r6 = 0 then (m_Mod_work_40 x1 x2 x3 pzN pzN 365 1 x3 M5) else (m_Mod_work_40 x1 x2 x3 pzN pzN 366 1 x3 M5))) := by
  show pzr 5 235 (0, [pzR 100, pzI x1, pzI x2, pzI x3, pzN, pzN], [], M) = _
  refine (pz_goes tq_235 3 (σ' := (7, [pzR 100, pzI x1, pzI x2, pzI x3, pzN, pzN], [pzI 2999, pzI 1600, pzI x1], M)) rfl).trans ?_
  refine (e_callI (as := [pzI x1, pzI 1600, pzI 2999]) (rest := []) (d' := 3) tq_138 rfl rfl rfl rfl rfl tq_235 rfl).trans (e_bI rfl fun r2 M1 => ?_)
  refine (e_if_eq tq_235 rfl).trans (e_ite ?_ ?_)
  · refine (pz_goes tq_235 1 (σ' := (47, [pzR 100, pzI x1, pzI x2, pzI x3, pzN, pzN], [pzI (-1)], M1)) rfl).trans ?_
    exact e_iret tq_235 rfl
  · refine (pz_goes tq_235 3 (σ' := (16, [pzR 100, pzI x1, pzI x2, pzI x3, pzN, pzN], [pzI x3, pzI 1, pzI x2], M1)) rfl).trans ?_
    refine (e_callI (as := [pzI x2, pzI 1, pzI x3]) (rest := []) (d' := 3) tq_138 rfl rfl rfl rfl rfl tq_235 rfl).trans (e_bI rfl fun r4 M3 => ?_)
    refine (e_if_eq tq_235 rfl).trans (e_ite ?_ ?_)
    · refine (pz_goes tq_235 1 (σ' := (47, [pzR 100, pzI x1, pzI x2, pzI x3, pzN, pzN], [pzI (-1)], M3)) rfl).trans ?_
      exact e_iret tq_235 rfl
    · refine (pz_goes tq_235 3 (σ' := (25, [pzR 100, pzI x1, pzI x2, pzI x3, pzN, pzN], [pzI x1, pzI 1, pzI x3], M3)) rfl).trans ?_
      refine (e_callI (as := [pzI x1]) (rest := [pzI 1, pzI x3]) (d' := 3) tq_231 rfl rfl rfl rfl rfl tq_235 rfl).trans (e_bI rfl fun r6 M5 => ?_)
      refine (e_if_eq tq_235 rfl).trans (e_ite ?_ ?_)
      · refine (pz_goes tq_235 1 (σ' := (40, [pzR 100, pzI x1, pzI x2, pzI x3, pzN, pzN], [pzI 365, pzI 1, pzI x3], M5)) rfl).trans ?_
        rfl
      · refine (pz_goes tq_235 2 (σ' := (40, [pzR 100, pzI x1, pzI x2, pzI x3, pzN, pzN], [pzI 366, pzI 1, pzI x3], M5)) rfl).trans ?_
        rfl
set_option maxRecDepth 20000 in
theorem m_Mod_work_40_eq (x1 : Int) (x2 : Int) (x3 : Int) (w4 : pz_V) (w5 : pz_V) (s0 : Int) (s1 : Int) (s2 : Int) (M : pz_M) : m_Mod_work_40 x1 x2 x3 w4 w5 s0 s1 s2 M = bI (m_Mod_in s2 s1 s0 M) fun r2 M1 => if r2 = 0 then some (some (pzI (-1)), M1) else (m_Mod_work_54 x1 (pzI x2) x3 0 x2 M1) := by
  show pzr 5 235 (40, [pzR 100, pzI x1, pzI x2, pzI x3, w4, w5], [pzI s0, pzI s1, pzI s2], M) = _
  refine (e_callI (as := [pzI s2, pzI s1, pzI s0]) (rest := []) (d' := 3) tq_138 rfl rfl rfl rfl rfl tq_235 rfl).trans (e_bI rfl fun r2 M1 => ?_)
  refine (e_if_ne tq_235 rfl).trans (e_ite ?_ ?_)
  · refine (pz_goes tq_235 1 (σ' := (47, [pzR 100, pzI x1, pzI x2, pzI x3, w4, w5], [pzI (-1)], M1)) rfl).trans ?_
    exact e_iret tq_235 rfl
  · refine (pz_goes tq_235 4 (σ' := (54, [pzR 100, pzI x1, pzI x2, pzI x3, pzI 0, pzI x2], [], M1)) rfl).trans ?_
    rfl
set_option maxRecDepth 20000 in
theorem m_Mod_work_54_eq (x1 : Int) (w2 : pz_V) (x3 : Int) (x4 : Int) (x5 : Int) (M : pz_M) : m_Mod_work_54 x1 w2 x3 x4 x5 M = if x5 < x3 then (bI (m_Mod_weekdayOf x1 x5 M) fun r2 M1 => if r2 < (5 : Int) then (m_Mod_work_54 x1 w2 x3 (ia x4 1) (ia x5 (1)) M1) else (m_Mod_work_54 x1 w2 x3 x4 (ia x5 (1)) M1)) else (some (some (pzI x4), M)) := by
  show pzr 5 235 (54, [pzR 100, pzI x1, w2, pzI x3, pzI x4, pzI x5], [], M) = _
  refine (pz_goes tq_235 2 (σ' := (57, [pzR 100, pzI x1, w2, pzI x3, pzI x4, pzI x5], [pzI x3, pzI x5], M)) rfl).trans ?_
  refine (e_icmp_ge tq_235 rfl).trans (e_ite ?_ ?_)
  · refine (pz_goes tq_235 2 (σ' := (63, [pzR 100, pzI x1, w2, pzI x3, pzI x4, pzI x5], [pzI x5, pzI x1], M)) rfl).trans ?_
    refine (e_callI (as := [pzI x1, pzI x5, pzN, pzN]) (rest := []) (d' := 4) tq_233 rfl rfl rfl rfl rfl tq_235 rfl).trans (e_bI rfl fun r2 M1 => ?_)
    refine (pz_goes tq_235 1 (σ' := (67, [pzR 100, pzI x1, w2, pzI x3, pzI x4, pzI x5], [pzI 5, pzI r2], M1)) rfl).trans ?_
    refine (e_icmp_ge tq_235 rfl).trans (e_ite ?_ ?_)
    · refine (pz_goes tq_235 6 (σ' := (54, [pzR 100, pzI x1, w2, pzI x3, pzI (ia x4 1), pzI (ia x5 (1))], [], M1)) rfl).trans ?_
      rfl
    · refine (pz_goes tq_235 2 (σ' := (54, [pzR 100, pzI x1, w2, pzI x3, pzI x4, pzI (ia x5 (1))], [], M1)) rfl).trans ?_
      rfl
  · refine (pz_goes tq_235 1 (σ' := (84, [pzR 100, pzI x1, w2, pzI x3, pzI x4, pzI x5], [pzI x4], M)) rfl).trans ?_
    exact e_iret tq_235 rfl
