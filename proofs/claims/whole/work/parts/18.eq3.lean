/-! PeacockDeskModel.sumSign(I)I -/
set_option maxRecDepth 20000 in
theorem m_Mod_sumSign_eq (x0 : Int) (M : pz_M) : m_Mod_sumSign x0 M = if x0 = (43 : Int) then some (some (pzI 2), M) else (if x0 = (45 : Int) then some (some (pzI 3), M) else (if x0 = (42 : Int) then some (some (pzI 4), M) else (if x0 = (47 : Int) then some (some (pzI 5), M) else (if x0 = (37 : Int) then some (some (pzI 6), M) else (some (some (pzI (-1)), M)))))) := by
  show pzr 3 164 (0, [pzI x0], [], M) = _
  refine (pz_goes tq_164 2 (σ' := (3, [pzI x0], [pzI 43, pzI x0], M)) rfl).trans ?_
  refine (e_icmp_ne tq_164 rfl).trans (e_ite ?_ ?_)
  · refine (pz_goes tq_164 2 (σ' := (52, [pzI x0], [pzI 2], M)) rfl).trans ?_
    exact e_iret tq_164 rfl
  · refine (pz_goes tq_164 2 (σ' := (13, [pzI x0], [pzI 45, pzI x0], M)) rfl).trans ?_
    refine (e_icmp_ne tq_164 rfl).trans (e_ite ?_ ?_)
    · refine (pz_goes tq_164 2 (σ' := (52, [pzI x0], [pzI 3], M)) rfl).trans ?_
      exact e_iret tq_164 rfl
    · refine (pz_goes tq_164 2 (σ' := (23, [pzI x0], [pzI 42, pzI x0], M)) rfl).trans ?_
      refine (e_icmp_ne tq_164 rfl).trans (e_ite ?_ ?_)
      · refine (pz_goes tq_164 2 (σ' := (52, [pzI x0], [pzI 4], M)) rfl).trans ?_
        exact e_iret tq_164 rfl
      · refine (pz_goes tq_164 2 (σ' := (33, [pzI x0], [pzI 47, pzI x0], M)) rfl).trans ?_
        refine (e_icmp_ne tq_164 rfl).trans (e_ite ?_ ?_)
        · refine (pz_goes tq_164 2 (σ' := (52, [pzI x0], [pzI 5], M)) rfl).trans ?_
          exact e_iret tq_164 rfl
        · refine (pz_goes tq_164 2 (σ' := (43, [pzI x0], [pzI 37, pzI x0], M)) rfl).trans ?_
          refine (e_icmp_ne tq_164 rfl).trans (e_ite ?_ ?_)
          · refine (pz_goes tq_164 2 (σ' := (52, [pzI x0], [pzI 6], M)) rfl).trans ?_
            exact e_iret tq_164 rfl
          · refine (pz_goes tq_164 1 (σ' := (52, [pzI x0], [pzI (-1)], M)) rfl).trans ?_
            exact e_iret tq_164 rfl
/-! PeacockDeskModel.closesSums(Z)V -/
set_option maxRecDepth 20000 in
theorem m_Mod_closesSums_eq (x1 : Int) (M : pz_M) : m_Mod_closesSums x1 M = bI (m_Mod_waitTop M) fun r2 M1 => if r2 < (4 : Int) then (m_Mod_closesSums_17 x1 M1) else (bI (m_Mod_waitTop M1) fun r4 M3 => if (6 : Int) < r4 then (m_Mod_closesSums_17 x1 M3) else (m_Mod_closesSums_37 x1 M3)) := by
  show pzr 4 165 (0, [pzR 100, pzI x1], [], M) = _
  refine (pz_goes tq_165 1 (σ' := (1, [pzR 100, pzI x1], [pzR 100], M)) rfl).trans ?_
  refine (e_callI (as := [pzR 100]) (rest := []) (d' := 3) tq_162 rfl rfl rfl rfl rfl tq_165 rfl).trans (e_bI rfl fun r2 M1 => ?_)
  refine (pz_goes tq_165 1 (σ' := (5, [pzR 100, pzI x1], [pzI 4, pzI r2], M1)) rfl).trans ?_
  refine (e_icmp_lt tq_165 rfl).trans (e_ite ?_ ?_)
  · rfl
  · refine (pz_goes tq_165 1 (σ' := (9, [pzR 100, pzI x1], [pzR 100], M1)) rfl).trans ?_
    refine (e_callI (as := [pzR 100]) (rest := []) (d' := 3) tq_162 rfl rfl rfl rfl rfl tq_165 rfl).trans (e_bI rfl fun r4 M3 => ?_)
    refine (pz_goes tq_165 1 (σ' := (14, [pzR 100, pzI x1], [pzI 6, pzI r4], M3)) rfl).trans ?_
    refine (e_icmp_le tq_165 rfl).trans (e_ite ?_ ?_)
    · rfl
    · rfl
set_option maxRecDepth 20000 in
theorem m_Mod_closesSums_17_eq (x1 : Int) (M : pz_M) : m_Mod_closesSums_17 x1 M = if x1 = 0 then some (none, M) else (bI (m_Mod_waitTop M) fun r2 M1 => if r2 = (2 : Int) then (m_Mod_closesSums_37 x1 M1) else (bI (m_Mod_waitTop M1) fun r4 M3 => if r4 = (3 : Int) then (m_Mod_closesSums_37 x1 M3) else (some (none, M3)))) := by
  show pzr 4 165 (17, [pzR 100, pzI x1], [], M) = _
  refine (pz_goes tq_165 1 (σ' := (18, [pzR 100, pzI x1], [pzI x1], M)) rfl).trans ?_
  refine (e_if_eq tq_165 rfl).trans (e_ite ?_ ?_)
  · exact e_ret tq_165 rfl
  · refine (pz_goes tq_165 1 (σ' := (22, [pzR 100, pzI x1], [pzR 100], M)) rfl).trans ?_
    refine (e_callI (as := [pzR 100]) (rest := []) (d' := 3) tq_162 rfl rfl rfl rfl rfl tq_165 rfl).trans (e_bI rfl fun r2 M1 => ?_)
    refine (pz_goes tq_165 1 (σ' := (26, [pzR 100, pzI x1], [pzI 2, pzI r2], M1)) rfl).trans ?_
    refine (e_icmp_eq tq_165 rfl).trans (e_ite ?_ ?_)
    · rfl
    · refine (pz_goes tq_165 1 (σ' := (30, [pzR 100, pzI x1], [pzR 100], M1)) rfl).trans ?_
      refine (e_callI (as := [pzR 100]) (rest := []) (d' := 3) tq_162 rfl rfl rfl rfl rfl tq_165 rfl).trans (e_bI rfl fun r4 M3 => ?_)
      refine (pz_goes tq_165 1 (σ' := (34, [pzR 100, pzI x1], [pzI 3, pzI r4], M3)) rfl).trans ?_
      refine (e_icmp_ne tq_165 rfl).trans (e_ite ?_ ?_)
      · rfl
      · exact e_ret tq_165 rfl
set_option maxRecDepth 20000 in
theorem m_Mod_closesSums_37_eq (x1 : Int) (M : pz_M) : m_Mod_closesSums_37 x1 M = bI (m_Mod_waitTop M) fun r2 M1 => bV (m_Mod_notes r2 0 M1) fun M3 => bM (pz_wr M3 100 15 (isb (M3 100 15) 1)) fun M4 => m_Mod_closesSums_0 x1 M4 := by
  show pzr 4 165 (37, [pzR 100, pzI x1], [], M) = _
  refine (pz_goes tq_165 2 (σ' := (39, [pzR 100, pzI x1], [pzR 100, pzR 100], M)) rfl).trans ?_
  refine (e_callI (as := [pzR 100]) (rest := [pzR 100]) (d' := 3) tq_162 rfl rfl rfl rfl rfl tq_165 rfl).trans (e_bI rfl fun r2 M1 => ?_)
  refine (pz_goes tq_165 1 (σ' := (43, [pzR 100, pzI x1], [pzI 0, pzI r2, pzR 100], M1)) rfl).trans ?_
  refine (e_callV (as := [pzR 100, pzI r2, pzI 0]) (rest := []) (d' := 3) tq_160 rfl rfl rfl rfl rfl tq_165 rfl).trans (e_bV rfl fun M3 => ?_)
  refine (pz_goes tq_165 5 (σ' := (53, [pzR 100, pzI x1], [pzI (isb (M3 100 15) 1), pzR 100], M3)) rfl).trans ?_
  refine (e_putI rfl tq_165 rfl).trans ?_
  refine e_bM (f := fun M4 => pzr 4 165 (56, [pzR 100, pzI x1], [], M4)) (fun M4 => ?_)
  refine (pz_goes tq_165 1 (σ' := (0, [pzR 100, pzI x1], [], M4)) rfl).trans ?_
  rfl
set_option maxRecDepth 20000 in
theorem m_Mod_closesSums_0_eq (x1 : Int) (M : pz_M) : m_Mod_closesSums_0 x1 M = bI (m_Mod_waitTop M) fun r2 M1 => if r2 < (4 : Int) then (m_Mod_closesSums_17 x1 M1) else (bI (m_Mod_waitTop M1) fun r4 M3 => if (6 : Int) < r4 then (m_Mod_closesSums_17 x1 M3) else (m_Mod_closesSums_37 x1 M3)) := by
  show pzr 4 165 (0, [pzR 100, pzI x1], [], M) = _
  refine (pz_goes tq_165 1 (σ' := (1, [pzR 100, pzI x1], [pzR 100], M)) rfl).trans ?_
  refine (e_callI (as := [pzR 100]) (rest := []) (d' := 3) tq_162 rfl rfl rfl rfl rfl tq_165 rfl).trans (e_bI rfl fun r2 M1 => ?_)
  refine (pz_goes tq_165 1 (σ' := (5, [pzR 100, pzI x1], [pzI 4, pzI r2], M1)) rfl).trans ?_
  refine (e_icmp_lt tq_165 rfl).trans (e_ite ?_ ?_)
  · rfl
  · refine (pz_goes tq_165 1 (σ' := (9, [pzR 100, pzI x1], [pzR 100], M1)) rfl).trans ?_
    refine (e_callI (as := [pzR 100]) (rest := []) (d' := 3) tq_162 rfl rfl rfl rfl rfl tq_165 rfl).trans (e_bI rfl fun r4 M3 => ?_)
    refine (pz_goes tq_165 1 (σ' := (14, [pzR 100, pzI x1], [pzI 6, pzI r4], M3)) rfl).trans ?_
    refine (e_icmp_le tq_165 rfl).trans (e_ite ?_ ?_)
    · rfl
    · rfl
/-! PeacockDeskModel.readsFactor()Z -/
set_option maxRecDepth 20000 in
theorem m_Mod_readsFactor_eq (M : pz_M) : m_Mod_readsFactor M = bI (m_Mod_here M) fun r2 M1 => if r2 = (91 : Int) then (bI (m_Mod_opens 14 M1) fun r4 M3 => if r4 = 0 then some (some (pzI 0), M3) else (m_Mod_readsFactor_0 pzN M3)) else (bI (m_Mod_isDigit M1) fun r6 M5 => if r6 = 0 then (bI (m_Mod_here M5) fun r8 M7 => bI (m_Mod_factOf r8 M7) fun r10 M9 => if r10 = (-1 : Int) then (bI (m_Mod_wrongAt 1 (M9 100 9) M9) fun r12 M11 => grd (r12 = 0 ∨ r12 = 1) (some (some (pzI r12), M11))) else (bV (m_Mod_notes 1 r10 M9) fun M13 => bM (pz_wr M13 100 9 (ia (M13 100 9) 1)) fun M14 => some (some (pzI 1), M14))) else (bI (m_Mod_readsNumber M5) fun r16 M15 => if r16 = 0 then some (some (pzI 0), M15) else (bV (m_Mod_notes 0 (M15 100 12) M15) fun M17 => some (some (pzI 1), M17)))) := by
  show pzr 6 166 (0, [pzR 100, pzN], [], M) = _
  refine (pz_goes tq_166 1 (σ' := (1, [pzR 100, pzN], [pzR 100], M)) rfl).trans ?_
  refine (e_callI (as := [pzR 100]) (rest := []) (d' := 3) tq_155 rfl rfl rfl rfl rfl tq_166 rfl).trans (e_bI rfl fun r2 M1 => ?_)
  refine (pz_goes tq_166 1 (σ' := (6, [pzR 100, pzN], [pzI 91, pzI r2], M1)) rfl).trans ?_
  refine (e_icmp_ne tq_166 rfl).trans (e_ite ?_ ?_)
  · refine (pz_goes tq_166 2 (σ' := (12, [pzR 100, pzN], [pzI 14, pzR 100], M1)) rfl).trans ?_
    refine (e_callI (as := [pzR 100, pzI 14]) (rest := []) (d' := 4) tq_161 rfl rfl rfl rfl rfl tq_166 rfl).trans (e_bI rfl fun r4 M3 => ?_)
    refine (e_if_ne tq_166 rfl).trans (e_ite ?_ ?_)
    · refine (pz_goes tq_166 1 (σ' := (19, [pzR 100, pzN], [pzI 0], M3)) rfl).trans ?_
      exact (e_zret tq_166 rfl).trans (grd_pos (by decide))
    · rfl
  · refine (pz_goes tq_166 1 (σ' := (21, [pzR 100, pzN], [pzR 100], M1)) rfl).trans ?_
    refine (e_callI (as := [pzR 100]) (rest := []) (d' := 4) tq_156 rfl rfl rfl rfl rfl tq_166 rfl).trans (e_bI rfl fun r6 M5 => ?_)
    refine (e_if_eq tq_166 rfl).trans (e_ite ?_ ?_)
    · refine (pz_goes tq_166 1 (σ' := (48, [pzR 100, pzN], [pzR 100], M5)) rfl).trans ?_
      refine (e_callI (as := [pzR 100]) (rest := []) (d' := 3) tq_155 rfl rfl rfl rfl rfl tq_166 rfl).trans (e_bI rfl fun r8 M7 => ?_)
      refine (e_callI (as := [pzI r8]) (rest := []) (d' := 3) tq_163 rfl rfl rfl rfl rfl tq_166 rfl).trans (e_bI rfl fun r10 M9 => ?_)
      refine (pz_goes tq_166 3 (σ' := (57, [pzR 100, pzI r10], [pzI (-1), pzI r10], M9)) rfl).trans ?_
      refine (e_icmp_ne tq_166 rfl).trans (e_ite ?_ ?_)
      · refine (pz_goes tq_166 4 (σ' := (66, [pzR 100, pzI r10], [pzI (M9 100 9), pzI 1, pzR 100], M9)) rfl).trans ?_
        refine (e_callI (as := [pzR 100, pzI 1, pzI (M9 100 9)]) (rest := []) (d' := 3) tq_157 rfl rfl rfl rfl rfl tq_166 rfl).trans (e_bI rfl fun r12 M11 => ?_)
        exact e_zret tq_166 rfl
      · refine (pz_goes tq_166 3 (σ' := (73, [pzR 100, pzI r10], [pzI r10, pzI 1, pzR 100], M9)) rfl).trans ?_
        refine (e_callV (as := [pzR 100, pzI 1, pzI r10]) (rest := []) (d' := 3) tq_160 rfl rfl rfl rfl rfl tq_166 rfl).trans (e_bV rfl fun M13 => ?_)
        refine (pz_goes tq_166 5 (σ' := (83, [pzR 100, pzI r10], [pzI (ia (M13 100 9) 1), pzR 100], M13)) rfl).trans ?_
        refine (e_putI rfl tq_166 rfl).trans ?_
        refine e_bM (f := fun M14 => pzr 6 166 (86, [pzR 100, pzI r10], [], M14)) (fun M14 => ?_)
        refine (pz_goes tq_166 1 (σ' := (87, [pzR 100, pzI r10], [pzI 1], M14)) rfl).trans ?_
        exact (e_zret tq_166 rfl).trans (grd_pos (by decide))
    · refine (pz_goes tq_166 1 (σ' := (28, [pzR 100, pzN], [pzR 100], M5)) rfl).trans ?_
      refine (e_callI (as := [pzR 100, pzN]) (rest := []) (d' := 5) tq_159 rfl rfl rfl rfl rfl tq_166 rfl).trans (e_bI rfl fun r16 M15 => ?_)
      refine (e_if_ne tq_166 rfl).trans (e_ite ?_ ?_)
      · refine (pz_goes tq_166 1 (σ' := (35, [pzR 100, pzN], [pzI 0], M15)) rfl).trans ?_
        exact (e_zret tq_166 rfl).trans (grd_pos (by decide))
      · refine (pz_goes tq_166 4 (σ' := (42, [pzR 100, pzN], [pzI (M15 100 12), pzI 0, pzR 100], M15)) rfl).trans ?_
        refine (e_callV (as := [pzR 100, pzI 0, pzI (M15 100 12)]) (rest := []) (d' := 3) tq_160 rfl rfl rfl rfl rfl tq_166 rfl).trans (e_bV rfl fun M17 => ?_)
        refine (pz_goes tq_166 1 (σ' := (46, [pzR 100, pzN], [pzI 1], M17)) rfl).trans ?_
        exact (e_zret tq_166 rfl).trans (grd_pos (by decide))
set_option maxRecDepth 20000 in
theorem m_Mod_readsFactor_0_eq (w1 : pz_V) (M : pz_M) : m_Mod_readsFactor_0 w1 M = bI (m_Mod_here M) fun r2 M1 => if r2 = (91 : Int) then (bI (m_Mod_opens 14 M1) fun r4 M3 => if r4 = 0 then some (some (pzI 0), M3) else (m_Mod_readsFactor_0 w1 M3)) else (bI (m_Mod_isDigit M1) fun r6 M5 => if r6 = 0 then (bI (m_Mod_here M5) fun r8 M7 => bI (m_Mod_factOf r8 M7) fun r10 M9 => if r10 = (-1 : Int) then (bI (m_Mod_wrongAt 1 (M9 100 9) M9) fun r12 M11 => grd (r12 = 0 ∨ r12 = 1) (some (some (pzI r12), M11))) else (bV (m_Mod_notes 1 r10 M9) fun M13 => bM (pz_wr M13 100 9 (ia (M13 100 9) 1)) fun M14 => some (some (pzI 1), M14))) else (bI (m_Mod_readsNumber M5) fun r16 M15 => if r16 = 0 then some (some (pzI 0), M15) else (bV (m_Mod_notes 0 (M15 100 12) M15) fun M17 => some (some (pzI 1), M17)))) := by
  show pzr 6 166 (0, [pzR 100, w1], [], M) = _
  refine (pz_goes tq_166 1 (σ' := (1, [pzR 100, w1], [pzR 100], M)) rfl).trans ?_
  refine (e_callI (as := [pzR 100]) (rest := []) (d' := 3) tq_155 rfl rfl rfl rfl rfl tq_166 rfl).trans (e_bI rfl fun r2 M1 => ?_)
  refine (pz_goes tq_166 1 (σ' := (6, [pzR 100, w1], [pzI 91, pzI r2], M1)) rfl).trans ?_
  refine (e_icmp_ne tq_166 rfl).trans (e_ite ?_ ?_)
  · refine (pz_goes tq_166 2 (σ' := (12, [pzR 100, w1], [pzI 14, pzR 100], M1)) rfl).trans ?_
    refine (e_callI (as := [pzR 100, pzI 14]) (rest := []) (d' := 4) tq_161 rfl rfl rfl rfl rfl tq_166 rfl).trans (e_bI rfl fun r4 M3 => ?_)
    refine (e_if_ne tq_166 rfl).trans (e_ite ?_ ?_)
    · refine (pz_goes tq_166 1 (σ' := (19, [pzR 100, w1], [pzI 0], M3)) rfl).trans ?_
      exact (e_zret tq_166 rfl).trans (grd_pos (by decide))
    · rfl
  · refine (pz_goes tq_166 1 (σ' := (21, [pzR 100, w1], [pzR 100], M1)) rfl).trans ?_
    refine (e_callI (as := [pzR 100]) (rest := []) (d' := 4) tq_156 rfl rfl rfl rfl rfl tq_166 rfl).trans (e_bI rfl fun r6 M5 => ?_)
    refine (e_if_eq tq_166 rfl).trans (e_ite ?_ ?_)
    · refine (pz_goes tq_166 1 (σ' := (48, [pzR 100, w1], [pzR 100], M5)) rfl).trans ?_
      refine (e_callI (as := [pzR 100]) (rest := []) (d' := 3) tq_155 rfl rfl rfl rfl rfl tq_166 rfl).trans (e_bI rfl fun r8 M7 => ?_)
      refine (e_callI (as := [pzI r8]) (rest := []) (d' := 3) tq_163 rfl rfl rfl rfl rfl tq_166 rfl).trans (e_bI rfl fun r10 M9 => ?_)
      refine (pz_goes tq_166 3 (σ' := (57, [pzR 100, pzI r10], [pzI (-1), pzI r10], M9)) rfl).trans ?_
      refine (e_icmp_ne tq_166 rfl).trans (e_ite ?_ ?_)
      · refine (pz_goes tq_166 4 (σ' := (66, [pzR 100, pzI r10], [pzI (M9 100 9), pzI 1, pzR 100], M9)) rfl).trans ?_
        refine (e_callI (as := [pzR 100, pzI 1, pzI (M9 100 9)]) (rest := []) (d' := 3) tq_157 rfl rfl rfl rfl rfl tq_166 rfl).trans (e_bI rfl fun r12 M11 => ?_)
        exact e_zret tq_166 rfl
      · refine (pz_goes tq_166 3 (σ' := (73, [pzR 100, pzI r10], [pzI r10, pzI 1, pzR 100], M9)) rfl).trans ?_
        refine (e_callV (as := [pzR 100, pzI 1, pzI r10]) (rest := []) (d' := 3) tq_160 rfl rfl rfl rfl rfl tq_166 rfl).trans (e_bV rfl fun M13 => ?_)
        refine (pz_goes tq_166 5 (σ' := (83, [pzR 100, pzI r10], [pzI (ia (M13 100 9) 1), pzR 100], M13)) rfl).trans ?_
        refine (e_putI rfl tq_166 rfl).trans ?_
        refine e_bM (f := fun M14 => pzr 6 166 (86, [pzR 100, pzI r10], [], M14)) (fun M14 => ?_)
        refine (pz_goes tq_166 1 (σ' := (87, [pzR 100, pzI r10], [pzI 1], M14)) rfl).trans ?_
        exact (e_zret tq_166 rfl).trans (grd_pos (by decide))
    · refine (pz_goes tq_166 1 (σ' := (28, [pzR 100, w1], [pzR 100], M5)) rfl).trans ?_
      refine (e_callI (as := [pzR 100, pzN]) (rest := []) (d' := 5) tq_159 rfl rfl rfl rfl rfl tq_166 rfl).trans (e_bI rfl fun r16 M15 => ?_)
      refine (e_if_ne tq_166 rfl).trans (e_ite ?_ ?_)
      · refine (pz_goes tq_166 1 (σ' := (35, [pzR 100, w1], [pzI 0], M15)) rfl).trans ?_
        exact (e_zret tq_166 rfl).trans (grd_pos (by decide))
      · refine (pz_goes tq_166 4 (σ' := (42, [pzR 100, w1], [pzI (M15 100 12), pzI 0, pzR 100], M15)) rfl).trans ?_
        refine (e_callV (as := [pzR 100, pzI 0, pzI (M15 100 12)]) (rest := []) (d' := 3) tq_160 rfl rfl rfl rfl rfl tq_166 rfl).trans (e_bV rfl fun M17 => ?_)
        refine (pz_goes tq_166 1 (σ' := (46, [pzR 100, w1], [pzI 1], M17)) rfl).trans ?_
        exact (e_zret tq_166 rfl).trans (grd_pos (by decide))
/-! PeacockDeskModel.hasOpenSum(I)Z -/
set_option maxRecDepth 20000 in
theorem m_Mod_hasOpenSum_eq (x1 : Int) (M : pz_M) : m_Mod_hasOpenSum x1 M = m_Mod_hasOpenSum_2 (pzI x1) x1 M := by
  show pzr 3 167 (0, [pzR 100, pzI x1, pzN], [], M) = _
  refine (pz_goes tq_167 2 (σ' := (2, [pzR 100, pzI x1, pzI x1], [], M)) rfl).trans ?_
  rfl
set_option maxRecDepth 20000 in
theorem m_Mod_hasOpenSum_2_eq (w1 : pz_V) (x2 : Int) (M : pz_M) : m_Mod_hasOpenSum_2 w1 x2 M = if x2 < (M 100 15) then (grd (0 ≤ x2 ∧ x2 < 260) (if (idv (M 109 ((x2).toNat)) 1048576) = (14 : Int) then some (some (pzI 1), M) else (m_Mod_hasOpenSum_2 w1 (ia x2 (1)) M))) else (some (some (pzI 0), M)) := by
  show pzr 3 167 (2, [pzR 100, w1, pzI x2], [], M) = _
  refine (pz_goes tq_167 3 (σ' := (7, [pzR 100, w1, pzI x2], [pzI (M 100 15), pzI x2], M)) rfl).trans ?_
  refine (e_icmp_ge tq_167 rfl).trans (e_ite ?_ ?_)
  · refine (pz_goes tq_167 3 (σ' := (15, [pzR 100, w1, pzI x2], [pzI x2, pzR 109], M)) rfl).trans ?_
    refine (e_iald (n := 260) rfl rfl tq_167 rfl).trans (e_grd ?_)
    refine (pz_goes tq_167 1 (σ' := (18, [pzR 100, w1, pzI x2], [pzI 1048576, pzI (M 109 ((x2).toNat))], M)) rfl).trans ?_
    refine ((e_div tq_167 rfl).trans (grd_pos (by decide))).trans ?_
    show pzr 3 167 (19, [pzR 100, w1, pzI x2], [pzI (idv (M 109 ((x2).toNat)) 1048576)], M) = _
    refine (pz_goes tq_167 1 (σ' := (21, [pzR 100, w1, pzI x2], [pzI 14, pzI (idv (M 109 ((x2).toNat)) 1048576)], M)) rfl).trans ?_
    refine (e_icmp_ne tq_167 rfl).trans (e_ite ?_ ?_)
    · refine (pz_goes tq_167 1 (σ' := (25, [pzR 100, w1, pzI x2], [pzI 1], M)) rfl).trans ?_
      exact (e_zret tq_167 rfl).trans (grd_pos (by decide))
    · refine (pz_goes tq_167 2 (σ' := (2, [pzR 100, w1, pzI (ia x2 (1))], [], M)) rfl).trans ?_
      rfl
  · refine (pz_goes tq_167 1 (σ' := (33, [pzR 100, w1, pzI x2], [pzI 0], M)) rfl).trans ?_
    exact (e_zret tq_167 rfl).trans (grd_pos (by decide))
/-! PeacockDeskModel.readsSum()Z -/
set_option maxRecDepth 20000 in
theorem m_Mod_readsSum_eq (M : pz_M) : m_Mod_readsSum M = bI (m_Mod_readsFactor M) fun r2 M1 => if r2 = 0 then some (some (pzI 0), M1) else (m_Mod_readsSum_14 (M 100 15) pzN M1) := by
  show pzr 7 168 (0, [pzR 100, pzN, pzN], [], M) = _
  refine (pz_goes tq_168 4 (σ' := (6, [pzR 100, pzI (M 100 15), pzN], [pzR 100], M)) rfl).trans ?_
  refine (e_callI (as := [pzR 100, pzN]) (rest := []) (d' := 6) tq_166 rfl rfl rfl rfl rfl tq_168 rfl).trans (e_bI rfl fun r2 M1 => ?_)
  refine (e_if_ne tq_168 rfl).trans (e_ite ?_ ?_)
  · refine (pz_goes tq_168 1 (σ' := (13, [pzR 100, pzI (M 100 15), pzN], [pzI 0], M1)) rfl).trans ?_
    exact (e_zret tq_168 rfl).trans (grd_pos (by decide))
  · rfl
set_option maxRecDepth 20000 in
theorem m_Mod_readsSum_14_eq (x1 : Int) (w2 : pz_V) (M : pz_M) : m_Mod_readsSum_14 x1 w2 M = bI (m_Mod_here M) fun r2 M1 => bI (m_Mod_sumSign r2 M1) fun r4 M3 => if r4 = (-1 : Int) then (bI (m_Mod_here M3) fun r6 M5 => if r6 = (93 : Int) then (bI (m_Mod_hasOpenSum x1 M5) fun r8 M7 => if r8 = 0 then (m_Mod_readsSum_138 x1 (pzI r4) M7) else (bV (m_Mod_closesSums 1 M7) fun M9 => bM (pz_wr M9 100 15 (isb (M9 100 15) 1)) fun M10 => bM (pz_wr M10 100 13 (isb (M10 100 13) 1)) fun M11 => bM (pz_wr M11 100 9 (ia (M11 100 9) 1)) fun M12 => m_Mod_readsSum_14 x1 (pzI r4) M12)) else (m_Mod_readsSum_138 x1 (pzI r4) M5)) else (if r4 < (4 : Int) then (m_Mod_readsSum_38 x1 r4 1 M3) else (m_Mod_readsSum_38 x1 r4 0 M3)) := by
  show pzr 7 168 (14, [pzR 100, pzI x1, w2], [], M) = _
  refine (pz_goes tq_168 1 (σ' := (15, [pzR 100, pzI x1, w2], [pzR 100], M)) rfl).trans ?_
  refine (e_callI (as := [pzR 100]) (rest := []) (d' := 3) tq_155 rfl rfl rfl rfl rfl tq_168 rfl).trans (e_bI rfl fun r2 M1 => ?_)
  refine (e_callI (as := [pzI r2]) (rest := []) (d' := 3) tq_164 rfl rfl rfl rfl rfl tq_168 rfl).trans (e_bI rfl fun r4 M3 => ?_)
  refine (pz_goes tq_168 3 (σ' := (24, [pzR 100, pzI x1, pzI r4], [pzI (-1), pzI r4], M3)) rfl).trans ?_
  refine (e_icmp_eq tq_168 rfl).trans (e_ite ?_ ?_)
  · refine (pz_goes tq_168 1 (σ' := (84, [pzR 100, pzI x1, pzI r4], [pzR 100], M3)) rfl).trans ?_
    refine (e_callI (as := [pzR 100]) (rest := []) (d' := 3) tq_155 rfl rfl rfl rfl rfl tq_168 rfl).trans (e_bI rfl fun r6 M5 => ?_)
    refine (pz_goes tq_168 1 (σ' := (89, [pzR 100, pzI x1, pzI r4], [pzI 93, pzI r6], M5)) rfl).trans ?_
    refine (e_icmp_ne tq_168 rfl).trans (e_ite ?_ ?_)
    · refine (pz_goes tq_168 2 (σ' := (94, [pzR 100, pzI x1, pzI r4], [pzI x1, pzR 100], M5)) rfl).trans ?_
      refine (e_callI (as := [pzR 100, pzI x1, pzN]) (rest := []) (d' := 3) tq_167 rfl rfl rfl rfl rfl tq_168 rfl).trans (e_bI rfl fun r8 M7 => ?_)
      refine (e_if_eq tq_168 rfl).trans (e_ite ?_ ?_)
      · rfl
      · refine (pz_goes tq_168 2 (σ' := (102, [pzR 100, pzI x1, pzI r4], [pzI 1, pzR 100], M7)) rfl).trans ?_
        refine (e_callV (as := [pzR 100, pzI 1]) (rest := []) (d' := 4) tq_165 rfl rfl rfl rfl rfl tq_168 rfl).trans (e_bV rfl fun M9 => ?_)
        refine (pz_goes tq_168 5 (σ' := (112, [pzR 100, pzI x1, pzI r4], [pzI (isb (M9 100 15) 1), pzR 100], M9)) rfl).trans ?_
        refine (e_putI rfl tq_168 rfl).trans ?_
        refine e_bM (f := fun M10 => pzr 7 168 (115, [pzR 100, pzI x1, pzI r4], [], M10)) (fun M10 => ?_)
        refine (pz_goes tq_168 5 (σ' := (122, [pzR 100, pzI x1, pzI r4], [pzI (isb (M10 100 13) 1), pzR 100], M10)) rfl).trans ?_
        refine (e_putI rfl tq_168 rfl).trans ?_
        refine e_bM (f := fun M11 => pzr 7 168 (125, [pzR 100, pzI x1, pzI r4], [], M11)) (fun M11 => ?_)
        refine (pz_goes tq_168 5 (σ' := (132, [pzR 100, pzI x1, pzI r4], [pzI (ia (M11 100 9) 1), pzR 100], M11)) rfl).trans ?_
        refine (e_putI rfl tq_168 rfl).trans ?_
        refine e_bM (f := fun M12 => pzr 7 168 (135, [pzR 100, pzI x1, pzI r4], [], M12)) (fun M12 => ?_)
        refine (pz_goes tq_168 2 (σ' := (14, [pzR 100, pzI x1, pzI r4], [], M12)) rfl).trans ?_
        rfl
    · rfl
  · refine (pz_goes tq_168 3 (σ' := (30, [pzR 100, pzI x1, pzI r4], [pzI 4, pzI r4, pzR 100], M3)) rfl).trans ?_
    refine (e_icmp_ge tq_168 rfl).trans (e_ite ?_ ?_)
    · refine (pz_goes tq_168 2 (σ' := (38, [pzR 100, pzI x1, pzI r4], [pzI 1, pzR 100], M3)) rfl).trans ?_
      rfl
    · refine (pz_goes tq_168 1 (σ' := (38, [pzR 100, pzI x1, pzI r4], [pzI 0, pzR 100], M3)) rfl).trans ?_
      rfl
set_option maxRecDepth 20000 in
theorem m_Mod_readsSum_138_eq (x1 : Int) (w2 : pz_V) (M : pz_M) : m_Mod_readsSum_138 x1 w2 M = bI (m_Mod_hasOpenSum x1 M) fun r2 M1 => if r2 = 0 then (bV (m_Mod_closesSums 1 M1) fun M3 => some (some (pzI 1), M3)) else (bI (m_Mod_wrongAt 1 (M1 100 9) M1) fun r5 M4 => grd (r5 = 0 ∨ r5 = 1) (some (some (pzI r5), M4))) := by
  show pzr 7 168 (138, [pzR 100, pzI x1, w2], [], M) = _
  refine (pz_goes tq_168 2 (σ' := (140, [pzR 100, pzI x1, w2], [pzI x1, pzR 100], M)) rfl).trans ?_
  refine (e_callI (as := [pzR 100, pzI x1, pzN]) (rest := []) (d' := 3) tq_167 rfl rfl rfl rfl rfl tq_168 rfl).trans (e_bI rfl fun r2 M1 => ?_)
  refine (e_if_eq tq_168 rfl).trans (e_ite ?_ ?_)
  · refine (pz_goes tq_168 2 (σ' := (158, [pzR 100, pzI x1, w2], [pzI 1, pzR 100], M1)) rfl).trans ?_
    refine (e_callV (as := [pzR 100, pzI 1]) (rest := []) (d' := 4) tq_165 rfl rfl rfl rfl rfl tq_168 rfl).trans (e_bV rfl fun M3 => ?_)
    refine (pz_goes tq_168 1 (σ' := (162, [pzR 100, pzI x1, w2], [pzI 1], M3)) rfl).trans ?_
    exact (e_zret tq_168 rfl).trans (grd_pos (by decide))
  · refine (pz_goes tq_168 4 (σ' := (152, [pzR 100, pzI x1, w2], [pzI (M1 100 9), pzI 1, pzR 100], M1)) rfl).trans ?_
    refine (e_callI (as := [pzR 100, pzI 1, pzI (M1 100 9)]) (rest := []) (d' := 3) tq_157 rfl rfl rfl rfl rfl tq_168 rfl).trans (e_bI rfl fun r5 M4 => ?_)
    exact e_zret tq_168 rfl
set_option maxRecDepth 20000 in
theorem m_Mod_readsSum_38_eq (x1 : Int) (x2 : Int) (s0 : Int) (M : pz_M) : m_Mod_readsSum_38 x1 x2 s0 M = bV (m_Mod_closesSums s0 M) fun M1 => grd (0 ≤ (M1 100 15) ∧ (M1 100 15) < 260) (bM (pz_wr M1 109 (((M1 100 15)).toNat) (imu 1048576 x2)) fun M2 => bM (pz_wr M2 100 15 (ia (M2 100 15) 1)) fun M3 => bM (pz_wr M3 100 9 (ia (M3 100 9) 1)) fun M4 => bI (m_Mod_readsFactor M4) fun r6 M5 => if r6 = 0 then some (some (pzI 0), M5) else (m_Mod_readsSum_14 x1 (pzI x2) M5)) := by
  show pzr 7 168 (38, [pzR 100, pzI x1, pzI x2], [pzI s0, pzR 100], M) = _
  refine (e_callV (as := [pzR 100, pzI s0]) (rest := []) (d' := 4) tq_165 rfl rfl rfl rfl rfl tq_168 rfl).trans (e_bV rfl fun M1 => ?_)
  refine (pz_goes tq_168 7 (σ' := (53, [pzR 100, pzI x1, pzI x2], [pzI (imu 1048576 x2), pzI (M1 100 15), pzR 109], M1)) rfl).trans ?_
  refine (e_iast (n := 260) rfl rfl tq_168 rfl).trans (e_grd ?_)
  refine e_bM (m := pz_wr M1 109 (((M1 100 15)).toNat) (imu 1048576 x2)) (f := fun M2 => pzr 7 168 (54, [pzR 100, pzI x1, pzI x2], [], M2)) (fun M2 => ?_)
  refine (pz_goes tq_168 5 (σ' := (61, [pzR 100, pzI x1, pzI x2], [pzI (ia (M2 100 15) 1), pzR 100], M2)) rfl).trans ?_
  refine (e_putI rfl tq_168 rfl).trans ?_
  refine e_bM (f := fun M3 => pzr 7 168 (64, [pzR 100, pzI x1, pzI x2], [], M3)) (fun M3 => ?_)
  refine (pz_goes tq_168 5 (σ' := (71, [pzR 100, pzI x1, pzI x2], [pzI (ia (M3 100 9) 1), pzR 100], M3)) rfl).trans ?_
  refine (e_putI rfl tq_168 rfl).trans ?_
  refine e_bM (f := fun M4 => pzr 7 168 (74, [pzR 100, pzI x1, pzI x2], [], M4)) (fun M4 => ?_)
  refine (pz_goes tq_168 1 (σ' := (75, [pzR 100, pzI x1, pzI x2], [pzR 100], M4)) rfl).trans ?_
  refine (e_callI (as := [pzR 100, pzN]) (rest := []) (d' := 6) tq_166 rfl rfl rfl rfl rfl tq_168 rfl).trans (e_bI rfl fun r6 M5 => ?_)
  refine (e_if_ne tq_168 rfl).trans (e_ite ?_ ?_)
  · refine (pz_goes tq_168 1 (σ' := (82, [pzR 100, pzI x1, pzI x2], [pzI 0], M5)) rfl).trans ?_
    exact (e_zret tq_168 rfl).trans (grd_pos (by decide))
  · refine (pz_goes tq_168 1 (σ' := (14, [pzR 100, pzI x1, pzI x2], [], M5)) rfl).trans ?_
    rfl
/-! PeacockDeskModel.endsPiece()V -/
set_option maxRecDepth 20000 in
theorem m_Mod_endsPiece_eq (M : pz_M) : m_Mod_endsPiece M = bI (m_Mod_waitTop M) fun r2 M1 => if r2 = (10 : Int) then (bV (m_Mod_notes 10 0 M1) fun M3 => bM (pz_wr M3 100 15 (isb (M3 100 15) 1)) fun M4 => bM (pz_wr M4 100 13 (isb (M4 100 13) 1)) fun M5 => m_Mod_endsPiece_0 M5) else (some (none, M1)) := by
  show pzr 4 169 (0, [pzR 100], [], M) = _
  refine (pz_goes tq_169 1 (σ' := (1, [pzR 100], [pzR 100], M)) rfl).trans ?_
  refine (e_callI (as := [pzR 100]) (rest := []) (d' := 3) tq_162 rfl rfl rfl rfl rfl tq_169 rfl).trans (e_bI rfl fun r2 M1 => ?_)
  refine (pz_goes tq_169 1 (σ' := (6, [pzR 100], [pzI 10, pzI r2], M1)) rfl).trans ?_
  refine (e_icmp_ne tq_169 rfl).trans (e_ite ?_ ?_)
  · refine (pz_goes tq_169 3 (σ' := (13, [pzR 100], [pzI 0, pzI 10, pzR 100], M1)) rfl).trans ?_
    refine (e_callV (as := [pzR 100, pzI 10, pzI 0]) (rest := []) (d' := 3) tq_160 rfl rfl rfl rfl rfl tq_169 rfl).trans (e_bV rfl fun M3 => ?_)
    refine (pz_goes tq_169 5 (σ' := (23, [pzR 100], [pzI (isb (M3 100 15) 1), pzR 100], M3)) rfl).trans ?_
    refine (e_putI rfl tq_169 rfl).trans ?_
    refine e_bM (f := fun M4 => pzr 4 169 (26, [pzR 100], [], M4)) (fun M4 => ?_)
    refine (pz_goes tq_169 5 (σ' := (33, [pzR 100], [pzI (isb (M4 100 13) 1), pzR 100], M4)) rfl).trans ?_
    refine (e_putI rfl tq_169 rfl).trans ?_
    refine e_bM (f := fun M5 => pzr 4 169 (36, [pzR 100], [], M5)) (fun M5 => ?_)
    refine (pz_goes tq_169 1 (σ' := (0, [pzR 100], [], M5)) rfl).trans ?_
    rfl
  · exact e_ret tq_169 rfl
set_option maxRecDepth 20000 in
theorem m_Mod_endsPiece_0_eq (M : pz_M) : m_Mod_endsPiece_0 M = bI (m_Mod_waitTop M) fun r2 M1 => if r2 = (10 : Int) then (bV (m_Mod_notes 10 0 M1) fun M3 => bM (pz_wr M3 100 15 (isb (M3 100 15) 1)) fun M4 => bM (pz_wr M4 100 13 (isb (M4 100 13) 1)) fun M5 => m_Mod_endsPiece_0 M5) else (some (none, M1)) := by
  show pzr 4 169 (0, [pzR 100], [], M) = _
  refine (pz_goes tq_169 1 (σ' := (1, [pzR 100], [pzR 100], M)) rfl).trans ?_
  refine (e_callI (as := [pzR 100]) (rest := []) (d' := 3) tq_162 rfl rfl rfl rfl rfl tq_169 rfl).trans (e_bI rfl fun r2 M1 => ?_)
  refine (pz_goes tq_169 1 (σ' := (6, [pzR 100], [pzI 10, pzI r2], M1)) rfl).trans ?_
  refine (e_icmp_ne tq_169 rfl).trans (e_ite ?_ ?_)
  · refine (pz_goes tq_169 3 (σ' := (13, [pzR 100], [pzI 0, pzI 10, pzR 100], M1)) rfl).trans ?_
    refine (e_callV (as := [pzR 100, pzI 10, pzI 0]) (rest := []) (d' := 3) tq_160 rfl rfl rfl rfl rfl tq_169 rfl).trans (e_bV rfl fun M3 => ?_)
    refine (pz_goes tq_169 5 (σ' := (23, [pzR 100], [pzI (isb (M3 100 15) 1), pzR 100], M3)) rfl).trans ?_
    refine (e_putI rfl tq_169 rfl).trans ?_
    refine e_bM (f := fun M4 => pzr 4 169 (26, [pzR 100], [], M4)) (fun M4 => ?_)
    refine (pz_goes tq_169 5 (σ' := (33, [pzR 100], [pzI (isb (M4 100 13) 1), pzR 100], M4)) rfl).trans ?_
    refine (e_putI rfl tq_169 rfl).trans ?_
    refine e_bM (f := fun M5 => pzr 4 169 (36, [pzR 100], [], M5)) (fun M5 => ?_)
    refine (pz_goes tq_169 1 (σ' := (0, [pzR 100], [], M5)) rfl).trans ?_
    rfl
  · exact e_ret tq_169 rfl
/-! PeacockDeskModel.lands(Z)V -/
set_option maxRecDepth 20000 in
theorem m_Mod_lands_eq (x1 : Int) (M : pz_M) : m_Mod_lands x1 M = bI (m_Mod_waitTop M) fun r2 M1 => if r2 = (11 : Int) then (m_Mod_lands_22 x1 pzN M1) else (if x1 = 0 then some (none, M1) else (bI (m_Mod_waitTop M1) fun r4 M3 => if r4 = (12 : Int) then (m_Mod_lands_22 x1 pzN M3) else (some (none, M3)))) := by
  show pzr 4 170 (0, [pzR 100, pzI x1, pzN], [], M) = _
  refine (pz_goes tq_170 1 (σ' := (1, [pzR 100, pzI x1, pzN], [pzR 100], M)) rfl).trans ?_
  refine (e_callI (as := [pzR 100]) (rest := []) (d' := 3) tq_162 rfl rfl rfl rfl rfl tq_170 rfl).trans (e_bI rfl fun r2 M1 => ?_)
  refine (pz_goes tq_170 1 (σ' := (6, [pzR 100, pzI x1, pzN], [pzI 11, pzI r2], M1)) rfl).trans ?_
  refine (e_icmp_eq tq_170 rfl).trans (e_ite ?_ ?_)
  · rfl
  · refine (pz_goes tq_170 1 (σ' := (10, [pzR 100, pzI x1, pzN], [pzI x1], M1)) rfl).trans ?_
    refine (e_if_eq tq_170 rfl).trans (e_ite ?_ ?_)
    · exact e_ret tq_170 rfl
    · refine (pz_goes tq_170 1 (σ' := (14, [pzR 100, pzI x1, pzN], [pzR 100], M1)) rfl).trans ?_
      refine (e_callI (as := [pzR 100]) (rest := []) (d' := 3) tq_162 rfl rfl rfl rfl rfl tq_170 rfl).trans (e_bI rfl fun r4 M3 => ?_)
      refine (pz_goes tq_170 1 (σ' := (19, [pzR 100, pzI x1, pzN], [pzI 12, pzI r4], M3)) rfl).trans ?_
      refine (e_icmp_ne tq_170 rfl).trans (e_ite ?_ ?_)
      · rfl
      · exact e_ret tq_170 rfl
set_option maxRecDepth 20000 in
theorem m_Mod_lands_22_eq (x1 : Int) (w2 : pz_V) (M : pz_M) : m_Mod_lands_22 x1 w2 M = grd (0 ≤ (isb (M 100 15) 1) ∧ (isb (M 100 15) 1) < 260) (grd (0 ≤ (irm (M 109 (((isb (M 100 15) 1)).toNat)) 1048576) ∧ (irm (M 109 (((isb (M 100 15) 1)).toNat)) 1048576) < 260) (grd (0 ≤ (irm (M 109 (((isb (M 100 15) 1)).toNat)) 1048576) ∧ (irm (M 109 (((isb (M 100 15) 1)).toNat)) 1048576) < 260) (bM (pz_wr M 108 (((irm (M 109 (((isb (M 100 15) 1)).toNat)) 1048576)).toNat) (ia (imu 1048576 (idv (M 108 (((irm (M 109 (((isb (M 100 15) 1)).toNat)) 1048576)).toNat)) 1048576)) (M 100 14))) fun M1 => bM (pz_wr M1 100 15 (isb (M1 100 15) 1)) fun M2 => m_Mod_lands_0 x1 (pzI (irm (M 109 (((isb (M 100 15) 1)).toNat)) 1048576)) M2))) := by
  show pzr 4 170 (22, [pzR 100, pzI x1, w2], [], M) = _
  refine (pz_goes tq_170 6 (σ' := (32, [pzR 100, pzI x1, w2], [pzI (isb (M 100 15) 1), pzR 109], M)) rfl).trans ?_
  refine (e_iald (n := 260) rfl rfl tq_170 rfl).trans (e_grd ?_)
  refine (pz_goes tq_170 1 (σ' := (35, [pzR 100, pzI x1, w2], [pzI 1048576, pzI (M 109 (((isb (M 100 15) 1)).toNat))], M)) rfl).trans ?_
  refine ((e_div tq_170 rfl).trans (grd_pos (by decide))).trans ?_
  show pzr 4 170 (36, [pzR 100, pzI x1, w2], [pzI (irm (M 109 (((isb (M 100 15) 1)).toNat)) 1048576)], M) = _
  refine (pz_goes tq_170 8 (σ' := (49, [pzR 100, pzI x1, pzI (irm (M 109 (((isb (M 100 15) 1)).toNat)) 1048576)], [pzI (irm (M 109 (((isb (M 100 15) 1)).toNat)) 1048576), pzR 108, pzI 1048576, pzI (irm (M 109 (((isb (M 100 15) 1)).toNat)) 1048576), pzR 108], M)) rfl).trans ?_
  refine (e_iald (n := 260) rfl rfl tq_170 rfl).trans (e_grd ?_)
  refine (pz_goes tq_170 1 (σ' := (52, [pzR 100, pzI x1, pzI (irm (M 109 (((isb (M 100 15) 1)).toNat)) 1048576)], [pzI 1048576, pzI (M 108 (((irm (M 109 (((isb (M 100 15) 1)).toNat)) 1048576)).toNat)), pzI 1048576, pzI (irm (M 109 (((isb (M 100 15) 1)).toNat)) 1048576), pzR 108], M)) rfl).trans ?_
  refine ((e_div tq_170 rfl).trans (grd_pos (by decide))).trans ?_
  show pzr 4 170 (53, [pzR 100, pzI x1, pzI (irm (M 109 (((isb (M 100 15) 1)).toNat)) 1048576)], [pzI (idv (M 108 (((irm (M 109 (((isb (M 100 15) 1)).toNat)) 1048576)).toNat)) 1048576), pzI 1048576, pzI (irm (M 109 (((isb (M 100 15) 1)).toNat)) 1048576), pzR 108], M) = _
  refine (pz_goes tq_170 4 (σ' := (59, [pzR 100, pzI x1, pzI (irm (M 109 (((isb (M 100 15) 1)).toNat)) 1048576)], [pzI (ia (imu 1048576 (idv (M 108 (((irm (M 109 (((isb (M 100 15) 1)).toNat)) 1048576)).toNat)) 1048576)) (M 100 14)), pzI (irm (M 109 (((isb (M 100 15) 1)).toNat)) 1048576), pzR 108], M)) rfl).trans ?_
  refine (e_iast (n := 260) rfl rfl tq_170 rfl).trans (e_grd ?_)
  refine e_bM (m := pz_wr M 108 (((irm (M 109 (((isb (M 100 15) 1)).toNat)) 1048576)).toNat) (ia (imu 1048576 (idv (M 108 (((irm (M 109 (((isb (M 100 15) 1)).toNat)) 1048576)).toNat)) 1048576)) (M 100 14))) (f := fun M1 => pzr 4 170 (60, [pzR 100, pzI x1, pzI (irm (M 109 (((isb (M 100 15) 1)).toNat)) 1048576)], [], M1)) (fun M1 => ?_)
  refine (pz_goes tq_170 5 (σ' := (67, [pzR 100, pzI x1, pzI (irm (M 109 (((isb (M 100 15) 1)).toNat)) 1048576)], [pzI (isb (M1 100 15) 1), pzR 100], M1)) rfl).trans ?_
  refine (e_putI rfl tq_170 rfl).trans ?_
  refine e_bM (f := fun M2 => pzr 4 170 (70, [pzR 100, pzI x1, pzI (irm (M 109 (((isb (M 100 15) 1)).toNat)) 1048576)], [], M2)) (fun M2 => ?_)
  refine (pz_goes tq_170 1 (σ' := (0, [pzR 100, pzI x1, pzI (irm (M 109 (((isb (M 100 15) 1)).toNat)) 1048576)], [], M2)) rfl).trans ?_
  rfl
set_option maxRecDepth 20000 in
theorem m_Mod_lands_0_eq (x1 : Int) (w2 : pz_V) (M : pz_M) : m_Mod_lands_0 x1 w2 M = bI (m_Mod_waitTop M) fun r2 M1 => if r2 = (11 : Int) then (m_Mod_lands_22 x1 w2 M1) else (if x1 = 0 then some (none, M1) else (bI (m_Mod_waitTop M1) fun r4 M3 => if r4 = (12 : Int) then (m_Mod_lands_22 x1 w2 M3) else (some (none, M3)))) := by
  show pzr 4 170 (0, [pzR 100, pzI x1, w2], [], M) = _
  refine (pz_goes tq_170 1 (σ' := (1, [pzR 100, pzI x1, w2], [pzR 100], M)) rfl).trans ?_
  refine (e_callI (as := [pzR 100]) (rest := []) (d' := 3) tq_162 rfl rfl rfl rfl rfl tq_170 rfl).trans (e_bI rfl fun r2 M1 => ?_)
  refine (pz_goes tq_170 1 (σ' := (6, [pzR 100, pzI x1, w2], [pzI 11, pzI r2], M1)) rfl).trans ?_
  refine (e_icmp_eq tq_170 rfl).trans (e_ite ?_ ?_)
  · rfl
  · refine (pz_goes tq_170 1 (σ' := (10, [pzR 100, pzI x1, w2], [pzI x1], M1)) rfl).trans ?_
    refine (e_if_eq tq_170 rfl).trans (e_ite ?_ ?_)
    · exact e_ret tq_170 rfl
    · refine (pz_goes tq_170 1 (σ' := (14, [pzR 100, pzI x1, w2], [pzR 100], M1)) rfl).trans ?_
      refine (e_callI (as := [pzR 100]) (rest := []) (d' := 3) tq_162 rfl rfl rfl rfl rfl tq_170 rfl).trans (e_bI rfl fun r4 M3 => ?_)
      refine (pz_goes tq_170 1 (σ' := (19, [pzR 100, pzI x1, w2], [pzI 12, pzI r4], M3)) rfl).trans ?_
      refine (e_icmp_ne tq_170 rfl).trans (e_ite ?_ ?_)
      · rfl
      · exact e_ret tq_170 rfl
/-! PeacockDeskModel.jumps(I)V -/
set_option maxRecDepth 20000 in
theorem m_Mod_jumps_eq (x1 : Int) (M : pz_M) : m_Mod_jumps x1 M = grd (0 ≤ (M 100 15) ∧ (M 100 15) < 260) (bM (pz_wr M 109 (((M 100 15)).toNat) (ia (imu 1048576 x1) (M 100 14))) fun M1 => bM (pz_wr M1 100 15 (ia (M1 100 15) 1)) fun M2 => bV (m_Mod_notes x1 0 M2) fun M3 => bM (pz_wr M3 100 9 (ia (M3 100 9) 1)) fun M4 => some (none, M4)) := by
  show pzr 4 171 (0, [pzR 100, pzI x1], [], M) = _
  refine (pz_goes tq_171 10 (σ' := (17, [pzR 100, pzI x1], [pzI (ia (imu 1048576 x1) (M 100 14)), pzI (M 100 15), pzR 109], M)) rfl).trans ?_
  refine (e_iast (n := 260) rfl rfl tq_171 rfl).trans (e_grd ?_)
  refine e_bM (m := pz_wr M 109 (((M 100 15)).toNat) (ia (imu 1048576 x1) (M 100 14))) (f := fun M1 => pzr 4 171 (18, [pzR 100, pzI x1], [], M1)) (fun M1 => ?_)
  refine (pz_goes tq_171 5 (σ' := (25, [pzR 100, pzI x1], [pzI (ia (M1 100 15) 1), pzR 100], M1)) rfl).trans ?_
  refine (e_putI rfl tq_171 rfl).trans ?_
  refine e_bM (f := fun M2 => pzr 4 171 (28, [pzR 100, pzI x1], [], M2)) (fun M2 => ?_)
  refine (pz_goes tq_171 3 (σ' := (31, [pzR 100, pzI x1], [pzI 0, pzI x1, pzR 100], M2)) rfl).trans ?_
  refine (e_callV (as := [pzR 100, pzI x1, pzI 0]) (rest := []) (d' := 3) tq_160 rfl rfl rfl rfl rfl tq_171 rfl).trans (e_bV rfl fun M3 => ?_)
  refine (pz_goes tq_171 5 (σ' := (41, [pzR 100, pzI x1], [pzI (ia (M3 100 9) 1), pzR 100], M3)) rfl).trans ?_
  refine (e_putI rfl tq_171 rfl).trans ?_
  refine e_bM (f := fun M4 => pzr 4 171 (44, [pzR 100, pzI x1], [], M4)) (fun M4 => ?_)
  exact e_ret tq_171 rfl
/-! PeacockDeskModel.readsCompared()Z -/
set_option maxRecDepth 20000 in
theorem m_Mod_readsCompared_eq (M : pz_M) : m_Mod_readsCompared M = bI (m_Mod_readsSum M) fun r2 M1 => if r2 = 0 then some (some (pzI 0), M1) else (bI (m_Mod_here M1) fun r4 M3 => if r4 = (60 : Int) then (m_Mod_readsCompared_52 pzN 7 M3) else (bI (m_Mod_here M3) fun r6 M5 => if r6 = (62 : Int) then (m_Mod_readsCompared_52 pzN 8 M5) else (bI (m_Mod_here M5) fun r8 M7 => if r8 = (61 : Int) then (m_Mod_readsCompared_52 pzN 9 M7) else (m_Mod_readsCompared_52 pzN (-1) M7)))) := by
  show pzr 8 172 (0, [pzR 100, pzN], [], M) = _
  refine (pz_goes tq_172 1 (σ' := (1, [pzR 100, pzN], [pzR 100], M)) rfl).trans ?_
  refine (e_callI (as := [pzR 100, pzN, pzN]) (rest := []) (d' := 7) tq_168 rfl rfl rfl rfl rfl tq_172 rfl).trans (e_bI rfl fun r2 M1 => ?_)
  refine (e_if_ne tq_172 rfl).trans (e_ite ?_ ?_)
  · refine (pz_goes tq_172 1 (σ' := (8, [pzR 100, pzN], [pzI 0], M1)) rfl).trans ?_
    exact (e_zret tq_172 rfl).trans (grd_pos (by decide))
  · refine (pz_goes tq_172 1 (σ' := (10, [pzR 100, pzN], [pzR 100], M1)) rfl).trans ?_
    refine (e_callI (as := [pzR 100]) (rest := []) (d' := 3) tq_155 rfl rfl rfl rfl rfl tq_172 rfl).trans (e_bI rfl fun r4 M3 => ?_)
    refine (pz_goes tq_172 1 (σ' := (15, [pzR 100, pzN], [pzI 60, pzI r4], M3)) rfl).trans ?_
    refine (e_icmp_ne tq_172 rfl).trans (e_ite ?_ ?_)
    · refine (pz_goes tq_172 2 (σ' := (52, [pzR 100, pzN], [pzI 7], M3)) rfl).trans ?_
      rfl
    · refine (pz_goes tq_172 1 (σ' := (24, [pzR 100, pzN], [pzR 100], M3)) rfl).trans ?_
      refine (e_callI (as := [pzR 100]) (rest := []) (d' := 3) tq_155 rfl rfl rfl rfl rfl tq_172 rfl).trans (e_bI rfl fun r6 M5 => ?_)
      refine (pz_goes tq_172 1 (σ' := (29, [pzR 100, pzN], [pzI 62, pzI r6], M5)) rfl).trans ?_
      refine (e_icmp_ne tq_172 rfl).trans (e_ite ?_ ?_)
      · refine (pz_goes tq_172 2 (σ' := (52, [pzR 100, pzN], [pzI 8], M5)) rfl).trans ?_
        rfl
      · refine (pz_goes tq_172 1 (σ' := (38, [pzR 100, pzN], [pzR 100], M5)) rfl).trans ?_
        refine (e_callI (as := [pzR 100]) (rest := []) (d' := 3) tq_155 rfl rfl rfl rfl rfl tq_172 rfl).trans (e_bI rfl fun r8 M7 => ?_)
        refine (pz_goes tq_172 1 (σ' := (43, [pzR 100, pzN], [pzI 61, pzI r8], M7)) rfl).trans ?_
        refine (e_icmp_ne tq_172 rfl).trans (e_ite ?_ ?_)
        · refine (pz_goes tq_172 2 (σ' := (52, [pzR 100, pzN], [pzI 9], M7)) rfl).trans ?_
          rfl
        · refine (pz_goes tq_172 1 (σ' := (52, [pzR 100, pzN], [pzI (-1)], M7)) rfl).trans ?_
          rfl
set_option maxRecDepth 20000 in
theorem m_Mod_readsCompared_52_eq (w1 : pz_V) (s0 : Int) (M : pz_M) : m_Mod_readsCompared_52 w1 s0 M = if s0 = (-1 : Int) then (bI (m_Mod_wrongAt 1 (M 100 9) M) fun r2 M1 => grd (r2 = 0 ∨ r2 = 1) (some (some (pzI r2), M1))) else (bM (pz_wr M 100 9 (ia (M 100 9) 1)) fun M3 => bI (m_Mod_readsSum M3) fun r5 M4 => if r5 = 0 then some (some (pzI 0), M4) else (bV (m_Mod_notes s0 0 M4) fun M6 => bV (m_Mod_endsPiece M6) fun M7 => some (some (pzI 1), M7))) := by
  show pzr 8 172 (52, [pzR 100, w1], [pzI s0], M) = _
  refine (pz_goes tq_172 3 (σ' := (55, [pzR 100, pzI s0], [pzI (-1), pzI s0], M)) rfl).trans ?_
  refine (e_icmp_ne tq_172 rfl).trans (e_ite ?_ ?_)
  · refine (pz_goes tq_172 4 (σ' := (64, [pzR 100, pzI s0], [pzI (M 100 9), pzI 1, pzR 100], M)) rfl).trans ?_
    refine (e_callI (as := [pzR 100, pzI 1, pzI (M 100 9)]) (rest := []) (d' := 3) tq_157 rfl rfl rfl rfl rfl tq_172 rfl).trans (e_bI rfl fun r2 M1 => ?_)
    exact e_zret tq_172 rfl
  · refine (pz_goes tq_172 5 (σ' := (75, [pzR 100, pzI s0], [pzI (ia (M 100 9) 1), pzR 100], M)) rfl).trans ?_
    refine (e_putI rfl tq_172 rfl).trans ?_
    refine e_bM (f := fun M3 => pzr 8 172 (78, [pzR 100, pzI s0], [], M3)) (fun M3 => ?_)
    refine (pz_goes tq_172 1 (σ' := (79, [pzR 100, pzI s0], [pzR 100], M3)) rfl).trans ?_
    refine (e_callI (as := [pzR 100, pzN, pzN]) (rest := []) (d' := 7) tq_168 rfl rfl rfl rfl rfl tq_172 rfl).trans (e_bI rfl fun r5 M4 => ?_)
    refine (e_if_ne tq_172 rfl).trans (e_ite ?_ ?_)
    · refine (pz_goes tq_172 1 (σ' := (86, [pzR 100, pzI s0], [pzI 0], M4)) rfl).trans ?_
      exact (e_zret tq_172 rfl).trans (grd_pos (by decide))
    · refine (pz_goes tq_172 3 (σ' := (90, [pzR 100, pzI s0], [pzI 0, pzI s0, pzR 100], M4)) rfl).trans ?_
      refine (e_callV (as := [pzR 100, pzI s0, pzI 0]) (rest := []) (d' := 3) tq_160 rfl rfl rfl rfl rfl tq_172 rfl).trans (e_bV rfl fun M6 => ?_)
      refine (pz_goes tq_172 1 (σ' := (94, [pzR 100, pzI s0], [pzR 100], M6)) rfl).trans ?_
      refine (e_callV (as := [pzR 100]) (rest := []) (d' := 4) tq_169 rfl rfl rfl rfl rfl tq_172 rfl).trans (e_bV rfl fun M7 => ?_)
      refine (pz_goes tq_172 1 (σ' := (98, [pzR 100, pzI s0], [pzI 1], M7)) rfl).trans ?_
      exact (e_zret tq_172 rfl).trans (grd_pos (by decide))
/-! PeacockDeskModel.readsCondition()Z -/
set_option maxRecDepth 20000 in
theorem m_Mod_readsCondition_eq (M : pz_M) : m_Mod_readsCondition M = bI (m_Mod_here M) fun r2 M1 => if r2 = (40 : Int) then (bM (pz_wr M1 100 13 0) fun M3 => bM (pz_wr M3 100 15 0) fun M4 => bI (m_Mod_opens 13 M4) fun r6 M5 => if r6 = 0 then some (some (pzI 0), M5) else (m_Mod_readsCondition_40 M5)) else (bI (m_Mod_wrongAt 1 (M1 100 9) M1) fun r8 M7 => grd (r8 = 0 ∨ r8 = 1) (some (some (pzI r8), M7))) := by
  show pzr 9 173 (0, [pzR 100], [], M) = _
  refine (pz_goes tq_173 1 (σ' := (1, [pzR 100], [pzR 100], M)) rfl).trans ?_
  refine (e_callI (as := [pzR 100]) (rest := []) (d' := 3) tq_155 rfl rfl rfl rfl rfl tq_173 rfl).trans (e_bI rfl fun r2 M1 => ?_)
  refine (pz_goes tq_173 1 (σ' := (6, [pzR 100], [pzI 40, pzI r2], M1)) rfl).trans ?_
  refine (e_icmp_eq tq_173 rfl).trans (e_ite ?_ ?_)
  · refine (pz_goes tq_173 2 (σ' := (21, [pzR 100], [pzI 0, pzR 100], M1)) rfl).trans ?_
    refine (e_putI rfl tq_173 rfl).trans ?_
    refine e_bM (f := fun M3 => pzr 9 173 (24, [pzR 100], [], M3)) (fun M3 => ?_)
    refine (pz_goes tq_173 2 (σ' := (26, [pzR 100], [pzI 0, pzR 100], M3)) rfl).trans ?_
    refine (e_putI rfl tq_173 rfl).trans ?_
    refine e_bM (f := fun M4 => pzr 9 173 (29, [pzR 100], [], M4)) (fun M4 => ?_)
    refine (pz_goes tq_173 2 (σ' := (32, [pzR 100], [pzI 13, pzR 100], M4)) rfl).trans ?_
    refine (e_callI (as := [pzR 100, pzI 13]) (rest := []) (d' := 4) tq_161 rfl rfl rfl rfl rfl tq_173 rfl).trans (e_bI rfl fun r6 M5 => ?_)
    refine (e_if_ne tq_173 rfl).trans (e_ite ?_ ?_)
    · refine (pz_goes tq_173 1 (σ' := (39, [pzR 100], [pzI 0], M5)) rfl).trans ?_
      exact (e_zret tq_173 rfl).trans (grd_pos (by decide))
    · rfl
  · refine (pz_goes tq_173 4 (σ' := (15, [pzR 100], [pzI (M1 100 9), pzI 1, pzR 100], M1)) rfl).trans ?_
    refine (e_callI (as := [pzR 100, pzI 1, pzI (M1 100 9)]) (rest := []) (d' := 3) tq_157 rfl rfl rfl rfl rfl tq_173 rfl).trans (e_bI rfl fun r8 M7 => ?_)
    exact e_zret tq_173 rfl
set_option maxRecDepth 20000 in
theorem m_Mod_readsCondition_40_eq (M : pz_M) : m_Mod_readsCondition_40 M = bI (m_Mod_here M) fun r2 M1 => if r2 = (33 : Int) then (m_Mod_readsCondition_58 M1) else (bI (m_Mod_here M1) fun r4 M3 => if r4 = (40 : Int) then (m_Mod_readsCondition_58 M3) else (bI (m_Mod_readsCompared M3) fun r6 M5 => if r6 = 0 then some (some (pzI 0), M5) else (m_Mod_readsCondition_92 M5))) := by
  show pzr 9 173 (40, [pzR 100], [], M) = _
  refine (pz_goes tq_173 1 (σ' := (41, [pzR 100], [pzR 100], M)) rfl).trans ?_
  refine (e_callI (as := [pzR 100]) (rest := []) (d' := 3) tq_155 rfl rfl rfl rfl rfl tq_173 rfl).trans (e_bI rfl fun r2 M1 => ?_)
  refine (pz_goes tq_173 1 (σ' := (46, [pzR 100], [pzI 33, pzI r2], M1)) rfl).trans ?_
  refine (e_icmp_eq tq_173 rfl).trans (e_ite ?_ ?_)
  · rfl
  · refine (pz_goes tq_173 1 (σ' := (50, [pzR 100], [pzR 100], M1)) rfl).trans ?_
    refine (e_callI (as := [pzR 100]) (rest := []) (d' := 3) tq_155 rfl rfl rfl rfl rfl tq_173 rfl).trans (e_bI rfl fun r4 M3 => ?_)
    refine (pz_goes tq_173 1 (σ' := (55, [pzR 100], [pzI 40, pzI r4], M3)) rfl).trans ?_
    refine (e_icmp_ne tq_173 rfl).trans (e_ite ?_ ?_)
    · rfl
    · refine (pz_goes tq_173 1 (σ' := (84, [pzR 100], [pzR 100], M3)) rfl).trans ?_
      refine (e_callI (as := [pzR 100, pzN]) (rest := []) (d' := 8) tq_172 rfl rfl rfl rfl rfl tq_173 rfl).trans (e_bI rfl fun r6 M5 => ?_)
      refine (e_if_ne tq_173 rfl).trans (e_ite ?_ ?_)
      · refine (pz_goes tq_173 1 (σ' := (91, [pzR 100], [pzI 0], M5)) rfl).trans ?_
        exact (e_zret tq_173 rfl).trans (grd_pos (by decide))
      · rfl
set_option maxRecDepth 20000 in
theorem m_Mod_readsCondition_58_eq (M : pz_M) : m_Mod_readsCondition_58 M = bI (m_Mod_here M) fun r2 M1 => if r2 = (33 : Int) then (m_Mod_readsCondition_75 10 M1) else (m_Mod_readsCondition_75 13 M1) := by
  show pzr 9 173 (58, [pzR 100], [], M) = _
  refine (pz_goes tq_173 2 (σ' := (60, [pzR 100], [pzR 100, pzR 100], M)) rfl).trans ?_
  refine (e_callI (as := [pzR 100]) (rest := [pzR 100]) (d' := 3) tq_155 rfl rfl rfl rfl rfl tq_173 rfl).trans (e_bI rfl fun r2 M1 => ?_)
  refine (pz_goes tq_173 1 (σ' := (65, [pzR 100], [pzI 33, pzI r2, pzR 100], M1)) rfl).trans ?_
  refine (e_icmp_ne tq_173 rfl).trans (e_ite ?_ ?_)
  · refine (pz_goes tq_173 2 (σ' := (75, [pzR 100], [pzI 10, pzR 100], M1)) rfl).trans ?_
    rfl
  · refine (pz_goes tq_173 1 (σ' := (75, [pzR 100], [pzI 13, pzR 100], M1)) rfl).trans ?_
    rfl
set_option maxRecDepth 20000 in
theorem m_Mod_readsCondition_92_eq (M : pz_M) : m_Mod_readsCondition_92 M = bI (m_Mod_here M) fun r2 M1 => if r2 = (41 : Int) then (bV (m_Mod_lands 1 M1) fun M3 => bM (pz_wr M3 100 15 (isb (M3 100 15) 1)) fun M4 => bM (pz_wr M4 100 13 (isb (M4 100 13) 1)) fun M5 => bM (pz_wr M5 100 9 (ia (M5 100 9) 1)) fun M6 => if (M6 100 15) = 0 then some (some (pzI 1), M6) else (bV (m_Mod_endsPiece M6) fun M7 => m_Mod_readsCondition_92 M7)) else (bI (m_Mod_here M1) fun r9 M8 => if r9 = (38 : Int) then (m_Mod_readsCondition_180 M8) else (bI (m_Mod_here M8) fun r11 M10 => if r11 = (124 : Int) then (m_Mod_readsCondition_180 M10) else (bI (m_Mod_wrongAt 1 (M10 100 9) M10) fun r13 M12 => grd (r13 = 0 ∨ r13 = 1) (some (some (pzI r13), M12))))) := by
  show pzr 9 173 (92, [pzR 100], [], M) = _
  refine (pz_goes tq_173 1 (σ' := (93, [pzR 100], [pzR 100], M)) rfl).trans ?_
  refine (e_callI (as := [pzR 100]) (rest := []) (d' := 3) tq_155 rfl rfl rfl rfl rfl tq_173 rfl).trans (e_bI rfl fun r2 M1 => ?_)
  refine (pz_goes tq_173 1 (σ' := (98, [pzR 100], [pzI 41, pzI r2], M1)) rfl).trans ?_
  refine (e_icmp_ne tq_173 rfl).trans (e_ite ?_ ?_)
  · refine (pz_goes tq_173 2 (σ' := (103, [pzR 100], [pzI 1, pzR 100], M1)) rfl).trans ?_
    refine (e_callV (as := [pzR 100, pzI 1, pzN]) (rest := []) (d' := 4) tq_170 rfl rfl rfl rfl rfl tq_173 rfl).trans (e_bV rfl fun M3 => ?_)
    refine (pz_goes tq_173 5 (σ' := (113, [pzR 100], [pzI (isb (M3 100 15) 1), pzR 100], M3)) rfl).trans ?_
    refine (e_putI rfl tq_173 rfl).trans ?_
    refine e_bM (f := fun M4 => pzr 9 173 (116, [pzR 100], [], M4)) (fun M4 => ?_)
    refine (pz_goes tq_173 5 (σ' := (123, [pzR 100], [pzI (isb (M4 100 13) 1), pzR 100], M4)) rfl).trans ?_
    refine (e_putI rfl tq_173 rfl).trans ?_
    refine e_bM (f := fun M5 => pzr 9 173 (126, [pzR 100], [], M5)) (fun M5 => ?_)
    refine (pz_goes tq_173 5 (σ' := (133, [pzR 100], [pzI (ia (M5 100 9) 1), pzR 100], M5)) rfl).trans ?_
    refine (e_putI rfl tq_173 rfl).trans ?_
    refine e_bM (f := fun M6 => pzr 9 173 (136, [pzR 100], [], M6)) (fun M6 => ?_)
    refine (pz_goes tq_173 2 (σ' := (140, [pzR 100], [pzI (M6 100 15)], M6)) rfl).trans ?_
    refine (e_if_ne tq_173 rfl).trans (e_ite ?_ ?_)
    · refine (pz_goes tq_173 1 (σ' := (144, [pzR 100], [pzI 1], M6)) rfl).trans ?_
      exact (e_zret tq_173 rfl).trans (grd_pos (by decide))
    · refine (pz_goes tq_173 1 (σ' := (146, [pzR 100], [pzR 100], M6)) rfl).trans ?_
      refine (e_callV (as := [pzR 100]) (rest := []) (d' := 4) tq_169 rfl rfl rfl rfl rfl tq_173 rfl).trans (e_bV rfl fun M7 => ?_)
      refine (pz_goes tq_173 1 (σ' := (92, [pzR 100], [], M7)) rfl).trans ?_
      rfl
  · refine (pz_goes tq_173 1 (σ' := (153, [pzR 100], [pzR 100], M1)) rfl).trans ?_
    refine (e_callI (as := [pzR 100]) (rest := []) (d' := 3) tq_155 rfl rfl rfl rfl rfl tq_173 rfl).trans (e_bI rfl fun r9 M8 => ?_)
    refine (pz_goes tq_173 1 (σ' := (158, [pzR 100], [pzI 38, pzI r9], M8)) rfl).trans ?_
    refine (e_icmp_eq tq_173 rfl).trans (e_ite ?_ ?_)
    · rfl
    · refine (pz_goes tq_173 1 (σ' := (162, [pzR 100], [pzR 100], M8)) rfl).trans ?_
      refine (e_callI (as := [pzR 100]) (rest := []) (d' := 3) tq_155 rfl rfl rfl rfl rfl tq_173 rfl).trans (e_bI rfl fun r11 M10 => ?_)
      refine (pz_goes tq_173 1 (σ' := (167, [pzR 100], [pzI 124, pzI r11], M10)) rfl).trans ?_
      refine (e_icmp_eq tq_173 rfl).trans (e_ite ?_ ?_)
      · rfl
      · refine (pz_goes tq_173 4 (σ' := (176, [pzR 100], [pzI (M10 100 9), pzI 1, pzR 100], M10)) rfl).trans ?_
        refine (e_callI (as := [pzR 100, pzI 1, pzI (M10 100 9)]) (rest := []) (d' := 3) tq_157 rfl rfl rfl rfl rfl tq_173 rfl).trans (e_bI rfl fun r13 M12 => ?_)
        exact e_zret tq_173 rfl
set_option maxRecDepth 20000 in
theorem m_Mod_readsCondition_75_eq (s0 : Int) (M : pz_M) : m_Mod_readsCondition_75 s0 M = bI (m_Mod_opens s0 M) fun r2 M1 => if r2 = 0 then some (some (pzI 0), M1) else (m_Mod_readsCondition_40 M1) := by
  show pzr 9 173 (75, [pzR 100], [pzI s0, pzR 100], M) = _
  refine (e_callI (as := [pzR 100, pzI s0]) (rest := []) (d' := 4) tq_161 rfl rfl rfl rfl rfl tq_173 rfl).trans (e_bI rfl fun r2 M1 => ?_)
  refine (e_if_ne tq_173 rfl).trans (e_ite ?_ ?_)
  · refine (pz_goes tq_173 1 (σ' := (82, [pzR 100], [pzI 0], M1)) rfl).trans ?_
    exact (e_zret tq_173 rfl).trans (grd_pos (by decide))
  · rfl
set_option maxRecDepth 20000 in
theorem m_Mod_readsCondition_180_eq (M : pz_M) : m_Mod_readsCondition_180 M = bI (m_Mod_here M) fun r2 M1 => if r2 = (124 : Int) then (m_Mod_readsCondition_195 1 M1) else (m_Mod_readsCondition_195 0 M1) := by
  show pzr 9 173 (180, [pzR 100], [], M) = _
  refine (pz_goes tq_173 2 (σ' := (182, [pzR 100], [pzR 100, pzR 100], M)) rfl).trans ?_
  refine (e_callI (as := [pzR 100]) (rest := [pzR 100]) (d' := 3) tq_155 rfl rfl rfl rfl rfl tq_173 rfl).trans (e_bI rfl fun r2 M1 => ?_)
  refine (pz_goes tq_173 1 (σ' := (187, [pzR 100], [pzI 124, pzI r2, pzR 100], M1)) rfl).trans ?_
  refine (e_icmp_ne tq_173 rfl).trans (e_ite ?_ ?_)
  · refine (pz_goes tq_173 2 (σ' := (195, [pzR 100], [pzI 1, pzR 100], M1)) rfl).trans ?_
    rfl
  · refine (pz_goes tq_173 1 (σ' := (195, [pzR 100], [pzI 0, pzR 100], M1)) rfl).trans ?_
    rfl
set_option maxRecDepth 20000 in
theorem m_Mod_readsCondition_195_eq (s0 : Int) (M : pz_M) : m_Mod_readsCondition_195 s0 M = bV (m_Mod_lands s0 M) fun M1 => bI (m_Mod_here M1) fun r3 M2 => if r3 = (38 : Int) then (m_Mod_readsCondition_215 11 M2) else (m_Mod_readsCondition_215 12 M2) := by
  show pzr 9 173 (195, [pzR 100], [pzI s0, pzR 100], M) = _
  refine (e_callV (as := [pzR 100, pzI s0, pzN]) (rest := []) (d' := 4) tq_170 rfl rfl rfl rfl rfl tq_173 rfl).trans (e_bV rfl fun M1 => ?_)
  refine (pz_goes tq_173 2 (σ' := (200, [pzR 100], [pzR 100, pzR 100], M1)) rfl).trans ?_
  refine (e_callI (as := [pzR 100]) (rest := [pzR 100]) (d' := 3) tq_155 rfl rfl rfl rfl rfl tq_173 rfl).trans (e_bI rfl fun r3 M2 => ?_)
  refine (pz_goes tq_173 1 (σ' := (205, [pzR 100], [pzI 38, pzI r3, pzR 100], M2)) rfl).trans ?_
  refine (e_icmp_ne tq_173 rfl).trans (e_ite ?_ ?_)
  · refine (pz_goes tq_173 2 (σ' := (215, [pzR 100], [pzI 11, pzR 100], M2)) rfl).trans ?_
    rfl
  · refine (pz_goes tq_173 1 (σ' := (215, [pzR 100], [pzI 12, pzR 100], M2)) rfl).trans ?_
    rfl
set_option maxRecDepth 20000 in
theorem m_Mod_readsCondition_215_eq (s0 : Int) (M : pz_M) : m_Mod_readsCondition_215 s0 M = bV (m_Mod_jumps s0 M) fun M1 => m_Mod_readsCondition_40 M1 := by
  show pzr 9 173 (215, [pzR 100], [pzI s0, pzR 100], M) = _
  refine (e_callV (as := [pzR 100, pzI s0]) (rest := []) (d' := 4) tq_171 rfl rfl rfl rfl rfl tq_173 rfl).trans (e_bV rfl fun M1 => ?_)
  refine (pz_goes tq_173 1 (σ' := (40, [pzR 100], [], M1)) rfl).trans ?_
  rfl
/-! PeacockDeskModel.readsRule()Z -/
set_option maxRecDepth 20000 in
theorem m_Mod_readsRule_eq (M : pz_M) : m_Mod_readsRule M = bI (m_Mod_here M) fun r2 M1 => if r2 = (101 : Int) then (m_Mod_readsRule_39 r2 M1) else (if r2 = (107 : Int) then (m_Mod_readsRule_39 r2 M1) else (if r2 = (104 : Int) then (m_Mod_readsRule_39 r2 M1) else (if r2 = (120 : Int) then (m_Mod_readsRule_39 r2 M1) else (bI (m_Mod_wrongAt 1 (M1 100 9) M1) fun r4 M3 => grd (r4 = 0 ∨ r4 = 1) (some (some (pzI r4), M3)))))) := by
  show pzr 10 174 (0, [pzR 100, pzN], [], M) = _
  refine (pz_goes tq_174 1 (σ' := (1, [pzR 100, pzN], [pzR 100], M)) rfl).trans ?_
  refine (e_callI (as := [pzR 100]) (rest := []) (d' := 3) tq_155 rfl rfl rfl rfl rfl tq_174 rfl).trans (e_bI rfl fun r2 M1 => ?_)
  refine (pz_goes tq_174 3 (σ' := (8, [pzR 100, pzI r2], [pzI 101, pzI r2], M1)) rfl).trans ?_
  refine (e_icmp_eq tq_174 rfl).trans (e_ite ?_ ?_)
  · rfl
  · refine (pz_goes tq_174 2 (σ' := (14, [pzR 100, pzI r2], [pzI 107, pzI r2], M1)) rfl).trans ?_
    refine (e_icmp_eq tq_174 rfl).trans (e_ite ?_ ?_)
    · rfl
    · refine (pz_goes tq_174 2 (σ' := (20, [pzR 100, pzI r2], [pzI 104, pzI r2], M1)) rfl).trans ?_
      refine (e_icmp_eq tq_174 rfl).trans (e_ite ?_ ?_)
      · rfl
      · refine (pz_goes tq_174 2 (σ' := (26, [pzR 100, pzI r2], [pzI 120, pzI r2], M1)) rfl).trans ?_
        refine (e_icmp_eq tq_174 rfl).trans (e_ite ?_ ?_)
        · rfl
        · refine (pz_goes tq_174 4 (σ' := (35, [pzR 100, pzI r2], [pzI (M1 100 9), pzI 1, pzR 100], M1)) rfl).trans ?_
          refine (e_callI (as := [pzR 100, pzI 1, pzI (M1 100 9)]) (rest := []) (d' := 3) tq_157 rfl rfl rfl rfl rfl tq_174 rfl).trans (e_bI rfl fun r4 M3 => ?_)
          exact e_zret tq_174 rfl
set_option maxRecDepth 20000 in
theorem m_Mod_readsRule_39_eq (x1 : Int) (M : pz_M) : m_Mod_readsRule_39 x1 M = if (M 100 16) = (16 : Int) then (bI (m_Mod_wrongAt 4 (M 100 9) M) fun r2 M1 => grd (r2 = 0 ∨ r2 = 1) (some (some (pzI r2), M1))) else (grd (0 ≤ (M 100 16) ∧ (M 100 16) < 16) (bM (pz_wr M 110 (((M 100 16)).toNat) x1) fun M3 => bM (pz_wr M3 100 9 (ia (M3 100 9) 1)) fun M4 => grd (0 ≤ (M4 100 16) ∧ (M4 100 16) < 16) (bM (pz_wr M4 111 (((M4 100 16)).toNat) (M4 100 14)) fun M5 => bM (pz_wr M5 100 13 0) fun M6 => bM (pz_wr M6 100 15 0) fun M7 => if x1 = (120 : Int) then (m_Mod_readsRule_116 (pzI x1) M7) else (bI (m_Mod_readsSum M7) fun r9 M8 => if r9 = 0 then some (some (pzI 0), M8) else (m_Mod_readsRule_116 (pzI x1) M8))))) := by
  show pzr 10 174 (39, [pzR 100, pzI x1], [], M) = _
  refine (pz_goes tq_174 3 (σ' := (45, [pzR 100, pzI x1], [pzI 16, pzI (M 100 16)], M)) rfl).trans ?_
  refine (e_icmp_ne tq_174 rfl).trans (e_ite ?_ ?_)
  · refine (pz_goes tq_174 4 (σ' := (54, [pzR 100, pzI x1], [pzI (M 100 9), pzI 4, pzR 100], M)) rfl).trans ?_
    refine (e_callI (as := [pzR 100, pzI 4, pzI (M 100 9)]) (rest := []) (d' := 3) tq_157 rfl rfl rfl rfl rfl tq_174 rfl).trans (e_bI rfl fun r2 M1 => ?_)
    exact e_zret tq_174 rfl
  · refine (pz_goes tq_174 5 (σ' := (67, [pzR 100, pzI x1], [pzI x1, pzI (M 100 16), pzR 110], M)) rfl).trans ?_
    refine (e_iast (n := 16) rfl rfl tq_174 rfl).trans (e_grd ?_)
    refine e_bM (m := pz_wr M 110 (((M 100 16)).toNat) x1) (f := fun M3 => pzr 10 174 (68, [pzR 100, pzI x1], [], M3)) (fun M3 => ?_)
    refine (pz_goes tq_174 5 (σ' := (75, [pzR 100, pzI x1], [pzI (ia (M3 100 9) 1), pzR 100], M3)) rfl).trans ?_
    refine (e_putI rfl tq_174 rfl).trans ?_
    refine e_bM (f := fun M4 => pzr 10 174 (78, [pzR 100, pzI x1], [], M4)) (fun M4 => ?_)
    refine (pz_goes tq_174 6 (σ' := (90, [pzR 100, pzI x1], [pzI (M4 100 14), pzI (M4 100 16), pzR 111], M4)) rfl).trans ?_
    refine (e_iast (n := 16) rfl rfl tq_174 rfl).trans (e_grd ?_)
    refine e_bM (m := pz_wr M4 111 (((M4 100 16)).toNat) (M4 100 14)) (f := fun M5 => pzr 10 174 (91, [pzR 100, pzI x1], [], M5)) (fun M5 => ?_)
    refine (pz_goes tq_174 2 (σ' := (93, [pzR 100, pzI x1], [pzI 0, pzR 100], M5)) rfl).trans ?_
    refine (e_putI rfl tq_174 rfl).trans ?_
    refine e_bM (f := fun M6 => pzr 10 174 (96, [pzR 100, pzI x1], [], M6)) (fun M6 => ?_)
    refine (pz_goes tq_174 2 (σ' := (98, [pzR 100, pzI x1], [pzI 0, pzR 100], M6)) rfl).trans ?_
    refine (e_putI rfl tq_174 rfl).trans ?_
    refine e_bM (f := fun M7 => pzr 10 174 (101, [pzR 100, pzI x1], [], M7)) (fun M7 => ?_)
    refine (pz_goes tq_174 2 (σ' := (104, [pzR 100, pzI x1], [pzI 120, pzI x1], M7)) rfl).trans ?_
    refine (e_icmp_eq tq_174 rfl).trans (e_ite ?_ ?_)
    · rfl
    · refine (pz_goes tq_174 1 (σ' := (108, [pzR 100, pzI x1], [pzR 100], M7)) rfl).trans ?_
      refine (e_callI (as := [pzR 100, pzN, pzN]) (rest := []) (d' := 7) tq_168 rfl rfl rfl rfl rfl tq_174 rfl).trans (e_bI rfl fun r9 M8 => ?_)
      refine (e_if_ne tq_174 rfl).trans (e_ite ?_ ?_)
      · refine (pz_goes tq_174 1 (σ' := (115, [pzR 100, pzI x1], [pzI 0], M8)) rfl).trans ?_
        exact (e_zret tq_174 rfl).trans (grd_pos (by decide))
      · rfl
set_option maxRecDepth 20000 in
theorem m_Mod_readsRule_116_eq (w1 : pz_V) (M : pz_M) : m_Mod_readsRule_116 w1 M = grd (0 ≤ (M 100 16) ∧ (M 100 16) < 16) (bM (pz_wr M 112 (((M 100 16)).toNat) (M 100 14)) fun M1 => bI (m_Mod_readsCondition M1) fun r3 M2 => if r3 = 0 then some (some (pzI 0), M2) else (grd (0 ≤ (M2 100 16) ∧ (M2 100 16) < 16) (bM (pz_wr M2 113 (((M2 100 16)).toNat) (M2 100 14)) fun M4 => bM (pz_wr M4 100 16 (ia (M4 100 16) 1)) fun M5 => some (some (pzI 1), M5)))) := by
  show pzr 10 174 (116, [pzR 100, w1], [], M) = _
  refine (pz_goes tq_174 6 (σ' := (128, [pzR 100, w1], [pzI (M 100 14), pzI (M 100 16), pzR 112], M)) rfl).trans ?_
  refine (e_iast (n := 16) rfl rfl tq_174 rfl).trans (e_grd ?_)
  refine e_bM (m := pz_wr M 112 (((M 100 16)).toNat) (M 100 14)) (f := fun M1 => pzr 10 174 (129, [pzR 100, w1], [], M1)) (fun M1 => ?_)
  refine (pz_goes tq_174 1 (σ' := (130, [pzR 100, w1], [pzR 100], M1)) rfl).trans ?_
  refine (e_callI (as := [pzR 100]) (rest := []) (d' := 9) tq_173 rfl rfl rfl rfl rfl tq_174 rfl).trans (e_bI rfl fun r3 M2 => ?_)
  refine (e_if_ne tq_174 rfl).trans (e_ite ?_ ?_)
  · refine (pz_goes tq_174 1 (σ' := (137, [pzR 100, w1], [pzI 0], M2)) rfl).trans ?_
    exact (e_zret tq_174 rfl).trans (grd_pos (by decide))
  · refine (pz_goes tq_174 6 (σ' := (150, [pzR 100, w1], [pzI (M2 100 14), pzI (M2 100 16), pzR 113], M2)) rfl).trans ?_
    refine (e_iast (n := 16) rfl rfl tq_174 rfl).trans (e_grd ?_)
    refine e_bM (m := pz_wr M2 113 (((M2 100 16)).toNat) (M2 100 14)) (f := fun M4 => pzr 10 174 (151, [pzR 100, w1], [], M4)) (fun M4 => ?_)
    refine (pz_goes tq_174 5 (σ' := (158, [pzR 100, w1], [pzI (ia (M4 100 16) 1), pzR 100], M4)) rfl).trans ?_
    refine (e_putI rfl tq_174 rfl).trans ?_
    refine e_bM (f := fun M5 => pzr 10 174 (161, [pzR 100, w1], [], M5)) (fun M5 => ?_)
    refine (pz_goes tq_174 1 (σ' := (162, [pzR 100, w1], [pzI 1], M5)) rfl).trans ?_
    exact (e_zret tq_174 rfl).trans (grd_pos (by decide))
/-! PeacockDeskModel.beginsText(I)V -/
set_option maxRecDepth 20000 in
theorem m_Mod_beginsText_eq (x1 : Int) (M : pz_M) : m_Mod_beginsText x1 M = bM (pz_wr M 100 9 0) fun M1 => bM (pz_wr M1 100 10 x1) fun M2 => bM (pz_wr M2 100 14 0) fun M3 => bM (pz_wr M3 100 16 0) fun M4 => some (none, M4) := by
  show pzr 3 175 (0, [pzR 100, pzI x1], [], M) = _
  refine (pz_goes tq_175 2 (σ' := (2, [pzR 100, pzI x1], [pzI 0, pzR 100], M)) rfl).trans ?_
  refine (e_putI rfl tq_175 rfl).trans ?_
  refine e_bM (f := fun M1 => pzr 3 175 (5, [pzR 100, pzI x1], [], M1)) (fun M1 => ?_)
  refine (pz_goes tq_175 2 (σ' := (7, [pzR 100, pzI x1], [pzI x1, pzR 100], M1)) rfl).trans ?_
  refine (e_putI rfl tq_175 rfl).trans ?_
  refine e_bM (f := fun M2 => pzr 3 175 (10, [pzR 100, pzI x1], [], M2)) (fun M2 => ?_)
  refine (pz_goes tq_175 2 (σ' := (12, [pzR 100, pzI x1], [pzI 0, pzR 100], M2)) rfl).trans ?_
  refine (e_putI rfl tq_175 rfl).trans ?_
  refine e_bM (f := fun M3 => pzr 3 175 (15, [pzR 100, pzI x1], [], M3)) (fun M3 => ?_)
  refine (pz_goes tq_175 2 (σ' := (17, [pzR 100, pzI x1], [pzI 0, pzR 100], M3)) rfl).trans ?_
  refine (e_putI rfl tq_175 rfl).trans ?_
  refine e_bM (f := fun M4 => pzr 3 175 (20, [pzR 100, pzI x1], [], M4)) (fun M4 => ?_)
  exact e_ret tq_175 rfl
/-! PeacockDeskModel.law(I)I -/
set_option maxRecDepth 20000 in
theorem m_Mod_law_eq (x1 : Int) (M : pz_M) : m_Mod_law x1 M = bI (m_Mod_in x1 1 240 M) fun r2 M1 => if r2 = 0 then some (some (pzI (-1)), M1) else (if (M1 100 8) < x1 then some (some (pzI (-1)), M1) else (bV (m_Mod_beginsText x1 M1) fun M3 => bI (m_Mod_readsRule M3) fun r5 M4 => m_Mod_law_31 (pzI x1) r5 pzN M4)) := by
  show pzr 11 176 (0, [pzR 100, pzI x1, pzN, pzN], [], M) = _
  refine (pz_goes tq_176 3 (σ' := (5, [pzR 100, pzI x1, pzN, pzN], [pzI 240, pzI 1, pzI x1], M)) rfl).trans ?_
  refine (e_callI (as := [pzI x1, pzI 1, pzI 240]) (rest := []) (d' := 3) tq_138 rfl rfl rfl rfl rfl tq_176 rfl).trans (e_bI rfl fun r2 M1 => ?_)
  refine (e_if_eq tq_176 rfl).trans (e_ite ?_ ?_)
  · refine (pz_goes tq_176 1 (σ' := (20, [pzR 100, pzI x1, pzN, pzN], [pzI (-1)], M1)) rfl).trans ?_
    exact e_iret tq_176 rfl
  · refine (pz_goes tq_176 3 (σ' := (16, [pzR 100, pzI x1, pzN, pzN], [pzI (M1 100 8), pzI x1], M1)) rfl).trans ?_
    refine (e_icmp_le tq_176 rfl).trans (e_ite ?_ ?_)
    · refine (pz_goes tq_176 1 (σ' := (20, [pzR 100, pzI x1, pzN, pzN], [pzI (-1)], M1)) rfl).trans ?_
      exact e_iret tq_176 rfl
    · refine (pz_goes tq_176 2 (σ' := (23, [pzR 100, pzI x1, pzN, pzN], [pzI x1, pzR 100], M1)) rfl).trans ?_
      refine (e_callV (as := [pzR 100, pzI x1]) (rest := []) (d' := 3) tq_175 rfl rfl rfl rfl rfl tq_176 rfl).trans (e_bV rfl fun M3 => ?_)
      refine (pz_goes tq_176 1 (σ' := (27, [pzR 100, pzI x1, pzN, pzN], [pzR 100], M3)) rfl).trans ?_
      refine (e_callI (as := [pzR 100, pzN]) (rest := []) (d' := 10) tq_174 rfl rfl rfl rfl rfl tq_176 rfl).trans (e_bI rfl fun r5 M4 => ?_)
      refine (pz_goes tq_176 1 (σ' := (31, [pzR 100, pzI x1, pzI r5, pzN], [], M4)) rfl).trans ?_
      rfl
set_option maxRecDepth 20000 in
theorem m_Mod_law_31_eq (w1 : pz_V) (x2 : Int) (w3 : pz_V) (M : pz_M) : m_Mod_law_31 w1 x2 w3 M = if x2 = 0 then (m_Mod_law_71 w1 x2 w3 M) else (if (M 100 9) < (M 100 10) then (bI (m_Mod_takes 59 M) fun r2 M1 => if r2 = 0 then (m_Mod_law_31 w1 0 w3 M1) else (bI (m_Mod_readsRule M1) fun r4 M3 => if r4 = 0 then (m_Mod_law_31 w1 0 w3 M3) else (m_Mod_law_31 w1 1 w3 M3))) else (m_Mod_law_71 w1 x2 w3 M)) := by
  show pzr 11 176 (31, [pzR 100, w1, pzI x2, w3], [], M) = _
  refine (pz_goes tq_176 1 (σ' := (32, [pzR 100, w1, pzI x2, w3], [pzI x2], M)) rfl).trans ?_
  refine (e_if_eq tq_176 rfl).trans (e_ite ?_ ?_)
  · rfl
  · refine (pz_goes tq_176 4 (σ' := (43, [pzR 100, w1, pzI x2, w3], [pzI (M 100 10), pzI (M 100 9)], M)) rfl).trans ?_
    refine (e_icmp_ge tq_176 rfl).trans (e_ite ?_ ?_)
    · refine (pz_goes tq_176 2 (σ' := (49, [pzR 100, w1, pzI x2, w3], [pzI 59, pzR 100], M)) rfl).trans ?_
      refine (e_callI (as := [pzR 100, pzI 59]) (rest := []) (d' := 4) tq_158 rfl rfl rfl rfl rfl tq_176 rfl).trans (e_bI rfl fun r2 M1 => ?_)
      refine (e_if_eq tq_176 rfl).trans (e_ite ?_ ?_)
      · refine (pz_goes tq_176 3 (σ' := (31, [pzR 100, w1, pzI 0, w3], [], M1)) rfl).trans ?_
        rfl
      · refine (pz_goes tq_176 1 (σ' := (56, [pzR 100, w1, pzI x2, w3], [pzR 100], M1)) rfl).trans ?_
        refine (e_callI (as := [pzR 100, pzN]) (rest := []) (d' := 10) tq_174 rfl rfl rfl rfl rfl tq_176 rfl).trans (e_bI rfl fun r4 M3 => ?_)
        refine (e_if_eq tq_176 rfl).trans (e_ite ?_ ?_)
        · refine (pz_goes tq_176 3 (σ' := (31, [pzR 100, w1, pzI 0, w3], [], M3)) rfl).trans ?_
          rfl
        · refine (pz_goes tq_176 4 (σ' := (31, [pzR 100, w1, pzI 1, w3], [], M3)) rfl).trans ?_
          rfl
    · rfl
set_option maxRecDepth 20000 in
theorem m_Mod_law_71_eq (w1 : pz_V) (x2 : Int) (w3 : pz_V) (M : pz_M) : m_Mod_law_71 w1 x2 w3 M = bM (pz_wr M 100 8 0) fun M1 => if x2 = 0 then some (some (pzI (M1 100 11)), M1) else (bM (pz_wr M1 100 17 (M1 100 16)) fun M2 => m_Mod_law_95 w1 (pzI x2) 0 M2) := by
  show pzr 11 176 (71, [pzR 100, w1, pzI x2, w3], [], M) = _
  refine (pz_goes tq_176 2 (σ' := (73, [pzR 100, w1, pzI x2, w3], [pzI 0, pzR 100], M)) rfl).trans ?_
  refine (e_putI rfl tq_176 rfl).trans ?_
  refine e_bM (f := fun M1 => pzr 11 176 (76, [pzR 100, w1, pzI x2, w3], [], M1)) (fun M1 => ?_)
  refine (pz_goes tq_176 1 (σ' := (77, [pzR 100, w1, pzI x2, w3], [pzI x2], M1)) rfl).trans ?_
  refine (e_if_ne tq_176 rfl).trans (e_ite ?_ ?_)
  · refine (pz_goes tq_176 2 (σ' := (84, [pzR 100, w1, pzI x2, w3], [pzI (M1 100 11)], M1)) rfl).trans ?_
    exact e_iret tq_176 rfl
  · refine (pz_goes tq_176 3 (σ' := (90, [pzR 100, w1, pzI x2, w3], [pzI (M1 100 16), pzR 100], M1)) rfl).trans ?_
    refine (e_putI rfl tq_176 rfl).trans ?_
    refine e_bM (f := fun M2 => pzr 11 176 (93, [pzR 100, w1, pzI x2, w3], [], M2)) (fun M2 => ?_)
    refine (pz_goes tq_176 2 (σ' := (95, [pzR 100, w1, pzI x2, pzI 0], [], M2)) rfl).trans ?_
    rfl
set_option maxRecDepth 20000 in
theorem m_Mod_law_95_eq (w1 : pz_V) (w2 : pz_V) (x3 : Int) (M : pz_M) : m_Mod_law_95 w1 w2 x3 M = if x3 < (M 100 14) then (grd (0 ≤ x3 ∧ x3 < 260) (grd (0 ≤ x3 ∧ x3 < 260) (bM (pz_wr M 114 ((x3).toNat) (M 108 ((x3).toNat))) fun M1 => m_Mod_law_95 w1 w2 (ia x3 (1)) M1))) else (m_Mod_law_123 w1 w2 0 M) := by
  show pzr 11 176 (95, [pzR 100, w1, w2, pzI x3], [], M) = _
  refine (pz_goes tq_176 3 (σ' := (100, [pzR 100, w1, w2, pzI x3], [pzI (M 100 14), pzI x3], M)) rfl).trans ?_
  refine (e_icmp_ge tq_176 rfl).trans (e_ite ?_ ?_)
  · refine (pz_goes tq_176 6 (σ' := (113, [pzR 100, w1, w2, pzI x3], [pzI x3, pzR 108, pzI x3, pzR 114], M)) rfl).trans ?_
    refine (e_iald (n := 260) rfl rfl tq_176 rfl).trans (e_grd ?_)
    refine (e_iast (n := 260) rfl rfl tq_176 rfl).trans (e_grd ?_)
    refine e_bM (m := pz_wr M 114 ((x3).toNat) (M 108 ((x3).toNat))) (f := fun M1 => pzr 11 176 (115, [pzR 100, w1, w2, pzI x3], [], M1)) (fun M1 => ?_)
    refine (pz_goes tq_176 2 (σ' := (95, [pzR 100, w1, w2, pzI (ia x3 (1))], [], M1)) rfl).trans ?_
    rfl
  · refine (pz_goes tq_176 2 (σ' := (123, [pzR 100, w1, w2, pzI 0], [], M)) rfl).trans ?_
    rfl
set_option maxRecDepth 20000 in
theorem m_Mod_law_123_eq (w1 : pz_V) (w2 : pz_V) (x3 : Int) (M : pz_M) : m_Mod_law_123 w1 w2 x3 M = if x3 < (M 100 16) then (grd (0 ≤ x3 ∧ x3 < 16) (grd (0 ≤ x3 ∧ x3 < 16) (bM (pz_wr M 115 ((x3).toNat) (M 110 ((x3).toNat))) fun M1 => grd (0 ≤ x3 ∧ x3 < 16) (grd (0 ≤ x3 ∧ x3 < 16) (bM (pz_wr M1 116 ((x3).toNat) (M1 111 ((x3).toNat))) fun M2 => grd (0 ≤ x3 ∧ x3 < 16) (grd (0 ≤ x3 ∧ x3 < 16) (bM (pz_wr M2 117 ((x3).toNat) (M2 112 ((x3).toNat))) fun M3 => grd (0 ≤ x3 ∧ x3 < 16) (grd (0 ≤ x3 ∧ x3 < 16) (bM (pz_wr M3 118 ((x3).toNat) (M3 113 ((x3).toNat))) fun M4 => m_Mod_law_123 w1 w2 (ia x3 (1)) M4))))))))) else (some (some (pzI (M 100 16)), M)) := by
  show pzr 11 176 (123, [pzR 100, w1, w2, pzI x3], [], M) = _
  refine (pz_goes tq_176 3 (σ' := (128, [pzR 100, w1, w2, pzI x3], [pzI (M 100 16), pzI x3], M)) rfl).trans ?_
  refine (e_icmp_ge tq_176 rfl).trans (e_ite ?_ ?_)
  · refine (pz_goes tq_176 6 (σ' := (141, [pzR 100, w1, w2, pzI x3], [pzI x3, pzR 110, pzI x3, pzR 115], M)) rfl).trans ?_
    refine (e_iald (n := 16) rfl rfl tq_176 rfl).trans (e_grd ?_)
    refine (e_iast (n := 16) rfl rfl tq_176 rfl).trans (e_grd ?_)
    refine e_bM (m := pz_wr M 115 ((x3).toNat) (M 110 ((x3).toNat))) (f := fun M1 => pzr 11 176 (143, [pzR 100, w1, w2, pzI x3], [], M1)) (fun M1 => ?_)
    refine (pz_goes tq_176 6 (σ' := (153, [pzR 100, w1, w2, pzI x3], [pzI x3, pzR 111, pzI x3, pzR 116], M1)) rfl).trans ?_
    refine (e_iald (n := 16) rfl rfl tq_176 rfl).trans (e_grd ?_)
    refine (e_iast (n := 16) rfl rfl tq_176 rfl).trans (e_grd ?_)
    refine e_bM (m := pz_wr M1 116 ((x3).toNat) (M1 111 ((x3).toNat))) (f := fun M2 => pzr 11 176 (155, [pzR 100, w1, w2, pzI x3], [], M2)) (fun M2 => ?_)
    refine (pz_goes tq_176 6 (σ' := (165, [pzR 100, w1, w2, pzI x3], [pzI x3, pzR 112, pzI x3, pzR 117], M2)) rfl).trans ?_
    refine (e_iald (n := 16) rfl rfl tq_176 rfl).trans (e_grd ?_)
    refine (e_iast (n := 16) rfl rfl tq_176 rfl).trans (e_grd ?_)
    refine e_bM (m := pz_wr M2 117 ((x3).toNat) (M2 112 ((x3).toNat))) (f := fun M3 => pzr 11 176 (167, [pzR 100, w1, w2, pzI x3], [], M3)) (fun M3 => ?_)
    refine (pz_goes tq_176 6 (σ' := (177, [pzR 100, w1, w2, pzI x3], [pzI x3, pzR 113, pzI x3, pzR 118], M3)) rfl).trans ?_
    refine (e_iald (n := 16) rfl rfl tq_176 rfl).trans (e_grd ?_)
    refine (e_iast (n := 16) rfl rfl tq_176 rfl).trans (e_grd ?_)
    refine e_bM (m := pz_wr M3 118 ((x3).toNat) (M3 113 ((x3).toNat))) (f := fun M4 => pzr 11 176 (179, [pzR 100, w1, w2, pzI x3], [], M4)) (fun M4 => ?_)
    refine (pz_goes tq_176 2 (σ' := (123, [pzR 100, w1, w2, pzI (ia x3 (1))], [], M4)) rfl).trans ?_
    rfl
  · refine (pz_goes tq_176 2 (σ' := (189, [pzR 100, w1, w2, pzI x3], [pzI (M 100 16)], M)) rfl).trans ?_
    exact e_iret tq_176 rfl
/-! PeacockDeskModel.reckon(III)I -/
set_option maxRecDepth 20000 in
theorem m_Mod_reckon_eq (x0 : Int) (x1 : Int) (x2 : Int) (M : pz_M) : m_Mod_reckon x0 x1 x2 M = if x0 = 2 then (some (some (pzI (ia x1 x2)), M)) else (if x0 = 3 then (some (some (pzI (isb x1 x2)), M)) else (if x0 = 4 then (some (some (pzI (imu x1 x2)), M)) else (if x0 = 5 then (grd (x2 ≠ 0) (some (some (pzI (idv x1 x2)), M))) else (if x0 = 6 then (grd (x2 ≠ 0) (some (some (pzI (irm x1 x2)), M))) else (if x0 = 7 then (if x1 < x2 then some (some (pzI 1), M) else (some (some (pzI 0), M))) else (if x0 = 8 then (if x2 < x1 then some (some (pzI 1), M) else (some (some (pzI 0), M))) else (if x1 = x2 then some (some (pzI 1), M) else (some (some (pzI 0), M))))))))) := by
  show pzr 3 177 (0, [pzI x0, pzI x1, pzI x2], [], M) = _
  refine (pz_goes tq_177 1 (σ' := (1, [pzI x0, pzI x1, pzI x2], [pzI x0], M)) rfl).trans ?_
  refine (e_sw tq_177 rfl).trans ?_
  refine e_sel.trans (e_ite ?_ ?_)
  · refine (pz_goes tq_177 3 (σ' := (47, [pzI x0, pzI x1, pzI x2], [pzI (ia x1 x2)], M)) rfl).trans ?_
    exact e_iret tq_177 rfl
  refine e_sel.trans (e_ite ?_ ?_)
  · refine (pz_goes tq_177 3 (σ' := (51, [pzI x0, pzI x1, pzI x2], [pzI (isb x1 x2)], M)) rfl).trans ?_
    exact e_iret tq_177 rfl
  refine e_sel.trans (e_ite ?_ ?_)
  · refine (pz_goes tq_177 3 (σ' := (55, [pzI x0, pzI x1, pzI x2], [pzI (imu x1 x2)], M)) rfl).trans ?_
    exact e_iret tq_177 rfl
  refine e_sel.trans (e_ite ?_ ?_)
  · refine (pz_goes tq_177 2 (σ' := (58, [pzI x0, pzI x1, pzI x2], [pzI x2, pzI x1], M)) rfl).trans ?_
    refine (e_div tq_177 rfl).trans (e_grd ?_)
    exact e_iret tq_177 rfl
  refine e_sel.trans (e_ite ?_ ?_)
  · refine (pz_goes tq_177 2 (σ' := (62, [pzI x0, pzI x1, pzI x2], [pzI x2, pzI x1], M)) rfl).trans ?_
    refine (e_div tq_177 rfl).trans (e_grd ?_)
    exact e_iret tq_177 rfl
  refine e_sel.trans (e_ite ?_ ?_)
  · refine (pz_goes tq_177 2 (σ' := (66, [pzI x0, pzI x1, pzI x2], [pzI x2, pzI x1], M)) rfl).trans ?_
    refine (e_icmp_ge tq_177 rfl).trans (e_ite ?_ ?_)
    · refine (pz_goes tq_177 2 (σ' := (74, [pzI x0, pzI x1, pzI x2], [pzI 1], M)) rfl).trans ?_
      exact e_iret tq_177 rfl
    · refine (pz_goes tq_177 1 (σ' := (74, [pzI x0, pzI x1, pzI x2], [pzI 0], M)) rfl).trans ?_
      exact e_iret tq_177 rfl
  refine e_sel.trans (e_ite ?_ ?_)
  · refine (pz_goes tq_177 2 (σ' := (77, [pzI x0, pzI x1, pzI x2], [pzI x2, pzI x1], M)) rfl).trans ?_
    refine (e_icmp_le tq_177 rfl).trans (e_ite ?_ ?_)
    · refine (pz_goes tq_177 2 (σ' := (85, [pzI x0, pzI x1, pzI x2], [pzI 1], M)) rfl).trans ?_
      exact e_iret tq_177 rfl
    · refine (pz_goes tq_177 1 (σ' := (85, [pzI x0, pzI x1, pzI x2], [pzI 0], M)) rfl).trans ?_
      exact e_iret tq_177 rfl
  refine (show pzr 3 177 (pz_sel [] 86 x0, [pzI x0, pzI x1, pzI x2], [], M) = pzr 3 177 (86, [pzI x0, pzI x1, pzI x2], [], M) from rfl).trans ?_
  refine (pz_goes tq_177 2 (σ' := (88, [pzI x0, pzI x1, pzI x2], [pzI x2, pzI x1], M)) rfl).trans ?_
  refine (e_icmp_ne tq_177 rfl).trans (e_ite ?_ ?_)
  · refine (pz_goes tq_177 2 (σ' := (96, [pzI x0, pzI x1, pzI x2], [pzI 1], M)) rfl).trans ?_
    exact e_iret tq_177 rfl
  · refine (pz_goes tq_177 1 (σ' := (96, [pzI x0, pzI x1, pzI x2], [pzI 0], M)) rfl).trans ?_
    exact e_iret tq_177 rfl
/-! PeacockDeskModel.reckonsTo(II)I -/
set_option maxRecDepth 20000 in
theorem m_Mod_reckonsTo_eq (x1 : Int) (x2 : Int) (M : pz_M) : m_Mod_reckonsTo x1 x2 M = m_Mod_reckonsTo_16 (pzI x1) x2 0 (imu 260 (idv x1 260)) x1 pzN pzN M := by
  show pzr 4 178 (0, [pzR 100, pzI x1, pzI x2, pzN, pzN, pzN, pzN, pzN], [], M) = _
  refine (pz_goes tq_178 5 (σ' := (9, [pzR 100, pzI x1, pzI x2, pzI 0, pzN, pzN, pzN, pzN], [pzI 260, pzI x1, pzI 260], M)) rfl).trans ?_
  refine ((e_div tq_178 rfl).trans (grd_pos (by decide))).trans ?_
  show pzr 4 178 (10, [pzR 100, pzI x1, pzI x2, pzI 0, pzN, pzN, pzN, pzN], [pzI (idv x1 260), pzI 260], M) = _
  refine (pz_goes tq_178 4 (σ' := (16, [pzR 100, pzI x1, pzI x2, pzI 0, pzI (imu 260 (idv x1 260)), pzI x1, pzN, pzN], [], M)) rfl).trans ?_
  rfl
set_option maxRecDepth 20000 in
theorem m_Mod_reckonsTo_16_eq (w1 : pz_V) (x2 : Int) (x3 : Int) (x4 : Int) (x5 : Int) (w6 : pz_V) (w7 : pz_V) (M : pz_M) : m_Mod_reckonsTo_16 w1 x2 x3 x4 x5 w6 w7 M = if x5 < x2 then (grd (0 ≤ x5 ∧ x5 < 260) (grd (0 ≤ x5 ∧ x5 < 260) (if (idv (M 114 ((x5).toNat)) 1048576) = 0 then (m_Mod_reckonsTo_63 w1 x2 x3 x4 (ia x5 1) (idv (M 114 ((x5).toNat)) 1048576) (irm (M 114 ((x5).toNat)) 1048576) M) else (if (idv (M 114 ((x5).toNat)) 1048576) = (1 : Int) then (m_Mod_reckonsTo_63 w1 x2 x3 x4 (ia x5 1) (idv (M 114 ((x5).toNat)) 1048576) (irm (M 114 ((x5).toNat)) 1048576) M) else (if (idv (M 114 ((x5).toNat)) 1048576) = (10 : Int) then (grd (0 ≤ (isb x3 1) ∧ (isb x3 1) < 260) (grd (0 ≤ (isb x3 1) ∧ (isb x3 1) < 260) (bM (pz_wr M 119 (((isb x3 1)).toNat) (isb 1 (M 119 (((isb x3 1)).toNat)))) fun M1 => m_Mod_reckonsTo_16 w1 x2 x3 x4 (ia x5 1) (pzI (idv (M 114 ((x5).toNat)) 1048576)) (pzI (irm (M 114 ((x5).toNat)) 1048576)) M1))) else (if (idv (M 114 ((x5).toNat)) 1048576) = (11 : Int) then (m_Mod_reckonsTo_135 w1 x2 x3 x4 (ia x5 1) (idv (M 114 ((x5).toNat)) 1048576) (irm (M 114 ((x5).toNat)) 1048576) M) else (if (idv (M 114 ((x5).toNat)) 1048576) = (12 : Int) then (m_Mod_reckonsTo_135 w1 x2 x3 x4 (ia x5 1) (idv (M 114 ((x5).toNat)) 1048576) (irm (M 114 ((x5).toNat)) 1048576) M) else (if (idv (M 114 ((x5).toNat)) 1048576) = (5 : Int) then (m_Mod_reckonsTo_192 w1 x2 (isb x3 1) x4 (ia x5 1) (idv (M 114 ((x5).toNat)) 1048576) (pzI (irm (M 114 ((x5).toNat)) 1048576)) M) else (if (idv (M 114 ((x5).toNat)) 1048576) = (6 : Int) then (m_Mod_reckonsTo_192 w1 x2 (isb x3 1) x4 (ia x5 1) (idv (M 114 ((x5).toNat)) 1048576) (pzI (irm (M 114 ((x5).toNat)) 1048576)) M) else (m_Mod_reckonsTo_203 w1 x2 (isb x3 1) x4 (ia x5 1) (idv (M 114 ((x5).toNat)) 1048576) (pzI (irm (M 114 ((x5).toNat)) 1048576)) M)))))))))) else (some (some (pzI (M 119 0)), M)) := by
  show pzr 4 178 (16, [pzR 100, w1, pzI x2, pzI x3, pzI x4, pzI x5, w6, w7], [], M) = _
  refine (pz_goes tq_178 2 (σ' := (19, [pzR 100, w1, pzI x2, pzI x3, pzI x4, pzI x5, w6, w7], [pzI x2, pzI x5], M)) rfl).trans ?_
  refine (e_icmp_ge tq_178 rfl).trans (e_ite ?_ ?_)
  · refine (pz_goes tq_178 3 (σ' := (28, [pzR 100, w1, pzI x2, pzI x3, pzI x4, pzI x5, w6, w7], [pzI x5, pzR 114], M)) rfl).trans ?_
    refine (e_iald (n := 260) rfl rfl tq_178 rfl).trans (e_grd ?_)
    refine (pz_goes tq_178 1 (σ' := (31, [pzR 100, w1, pzI x2, pzI x3, pzI x4, pzI x5, w6, w7], [pzI 1048576, pzI (M 114 ((x5).toNat))], M)) rfl).trans ?_
    refine ((e_div tq_178 rfl).trans (grd_pos (by decide))).trans ?_
    show pzr 4 178 (32, [pzR 100, w1, pzI x2, pzI x3, pzI x4, pzI x5, w6, w7], [pzI (idv (M 114 ((x5).toNat)) 1048576)], M) = _
    refine (pz_goes tq_178 4 (σ' := (40, [pzR 100, w1, pzI x2, pzI x3, pzI x4, pzI x5, pzI (idv (M 114 ((x5).toNat)) 1048576), w7], [pzI x5, pzR 114], M)) rfl).trans ?_
    refine (e_iald (n := 260) rfl rfl tq_178 rfl).trans (e_grd ?_)
    refine (pz_goes tq_178 1 (σ' := (43, [pzR 100, w1, pzI x2, pzI x3, pzI x4, pzI x5, pzI (idv (M 114 ((x5).toNat)) 1048576), w7], [pzI 1048576, pzI (M 114 ((x5).toNat))], M)) rfl).trans ?_
    refine ((e_div tq_178 rfl).trans (grd_pos (by decide))).trans ?_
    show pzr 4 178 (44, [pzR 100, w1, pzI x2, pzI x3, pzI x4, pzI x5, pzI (idv (M 114 ((x5).toNat)) 1048576), w7], [pzI (irm (M 114 ((x5).toNat)) 1048576)], M) = _
    refine (pz_goes tq_178 6 (σ' := (54, [pzR 100, w1, pzI x2, pzI x3, pzI x4, pzI (ia x5 1), pzI (idv (M 114 ((x5).toNat)) 1048576), pzI (irm (M 114 ((x5).toNat)) 1048576)], [pzI (idv (M 114 ((x5).toNat)) 1048576)], M)) rfl).trans ?_
    refine (e_if_eq tq_178 rfl).trans (e_ite ?_ ?_)
    · rfl
    · refine (pz_goes tq_178 2 (σ' := (60, [pzR 100, w1, pzI x2, pzI x3, pzI x4, pzI (ia x5 1), pzI (idv (M 114 ((x5).toNat)) 1048576), pzI (irm (M 114 ((x5).toNat)) 1048576)], [pzI 1, pzI (idv (M 114 ((x5).toNat)) 1048576)], M)) rfl).trans ?_
      refine (e_icmp_ne tq_178 rfl).trans (e_ite ?_ ?_)
      · rfl
      · refine (pz_goes tq_178 2 (σ' := (97, [pzR 100, w1, pzI x2, pzI x3, pzI x4, pzI (ia x5 1), pzI (idv (M 114 ((x5).toNat)) 1048576), pzI (irm (M 114 ((x5).toNat)) 1048576)], [pzI 10, pzI (idv (M 114 ((x5).toNat)) 1048576)], M)) rfl).trans ?_
        refine (e_icmp_ne tq_178 rfl).trans (e_ite ?_ ?_)
        · refine (pz_goes tq_178 11 (σ' := (115, [pzR 100, w1, pzI x2, pzI x3, pzI x4, pzI (ia x5 1), pzI (idv (M 114 ((x5).toNat)) 1048576), pzI (irm (M 114 ((x5).toNat)) 1048576)], [pzI (isb x3 1), pzR 119, pzI 1, pzI (isb x3 1), pzR 119], M)) rfl).trans ?_
          refine (e_iald (n := 260) rfl rfl tq_178 rfl).trans (e_grd ?_)
          refine (pz_goes tq_178 1 (σ' := (117, [pzR 100, w1, pzI x2, pzI x3, pzI x4, pzI (ia x5 1), pzI (idv (M 114 ((x5).toNat)) 1048576), pzI (irm (M 114 ((x5).toNat)) 1048576)], [pzI (isb 1 (M 119 (((isb x3 1)).toNat))), pzI (isb x3 1), pzR 119], M)) rfl).trans ?_
          refine (e_iast (n := 260) rfl rfl tq_178 rfl).trans (e_grd ?_)
          refine e_bM (m := pz_wr M 119 (((isb x3 1)).toNat) (isb 1 (M 119 (((isb x3 1)).toNat)))) (f := fun M1 => pzr 4 178 (118, [pzR 100, w1, pzI x2, pzI x3, pzI x4, pzI (ia x5 1), pzI (idv (M 114 ((x5).toNat)) 1048576), pzI (irm (M 114 ((x5).toNat)) 1048576)], [], M1)) (fun M1 => ?_)
          refine (pz_goes tq_178 2 (σ' := (16, [pzR 100, w1, pzI x2, pzI x3, pzI x4, pzI (ia x5 1), pzI (idv (M 114 ((x5).toNat)) 1048576), pzI (irm (M 114 ((x5).toNat)) 1048576)], [], M1)) rfl).trans ?_
          rfl
        · refine (pz_goes tq_178 2 (σ' := (125, [pzR 100, w1, pzI x2, pzI x3, pzI x4, pzI (ia x5 1), pzI (idv (M 114 ((x5).toNat)) 1048576), pzI (irm (M 114 ((x5).toNat)) 1048576)], [pzI 11, pzI (idv (M 114 ((x5).toNat)) 1048576)], M)) rfl).trans ?_
          refine (e_icmp_eq tq_178 rfl).trans (e_ite ?_ ?_)
          · rfl
          · refine (pz_goes tq_178 2 (σ' := (132, [pzR 100, w1, pzI x2, pzI x3, pzI x4, pzI (ia x5 1), pzI (idv (M 114 ((x5).toNat)) 1048576), pzI (irm (M 114 ((x5).toNat)) 1048576)], [pzI 12, pzI (idv (M 114 ((x5).toNat)) 1048576)], M)) rfl).trans ?_
            refine (e_icmp_ne tq_178 rfl).trans (e_ite ?_ ?_)
            · rfl
            · refine (pz_goes tq_178 6 (σ' := (182, [pzR 100, w1, pzI x2, pzI (isb x3 1), pzI x4, pzI (ia x5 1), pzI (idv (M 114 ((x5).toNat)) 1048576), pzI (irm (M 114 ((x5).toNat)) 1048576)], [pzI 5, pzI (idv (M 114 ((x5).toNat)) 1048576)], M)) rfl).trans ?_
              refine (e_icmp_eq tq_178 rfl).trans (e_ite ?_ ?_)
              · rfl
              · refine (pz_goes tq_178 2 (σ' := (189, [pzR 100, w1, pzI x2, pzI (isb x3 1), pzI x4, pzI (ia x5 1), pzI (idv (M 114 ((x5).toNat)) 1048576), pzI (irm (M 114 ((x5).toNat)) 1048576)], [pzI 6, pzI (idv (M 114 ((x5).toNat)) 1048576)], M)) rfl).trans ?_
                refine (e_icmp_ne tq_178 rfl).trans (e_ite ?_ ?_)
                · rfl
                · rfl
  · refine (pz_goes tq_178 3 (σ' := (238, [pzR 100, w1, pzI x2, pzI x3, pzI x4, pzI x5, w6, w7], [pzI 0, pzR 119], M)) rfl).trans ?_
    refine ((e_iald (n := 260) rfl rfl tq_178 rfl).trans (grd_pos (by decide))).trans ?_
    show pzr 4 178 (239, [pzR 100, w1, pzI x2, pzI x3, pzI x4, pzI x5, w6, w7], [pzI (M 119 0)], M) = _
    exact e_iret tq_178 rfl
set_option maxRecDepth 20000 in
theorem m_Mod_reckonsTo_63_eq (w1 : pz_V) (x2 : Int) (x3 : Int) (x4 : Int) (x5 : Int) (x6 : Int) (x7 : Int) (M : pz_M) : m_Mod_reckonsTo_63 w1 x2 x3 x4 x5 x6 x7 M = if x6 = 0 then (grd (0 ≤ x3 ∧ x3 < 260) (bM (pz_wr M 119 ((x3).toNat) x7) fun M1 => m_Mod_reckonsTo_16 w1 x2 (ia x3 1) x4 x5 (pzI x6) (pzI x7) M1)) else (grd (0 ≤ x7 ∧ x7 < 10) (grd (0 ≤ x3 ∧ x3 < 260) (bM (pz_wr M 119 ((x3).toNat) (M 120 ((x7).toNat))) fun M2 => m_Mod_reckonsTo_16 w1 x2 (ia x3 1) x4 x5 (pzI x6) (pzI x7) M2))) := by
  show pzr 4 178 (63, [pzR 100, w1, pzI x2, pzI x3, pzI x4, pzI x5, pzI x6, pzI x7], [], M) = _
  refine (pz_goes tq_178 4 (σ' := (70, [pzR 100, w1, pzI x2, pzI x3, pzI x4, pzI x5, pzI x6, pzI x7], [pzI x6, pzI x3, pzR 119], M)) rfl).trans ?_
  refine (e_if_ne tq_178 rfl).trans (e_ite ?_ ?_)
  · refine (pz_goes tq_178 2 (σ' := (85, [pzR 100, w1, pzI x2, pzI x3, pzI x4, pzI x5, pzI x6, pzI x7], [pzI x7, pzI x3, pzR 119], M)) rfl).trans ?_
    refine (e_iast (n := 260) rfl rfl tq_178 rfl).trans (e_grd ?_)
    refine e_bM (m := pz_wr M 119 ((x3).toNat) x7) (f := fun M1 => pzr 4 178 (86, [pzR 100, w1, pzI x2, pzI x3, pzI x4, pzI x5, pzI x6, pzI x7], [], M1)) (fun M1 => ?_)
    refine (pz_goes tq_178 6 (σ' := (16, [pzR 100, w1, pzI x2, pzI (ia x3 1), pzI x4, pzI x5, pzI x6, pzI x7], [], M1)) rfl).trans ?_
    rfl
  · refine (pz_goes tq_178 3 (σ' := (84, [pzR 100, w1, pzI x2, pzI x3, pzI x4, pzI x5, pzI x6, pzI x7], [pzI x7, pzR 120, pzI x3, pzR 119], M)) rfl).trans ?_
    refine (e_iald (n := 10) rfl rfl tq_178 rfl).trans (e_grd ?_)
    refine (e_iast (n := 260) rfl rfl tq_178 rfl).trans (e_grd ?_)
    refine e_bM (m := pz_wr M 119 ((x3).toNat) (M 120 ((x7).toNat))) (f := fun M2 => pzr 4 178 (86, [pzR 100, w1, pzI x2, pzI x3, pzI x4, pzI x5, pzI x6, pzI x7], [], M2)) (fun M2 => ?_)
    refine (pz_goes tq_178 6 (σ' := (16, [pzR 100, w1, pzI x2, pzI (ia x3 1), pzI x4, pzI x5, pzI x6, pzI x7], [], M2)) rfl).trans ?_
    rfl
set_option maxRecDepth 20000 in
theorem m_Mod_reckonsTo_135_eq (w1 : pz_V) (x2 : Int) (x3 : Int) (x4 : Int) (x5 : Int) (x6 : Int) (x7 : Int) (M : pz_M) : m_Mod_reckonsTo_135 w1 x2 x3 x4 x5 x6 x7 M = grd (0 ≤ (isb x3 1) ∧ (isb x3 1) < 260) (if x6 = (12 : Int) then (m_Mod_reckonsTo_155 w1 x2 x3 x4 x5 (pzI x6) x7 1 (M 119 (((isb x3 1)).toNat)) M) else (m_Mod_reckonsTo_155 w1 x2 x3 x4 x5 (pzI x6) x7 0 (M 119 (((isb x3 1)).toNat)) M)) := by
  show pzr 4 178 (135, [pzR 100, w1, pzI x2, pzI x3, pzI x4, pzI x5, pzI x6, pzI x7], [], M) = _
  refine (pz_goes tq_178 5 (σ' := (142, [pzR 100, w1, pzI x2, pzI x3, pzI x4, pzI x5, pzI x6, pzI x7], [pzI (isb x3 1), pzR 119], M)) rfl).trans ?_
  refine (e_iald (n := 260) rfl rfl tq_178 rfl).trans (e_grd ?_)
  refine (pz_goes tq_178 2 (σ' := (147, [pzR 100, w1, pzI x2, pzI x3, pzI x4, pzI x5, pzI x6, pzI x7], [pzI 12, pzI x6, pzI (M 119 (((isb x3 1)).toNat))], M)) rfl).trans ?_
  refine (e_icmp_ne tq_178 rfl).trans (e_ite ?_ ?_)
  · refine (pz_goes tq_178 2 (σ' := (155, [pzR 100, w1, pzI x2, pzI x3, pzI x4, pzI x5, pzI x6, pzI x7], [pzI 1, pzI (M 119 (((isb x3 1)).toNat))], M)) rfl).trans ?_
    rfl
  · refine (pz_goes tq_178 1 (σ' := (155, [pzR 100, w1, pzI x2, pzI x3, pzI x4, pzI x5, pzI x6, pzI x7], [pzI 0, pzI (M 119 (((isb x3 1)).toNat))], M)) rfl).trans ?_
    rfl
set_option maxRecDepth 20000 in
theorem m_Mod_reckonsTo_192_eq (w1 : pz_V) (x2 : Int) (x3 : Int) (x4 : Int) (x5 : Int) (x6 : Int) (w7 : pz_V) (M : pz_M) : m_Mod_reckonsTo_192 w1 x2 x3 x4 x5 x6 w7 M = grd (0 ≤ x3 ∧ x3 < 260) (if (M 119 ((x3).toNat)) = 0 then some (some (pzI 0), M) else (m_Mod_reckonsTo_203 w1 x2 x3 x4 x5 x6 w7 M)) := by
  show pzr 4 178 (192, [pzR 100, w1, pzI x2, pzI x3, pzI x4, pzI x5, pzI x6, w7], [], M) = _
  refine (pz_goes tq_178 3 (σ' := (197, [pzR 100, w1, pzI x2, pzI x3, pzI x4, pzI x5, pzI x6, w7], [pzI x3, pzR 119], M)) rfl).trans ?_
  refine (e_iald (n := 260) rfl rfl tq_178 rfl).trans (e_grd ?_)
  refine (e_if_ne tq_178 rfl).trans (e_ite ?_ ?_)
  · refine (pz_goes tq_178 1 (σ' := (202, [pzR 100, w1, pzI x2, pzI x3, pzI x4, pzI x5, pzI x6, w7], [pzI 0], M)) rfl).trans ?_
    exact e_iret tq_178 rfl
  · rfl
set_option maxRecDepth 20000 in
theorem m_Mod_reckonsTo_203_eq (w1 : pz_V) (x2 : Int) (x3 : Int) (x4 : Int) (x5 : Int) (x6 : Int) (w7 : pz_V) (M : pz_M) : m_Mod_reckonsTo_203 w1 x2 x3 x4 x5 x6 w7 M = grd (0 ≤ (isb x3 1) ∧ (isb x3 1) < 260) (grd (0 ≤ x3 ∧ x3 < 260) (bI (m_Mod_reckon x6 (M 119 (((isb x3 1)).toNat)) (M 119 ((x3).toNat)) M) fun r2 M1 => grd (0 ≤ (isb x3 1) ∧ (isb x3 1) < 260) (bM (pz_wr M1 119 (((isb x3 1)).toNat) r2) fun M3 => m_Mod_reckonsTo_16 w1 x2 x3 x4 x5 (pzI x6) w7 M3))) := by
  show pzr 4 178 (203, [pzR 100, w1, pzI x2, pzI x3, pzI x4, pzI x5, pzI x6, w7], [], M) = _
  refine (pz_goes tq_178 11 (σ' := (219, [pzR 100, w1, pzI x2, pzI x3, pzI x4, pzI x5, pzI x6, w7], [pzI (isb x3 1), pzR 119, pzI x6, pzI (isb x3 1), pzR 119], M)) rfl).trans ?_
  refine (e_iald (n := 260) rfl rfl tq_178 rfl).trans (e_grd ?_)
  refine (pz_goes tq_178 3 (σ' := (225, [pzR 100, w1, pzI x2, pzI x3, pzI x4, pzI x5, pzI x6, w7], [pzI x3, pzR 119, pzI (M 119 (((isb x3 1)).toNat)), pzI x6, pzI (isb x3 1), pzR 119], M)) rfl).trans ?_
  refine (e_iald (n := 260) rfl rfl tq_178 rfl).trans (e_grd ?_)
  refine (e_callI (as := [pzI x6, pzI (M 119 (((isb x3 1)).toNat)), pzI (M 119 ((x3).toNat))]) (rest := [pzI (isb x3 1), pzR 119]) (d' := 3) tq_177 rfl rfl rfl rfl rfl tq_178 rfl).trans (e_bI rfl fun r2 M1 => ?_)
  refine (e_iast (n := 260) rfl rfl tq_178 rfl).trans (e_grd ?_)
  refine e_bM (m := pz_wr M1 119 (((isb x3 1)).toNat) r2) (f := fun M3 => pzr 4 178 (230, [pzR 100, w1, pzI x2, pzI x3, pzI x4, pzI x5, pzI x6, w7], [], M3)) (fun M3 => ?_)
  refine (pz_goes tq_178 1 (σ' := (16, [pzR 100, w1, pzI x2, pzI x3, pzI x4, pzI x5, pzI x6, w7], [], M3)) rfl).trans ?_
  rfl
set_option maxRecDepth 20000 in
theorem m_Mod_reckonsTo_155_eq (w1 : pz_V) (x2 : Int) (x3 : Int) (x4 : Int) (x5 : Int) (w6 : pz_V) (x7 : Int) (s0 : Int) (s1 : Int) (M : pz_M) : m_Mod_reckonsTo_155 w1 x2 x3 x4 x5 w6 x7 s0 s1 M = if s1 = s0 then (m_Mod_reckonsTo_16 w1 x2 x3 x4 (ia x4 x7) w6 (pzI x7) M) else (m_Mod_reckonsTo_16 w1 x2 (isb x3 1) x4 x5 w6 (pzI x7) M) := by
  show pzr 4 178 (155, [pzR 100, w1, pzI x2, pzI x3, pzI x4, pzI x5, w6, pzI x7], [pzI s0, pzI s1], M) = _
  refine (e_icmp_ne tq_178 rfl).trans (e_ite ?_ ?_)
  · refine (pz_goes tq_178 6 (σ' := (16, [pzR 100, w1, pzI x2, pzI x3, pzI x4, pzI (ia x4 x7), w6, pzI x7], [], M)) rfl).trans ?_
    rfl
  · refine (pz_goes tq_178 6 (σ' := (16, [pzR 100, w1, pzI x2, pzI (isb x3 1), pzI x4, pzI x5, w6, pzI x7], [], M)) rfl).trans ?_
    rfl
/-! PeacockDeskModel.byLaw(III)I -/
set_option maxRecDepth 20000 in
theorem m_Mod_byLaw_eq (x1 : Int) (x2 : Int) (x3 : Int) (M : pz_M) : m_Mod_byLaw x1 x2 x3 M = m_Mod_byLaw_3 x1 x2 x3 0 pzN M := by
  show pzr 5 179 (0, [pzR 100, pzI x1, pzI x2, pzI x3, pzN, pzN], [], M) = _
  refine (pz_goes tq_179 2 (σ' := (3, [pzR 100, pzI x1, pzI x2, pzI x3, pzI 0, pzN], [], M)) rfl).trans ?_
  rfl
set_option maxRecDepth 20000 in
theorem m_Mod_byLaw_3_eq (x1 : Int) (x2 : Int) (x3 : Int) (x4 : Int) (w5 : pz_V) (M : pz_M) : m_Mod_byLaw_3 x1 x2 x3 x4 w5 M = if x4 < (M 100 17) then (grd (0 ≤ x4 ∧ x4 < 16) (if (M 115 ((x4).toNat)) = x1 then (grd (0 ≤ x4 ∧ x4 < 16) (grd (0 ≤ x4 ∧ x4 < 16) (bI (m_Mod_reckonsTo (M 117 ((x4).toNat)) (M 118 ((x4).toNat)) M) fun r2 M1 => if r2 = (1 : Int) then (grd (0 ≤ x4 ∧ x4 < 16) (grd (0 ≤ x4 ∧ x4 < 16) (bI (m_Mod_reckonsTo (M1 116 ((x4).toNat)) (M1 117 ((x4).toNat)) M1) fun r4 M3 => if r4 < 0 then some (some (pzI 0), M3) else (if x2 < r4 then some (some (pzI x2), M3) else (some (some (pzI r4), M3)))))) else (m_Mod_byLaw_3 x1 x2 x3 (ia x4 (1)) w5 M1)))) else (m_Mod_byLaw_3 x1 x2 x3 (ia x4 (1)) w5 M))) else (some (some (pzI x3), M)) := by
  show pzr 5 179 (3, [pzR 100, pzI x1, pzI x2, pzI x3, pzI x4, w5], [], M) = _
  refine (pz_goes tq_179 3 (σ' := (9, [pzR 100, pzI x1, pzI x2, pzI x3, pzI x4, w5], [pzI (M 100 17), pzI x4], M)) rfl).trans ?_
  refine (e_icmp_ge tq_179 rfl).trans (e_ite ?_ ?_)
  · refine (pz_goes tq_179 3 (σ' := (18, [pzR 100, pzI x1, pzI x2, pzI x3, pzI x4, w5], [pzI x4, pzR 115], M)) rfl).trans ?_
    refine (e_iald (n := 16) rfl rfl tq_179 rfl).trans (e_grd ?_)
    refine (pz_goes tq_179 1 (σ' := (20, [pzR 100, pzI x1, pzI x2, pzI x3, pzI x4, w5], [pzI x1, pzI (M 115 ((x4).toNat))], M)) rfl).trans ?_
    refine (e_icmp_ne tq_179 rfl).trans (e_ite ?_ ?_)
    · refine (pz_goes tq_179 4 (σ' := (30, [pzR 100, pzI x1, pzI x2, pzI x3, pzI x4, w5], [pzI x4, pzR 117, pzR 100], M)) rfl).trans ?_
      refine (e_iald (n := 16) rfl rfl tq_179 rfl).trans (e_grd ?_)
      refine (pz_goes tq_179 3 (σ' := (37, [pzR 100, pzI x1, pzI x2, pzI x3, pzI x4, w5], [pzI x4, pzR 118, pzI (M 117 ((x4).toNat)), pzR 100], M)) rfl).trans ?_
      refine (e_iald (n := 16) rfl rfl tq_179 rfl).trans (e_grd ?_)
      refine (e_callI (as := [pzR 100, pzI (M 117 ((x4).toNat)), pzI (M 118 ((x4).toNat)), pzN, pzN, pzN, pzN, pzN]) (rest := []) (d' := 4) tq_178 rfl rfl rfl rfl rfl tq_179 rfl).trans (e_bI rfl fun r2 M1 => ?_)
      refine (pz_goes tq_179 1 (σ' := (42, [pzR 100, pzI x1, pzI x2, pzI x3, pzI x4, w5], [pzI 1, pzI r2], M1)) rfl).trans ?_
      refine (e_icmp_eq tq_179 rfl).trans (e_ite ?_ ?_)
      · refine (pz_goes tq_179 4 (σ' := (55, [pzR 100, pzI x1, pzI x2, pzI x3, pzI x4, w5], [pzI x4, pzR 116, pzR 100], M1)) rfl).trans ?_
        refine (e_iald (n := 16) rfl rfl tq_179 rfl).trans (e_grd ?_)
        refine (pz_goes tq_179 3 (σ' := (62, [pzR 100, pzI x1, pzI x2, pzI x3, pzI x4, w5], [pzI x4, pzR 117, pzI (M1 116 ((x4).toNat)), pzR 100], M1)) rfl).trans ?_
        refine (e_iald (n := 16) rfl rfl tq_179 rfl).trans (e_grd ?_)
        refine (e_callI (as := [pzR 100, pzI (M1 116 ((x4).toNat)), pzI (M1 117 ((x4).toNat)), pzN, pzN, pzN, pzN, pzN]) (rest := []) (d' := 4) tq_178 rfl rfl rfl rfl rfl tq_179 rfl).trans (e_bI rfl fun r4 M3 => ?_)
        refine (pz_goes tq_179 2 (σ' := (70, [pzR 100, pzI x1, pzI x2, pzI x3, pzI x4, pzI r4], [pzI r4], M3)) rfl).trans ?_
        refine (e_if_ge tq_179 rfl).trans (e_ite ?_ ?_)
        · refine (pz_goes tq_179 2 (σ' := (89, [pzR 100, pzI x1, pzI x2, pzI x3, pzI x4, pzI r4], [pzI 0], M3)) rfl).trans ?_
          exact e_iret tq_179 rfl
        · refine (pz_goes tq_179 2 (σ' := (80, [pzR 100, pzI x1, pzI x2, pzI x3, pzI x4, pzI r4], [pzI x2, pzI r4], M3)) rfl).trans ?_
          refine (e_icmp_le tq_179 rfl).trans (e_ite ?_ ?_)
          · refine (pz_goes tq_179 2 (σ' := (89, [pzR 100, pzI x1, pzI x2, pzI x3, pzI x4, pzI r4], [pzI x2], M3)) rfl).trans ?_
            exact e_iret tq_179 rfl
          · refine (pz_goes tq_179 1 (σ' := (89, [pzR 100, pzI x1, pzI x2, pzI x3, pzI x4, pzI r4], [pzI r4], M3)) rfl).trans ?_
            exact e_iret tq_179 rfl
      · refine (pz_goes tq_179 3 (σ' := (3, [pzR 100, pzI x1, pzI x2, pzI x3, pzI (ia x4 (1)), w5], [], M1)) rfl).trans ?_
        rfl
    · refine (pz_goes tq_179 2 (σ' := (3, [pzR 100, pzI x1, pzI x2, pzI x3, pzI (ia x4 (1)), w5], [], M)) rfl).trans ?_
      rfl
  · refine (pz_goes tq_179 1 (σ' := (97, [pzR 100, pzI x1, pzI x2, pzI x3, pzI x4, w5], [pzI x3], M)) rfl).trans ?_
    exact e_iret tq_179 rfl
/-! PeacockDeskModel.holdsAny(I)Z -/
set_option maxRecDepth 20000 in
theorem m_Mod_holdsAny_eq (x1 : Int) (M : pz_M) : m_Mod_holdsAny x1 M = m_Mod_holdsAny_2 x1 0 M := by
  show pzr 5 180 (0, [pzR 100, pzI x1, pzN], [], M) = _
  refine (pz_goes tq_180 2 (σ' := (2, [pzR 100, pzI x1, pzI 0], [], M)) rfl).trans ?_
  rfl
set_option maxRecDepth 20000 in
theorem m_Mod_holdsAny_2_eq (x1 : Int) (x2 : Int) (M : pz_M) : m_Mod_holdsAny_2 x1 x2 M = if x2 < (M 100 17) then (grd (0 ≤ x2 ∧ x2 < 16) (if (M 115 ((x2).toNat)) = x1 then (grd (0 ≤ x2 ∧ x2 < 16) (grd (0 ≤ x2 ∧ x2 < 16) (bI (m_Mod_reckonsTo (M 117 ((x2).toNat)) (M 118 ((x2).toNat)) M) fun r2 M1 => if r2 = (1 : Int) then some (some (pzI 1), M1) else (m_Mod_holdsAny_2 x1 (ia x2 (1)) M1)))) else (m_Mod_holdsAny_2 x1 (ia x2 (1)) M))) else (some (some (pzI 0), M)) := by
  show pzr 5 180 (2, [pzR 100, pzI x1, pzI x2], [], M) = _
  refine (pz_goes tq_180 3 (σ' := (7, [pzR 100, pzI x1, pzI x2], [pzI (M 100 17), pzI x2], M)) rfl).trans ?_
  refine (e_icmp_ge tq_180 rfl).trans (e_ite ?_ ?_)
  · refine (pz_goes tq_180 3 (σ' := (15, [pzR 100, pzI x1, pzI x2], [pzI x2, pzR 115], M)) rfl).trans ?_
    refine (e_iald (n := 16) rfl rfl tq_180 rfl).trans (e_grd ?_)
    refine (pz_goes tq_180 1 (σ' := (17, [pzR 100, pzI x1, pzI x2], [pzI x1, pzI (M 115 ((x2).toNat))], M)) rfl).trans ?_
    refine (e_icmp_ne tq_180 rfl).trans (e_ite ?_ ?_)
    · refine (pz_goes tq_180 4 (σ' := (26, [pzR 100, pzI x1, pzI x2], [pzI x2, pzR 117, pzR 100], M)) rfl).trans ?_
      refine (e_iald (n := 16) rfl rfl tq_180 rfl).trans (e_grd ?_)
      refine (pz_goes tq_180 3 (σ' := (32, [pzR 100, pzI x1, pzI x2], [pzI x2, pzR 118, pzI (M 117 ((x2).toNat)), pzR 100], M)) rfl).trans ?_
      refine (e_iald (n := 16) rfl rfl tq_180 rfl).trans (e_grd ?_)
      refine (e_callI (as := [pzR 100, pzI (M 117 ((x2).toNat)), pzI (M 118 ((x2).toNat)), pzN, pzN, pzN, pzN, pzN]) (rest := []) (d' := 4) tq_178 rfl rfl rfl rfl rfl tq_180 rfl).trans (e_bI rfl fun r2 M1 => ?_)
      refine (pz_goes tq_180 1 (σ' := (37, [pzR 100, pzI x1, pzI x2], [pzI 1, pzI r2], M1)) rfl).trans ?_
      refine (e_icmp_ne tq_180 rfl).trans (e_ite ?_ ?_)
      · refine (pz_goes tq_180 1 (σ' := (41, [pzR 100, pzI x1, pzI x2], [pzI 1], M1)) rfl).trans ?_
        exact (e_zret tq_180 rfl).trans (grd_pos (by decide))
      · refine (pz_goes tq_180 2 (σ' := (2, [pzR 100, pzI x1, pzI (ia x2 (1))], [], M1)) rfl).trans ?_
        rfl
    · refine (pz_goes tq_180 2 (σ' := (2, [pzR 100, pzI x1, pzI (ia x2 (1))], [], M)) rfl).trans ?_
      rfl
  · refine (pz_goes tq_180 1 (σ' := (49, [pzR 100, pzI x1, pzI x2], [pzI 0], M)) rfl).trans ?_
    exact (e_zret tq_180 rfl).trans (grd_pos (by decide))
/-! PeacockDeskModel.readsAmount()Z -/
set_option maxRecDepth 20000 in
theorem m_Mod_readsAmount_eq (M : pz_M) : m_Mod_readsAmount M = bI (m_Mod_isDigit M) fun r2 M1 => if r2 = 0 then (bI (m_Mod_wrongAt 1 (M1 100 9) M1) fun r4 M3 => grd (r4 = 0 ∨ r4 = 1) (some (some (pzI r4), M3))) else (bM (pz_wr M1 100 12 0) fun M5 => m_Mod_readsAmount_27 (M 100 9) M5) := by
  show pzr 5 181 (0, [pzR 100, pzN], [], M) = _
  refine (pz_goes tq_181 4 (σ' := (6, [pzR 100, pzI (M 100 9)], [pzR 100], M)) rfl).trans ?_
  refine (e_callI (as := [pzR 100]) (rest := []) (d' := 4) tq_156 rfl rfl rfl rfl rfl tq_181 rfl).trans (e_bI rfl fun r2 M1 => ?_)
  refine (e_if_ne tq_181 rfl).trans (e_ite ?_ ?_)
  · refine (pz_goes tq_181 4 (σ' := (18, [pzR 100, pzI (M 100 9)], [pzI (M1 100 9), pzI 1, pzR 100], M1)) rfl).trans ?_
    refine (e_callI (as := [pzR 100, pzI 1, pzI (M1 100 9)]) (rest := []) (d' := 3) tq_157 rfl rfl rfl rfl rfl tq_181 rfl).trans (e_bI rfl fun r4 M3 => ?_)
    exact e_zret tq_181 rfl
  · refine (pz_goes tq_181 2 (σ' := (24, [pzR 100, pzI (M 100 9)], [pzI 0, pzR 100], M1)) rfl).trans ?_
    refine (e_putI rfl tq_181 rfl).trans ?_
    refine e_bM (f := fun M5 => pzr 5 181 (27, [pzR 100, pzI (M 100 9)], [], M5)) (fun M5 => ?_)
    rfl
set_option maxRecDepth 20000 in
theorem m_Mod_readsAmount_27_eq (x1 : Int) (M : pz_M) : m_Mod_readsAmount_27 x1 M = bI (m_Mod_isDigit M) fun r2 M1 => if r2 = 0 then some (some (pzI 1), M1) else (if (M1 100 9) = (ia x1 2) then (bI (m_Mod_wrongAt 2 (M1 100 9) M1) fun r4 M3 => grd (r4 = 0 ∨ r4 = 1) (some (some (pzI r4), M3))) else (bI (m_Mod_here M1) fun r6 M5 => bM (pz_wr M5 100 12 (isb (ia (imu 10 (M1 100 12)) r6) 48)) fun M7 => bM (pz_wr M7 100 9 (ia (M7 100 9) 1)) fun M8 => m_Mod_readsAmount_27 x1 M8)) := by
  show pzr 5 181 (27, [pzR 100, pzI x1], [], M) = _
  refine (pz_goes tq_181 1 (σ' := (28, [pzR 100, pzI x1], [pzR 100], M)) rfl).trans ?_
  refine (e_callI (as := [pzR 100]) (rest := []) (d' := 4) tq_156 rfl rfl rfl rfl rfl tq_181 rfl).trans (e_bI rfl fun r2 M1 => ?_)
  refine (e_if_eq tq_181 rfl).trans (e_ite ?_ ?_)
  · refine (pz_goes tq_181 1 (σ' := (87, [pzR 100, pzI x1], [pzI 1], M1)) rfl).trans ?_
    exact (e_zret tq_181 rfl).trans (grd_pos (by decide))
  · refine (pz_goes tq_181 5 (σ' := (41, [pzR 100, pzI x1], [pzI (ia x1 2), pzI (M1 100 9)], M1)) rfl).trans ?_
    refine (e_icmp_ne tq_181 rfl).trans (e_ite ?_ ?_)
    · refine (pz_goes tq_181 4 (σ' := (50, [pzR 100, pzI x1], [pzI (M1 100 9), pzI 2, pzR 100], M1)) rfl).trans ?_
      refine (e_callI (as := [pzR 100, pzI 2, pzI (M1 100 9)]) (rest := []) (d' := 3) tq_157 rfl rfl rfl rfl rfl tq_181 rfl).trans (e_bI rfl fun r4 M3 => ?_)
      exact e_zret tq_181 rfl
    · refine (pz_goes tq_181 6 (σ' := (63, [pzR 100, pzI x1], [pzR 100, pzI (imu 10 (M1 100 12)), pzR 100], M1)) rfl).trans ?_
      refine (e_callI (as := [pzR 100]) (rest := [pzI (imu 10 (M1 100 12)), pzR 100]) (d' := 3) tq_155 rfl rfl rfl rfl rfl tq_181 rfl).trans (e_bI rfl fun r6 M5 => ?_)
      refine (pz_goes tq_181 3 (σ' := (70, [pzR 100, pzI x1], [pzI (isb (ia (imu 10 (M1 100 12)) r6) 48), pzR 100], M5)) rfl).trans ?_
      refine (e_putI rfl tq_181 rfl).trans ?_
      refine e_bM (f := fun M7 => pzr 5 181 (73, [pzR 100, pzI x1], [], M7)) (fun M7 => ?_)
      refine (pz_goes tq_181 5 (σ' := (80, [pzR 100, pzI x1], [pzI (ia (M7 100 9) 1), pzR 100], M7)) rfl).trans ?_
      refine (e_putI rfl tq_181 rfl).trans ?_
      refine e_bM (f := fun M8 => pzr 5 181 (83, [pzR 100, pzI x1], [], M8)) (fun M8 => ?_)
      refine (pz_goes tq_181 1 (σ' := (27, [pzR 100, pzI x1], [], M8)) rfl).trans ?_
      rfl
/-! PeacockDeskModel.readsCase()Z -/
set_option maxRecDepth 20000 in
theorem m_Mod_readsCase_eq (M : pz_M) : m_Mod_readsCase M = bI (m_Mod_here M) fun r2 M1 => bI (m_Mod_in (isb r2 97) 0 15 M1) fun r4 M3 => if r4 = 0 then (bI (m_Mod_wrongAt 1 (M3 100 9) M3) fun r6 M5 => grd (r6 = 0 ∨ r6 = 1) (some (some (pzI r6), M5))) else (if (M3 100 36) = (24 : Int) then (bI (m_Mod_wrongAt 4 (M3 100 9) M3) fun r8 M7 => grd (r8 = 0 ∨ r8 = 1) (some (some (pzI r8), M7))) else (bI (m_Mod_here M3) fun r10 M9 => grd (0 ≤ (M3 100 36) ∧ (M3 100 36) < 24) (bM (pz_wr M9 121 (((M3 100 36)).toNat) (isb r10 97)) fun M11 => bM (pz_wr M11 100 9 (ia (M11 100 9) 1)) fun M12 => bI (m_Mod_readsAmount M12) fun r14 M13 => if r14 = 0 then some (some (pzI 0), M13) else (grd (0 ≤ (M13 100 36) ∧ (M13 100 36) < 24) (bM (pz_wr M13 122 (((M13 100 36)).toNat) (M13 100 12)) fun M15 => bI (m_Mod_here M15) fun r17 M16 => if r17 = (33 : Int) then (m_Mod_readsCase_115 pzN 1 (M15 100 36) M16) else (m_Mod_readsCase_115 pzN 0 (M15 100 36) M16)))))) := by
  show pzr 6 182 (0, [pzR 100, pzN], [], M) = _
  refine (pz_goes tq_182 1 (σ' := (1, [pzR 100, pzN], [pzR 100], M)) rfl).trans ?_
  refine (e_callI (as := [pzR 100]) (rest := []) (d' := 3) tq_155 rfl rfl rfl rfl rfl tq_182 rfl).trans (e_bI rfl fun r2 M1 => ?_)
  refine (pz_goes tq_182 4 (σ' := (10, [pzR 100, pzN], [pzI 15, pzI 0, pzI (isb r2 97)], M1)) rfl).trans ?_
  refine (e_callI (as := [pzI (isb r2 97), pzI 0, pzI 15]) (rest := []) (d' := 3) tq_138 rfl rfl rfl rfl rfl tq_182 rfl).trans (e_bI rfl fun r4 M3 => ?_)
  refine (e_if_ne tq_182 rfl).trans (e_ite ?_ ?_)
  · refine (pz_goes tq_182 4 (σ' := (22, [pzR 100, pzN], [pzI (M3 100 9), pzI 1, pzR 100], M3)) rfl).trans ?_
    refine (e_callI (as := [pzR 100, pzI 1, pzI (M3 100 9)]) (rest := []) (d' := 3) tq_157 rfl rfl rfl rfl rfl tq_182 rfl).trans (e_bI rfl fun r6 M5 => ?_)
    exact e_zret tq_182 rfl
  · refine (pz_goes tq_182 3 (σ' := (32, [pzR 100, pzN], [pzI 24, pzI (M3 100 36)], M3)) rfl).trans ?_
    refine (e_icmp_ne tq_182 rfl).trans (e_ite ?_ ?_)
    · refine (pz_goes tq_182 4 (σ' := (41, [pzR 100, pzN], [pzI (M3 100 9), pzI 4, pzR 100], M3)) rfl).trans ?_
      refine (e_callI (as := [pzR 100, pzI 4, pzI (M3 100 9)]) (rest := []) (d' := 3) tq_157 rfl rfl rfl rfl rfl tq_182 rfl).trans (e_bI rfl fun r8 M7 => ?_)
      exact e_zret tq_182 rfl
    · refine (pz_goes tq_182 5 (σ' := (54, [pzR 100, pzN], [pzR 100, pzI (M3 100 36), pzR 121], M3)) rfl).trans ?_
      refine (e_callI (as := [pzR 100]) (rest := [pzI (M3 100 36), pzR 121]) (d' := 3) tq_155 rfl rfl rfl rfl rfl tq_182 rfl).trans (e_bI rfl fun r10 M9 => ?_)
      refine (pz_goes tq_182 2 (σ' := (60, [pzR 100, pzN], [pzI (isb r10 97), pzI (M3 100 36), pzR 121], M9)) rfl).trans ?_
      refine (e_iast (n := 24) rfl rfl tq_182 rfl).trans (e_grd ?_)
      refine e_bM (m := pz_wr M9 121 (((M3 100 36)).toNat) (isb r10 97)) (f := fun M11 => pzr 6 182 (61, [pzR 100, pzN], [], M11)) (fun M11 => ?_)
      refine (pz_goes tq_182 5 (σ' := (68, [pzR 100, pzN], [pzI (ia (M11 100 9) 1), pzR 100], M11)) rfl).trans ?_
      refine (e_putI rfl tq_182 rfl).trans ?_
      refine e_bM (f := fun M12 => pzr 6 182 (71, [pzR 100, pzN], [], M12)) (fun M12 => ?_)
      refine (pz_goes tq_182 1 (σ' := (72, [pzR 100, pzN], [pzR 100], M12)) rfl).trans ?_
      refine (e_callI (as := [pzR 100, pzN]) (rest := []) (d' := 5) tq_181 rfl rfl rfl rfl rfl tq_182 rfl).trans (e_bI rfl fun r14 M13 => ?_)
      refine (e_if_ne tq_182 rfl).trans (e_ite ?_ ?_)
      · refine (pz_goes tq_182 1 (σ' := (79, [pzR 100, pzN], [pzI 0], M13)) rfl).trans ?_
        exact (e_zret tq_182 rfl).trans (grd_pos (by decide))
      · refine (pz_goes tq_182 6 (σ' := (92, [pzR 100, pzN], [pzI (M13 100 12), pzI (M13 100 36), pzR 122], M13)) rfl).trans ?_
        refine (e_iast (n := 24) rfl rfl tq_182 rfl).trans (e_grd ?_)
        refine e_bM (m := pz_wr M13 122 (((M13 100 36)).toNat) (M13 100 12)) (f := fun M15 => pzr 6 182 (93, [pzR 100, pzN], [], M15)) (fun M15 => ?_)
        refine (pz_goes tq_182 5 (σ' := (102, [pzR 100, pzN], [pzR 100, pzI (M15 100 36), pzR 123], M15)) rfl).trans ?_
        refine (e_callI (as := [pzR 100]) (rest := [pzI (M15 100 36), pzR 123]) (d' := 3) tq_155 rfl rfl rfl rfl rfl tq_182 rfl).trans (e_bI rfl fun r17 M16 => ?_)
        refine (pz_goes tq_182 1 (σ' := (107, [pzR 100, pzN], [pzI 33, pzI r17, pzI (M15 100 36), pzR 123], M16)) rfl).trans ?_
        refine (e_icmp_ne tq_182 rfl).trans (e_ite ?_ ?_)
        · refine (pz_goes tq_182 2 (σ' := (115, [pzR 100, pzN], [pzI 1, pzI (M15 100 36), pzR 123], M16)) rfl).trans ?_
          rfl
        · refine (pz_goes tq_182 1 (σ' := (115, [pzR 100, pzN], [pzI 0, pzI (M15 100 36), pzR 123], M16)) rfl).trans ?_
          rfl
set_option maxRecDepth 20000 in
theorem m_Mod_readsCase_115_eq (w1 : pz_V) (s0 : Int) (s1 : Int) (M : pz_M) : m_Mod_readsCase_115 w1 s0 s1 M = grd (0 ≤ s1 ∧ s1 < 24) (bM (pz_wr M 123 ((s1).toNat) s0) fun M1 => grd (0 ≤ (M1 100 36) ∧ (M1 100 36) < 24) (bM (pz_wr M1 100 9 (ia (M1 100 9) (M1 123 (((M1 100 36)).toNat)))) fun M2 => grd (0 ≤ (M2 100 36) ∧ (M2 100 36) < 24) (bM (pz_wr M2 124 (((M2 100 36)).toNat) (-1)) fun M3 => bI (m_Mod_here M3) fun r5 M4 => if r5 = (62 : Int) then (bM (pz_wr M4 100 9 (ia (M4 100 9) 1)) fun M6 => bI (m_Mod_here M6) fun r8 M7 => bI (m_Mod_in (isb r8 48) 0 8 M7) fun r10 M9 => if r10 = 0 then (bI (m_Mod_wrongAt 1 (M9 100 9) M9) fun r12 M11 => grd (r12 = 0 ∨ r12 = 1) (some (some (pzI r12), M11))) else (grd (0 ≤ (isb r8 48) ∧ (isb r8 48) < 9) (if (M9 125 (((isb r8 48)).toNat)) = (12 : Int) then (bI (m_Mod_wrongAt 6 (M9 100 9) M9) fun r14 M13 => grd (r14 = 0 ∨ r14 = 1) (some (some (pzI r14), M13))) else (grd (0 ≤ (isb r8 48) ∧ (isb r8 48) < 9) (grd (0 ≤ (isb r8 48) ∧ (isb r8 48) < 9) (bM (pz_wr M9 125 (((isb r8 48)).toNat) (ia (M9 125 (((isb r8 48)).toNat)) 1)) fun M15 => grd (0 ≤ (M15 100 36) ∧ (M15 100 36) < 24) (bM (pz_wr M15 124 (((M15 100 36)).toNat) (isb r8 48)) fun M16 => bM (pz_wr M16 100 9 (ia (M16 100 9) 1)) fun M17 => m_Mod_readsCase_247 (pzI (isb r8 48)) M17))))))) else (m_Mod_readsCase_247 w1 M4)))) := by
  show pzr 6 182 (115, [pzR 100, w1], [pzI s0, pzI s1, pzR 123], M) = _
  refine (e_iast (n := 24) rfl rfl tq_182 rfl).trans (e_grd ?_)
  refine e_bM (m := pz_wr M 123 ((s1).toNat) s0) (f := fun M1 => pzr 6 182 (116, [pzR 100, w1], [], M1)) (fun M1 => ?_)
  refine (pz_goes tq_182 7 (σ' := (129, [pzR 100, w1], [pzI (M1 100 36), pzR 123, pzI (M1 100 9), pzR 100], M1)) rfl).trans ?_
  refine (e_iald (n := 24) rfl rfl tq_182 rfl).trans (e_grd ?_)
  refine (pz_goes tq_182 1 (σ' := (131, [pzR 100, w1], [pzI (ia (M1 100 9) (M1 123 (((M1 100 36)).toNat))), pzR 100], M1)) rfl).trans ?_
  refine (e_putI rfl tq_182 rfl).trans ?_
  refine e_bM (f := fun M2 => pzr 6 182 (134, [pzR 100, w1], [], M2)) (fun M2 => ?_)
  refine (pz_goes tq_182 5 (σ' := (143, [pzR 100, w1], [pzI (-1), pzI (M2 100 36), pzR 124], M2)) rfl).trans ?_
  refine (e_iast (n := 24) rfl rfl tq_182 rfl).trans (e_grd ?_)
  refine e_bM (m := pz_wr M2 124 (((M2 100 36)).toNat) (-1)) (f := fun M3 => pzr 6 182 (144, [pzR 100, w1], [], M3)) (fun M3 => ?_)
  refine (pz_goes tq_182 1 (σ' := (145, [pzR 100, w1], [pzR 100], M3)) rfl).trans ?_
  refine (e_callI (as := [pzR 100]) (rest := []) (d' := 3) tq_155 rfl rfl rfl rfl rfl tq_182 rfl).trans (e_bI rfl fun r5 M4 => ?_)
  refine (pz_goes tq_182 1 (σ' := (150, [pzR 100, w1], [pzI 62, pzI r5], M4)) rfl).trans ?_
  refine (e_icmp_ne tq_182 rfl).trans (e_ite ?_ ?_)
  · refine (pz_goes tq_182 5 (σ' := (160, [pzR 100, w1], [pzI (ia (M4 100 9) 1), pzR 100], M4)) rfl).trans ?_
    refine (e_putI rfl tq_182 rfl).trans ?_
    refine e_bM (f := fun M6 => pzr 6 182 (163, [pzR 100, w1], [], M6)) (fun M6 => ?_)
    refine (pz_goes tq_182 1 (σ' := (164, [pzR 100, w1], [pzR 100], M6)) rfl).trans ?_
    refine (e_callI (as := [pzR 100]) (rest := []) (d' := 3) tq_155 rfl rfl rfl rfl rfl tq_182 rfl).trans (e_bI rfl fun r8 M7 => ?_)
    refine (pz_goes tq_182 6 (σ' := (175, [pzR 100, pzI (isb r8 48)], [pzI 8, pzI 0, pzI (isb r8 48)], M7)) rfl).trans ?_
    refine (e_callI (as := [pzI (isb r8 48), pzI 0, pzI 8]) (rest := []) (d' := 3) tq_138 rfl rfl rfl rfl rfl tq_182 rfl).trans (e_bI rfl fun r10 M9 => ?_)
    refine (e_if_ne tq_182 rfl).trans (e_ite ?_ ?_)
    · refine (pz_goes tq_182 4 (σ' := (187, [pzR 100, pzI (isb r8 48)], [pzI (M9 100 9), pzI 1, pzR 100], M9)) rfl).trans ?_
      refine (e_callI (as := [pzR 100, pzI 1, pzI (M9 100 9)]) (rest := []) (d' := 3) tq_157 rfl rfl rfl rfl rfl tq_182 rfl).trans (e_bI rfl fun r12 M11 => ?_)
      exact e_zret tq_182 rfl
    · refine (pz_goes tq_182 3 (σ' := (196, [pzR 100, pzI (isb r8 48)], [pzI (isb r8 48), pzR 125], M9)) rfl).trans ?_
      refine (e_iald (n := 9) rfl rfl tq_182 rfl).trans (e_grd ?_)
      refine (pz_goes tq_182 1 (σ' := (199, [pzR 100, pzI (isb r8 48)], [pzI 12, pzI (M9 125 (((isb r8 48)).toNat))], M9)) rfl).trans ?_
      refine (e_icmp_ne tq_182 rfl).trans (e_ite ?_ ?_)
      · refine (pz_goes tq_182 4 (σ' := (209, [pzR 100, pzI (isb r8 48)], [pzI (M9 100 9), pzI 6, pzR 100], M9)) rfl).trans ?_
        refine (e_callI (as := [pzR 100, pzI 6, pzI (M9 100 9)]) (rest := []) (d' := 3) tq_157 rfl rfl rfl rfl rfl tq_182 rfl).trans (e_bI rfl fun r14 M13 => ?_)
        exact e_zret tq_182 rfl
      · refine (pz_goes tq_182 6 (σ' := (223, [pzR 100, pzI (isb r8 48)], [pzI (isb r8 48), pzR 125, pzI (isb r8 48), pzR 125], M9)) rfl).trans ?_
        refine (e_iald (n := 9) rfl rfl tq_182 rfl).trans (e_grd ?_)
        refine (pz_goes tq_182 2 (σ' := (226, [pzR 100, pzI (isb r8 48)], [pzI (ia (M9 125 (((isb r8 48)).toNat)) 1), pzI (isb r8 48), pzR 125], M9)) rfl).trans ?_
        refine (e_iast (n := 9) rfl rfl tq_182 rfl).trans (e_grd ?_)
        refine e_bM (m := pz_wr M9 125 (((isb r8 48)).toNat) (ia (M9 125 (((isb r8 48)).toNat)) 1)) (f := fun M15 => pzr 6 182 (227, [pzR 100, pzI (isb r8 48)], [], M15)) (fun M15 => ?_)
        refine (pz_goes tq_182 5 (σ' := (236, [pzR 100, pzI (isb r8 48)], [pzI (isb r8 48), pzI (M15 100 36), pzR 124], M15)) rfl).trans ?_
        refine (e_iast (n := 24) rfl rfl tq_182 rfl).trans (e_grd ?_)
        refine e_bM (m := pz_wr M15 124 (((M15 100 36)).toNat) (isb r8 48)) (f := fun M16 => pzr 6 182 (237, [pzR 100, pzI (isb r8 48)], [], M16)) (fun M16 => ?_)
        refine (pz_goes tq_182 5 (σ' := (244, [pzR 100, pzI (isb r8 48)], [pzI (ia (M16 100 9) 1), pzR 100], M16)) rfl).trans ?_
        refine (e_putI rfl tq_182 rfl).trans ?_
        refine e_bM (f := fun M17 => pzr 6 182 (247, [pzR 100, pzI (isb r8 48)], [], M17)) (fun M17 => ?_)
        rfl
  · rfl
set_option maxRecDepth 20000 in
theorem m_Mod_readsCase_247_eq (w1 : pz_V) (M : pz_M) : m_Mod_readsCase_247 w1 M = bM (pz_wr M 100 36 (ia (M 100 36) 1)) fun M1 => some (some (pzI 1), M1) := by
  show pzr 6 182 (247, [pzR 100, w1], [], M) = _
  refine (pz_goes tq_182 5 (σ' := (254, [pzR 100, w1], [pzI (ia (M 100 36) 1), pzR 100], M)) rfl).trans ?_
  refine (e_putI rfl tq_182 rfl).trans ?_
  refine e_bM (f := fun M1 => pzr 6 182 (257, [pzR 100, w1], [], M1)) (fun M1 => ?_)
  refine (pz_goes tq_182 1 (σ' := (258, [pzR 100, w1], [pzI 1], M1)) rfl).trans ?_
  exact (e_zret tq_182 rfl).trans (grd_pos (by decide))
/-! PeacockDeskModel.docket(I)I -/
set_option maxRecDepth 20000 in
theorem m_Mod_docket_eq (x1 : Int) (M : pz_M) : m_Mod_docket x1 M = bI (m_Mod_in x1 1 160 M) fun r2 M1 => if r2 = 0 then some (some (pzI (-1)), M1) else (if (M1 100 8) < x1 then some (some (pzI (-1)), M1) else (bV (m_Mod_beginsText x1 M1) fun M3 => bM (pz_wr M3 100 36 0) fun M4 => m_Mod_docket_33 (pzI x1) 0 pzN M4)) := by
  show pzr 7 183 (0, [pzR 100, pzI x1, pzN, pzN], [], M) = _
  refine (pz_goes tq_183 3 (σ' := (5, [pzR 100, pzI x1, pzN, pzN], [pzI 160, pzI 1, pzI x1], M)) rfl).trans ?_
  refine (e_callI (as := [pzI x1, pzI 1, pzI 160]) (rest := []) (d' := 3) tq_138 rfl rfl rfl rfl rfl tq_183 rfl).trans (e_bI rfl fun r2 M1 => ?_)
  refine (e_if_eq tq_183 rfl).trans (e_ite ?_ ?_)
  · refine (pz_goes tq_183 1 (σ' := (20, [pzR 100, pzI x1, pzN, pzN], [pzI (-1)], M1)) rfl).trans ?_
    exact e_iret tq_183 rfl
  · refine (pz_goes tq_183 3 (σ' := (16, [pzR 100, pzI x1, pzN, pzN], [pzI (M1 100 8), pzI x1], M1)) rfl).trans ?_
    refine (e_icmp_le tq_183 rfl).trans (e_ite ?_ ?_)
    · refine (pz_goes tq_183 1 (σ' := (20, [pzR 100, pzI x1, pzN, pzN], [pzI (-1)], M1)) rfl).trans ?_
      exact e_iret tq_183 rfl
    · refine (pz_goes tq_183 2 (σ' := (23, [pzR 100, pzI x1, pzN, pzN], [pzI x1, pzR 100], M1)) rfl).trans ?_
      refine (e_callV (as := [pzR 100, pzI x1]) (rest := []) (d' := 3) tq_175 rfl rfl rfl rfl rfl tq_183 rfl).trans (e_bV rfl fun M3 => ?_)
      refine (pz_goes tq_183 2 (σ' := (28, [pzR 100, pzI x1, pzN, pzN], [pzI 0, pzR 100], M3)) rfl).trans ?_
      refine (e_putI rfl tq_183 rfl).trans ?_
      refine e_bM (f := fun M4 => pzr 7 183 (31, [pzR 100, pzI x1, pzN, pzN], [], M4)) (fun M4 => ?_)
      refine (pz_goes tq_183 2 (σ' := (33, [pzR 100, pzI x1, pzI 0, pzN], [], M4)) rfl).trans ?_
      rfl
set_option maxRecDepth 20000 in
theorem m_Mod_docket_33_eq (w1 : pz_V) (x2 : Int) (w3 : pz_V) (M : pz_M) : m_Mod_docket_33 w1 x2 w3 M = if x2 < (9 : Int) then (grd (0 ≤ x2 ∧ x2 < 9) (bM (pz_wr M 125 ((x2).toNat) 0) fun M1 => m_Mod_docket_33 w1 (ia x2 (1)) w3 M1)) else (bI (m_Mod_readsCase M) fun r3 M2 => m_Mod_docket_57 w1 r3 w3 M2) := by
  show pzr 7 183 (33, [pzR 100, w1, pzI x2, w3], [], M) = _
  refine (pz_goes tq_183 2 (σ' := (36, [pzR 100, w1, pzI x2, w3], [pzI 9, pzI x2], M)) rfl).trans ?_
  refine (e_icmp_ge tq_183 rfl).trans (e_ite ?_ ?_)
  · refine (pz_goes tq_183 4 (σ' := (45, [pzR 100, w1, pzI x2, w3], [pzI 0, pzI x2, pzR 125], M)) rfl).trans ?_
    refine (e_iast (n := 9) rfl rfl tq_183 rfl).trans (e_grd ?_)
    refine e_bM (m := pz_wr M 125 ((x2).toNat) 0) (f := fun M1 => pzr 7 183 (46, [pzR 100, w1, pzI x2, w3], [], M1)) (fun M1 => ?_)
    refine (pz_goes tq_183 2 (σ' := (33, [pzR 100, w1, pzI (ia x2 (1)), w3], [], M1)) rfl).trans ?_
    rfl
  · refine (pz_goes tq_183 1 (σ' := (53, [pzR 100, w1, pzI x2, w3], [pzR 100], M)) rfl).trans ?_
    refine (e_callI (as := [pzR 100, pzN]) (rest := []) (d' := 6) tq_182 rfl rfl rfl rfl rfl tq_183 rfl).trans (e_bI rfl fun r3 M2 => ?_)
    refine (pz_goes tq_183 1 (σ' := (57, [pzR 100, w1, pzI r3, w3], [], M2)) rfl).trans ?_
    rfl
set_option maxRecDepth 20000 in
theorem m_Mod_docket_57_eq (w1 : pz_V) (x2 : Int) (w3 : pz_V) (M : pz_M) : m_Mod_docket_57 w1 x2 w3 M = if x2 = 0 then (m_Mod_docket_97 w1 x2 w3 M) else (if (M 100 9) < (M 100 10) then (bI (m_Mod_takes 59 M) fun r2 M1 => if r2 = 0 then (m_Mod_docket_57 w1 0 w3 M1) else (bI (m_Mod_readsCase M1) fun r4 M3 => if r4 = 0 then (m_Mod_docket_57 w1 0 w3 M3) else (m_Mod_docket_57 w1 1 w3 M3))) else (m_Mod_docket_97 w1 x2 w3 M)) := by
  show pzr 7 183 (57, [pzR 100, w1, pzI x2, w3], [], M) = _
  refine (pz_goes tq_183 1 (σ' := (58, [pzR 100, w1, pzI x2, w3], [pzI x2], M)) rfl).trans ?_
  refine (e_if_eq tq_183 rfl).trans (e_ite ?_ ?_)
  · rfl
  · refine (pz_goes tq_183 4 (σ' := (69, [pzR 100, w1, pzI x2, w3], [pzI (M 100 10), pzI (M 100 9)], M)) rfl).trans ?_
    refine (e_icmp_ge tq_183 rfl).trans (e_ite ?_ ?_)
    · refine (pz_goes tq_183 2 (σ' := (75, [pzR 100, w1, pzI x2, w3], [pzI 59, pzR 100], M)) rfl).trans ?_
      refine (e_callI (as := [pzR 100, pzI 59]) (rest := []) (d' := 4) tq_158 rfl rfl rfl rfl rfl tq_183 rfl).trans (e_bI rfl fun r2 M1 => ?_)
      refine (e_if_eq tq_183 rfl).trans (e_ite ?_ ?_)
      · refine (pz_goes tq_183 3 (σ' := (57, [pzR 100, w1, pzI 0, w3], [], M1)) rfl).trans ?_
        rfl
      · refine (pz_goes tq_183 1 (σ' := (82, [pzR 100, w1, pzI x2, w3], [pzR 100], M1)) rfl).trans ?_
        refine (e_callI (as := [pzR 100, pzN]) (rest := []) (d' := 6) tq_182 rfl rfl rfl rfl rfl tq_183 rfl).trans (e_bI rfl fun r4 M3 => ?_)
        refine (e_if_eq tq_183 rfl).trans (e_ite ?_ ?_)
        · refine (pz_goes tq_183 3 (σ' := (57, [pzR 100, w1, pzI 0, w3], [], M3)) rfl).trans ?_
          rfl
        · refine (pz_goes tq_183 4 (σ' := (57, [pzR 100, w1, pzI 1, w3], [], M3)) rfl).trans ?_
          rfl
    · rfl
set_option maxRecDepth 20000 in
theorem m_Mod_docket_97_eq (w1 : pz_V) (x2 : Int) (w3 : pz_V) (M : pz_M) : m_Mod_docket_97 w1 x2 w3 M = bM (pz_wr M 100 8 0) fun M1 => if x2 = 0 then some (some (pzI (M1 100 11)), M1) else (bM (pz_wr M1 100 6 (M1 100 36)) fun M2 => m_Mod_docket_121 w1 (pzI x2) 0 M2) := by
  show pzr 7 183 (97, [pzR 100, w1, pzI x2, w3], [], M) = _
  refine (pz_goes tq_183 2 (σ' := (99, [pzR 100, w1, pzI x2, w3], [pzI 0, pzR 100], M)) rfl).trans ?_
  refine (e_putI rfl tq_183 rfl).trans ?_
  refine e_bM (f := fun M1 => pzr 7 183 (102, [pzR 100, w1, pzI x2, w3], [], M1)) (fun M1 => ?_)
  refine (pz_goes tq_183 1 (σ' := (103, [pzR 100, w1, pzI x2, w3], [pzI x2], M1)) rfl).trans ?_
  refine (e_if_ne tq_183 rfl).trans (e_ite ?_ ?_)
  · refine (pz_goes tq_183 2 (σ' := (110, [pzR 100, w1, pzI x2, w3], [pzI (M1 100 11)], M1)) rfl).trans ?_
    exact e_iret tq_183 rfl
  · refine (pz_goes tq_183 3 (σ' := (116, [pzR 100, w1, pzI x2, w3], [pzI (M1 100 36), pzR 100], M1)) rfl).trans ?_
    refine (e_putI rfl tq_183 rfl).trans ?_
    refine e_bM (f := fun M2 => pzr 7 183 (119, [pzR 100, w1, pzI x2, w3], [], M2)) (fun M2 => ?_)
    refine (pz_goes tq_183 2 (σ' := (121, [pzR 100, w1, pzI x2, pzI 0], [], M2)) rfl).trans ?_
    rfl
set_option maxRecDepth 20000 in
theorem m_Mod_docket_121_eq (w1 : pz_V) (w2 : pz_V) (x3 : Int) (M : pz_M) : m_Mod_docket_121 w1 w2 x3 M = if x3 < (M 100 6) then (grd (0 ≤ x3 ∧ x3 < 24) (grd (0 ≤ x3 ∧ x3 < 24) (bM (pz_wr M 104 ((x3).toNat) (M 121 ((x3).toNat))) fun M1 => grd (0 ≤ x3 ∧ x3 < 24) (grd (0 ≤ x3 ∧ x3 < 24) (bM (pz_wr M1 105 ((x3).toNat) (M1 122 ((x3).toNat))) fun M2 => grd (0 ≤ x3 ∧ x3 < 24) (grd (0 ≤ x3 ∧ x3 < 24) (bM (pz_wr M2 106 ((x3).toNat) (M2 123 ((x3).toNat))) fun M3 => grd (0 ≤ x3 ∧ x3 < 24) (if (M3 124 ((x3).toNat)) = (-1 : Int) then (m_Mod_docket_187 w1 w2 x3 0 (ia 0 x3) M3) else (m_Mod_docket_187 w1 w2 x3 1 (ia 0 x3) M3))))))))) else (m_Mod_docket_221 w1 w2 0 M) := by
  show pzr 7 183 (121, [pzR 100, w1, w2, pzI x3], [], M) = _
  refine (pz_goes tq_183 3 (σ' := (126, [pzR 100, w1, w2, pzI x3], [pzI (M 100 6), pzI x3], M)) rfl).trans ?_
  refine (e_icmp_ge tq_183 rfl).trans (e_ite ?_ ?_)
  · refine (pz_goes tq_183 6 (σ' := (139, [pzR 100, w1, w2, pzI x3], [pzI x3, pzR 121, pzI x3, pzR 104], M)) rfl).trans ?_
    refine (e_iald (n := 24) rfl rfl tq_183 rfl).trans (e_grd ?_)
    refine (e_iast (n := 24) rfl rfl tq_183 rfl).trans (e_grd ?_)
    refine e_bM (m := pz_wr M 104 ((x3).toNat) (M 121 ((x3).toNat))) (f := fun M1 => pzr 7 183 (141, [pzR 100, w1, w2, pzI x3], [], M1)) (fun M1 => ?_)
    refine (pz_goes tq_183 6 (σ' := (151, [pzR 100, w1, w2, pzI x3], [pzI x3, pzR 122, pzI x3, pzR 105], M1)) rfl).trans ?_
    refine (e_iald (n := 24) rfl rfl tq_183 rfl).trans (e_grd ?_)
    refine (e_iast (n := 24) rfl rfl tq_183 rfl).trans (e_grd ?_)
    refine e_bM (m := pz_wr M1 105 ((x3).toNat) (M1 122 ((x3).toNat))) (f := fun M2 => pzr 7 183 (153, [pzR 100, w1, w2, pzI x3], [], M2)) (fun M2 => ?_)
    refine (pz_goes tq_183 6 (σ' := (163, [pzR 100, w1, w2, pzI x3], [pzI x3, pzR 123, pzI x3, pzR 106], M2)) rfl).trans ?_
    refine (e_iald (n := 24) rfl rfl tq_183 rfl).trans (e_grd ?_)
    refine (e_iast (n := 24) rfl rfl tq_183 rfl).trans (e_grd ?_)
    refine e_bM (m := pz_wr M2 106 ((x3).toNat) (M2 123 ((x3).toNat))) (f := fun M3 => pzr 7 183 (165, [pzR 100, w1, w2, pzI x3], [], M3)) (fun M3 => ?_)
    refine (pz_goes tq_183 8 (σ' := (177, [pzR 100, w1, w2, pzI x3], [pzI x3, pzR 124, pzI (ia 0 x3), pzR 101], M3)) rfl).trans ?_
    refine (e_iald (n := 24) rfl rfl tq_183 rfl).trans (e_grd ?_)
    refine (pz_goes tq_183 1 (σ' := (179, [pzR 100, w1, w2, pzI x3], [pzI (-1), pzI (M3 124 ((x3).toNat)), pzI (ia 0 x3), pzR 101], M3)) rfl).trans ?_
    refine (e_icmp_ne tq_183 rfl).trans (e_ite ?_ ?_)
    · refine (pz_goes tq_183 2 (σ' := (187, [pzR 100, w1, w2, pzI x3], [pzI 0, pzI (ia 0 x3), pzR 101], M3)) rfl).trans ?_
      rfl
    · refine (pz_goes tq_183 1 (σ' := (187, [pzR 100, w1, w2, pzI x3], [pzI 1, pzI (ia 0 x3), pzR 101], M3)) rfl).trans ?_
      rfl
  · refine (pz_goes tq_183 2 (σ' := (221, [pzR 100, w1, w2, pzI 0], [], M)) rfl).trans ?_
    rfl
set_option maxRecDepth 20000 in
theorem m_Mod_docket_187_eq (w1 : pz_V) (w2 : pz_V) (x3 : Int) (s0 : Int) (s1 : Int) (M : pz_M) : m_Mod_docket_187 w1 w2 x3 s0 s1 M = grd (0 ≤ s1 ∧ s1 < 83) (bM (pz_wr M 101 ((s1).toNat) s0) fun M1 => grd (0 ≤ x3 ∧ x3 < 24) (grd (0 ≤ (ia 24 x3) ∧ (ia 24 x3) < 83) (bM (pz_wr M1 101 (((ia 24 x3)).toNat) (M1 124 ((x3).toNat))) fun M2 => grd (0 ≤ (ia 48 x3) ∧ (ia 48 x3) < 83) (bM (pz_wr M2 101 (((ia 48 x3)).toNat) 0) fun M3 => m_Mod_docket_121 w1 w2 (ia x3 (1)) M3)))) := by
  show pzr 7 183 (187, [pzR 100, w1, w2, pzI x3], [pzI s0, pzI s1, pzR 101], M) = _
  refine (e_iast (n := 83) rfl rfl tq_183 rfl).trans (e_grd ?_)
  refine e_bM (m := pz_wr M 101 ((s1).toNat) s0) (f := fun M1 => pzr 7 183 (188, [pzR 100, w1, w2, pzI x3], [], M1)) (fun M1 => ?_)
  refine (pz_goes tq_183 8 (σ' := (201, [pzR 100, w1, w2, pzI x3], [pzI x3, pzR 124, pzI (ia 24 x3), pzR 101], M1)) rfl).trans ?_
  refine (e_iald (n := 24) rfl rfl tq_183 rfl).trans (e_grd ?_)
  refine (e_iast (n := 83) rfl rfl tq_183 rfl).trans (e_grd ?_)
  refine e_bM (m := pz_wr M1 101 (((ia 24 x3)).toNat) (M1 124 ((x3).toNat))) (f := fun M2 => pzr 7 183 (203, [pzR 100, w1, w2, pzI x3], [], M2)) (fun M2 => ?_)
  refine (pz_goes tq_183 6 (σ' := (212, [pzR 100, w1, w2, pzI x3], [pzI 0, pzI (ia 48 x3), pzR 101], M2)) rfl).trans ?_
  refine (e_iast (n := 83) rfl rfl tq_183 rfl).trans (e_grd ?_)
  refine e_bM (m := pz_wr M2 101 (((ia 48 x3)).toNat) 0) (f := fun M3 => pzr 7 183 (213, [pzR 100, w1, w2, pzI x3], [], M3)) (fun M3 => ?_)
  refine (pz_goes tq_183 2 (σ' := (121, [pzR 100, w1, w2, pzI (ia x3 (1))], [], M3)) rfl).trans ?_
  rfl
set_option maxRecDepth 20000 in
theorem m_Mod_docket_221_eq (w1 : pz_V) (w2 : pz_V) (x3 : Int) (M : pz_M) : m_Mod_docket_221 w1 w2 x3 M = if x3 < (9 : Int) then (grd (0 ≤ (ia 72 x3) ∧ (ia 72 x3) < 83) (bM (pz_wr M 101 (((ia 72 x3)).toNat) 0) fun M1 => m_Mod_docket_221 w1 w2 (ia x3 (1)) M1)) else (some (some (pzI (M 100 6)), M)) := by
  show pzr 7 183 (221, [pzR 100, w1, w2, pzI x3], [], M) = _
  refine (pz_goes tq_183 2 (σ' := (224, [pzR 100, w1, w2, pzI x3], [pzI 9, pzI x3], M)) rfl).trans ?_
  refine (e_icmp_ge tq_183 rfl).trans (e_ite ?_ ?_)
  · refine (pz_goes tq_183 6 (σ' := (236, [pzR 100, w1, w2, pzI x3], [pzI 0, pzI (ia 72 x3), pzR 101], M)) rfl).trans ?_
    refine (e_iast (n := 83) rfl rfl tq_183 rfl).trans (e_grd ?_)
    refine e_bM (m := pz_wr M 101 (((ia 72 x3)).toNat) 0) (f := fun M1 => pzr 7 183 (237, [pzR 100, w1, w2, pzI x3], [], M1)) (fun M1 => ?_)
    refine (pz_goes tq_183 2 (σ' := (221, [pzR 100, w1, w2, pzI (ia x3 (1))], [], M1)) rfl).trans ?_
    rfl
  · refine (pz_goes tq_183 2 (σ' := (247, [pzR 100, w1, w2, pzI x3], [pzI (M 100 6)], M)) rfl).trans ?_
    exact e_iret tq_183 rfl
/-! PeacockDeskModel.draws()I -/
set_option maxRecDepth 20000 in
theorem m_Mod_draws_eq (M : pz_M) : m_Mod_draws M = bM (pz_wr M 101 82 (irm (ia (imu 25173 (M 101 82)) 13849) 65536)) fun M1 => some (some (pzI (irm (M1 101 82) 10)), M1) := by
  show pzr 3 184 (0, [pzR 100], [], M) = _
  refine (pz_goes tq_184 7 (σ' := (15, [pzR 100], [pzI 82, pzR 101, pzI 25173, pzI 82, pzR 101], M)) rfl).trans ?_
  refine ((e_iald (n := 83) rfl rfl tq_184 rfl).trans (grd_pos (by decide))).trans ?_
  show pzr 3 184 (16, [pzR 100], [pzI (M 101 82), pzI 25173, pzI 82, pzR 101], M) = _
  refine (pz_goes tq_184 4 (σ' := (23, [pzR 100], [pzI 65536, pzI (ia (imu 25173 (M 101 82)) 13849), pzI 82, pzR 101], M)) rfl).trans ?_
  refine ((e_div tq_184 rfl).trans (grd_pos (by decide))).trans ?_
  show pzr 3 184 (24, [pzR 100], [pzI (irm (ia (imu 25173 (M 101 82)) 13849) 65536), pzI 82, pzR 101], M) = _
  refine ((e_iast (n := 83) rfl rfl tq_184 rfl).trans (grd_pos (by decide))).trans ?_
  refine e_bM (m := pz_wr M 101 82 (irm (ia (imu 25173 (M 101 82)) 13849) 65536)) (f := fun M1 => pzr 3 184 (25, [pzR 100], [], M1)) (fun M1 => ?_)
  refine (pz_goes tq_184 3 (σ' := (31, [pzR 100], [pzI 82, pzR 101], M1)) rfl).trans ?_
  refine ((e_iald (n := 83) rfl rfl tq_184 rfl).trans (grd_pos (by decide))).trans ?_
  show pzr 3 184 (32, [pzR 100], [pzI (M1 101 82)], M1) = _
  refine (pz_goes tq_184 1 (σ' := (34, [pzR 100], [pzI 10, pzI (M1 101 82)], M1)) rfl).trans ?_
  refine ((e_div tq_184 rfl).trans (grd_pos (by decide))).trans ?_
  show pzr 3 184 (35, [pzR 100], [pzI (irm (M1 101 82) 10)], M1) = _
  exact e_iret tq_184 rfl
/-! PeacockDeskModel.feelsBird(II)V -/
set_option maxRecDepth 20000 in
theorem m_Mod_feelsBird_eq (x1 : Int) (x2 : Int) (M : pz_M) : m_Mod_feelsBird x1 x2 M = bM (pz_wr M 120 0 x1) fun M1 => bM (pz_wr M1 120 1 24) fun M2 => bM (pz_wr M2 120 2 16) fun M3 => bM (pz_wr M3 120 3 0) fun M4 => bM (pz_wr M4 120 4 0) fun M5 => bM (pz_wr M5 120 5 0) fun M6 => bI (m_Mod_casesOf x1 M6) fun r8 M7 => bI (m_Mod_bits r8 M7) fun r10 M9 => bM (pz_wr M9 120 6 r10) fun M11 => grd (0 ≤ (ia 72 x1) ∧ (ia 72 x1) < 83) (bM (pz_wr M11 120 7 (M11 101 (((ia 72 x1)).toNat))) fun M12 => bM (pz_wr M12 120 8 (irm (M12 101 81) 100)) fun M13 => bM (pz_wr M13 120 9 x2) fun M14 => some (none, M14)) := by
  show pzr 7 185 (0, [pzR 100, pzI x1, pzI x2], [], M) = _
  refine (pz_goes tq_185 4 (σ' := (6, [pzR 100, pzI x1, pzI x2], [pzI x1, pzI 0, pzR 120], M)) rfl).trans ?_
  refine ((e_iast (n := 10) rfl rfl tq_185 rfl).trans (grd_pos (by decide))).trans ?_
  refine e_bM (m := pz_wr M 120 0 x1) (f := fun M1 => pzr 7 185 (7, [pzR 100, pzI x1, pzI x2], [], M1)) (fun M1 => ?_)
  refine (pz_goes tq_185 4 (σ' := (14, [pzR 100, pzI x1, pzI x2], [pzI 24, pzI 1, pzR 120], M1)) rfl).trans ?_
  refine ((e_iast (n := 10) rfl rfl tq_185 rfl).trans (grd_pos (by decide))).trans ?_
  refine e_bM (m := pz_wr M1 120 1 24) (f := fun M2 => pzr 7 185 (15, [pzR 100, pzI x1, pzI x2], [], M2)) (fun M2 => ?_)
  refine (pz_goes tq_185 4 (σ' := (22, [pzR 100, pzI x1, pzI x2], [pzI 16, pzI 2, pzR 120], M2)) rfl).trans ?_
  refine ((e_iast (n := 10) rfl rfl tq_185 rfl).trans (grd_pos (by decide))).trans ?_
  refine e_bM (m := pz_wr M2 120 2 16) (f := fun M3 => pzr 7 185 (23, [pzR 100, pzI x1, pzI x2], [], M3)) (fun M3 => ?_)
  refine (pz_goes tq_185 4 (σ' := (29, [pzR 100, pzI x1, pzI x2], [pzI 0, pzI 3, pzR 120], M3)) rfl).trans ?_
  refine ((e_iast (n := 10) rfl rfl tq_185 rfl).trans (grd_pos (by decide))).trans ?_
  refine e_bM (m := pz_wr M3 120 3 0) (f := fun M4 => pzr 7 185 (30, [pzR 100, pzI x1, pzI x2], [], M4)) (fun M4 => ?_)
  refine (pz_goes tq_185 4 (σ' := (36, [pzR 100, pzI x1, pzI x2], [pzI 0, pzI 4, pzR 120], M4)) rfl).trans ?_
  refine ((e_iast (n := 10) rfl rfl tq_185 rfl).trans (grd_pos (by decide))).trans ?_
  refine e_bM (m := pz_wr M4 120 4 0) (f := fun M5 => pzr 7 185 (37, [pzR 100, pzI x1, pzI x2], [], M5)) (fun M5 => ?_)
  refine (pz_goes tq_185 4 (σ' := (43, [pzR 100, pzI x1, pzI x2], [pzI 0, pzI 5, pzR 120], M5)) rfl).trans ?_
  refine ((e_iast (n := 10) rfl rfl tq_185 rfl).trans (grd_pos (by decide))).trans ?_
  refine e_bM (m := pz_wr M5 120 5 0) (f := fun M6 => pzr 7 185 (44, [pzR 100, pzI x1, pzI x2], [], M6)) (fun M6 => ?_)
  refine (pz_goes tq_185 5 (σ' := (52, [pzR 100, pzI x1, pzI x2], [pzI x1, pzR 100, pzI 6, pzR 120], M6)) rfl).trans ?_
  refine (e_callI (as := [pzR 100, pzI x1, pzN, pzN]) (rest := [pzI 6, pzR 120]) (d' := 6) tq_148 rfl rfl rfl rfl rfl tq_185 rfl).trans (e_bI rfl fun r8 M7 => ?_)
  refine (e_callI (as := [pzI r8, pzN, pzN]) (rest := [pzI 6, pzR 120]) (d' := 3) tq_143 rfl rfl rfl rfl rfl tq_185 rfl).trans (e_bI rfl fun r10 M9 => ?_)
  refine ((e_iast (n := 10) rfl rfl tq_185 rfl).trans (grd_pos (by decide))).trans ?_
  refine e_bM (m := pz_wr M9 120 6 r10) (f := fun M11 => pzr 7 185 (59, [pzR 100, pzI x1, pzI x2], [], M11)) (fun M11 => ?_)
  refine (pz_goes tq_185 8 (σ' := (73, [pzR 100, pzI x1, pzI x2], [pzI (ia 72 x1), pzR 101, pzI 7, pzR 120], M11)) rfl).trans ?_
  refine (e_iald (n := 83) rfl rfl tq_185 rfl).trans (e_grd ?_)
  refine ((e_iast (n := 10) rfl rfl tq_185 rfl).trans (grd_pos (by decide))).trans ?_
  refine e_bM (m := pz_wr M11 120 7 (M11 101 (((ia 72 x1)).toNat))) (f := fun M12 => pzr 7 185 (75, [pzR 100, pzI x1, pzI x2], [], M12)) (fun M12 => ?_)
  refine (pz_goes tq_185 6 (σ' := (87, [pzR 100, pzI x1, pzI x2], [pzI 81, pzR 101, pzI 8, pzR 120], M12)) rfl).trans ?_
  refine ((e_iald (n := 83) rfl rfl tq_185 rfl).trans (grd_pos (by decide))).trans ?_
  show pzr 7 185 (88, [pzR 100, pzI x1, pzI x2], [pzI (M12 101 81), pzI 8, pzR 120], M12) = _
  refine (pz_goes tq_185 1 (σ' := (90, [pzR 100, pzI x1, pzI x2], [pzI 100, pzI (M12 101 81), pzI 8, pzR 120], M12)) rfl).trans ?_
  refine ((e_div tq_185 rfl).trans (grd_pos (by decide))).trans ?_
  show pzr 7 185 (91, [pzR 100, pzI x1, pzI x2], [pzI (irm (M12 101 81) 100), pzI 8, pzR 120], M12) = _
  refine ((e_iast (n := 10) rfl rfl tq_185 rfl).trans (grd_pos (by decide))).trans ?_
  refine e_bM (m := pz_wr M12 120 8 (irm (M12 101 81) 100)) (f := fun M13 => pzr 7 185 (92, [pzR 100, pzI x1, pzI x2], [], M13)) (fun M13 => ?_)
  refine (pz_goes tq_185 4 (σ' := (99, [pzR 100, pzI x1, pzI x2], [pzI x2, pzI 9, pzR 120], M13)) rfl).trans ?_
  refine ((e_iast (n := 10) rfl rfl tq_185 rfl).trans (grd_pos (by decide))).trans ?_
  refine e_bM (m := pz_wr M13 120 9 x2) (f := fun M14 => pzr 7 185 (100, [pzR 100, pzI x1, pzI x2], [], M14)) (fun M14 => ?_)
  exact e_ret tq_185 rfl
/-! PeacockDeskModel.feelsCase(III)V -/
set_option maxRecDepth 20000 in
theorem m_Mod_feelsCase_eq (x1 : Int) (x2 : Int) (x3 : Int) (M : pz_M) : m_Mod_feelsCase x1 x2 x3 M = bV (m_Mod_feelsBird x1 x3 M) fun M1 => bM (pz_wr M1 120 1 x2) fun M2 => grd (0 ≤ x2 ∧ x2 < 24) (bM (pz_wr M2 120 2 (M2 104 ((x2).toNat))) fun M3 => grd (0 ≤ x2 ∧ x2 < 24) (bM (pz_wr M3 120 3 (M3 105 ((x2).toNat))) fun M4 => grd (0 ≤ x2 ∧ x2 < 24) (bM (pz_wr M4 120 4 (M4 106 ((x2).toNat))) fun M5 => grd (0 ≤ (ia 48 x2) ∧ (ia 48 x2) < 83) (bM (pz_wr M5 120 5 (M5 101 (((ia 48 x2)).toNat))) fun M6 => some (none, M6))))) := by
  show pzr 8 186 (0, [pzR 100, pzI x1, pzI x2, pzI x3], [], M) = _
  refine (pz_goes tq_186 3 (σ' := (3, [pzR 100, pzI x1, pzI x2, pzI x3], [pzI x3, pzI x1, pzR 100], M)) rfl).trans ?_
  refine (e_callV (as := [pzR 100, pzI x1, pzI x3]) (rest := []) (d' := 7) tq_185 rfl rfl rfl rfl rfl tq_186 rfl).trans (e_bV rfl fun M1 => ?_)
  refine (pz_goes tq_186 4 (σ' := (12, [pzR 100, pzI x1, pzI x2, pzI x3], [pzI x2, pzI 1, pzR 120], M1)) rfl).trans ?_
  refine ((e_iast (n := 10) rfl rfl tq_186 rfl).trans (grd_pos (by decide))).trans ?_
  refine e_bM (m := pz_wr M1 120 1 x2) (f := fun M2 => pzr 8 186 (13, [pzR 100, pzI x1, pzI x2, pzI x3], [], M2)) (fun M2 => ?_)
  refine (pz_goes tq_186 6 (σ' := (23, [pzR 100, pzI x1, pzI x2, pzI x3], [pzI x2, pzR 104, pzI 2, pzR 120], M2)) rfl).trans ?_
  refine (e_iald (n := 24) rfl rfl tq_186 rfl).trans (e_grd ?_)
  refine ((e_iast (n := 10) rfl rfl tq_186 rfl).trans (grd_pos (by decide))).trans ?_
  refine e_bM (m := pz_wr M2 120 2 (M2 104 ((x2).toNat))) (f := fun M3 => pzr 8 186 (25, [pzR 100, pzI x1, pzI x2, pzI x3], [], M3)) (fun M3 => ?_)
  refine (pz_goes tq_186 6 (σ' := (35, [pzR 100, pzI x1, pzI x2, pzI x3], [pzI x2, pzR 105, pzI 3, pzR 120], M3)) rfl).trans ?_
  refine (e_iald (n := 24) rfl rfl tq_186 rfl).trans (e_grd ?_)
  refine ((e_iast (n := 10) rfl rfl tq_186 rfl).trans (grd_pos (by decide))).trans ?_
  refine e_bM (m := pz_wr M3 120 3 (M3 105 ((x2).toNat))) (f := fun M4 => pzr 8 186 (37, [pzR 100, pzI x1, pzI x2, pzI x3], [], M4)) (fun M4 => ?_)
  refine (pz_goes tq_186 6 (σ' := (47, [pzR 100, pzI x1, pzI x2, pzI x3], [pzI x2, pzR 106, pzI 4, pzR 120], M4)) rfl).trans ?_
  refine (e_iald (n := 24) rfl rfl tq_186 rfl).trans (e_grd ?_)
  refine ((e_iast (n := 10) rfl rfl tq_186 rfl).trans (grd_pos (by decide))).trans ?_
  refine e_bM (m := pz_wr M4 120 4 (M4 106 ((x2).toNat))) (f := fun M5 => pzr 8 186 (49, [pzR 100, pzI x1, pzI x2, pzI x3], [], M5)) (fun M5 => ?_)
  refine (pz_goes tq_186 8 (σ' := (62, [pzR 100, pzI x1, pzI x2, pzI x3], [pzI (ia 48 x2), pzR 101, pzI 5, pzR 120], M5)) rfl).trans ?_
  refine (e_iald (n := 83) rfl rfl tq_186 rfl).trans (e_grd ?_)
  refine ((e_iast (n := 10) rfl rfl tq_186 rfl).trans (grd_pos (by decide))).trans ?_
  refine e_bM (m := pz_wr M5 120 5 (M5 101 (((ia 48 x2)).toNat))) (f := fun M6 => pzr 8 186 (64, [pzR 100, pzI x1, pzI x2, pzI x3], [], M6)) (fun M6 => ?_)
  exact e_ret tq_186 rfl
/-! PeacockDeskModel.isTaken(I)V -/
set_option maxRecDepth 20000 in
theorem m_Mod_isTaken_eq (x1 : Int) (M : pz_M) : m_Mod_isTaken x1 M = m_Mod_isTaken_7 x1 (-1) 0 0 pzN M := by
  show pzr 9 187 (0, [pzR 100, pzI x1, pzN, pzN, pzN, pzN], [], M) = _
  refine (pz_goes tq_187 6 (σ' := (7, [pzR 100, pzI x1, pzI (-1), pzI 0, pzI 0, pzN], [], M)) rfl).trans ?_
  rfl
set_option maxRecDepth 20000 in
theorem m_Mod_isTaken_7_eq (x1 : Int) (x2 : Int) (x3 : Int) (x4 : Int) (w5 : pz_V) (M : pz_M) : m_Mod_isTaken_7 x1 x2 x3 x4 w5 M = if x4 < (9 : Int) then (bI (m_Mod_casesOf x4 M) fun r2 M1 => bI (m_Mod_bits r2 M1) fun r4 M3 => if r4 < (12 : Int) then (bV (m_Mod_feelsCase x4 x1 0 M3) fun M5 => bI (m_Mod_byLaw 101 9999 0 M5) fun r7 M6 => if x3 < r7 then (m_Mod_isTaken_7 x1 x4 r7 (ia x4 (1)) (pzI r7) M6) else (m_Mod_isTaken_7 x1 x2 x3 (ia x4 (1)) (pzI r7) M6)) else (m_Mod_isTaken_7 x1 x2 x3 (ia x4 (1)) w5 M3)) else (if x2 = (-1 : Int) then some (none, M) else (bV (m_Mod_goesTo x1 x2 M) fun M8 => some (none, M8))) := by
  show pzr 9 187 (7, [pzR 100, pzI x1, pzI x2, pzI x3, pzI x4, w5], [], M) = _
  refine (pz_goes tq_187 2 (σ' := (11, [pzR 100, pzI x1, pzI x2, pzI x3, pzI x4, w5], [pzI 9, pzI x4], M)) rfl).trans ?_
  refine (e_icmp_ge tq_187 rfl).trans (e_ite ?_ ?_)
  · refine (pz_goes tq_187 2 (σ' := (17, [pzR 100, pzI x1, pzI x2, pzI x3, pzI x4, w5], [pzI x4, pzR 100], M)) rfl).trans ?_
    refine (e_callI (as := [pzR 100, pzI x4, pzN, pzN]) (rest := []) (d' := 6) tq_148 rfl rfl rfl rfl rfl tq_187 rfl).trans (e_bI rfl fun r2 M1 => ?_)
    refine (e_callI (as := [pzI r2, pzN, pzN]) (rest := []) (d' := 3) tq_143 rfl rfl rfl rfl rfl tq_187 rfl).trans (e_bI rfl fun r4 M3 => ?_)
    refine (pz_goes tq_187 1 (σ' := (25, [pzR 100, pzI x1, pzI x2, pzI x3, pzI x4, w5], [pzI 12, pzI r4], M3)) rfl).trans ?_
    refine (e_icmp_lt tq_187 rfl).trans (e_ite ?_ ?_)
    · refine (pz_goes tq_187 4 (σ' := (36, [pzR 100, pzI x1, pzI x2, pzI x3, pzI x4, w5], [pzI 0, pzI x1, pzI x4, pzR 100], M3)) rfl).trans ?_
      refine (e_callV (as := [pzR 100, pzI x4, pzI x1, pzI 0]) (rest := []) (d' := 8) tq_186 rfl rfl rfl rfl rfl tq_187 rfl).trans (e_bV rfl fun M5 => ?_)
      refine (pz_goes tq_187 4 (σ' := (46, [pzR 100, pzI x1, pzI x2, pzI x3, pzI x4, w5], [pzI 0, pzI 9999, pzI 101, pzR 100], M5)) rfl).trans ?_
      refine (e_callI (as := [pzR 100, pzI 101, pzI 9999, pzI 0, pzN, pzN]) (rest := []) (d' := 5) tq_179 rfl rfl rfl rfl rfl tq_187 rfl).trans (e_bI rfl fun r7 M6 => ?_)
      refine (pz_goes tq_187 3 (σ' := (54, [pzR 100, pzI x1, pzI x2, pzI x3, pzI x4, pzI r7], [pzI x3, pzI r7], M6)) rfl).trans ?_
      refine (e_icmp_gt tq_187 rfl).trans (e_ite ?_ ?_)
      · refine (pz_goes tq_187 6 (σ' := (7, [pzR 100, pzI x1, pzI x4, pzI r7, pzI (ia x4 (1)), pzI r7], [], M6)) rfl).trans ?_
        rfl
      · refine (pz_goes tq_187 3 (σ' := (7, [pzR 100, pzI x1, pzI x2, pzI x3, pzI (ia x4 (1)), pzI r7], [], M6)) rfl).trans ?_
        rfl
    · refine (pz_goes tq_187 3 (σ' := (7, [pzR 100, pzI x1, pzI x2, pzI x3, pzI (ia x4 (1)), w5], [], M3)) rfl).trans ?_
      rfl
  · refine (pz_goes tq_187 2 (σ' := (74, [pzR 100, pzI x1, pzI x2, pzI x3, pzI x4, w5], [pzI (-1), pzI x2], M)) rfl).trans ?_
    refine (e_icmp_eq tq_187 rfl).trans (e_ite ?_ ?_)
    · exact e_ret tq_187 rfl
    · refine (pz_goes tq_187 3 (σ' := (80, [pzR 100, pzI x1, pzI x2, pzI x3, pzI x4, w5], [pzI x2, pzI x1, pzR 100], M)) rfl).trans ?_
      refine (e_callV (as := [pzR 100, pzI x1, pzI x2]) (rest := []) (d' := 3) tq_150 rfl rfl rfl rfl rfl tq_187 rfl).trans (e_bV rfl fun M8 => ?_)
      exact e_ret tq_187 rfl
/-! PeacockDeskModel.likesMost(II)I -/
set_option maxRecDepth 20000 in
theorem m_Mod_likesMost_eq (x1 : Int) (x2 : Int) (M : pz_M) : m_Mod_likesMost x1 x2 M = m_Mod_likesMost_8 x1 x2 (-1) 0 0 pzN M := by
  show pzr 9 188 (0, [pzR 100, pzI x1, pzI x2, pzN, pzN, pzN, pzN], [], M) = _
  refine (pz_goes tq_188 6 (σ' := (8, [pzR 100, pzI x1, pzI x2, pzI (-1), pzI 0, pzI 0, pzN], [], M)) rfl).trans ?_
  rfl
set_option maxRecDepth 20000 in
theorem m_Mod_likesMost_8_eq (x1 : Int) (x2 : Int) (x3 : Int) (x4 : Int) (x5 : Int) (w6 : pz_V) (M : pz_M) : m_Mod_likesMost_8 x1 x2 x3 x4 x5 w6 M = if x5 < (M 100 6) then (bI (m_Mod_hasIt x1 x5 M) fun r2 M1 => if r2 = 0 then (m_Mod_likesMost_8 x1 x2 x3 x4 (ia x5 (1)) w6 M1) else (bV (m_Mod_feelsCase x1 x5 x2 M1) fun M3 => bI (m_Mod_byLaw 107 9999 1 M3) fun r5 M4 => if x4 < r5 then (m_Mod_likesMost_8 x1 x2 x5 r5 (ia x5 (1)) (pzI r5) M4) else (m_Mod_likesMost_8 x1 x2 x3 x4 (ia x5 (1)) (pzI r5) M4))) else (some (some (pzI x3), M)) := by
  show pzr 9 188 (8, [pzR 100, pzI x1, pzI x2, pzI x3, pzI x4, pzI x5, w6], [], M) = _
  refine (pz_goes tq_188 3 (σ' := (14, [pzR 100, pzI x1, pzI x2, pzI x3, pzI x4, pzI x5, w6], [pzI (M 100 6), pzI x5], M)) rfl).trans ?_
  refine (e_icmp_ge tq_188 rfl).trans (e_ite ?_ ?_)
  · refine (pz_goes tq_188 3 (σ' := (21, [pzR 100, pzI x1, pzI x2, pzI x3, pzI x4, pzI x5, w6], [pzI x5, pzI x1, pzR 100], M)) rfl).trans ?_
    refine (e_callI (as := [pzR 100, pzI x1, pzI x5]) (rest := []) (d' := 5) tq_147 rfl rfl rfl rfl rfl tq_188 rfl).trans (e_bI rfl fun r2 M1 => ?_)
    refine (e_if_ne tq_188 rfl).trans (e_ite ?_ ?_)
    · refine (pz_goes tq_188 3 (σ' := (8, [pzR 100, pzI x1, pzI x2, pzI x3, pzI x4, pzI (ia x5 (1)), w6], [], M1)) rfl).trans ?_
      rfl
    · refine (pz_goes tq_188 4 (σ' := (35, [pzR 100, pzI x1, pzI x2, pzI x3, pzI x4, pzI x5, w6], [pzI x2, pzI x5, pzI x1, pzR 100], M1)) rfl).trans ?_
      refine (e_callV (as := [pzR 100, pzI x1, pzI x5, pzI x2]) (rest := []) (d' := 8) tq_186 rfl rfl rfl rfl rfl tq_188 rfl).trans (e_bV rfl fun M3 => ?_)
      refine (pz_goes tq_188 4 (σ' := (45, [pzR 100, pzI x1, pzI x2, pzI x3, pzI x4, pzI x5, w6], [pzI 1, pzI 9999, pzI 107, pzR 100], M3)) rfl).trans ?_
      refine (e_callI (as := [pzR 100, pzI 107, pzI 9999, pzI 1, pzN, pzN]) (rest := []) (d' := 5) tq_179 rfl rfl rfl rfl rfl tq_188 rfl).trans (e_bI rfl fun r5 M4 => ?_)
      refine (pz_goes tq_188 3 (σ' := (54, [pzR 100, pzI x1, pzI x2, pzI x3, pzI x4, pzI x5, pzI r5], [pzI x4, pzI r5], M4)) rfl).trans ?_
      refine (e_icmp_gt tq_188 rfl).trans (e_ite ?_ ?_)
      · refine (pz_goes tq_188 6 (σ' := (8, [pzR 100, pzI x1, pzI x2, pzI x5, pzI r5, pzI (ia x5 (1)), pzI r5], [], M4)) rfl).trans ?_
        rfl
      · refine (pz_goes tq_188 3 (σ' := (8, [pzR 100, pzI x1, pzI x2, pzI x3, pzI x4, pzI (ia x5 (1)), pzI r5], [], M4)) rfl).trans ?_
        rfl
  · refine (pz_goes tq_188 1 (σ' := (74, [pzR 100, pzI x1, pzI x2, pzI x3, pzI x4, pzI x5, w6], [pzI x3], M)) rfl).trans ?_
    exact e_iret tq_188 rfl
/-! PeacockDeskModel.moults(I)V -/
set_option maxRecDepth 20000 in
theorem m_Mod_moults_eq (x1 : Int) (M : pz_M) : m_Mod_moults x1 M = m_Mod_moults_2 x1 0 M := by
  show pzr 6 189 (0, [pzR 100, pzI x1, pzN], [], M) = _
  refine (pz_goes tq_189 2 (σ' := (2, [pzR 100, pzI x1, pzI 0], [], M)) rfl).trans ?_
  rfl
set_option maxRecDepth 20000 in
theorem m_Mod_moults_2_eq (x1 : Int) (x2 : Int) (M : pz_M) : m_Mod_moults_2 x1 x2 M = if x2 < (M 100 6) then (bI (m_Mod_hasIt x1 x2 M) fun r2 M1 => if r2 = 0 then (m_Mod_moults_2 x1 (ia x2 (1)) M1) else (grd (0 ≤ (ia 0 x2) ∧ (ia 0 x2) < 83) (bM (pz_wr M1 101 (((ia 0 x2)).toNat) 0) fun M3 => grd (0 ≤ (ia 24 x2) ∧ (ia 24 x2) < 83) (bM (pz_wr M3 101 (((ia 24 x2)).toNat) (-1)) fun M4 => m_Mod_moults_2 x1 (ia x2 (1)) M4)))) else (some (none, M)) := by
  show pzr 6 189 (2, [pzR 100, pzI x1, pzI x2], [], M) = _
  refine (pz_goes tq_189 3 (σ' := (7, [pzR 100, pzI x1, pzI x2], [pzI (M 100 6), pzI x2], M)) rfl).trans ?_
  refine (e_icmp_ge tq_189 rfl).trans (e_ite ?_ ?_)
  · refine (pz_goes tq_189 3 (σ' := (13, [pzR 100, pzI x1, pzI x2], [pzI x2, pzI x1, pzR 100], M)) rfl).trans ?_
    refine (e_callI (as := [pzR 100, pzI x1, pzI x2]) (rest := []) (d' := 5) tq_147 rfl rfl rfl rfl rfl tq_189 rfl).trans (e_bI rfl fun r2 M1 => ?_)
    refine (e_if_ne tq_189 rfl).trans (e_ite ?_ ?_)
    · refine (pz_goes tq_189 3 (σ' := (2, [pzR 100, pzI x1, pzI (ia x2 (1))], [], M1)) rfl).trans ?_
      rfl
    · refine (pz_goes tq_189 6 (σ' := (30, [pzR 100, pzI x1, pzI x2], [pzI 0, pzI (ia 0 x2), pzR 101], M1)) rfl).trans ?_
      refine (e_iast (n := 83) rfl rfl tq_189 rfl).trans (e_grd ?_)
      refine e_bM (m := pz_wr M1 101 (((ia 0 x2)).toNat) 0) (f := fun M3 => pzr 6 189 (31, [pzR 100, pzI x1, pzI x2], [], M3)) (fun M3 => ?_)
      refine (pz_goes tq_189 6 (σ' := (40, [pzR 100, pzI x1, pzI x2], [pzI (-1), pzI (ia 24 x2), pzR 101], M3)) rfl).trans ?_
      refine (e_iast (n := 83) rfl rfl tq_189 rfl).trans (e_grd ?_)
      refine e_bM (m := pz_wr M3 101 (((ia 24 x2)).toNat) (-1)) (f := fun M4 => pzr 6 189 (41, [pzR 100, pzI x1, pzI x2], [], M4)) (fun M4 => ?_)
      refine (pz_goes tq_189 2 (σ' := (2, [pzR 100, pzI x1, pzI (ia x2 (1))], [], M4)) rfl).trans ?_
      rfl
  · exact e_ret tq_189 rfl
/-! PeacockDeskModel.isDone(I)V -/
set_option maxRecDepth 20000 in
theorem m_Mod_isDone_eq (x1 : Int) (M : pz_M) : m_Mod_isDone x1 M = grd (0 ≤ (ia 0 x1) ∧ (ia 0 x1) < 83) (bM (pz_wr M 101 (((ia 0 x1)).toNat) 2) fun M1 => grd (0 ≤ (ia 24 x1) ∧ (ia 24 x1) < 83) (bM (pz_wr M1 101 (((ia 24 x1)).toNat) (-1)) fun M2 => bM (pz_wr M2 100 38 (ia (M2 100 38) 1)) fun M3 => some (none, M3))) := by
  show pzr 3 190 (0, [pzR 100, pzI x1], [], M) = _
  refine (pz_goes tq_190 6 (σ' := (8, [pzR 100, pzI x1], [pzI 2, pzI (ia 0 x1), pzR 101], M)) rfl).trans ?_
  refine (e_iast (n := 83) rfl rfl tq_190 rfl).trans (e_grd ?_)
  refine e_bM (m := pz_wr M 101 (((ia 0 x1)).toNat) 2) (f := fun M1 => pzr 3 190 (9, [pzR 100, pzI x1], [], M1)) (fun M1 => ?_)
  refine (pz_goes tq_190 6 (σ' := (18, [pzR 100, pzI x1], [pzI (-1), pzI (ia 24 x1), pzR 101], M1)) rfl).trans ?_
  refine (e_iast (n := 83) rfl rfl tq_190 rfl).trans (e_grd ?_)
  refine e_bM (m := pz_wr M1 101 (((ia 24 x1)).toNat) (-1)) (f := fun M2 => pzr 3 190 (19, [pzR 100, pzI x1], [], M2)) (fun M2 => ?_)
  refine (pz_goes tq_190 5 (σ' := (26, [pzR 100, pzI x1], [pzI (ia (M2 100 38) 1), pzR 100], M2)) rfl).trans ?_
  refine (e_putI rfl tq_190 rfl).trans ?_
  refine e_bM (f := fun M3 => pzr 3 190 (29, [pzR 100, pzI x1], [], M3)) (fun M3 => ?_)
  exact e_ret tq_190 rfl
/-! PeacockDeskModel.cries(I)V -/
set_option maxRecDepth 20000 in
theorem m_Mod_cries_eq (x1 : Int) (M : pz_M) : m_Mod_cries x1 M = bI (m_Mod_draws M) fun r2 M1 => bV (m_Mod_feelsBird x1 r2 M1) fun M3 => bI (m_Mod_holdsAny 120 M3) fun r5 M4 => if r5 = 0 then (bI (m_Mod_likesMost x1 r2 M4) fun r7 M6 => if r7 = (-1 : Int) then some (none, M6) else (bV (m_Mod_feelsCase x1 r7 r2 M6) fun M8 => bI (m_Mod_byLaw 104 10 10 M8) fun r10 M9 => grd (0 ≤ (ia 72 x1) ∧ (ia 72 x1) < 83) (bI (m_Mod_min 9999 (ia (M9 101 (((ia 72 x1)).toNat)) 1) M9) fun r12 M11 => grd (0 ≤ (ia 72 x1) ∧ (ia 72 x1) < 83) (bM (pz_wr M11 101 (((ia 72 x1)).toNat) r12) fun M13 => bM (pz_wr M13 100 39 (ia (M13 100 39) 1)) fun M14 => bI (m_Mod_draws M14) fun r16 M15 => if r16 < r10 then (bV (m_Mod_isDone r7 M15) fun M17 => some (none, M17)) else (some (none, M15)))))) else (bV (m_Mod_moults x1 M4) fun M18 => some (none, M18)) := by
  show pzr 10 191 (0, [pzR 100, pzI x1, pzN, pzN, pzN], [], M) = _
  refine (pz_goes tq_191 1 (σ' := (1, [pzR 100, pzI x1, pzN, pzN, pzN], [pzR 100], M)) rfl).trans ?_
  refine (e_callI (as := [pzR 100]) (rest := []) (d' := 3) tq_184 rfl rfl rfl rfl rfl tq_191 rfl).trans (e_bI rfl fun r2 M1 => ?_)
  refine (pz_goes tq_191 4 (σ' := (8, [pzR 100, pzI x1, pzI r2, pzN, pzN], [pzI r2, pzI x1, pzR 100], M1)) rfl).trans ?_
  refine (e_callV (as := [pzR 100, pzI x1, pzI r2]) (rest := []) (d' := 7) tq_185 rfl rfl rfl rfl rfl tq_191 rfl).trans (e_bV rfl fun M3 => ?_)
  refine (pz_goes tq_191 2 (σ' := (14, [pzR 100, pzI x1, pzI r2, pzN, pzN], [pzI 120, pzR 100], M3)) rfl).trans ?_
  refine (e_callI (as := [pzR 100, pzI 120, pzN]) (rest := []) (d' := 5) tq_180 rfl rfl rfl rfl rfl tq_191 rfl).trans (e_bI rfl fun r5 M4 => ?_)
  refine (e_if_eq tq_191 rfl).trans (e_ite ?_ ?_)
  · refine (pz_goes tq_191 3 (σ' := (29, [pzR 100, pzI x1, pzI r2, pzN, pzN], [pzI r2, pzI x1, pzR 100], M4)) rfl).trans ?_
    refine (e_callI (as := [pzR 100, pzI x1, pzI r2, pzN, pzN, pzN, pzN]) (rest := []) (d' := 9) tq_188 rfl rfl rfl rfl rfl tq_191 rfl).trans (e_bI rfl fun r7 M6 => ?_)
    refine (pz_goes tq_191 3 (σ' := (35, [pzR 100, pzI x1, pzI r2, pzI r7, pzN], [pzI (-1), pzI r7], M6)) rfl).trans ?_
    refine (e_icmp_ne tq_191 rfl).trans (e_ite ?_ ?_)
    · exact e_ret tq_191 rfl
    · refine (pz_goes tq_191 4 (σ' := (43, [pzR 100, pzI x1, pzI r2, pzI r7, pzN], [pzI r2, pzI r7, pzI x1, pzR 100], M6)) rfl).trans ?_
      refine (e_callV (as := [pzR 100, pzI x1, pzI r7, pzI r2]) (rest := []) (d' := 8) tq_186 rfl rfl rfl rfl rfl tq_191 rfl).trans (e_bV rfl fun M8 => ?_)
      refine (pz_goes tq_191 4 (σ' := (53, [pzR 100, pzI x1, pzI r2, pzI r7, pzN], [pzI 10, pzI 10, pzI 104, pzR 100], M8)) rfl).trans ?_
      refine (e_callI (as := [pzR 100, pzI 104, pzI 10, pzI 10, pzN, pzN]) (rest := []) (d' := 5) tq_179 rfl rfl rfl rfl rfl tq_191 rfl).trans (e_bI rfl fun r10 M9 => ?_)
      refine (pz_goes tq_191 12 (σ' := (77, [pzR 100, pzI x1, pzI r2, pzI r7, pzI r10], [pzI (ia 72 x1), pzR 101, pzI 9999, pzI (ia 72 x1), pzR 101], M9)) rfl).trans ?_
      refine (e_iald (n := 83) rfl rfl tq_191 rfl).trans (e_grd ?_)
      refine (pz_goes tq_191 2 (σ' := (80, [pzR 100, pzI x1, pzI r2, pzI r7, pzI r10], [pzI (ia (M9 101 (((ia 72 x1)).toNat)) 1), pzI 9999, pzI (ia 72 x1), pzR 101], M9)) rfl).trans ?_
      refine (e_callI (as := [pzI 9999, pzI (ia (M9 101 (((ia 72 x1)).toNat)) 1)]) (rest := [pzI (ia 72 x1), pzR 101]) (d' := 3) tq_139 rfl rfl rfl rfl rfl tq_191 rfl).trans (e_bI rfl fun r12 M11 => ?_)
      refine (e_iast (n := 83) rfl rfl tq_191 rfl).trans (e_grd ?_)
      refine e_bM (m := pz_wr M11 101 (((ia 72 x1)).toNat) r12) (f := fun M13 => pzr 10 191 (84, [pzR 100, pzI x1, pzI r2, pzI r7, pzI r10], [], M13)) (fun M13 => ?_)
      refine (pz_goes tq_191 5 (σ' := (91, [pzR 100, pzI x1, pzI r2, pzI r7, pzI r10], [pzI (ia (M13 100 39) 1), pzR 100], M13)) rfl).trans ?_
      refine (e_putI rfl tq_191 rfl).trans ?_
      refine e_bM (f := fun M14 => pzr 10 191 (94, [pzR 100, pzI x1, pzI r2, pzI r7, pzI r10], [], M14)) (fun M14 => ?_)
      refine (pz_goes tq_191 1 (σ' := (95, [pzR 100, pzI x1, pzI r2, pzI r7, pzI r10], [pzR 100], M14)) rfl).trans ?_
      refine (e_callI (as := [pzR 100]) (rest := []) (d' := 3) tq_184 rfl rfl rfl rfl rfl tq_191 rfl).trans (e_bI rfl fun r16 M15 => ?_)
      refine (pz_goes tq_191 1 (σ' := (100, [pzR 100, pzI x1, pzI r2, pzI r7, pzI r10], [pzI r10, pzI r16], M15)) rfl).trans ?_
      refine (e_icmp_ge tq_191 rfl).trans (e_ite ?_ ?_)
      · refine (pz_goes tq_191 2 (σ' := (105, [pzR 100, pzI x1, pzI r2, pzI r7, pzI r10], [pzI r7, pzR 100], M15)) rfl).trans ?_
        refine (e_callV (as := [pzR 100, pzI r7]) (rest := []) (d' := 3) tq_190 rfl rfl rfl rfl rfl tq_191 rfl).trans (e_bV rfl fun M17 => ?_)
        exact e_ret tq_191 rfl
      · exact e_ret tq_191 rfl
  · refine (pz_goes tq_191 2 (σ' := (22, [pzR 100, pzI x1, pzI r2, pzN, pzN], [pzI x1, pzR 100], M4)) rfl).trans ?_
    refine (e_callV (as := [pzR 100, pzI x1, pzN]) (rest := []) (d' := 6) tq_189 rfl rfl rfl rfl rfl tq_191 rfl).trans (e_bV rfl fun M18 => ?_)
    exact e_ret tq_191 rfl
/-! PeacockDeskModel.dayGoes()V -/
set_option maxRecDepth 20000 in
theorem m_Mod_dayGoes_eq (M : pz_M) : m_Mod_dayGoes M = m_Mod_dayGoes_2 0 M := by
  show pzr 11 192 (0, [pzR 100, pzN], [], M) = _
  refine (pz_goes tq_192 2 (σ' := (2, [pzR 100, pzI 0], [], M)) rfl).trans ?_
  rfl
set_option maxRecDepth 20000 in
theorem m_Mod_dayGoes_2_eq (x1 : Int) (M : pz_M) : m_Mod_dayGoes_2 x1 M = if x1 < (M 100 6) then (grd (0 ≤ (ia 0 x1) ∧ (ia 0 x1) < 83) (if (M 101 (((ia 0 x1)).toNat)) = 0 then (bV (m_Mod_isTaken x1 M) fun M1 => m_Mod_dayGoes_2 (ia x1 (1)) M1) else (m_Mod_dayGoes_2 (ia x1 (1)) M))) else (m_Mod_dayGoes_34 0 M) := by
  show pzr 11 192 (2, [pzR 100, pzI x1], [], M) = _
  refine (pz_goes tq_192 3 (σ' := (7, [pzR 100, pzI x1], [pzI (M 100 6), pzI x1], M)) rfl).trans ?_
  refine (e_icmp_ge tq_192 rfl).trans (e_ite ?_ ?_)
  · refine (pz_goes tq_192 5 (σ' := (17, [pzR 100, pzI x1], [pzI (ia 0 x1), pzR 101], M)) rfl).trans ?_
    refine (e_iald (n := 83) rfl rfl tq_192 rfl).trans (e_grd ?_)
    refine (e_if_ne tq_192 rfl).trans (e_ite ?_ ?_)
    · refine (pz_goes tq_192 2 (σ' := (23, [pzR 100, pzI x1], [pzI x1, pzR 100], M)) rfl).trans ?_
      refine (e_callV (as := [pzR 100, pzI x1, pzN, pzN, pzN, pzN]) (rest := []) (d' := 9) tq_187 rfl rfl rfl rfl rfl tq_192 rfl).trans (e_bV rfl fun M1 => ?_)
      refine (pz_goes tq_192 2 (σ' := (2, [pzR 100, pzI (ia x1 (1))], [], M1)) rfl).trans ?_
      rfl
    · refine (pz_goes tq_192 2 (σ' := (2, [pzR 100, pzI (ia x1 (1))], [], M)) rfl).trans ?_
      rfl
  · refine (pz_goes tq_192 2 (σ' := (34, [pzR 100, pzI 0], [], M)) rfl).trans ?_
    rfl
set_option maxRecDepth 20000 in
theorem m_Mod_dayGoes_34_eq (x1 : Int) (M : pz_M) : m_Mod_dayGoes_34 x1 M = if x1 < (8 : Int) then (bV (m_Mod_cries x1 M) fun M1 => m_Mod_dayGoes_34 (ia x1 (1)) M1) else (m_Mod_dayGoes_53 0 M) := by
  show pzr 11 192 (34, [pzR 100, pzI x1], [], M) = _
  refine (pz_goes tq_192 2 (σ' := (37, [pzR 100, pzI x1], [pzI 8, pzI x1], M)) rfl).trans ?_
  refine (e_icmp_ge tq_192 rfl).trans (e_ite ?_ ?_)
  · refine (pz_goes tq_192 2 (σ' := (42, [pzR 100, pzI x1], [pzI x1, pzR 100], M)) rfl).trans ?_
    refine (e_callV (as := [pzR 100, pzI x1, pzN, pzN, pzN]) (rest := []) (d' := 10) tq_191 rfl rfl rfl rfl rfl tq_192 rfl).trans (e_bV rfl fun M1 => ?_)
    refine (pz_goes tq_192 2 (σ' := (34, [pzR 100, pzI (ia x1 (1))], [], M1)) rfl).trans ?_
    rfl
  · refine (pz_goes tq_192 2 (σ' := (53, [pzR 100, pzI 0], [], M)) rfl).trans ?_
    rfl
set_option maxRecDepth 20000 in
theorem m_Mod_dayGoes_53_eq (x1 : Int) (M : pz_M) : m_Mod_dayGoes_53 x1 M = if x1 < (M 100 6) then (bI (m_Mod_hasIt 8 x1 M) fun r2 M1 => if r2 = 0 then (m_Mod_dayGoes_53 (ia x1 (1)) M1) else (grd (0 ≤ (ia 48 x1) ∧ (ia 48 x1) < 83) (if (M1 101 (((ia 48 x1)).toNat)) < (7 : Int) then (m_Mod_dayGoes_53 (ia x1 (1)) M1) else (bV (m_Mod_isDone x1 M1) fun M3 => m_Mod_dayGoes_53 (ia x1 (1)) M3)))) else (m_Mod_dayGoes_98 0 M) := by
  show pzr 11 192 (53, [pzR 100, pzI x1], [], M) = _
  refine (pz_goes tq_192 3 (σ' := (58, [pzR 100, pzI x1], [pzI (M 100 6), pzI x1], M)) rfl).trans ?_
  refine (e_icmp_ge tq_192 rfl).trans (e_ite ?_ ?_)
  · refine (pz_goes tq_192 3 (σ' := (65, [pzR 100, pzI x1], [pzI x1, pzI 8, pzR 100], M)) rfl).trans ?_
    refine (e_callI (as := [pzR 100, pzI 8, pzI x1]) (rest := []) (d' := 5) tq_147 rfl rfl rfl rfl rfl tq_192 rfl).trans (e_bI rfl fun r2 M1 => ?_)
    refine (e_if_eq tq_192 rfl).trans (e_ite ?_ ?_)
    · refine (pz_goes tq_192 2 (σ' := (53, [pzR 100, pzI (ia x1 (1))], [], M1)) rfl).trans ?_
      rfl
    · refine (pz_goes tq_192 5 (σ' := (79, [pzR 100, pzI x1], [pzI (ia 48 x1), pzR 101], M1)) rfl).trans ?_
      refine (e_iald (n := 83) rfl rfl tq_192 rfl).trans (e_grd ?_)
      refine (pz_goes tq_192 1 (σ' := (82, [pzR 100, pzI x1], [pzI 7, pzI (M1 101 (((ia 48 x1)).toNat))], M1)) rfl).trans ?_
      refine (e_icmp_lt tq_192 rfl).trans (e_ite ?_ ?_)
      · refine (pz_goes tq_192 2 (σ' := (53, [pzR 100, pzI (ia x1 (1))], [], M1)) rfl).trans ?_
        rfl
      · refine (pz_goes tq_192 2 (σ' := (87, [pzR 100, pzI x1], [pzI x1, pzR 100], M1)) rfl).trans ?_
        refine (e_callV (as := [pzR 100, pzI x1]) (rest := []) (d' := 3) tq_190 rfl rfl rfl rfl rfl tq_192 rfl).trans (e_bV rfl fun M3 => ?_)
        refine (pz_goes tq_192 2 (σ' := (53, [pzR 100, pzI (ia x1 (1))], [], M3)) rfl).trans ?_
        rfl
  · refine (pz_goes tq_192 2 (σ' := (98, [pzR 100, pzI 0], [], M)) rfl).trans ?_
    rfl
set_option maxRecDepth 20000 in
theorem m_Mod_dayGoes_98_eq (x1 : Int) (M : pz_M) : m_Mod_dayGoes_98 x1 M = if x1 < (M 100 6) then (bI (m_Mod_isLeft x1 M) fun r2 M1 => if r2 = 0 then (m_Mod_dayGoes_98 (ia x1 (1)) M1) else (grd (0 ≤ (ia 48 x1) ∧ (ia 48 x1) < 83) (bI (m_Mod_min 9999 (ia (M1 101 (((ia 48 x1)).toNat)) 1) M1) fun r4 M3 => grd (0 ≤ (ia 48 x1) ∧ (ia 48 x1) < 83) (bM (pz_wr M3 101 (((ia 48 x1)).toNat) r4) fun M5 => m_Mod_dayGoes_98 (ia x1 (1)) M5)))) else (bM (pz_wr M 101 81 (ia (M 101 81) 1)) fun M6 => some (none, M6)) := by
  show pzr 11 192 (98, [pzR 100, pzI x1], [], M) = _
  refine (pz_goes tq_192 3 (σ' := (103, [pzR 100, pzI x1], [pzI (M 100 6), pzI x1], M)) rfl).trans ?_
  refine (e_icmp_ge tq_192 rfl).trans (e_ite ?_ ?_)
  · refine (pz_goes tq_192 2 (σ' := (108, [pzR 100, pzI x1], [pzI x1, pzR 100], M)) rfl).trans ?_
    refine (e_callI (as := [pzR 100, pzI x1]) (rest := []) (d' := 5) tq_146 rfl rfl rfl rfl rfl tq_192 rfl).trans (e_bI rfl fun r2 M1 => ?_)
    refine (e_if_eq tq_192 rfl).trans (e_ite ?_ ?_)
    · refine (pz_goes tq_192 2 (σ' := (98, [pzR 100, pzI (ia x1 (1))], [], M1)) rfl).trans ?_
      rfl
    · refine (pz_goes tq_192 11 (σ' := (133, [pzR 100, pzI x1], [pzI (ia 48 x1), pzR 101, pzI 9999, pzI (ia 48 x1), pzR 101], M1)) rfl).trans ?_
      refine (e_iald (n := 83) rfl rfl tq_192 rfl).trans (e_grd ?_)
      refine (pz_goes tq_192 2 (σ' := (136, [pzR 100, pzI x1], [pzI (ia (M1 101 (((ia 48 x1)).toNat)) 1), pzI 9999, pzI (ia 48 x1), pzR 101], M1)) rfl).trans ?_
      refine (e_callI (as := [pzI 9999, pzI (ia (M1 101 (((ia 48 x1)).toNat)) 1)]) (rest := [pzI (ia 48 x1), pzR 101]) (d' := 3) tq_139 rfl rfl rfl rfl rfl tq_192 rfl).trans (e_bI rfl fun r4 M3 => ?_)
      refine (e_iast (n := 83) rfl rfl tq_192 rfl).trans (e_grd ?_)
      refine e_bM (m := pz_wr M3 101 (((ia 48 x1)).toNat) r4) (f := fun M5 => pzr 11 192 (140, [pzR 100, pzI x1], [], M5)) (fun M5 => ?_)
      refine (pz_goes tq_192 2 (σ' := (98, [pzR 100, pzI (ia x1 (1))], [], M5)) rfl).trans ?_
      rfl
  · refine (pz_goes tq_192 6 (σ' := (158, [pzR 100, pzI x1], [pzI 81, pzR 101, pzI 81, pzR 101], M)) rfl).trans ?_
    refine ((e_iald (n := 83) rfl rfl tq_192 rfl).trans (grd_pos (by decide))).trans ?_
    show pzr 11 192 (159, [pzR 100, pzI x1], [pzI (M 101 81), pzI 81, pzR 101], M) = _
    refine (pz_goes tq_192 2 (σ' := (161, [pzR 100, pzI x1], [pzI (ia (M 101 81) 1), pzI 81, pzR 101], M)) rfl).trans ?_
    refine ((e_iast (n := 83) rfl rfl tq_192 rfl).trans (grd_pos (by decide))).trans ?_
    refine e_bM (m := pz_wr M 101 81 (ia (M 101 81) 1)) (f := fun M6 => pzr 11 192 (162, [pzR 100, pzI x1], [], M6)) (fun M6 => ?_)
    exact e_ret tq_192 rfl
