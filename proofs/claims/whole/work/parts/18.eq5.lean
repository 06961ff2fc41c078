/-! PeacockDeskModel.keep()I -/
theorem m_Mod_keep_eq (M : pz_M) : m_Mod_keep M = bM (pz_wr M 100 48 1) fun M1 => bM (pz_wr M1 100 49 (M1 100 6)) fun M2 => bV (m_Mod_copies 101 103 M2) fun M3 => some (some (pzI (M3 101 81)), M3) := by
  show pzr 4 241 (0, [pzR 100], [], M) = _
  refine (pz_goes tq_241 2 (σ' := (2, [pzR 100], [pzI 1, pzR 100], M)) rfl).trans ?_
  refine ((e_putZ rfl tq_241 rfl).trans (grd_pos (by decide))).trans ?_
  refine e_bM (f := fun M1 => pzr 4 241 (5, [pzR 100], [], M1)) (fun M1 => ?_)
  refine (pz_goes tq_241 3 (σ' := (10, [pzR 100], [pzI (M1 100 6), pzR 100], M1)) rfl).trans ?_
  refine (e_putI rfl tq_241 rfl).trans ?_
  refine e_bM (f := fun M2 => pzr 4 241 (13, [pzR 100], [], M2)) (fun M2 => ?_)
  refine (pz_goes tq_241 4 (σ' := (21, [pzR 100], [pzR 103, pzR 101], M2)) rfl).trans ?_
  refine (e_callV (as := [pzR 101, pzR 103, pzN]) (rest := []) (d' := 3) tq_144 rfl rfl rfl rfl rfl tq_241 rfl).trans (e_bV rfl fun M3 => ?_)
  refine (pz_goes tq_241 3 (σ' := (30, [pzR 100], [pzI 81, pzR 101], M3)) rfl).trans ?_
  refine ((e_iald (n := 83) rfl rfl tq_241 rfl).trans (grd_pos (by decide))).trans ?_
  show pzr 4 241 (31, [pzR 100], [pzI (M3 101 81)], M3) = _
  exact e_iret tq_241 rfl
/-! PeacockDeskModel.undo()Z -/
theorem m_Mod_undo_eq (M : pz_M) : m_Mod_undo M = if (M 100 48) = 0 then some (some (pzI 0), M) else (m_Mod_undo_11 0 pzN M) := by
  show pzr 4 242 (0, [pzR 100, pzN, pzN], [], M) = _
  refine (pz_goes tq_242 2 (σ' := (4, [pzR 100, pzN, pzN], [pzI (M 100 48)], M)) rfl).trans ?_
  refine (e_if_ne tq_242 rfl).trans (e_ite ?_ ?_)
  · refine (pz_goes tq_242 1 (σ' := (8, [pzR 100, pzN, pzN], [pzI 0], M)) rfl).trans ?_
    exact (e_zret tq_242 rfl).trans (grd_pos (by decide))
  · refine (pz_goes tq_242 2 (σ' := (11, [pzR 100, pzI 0, pzN], [], M)) rfl).trans ?_
    rfl
theorem m_Mod_undo_11_eq (x1 : Int) (w2 : pz_V) (M : pz_M) : m_Mod_undo_11 x1 w2 M = if x1 < 72 then (m_Mod_undo_19 x1 0 M) else (m_Mod_undo_67 72 w2 M) := by
  show pzr 4 242 (11, [pzR 100, pzI x1, w2], [], M) = _
  refine (pz_goes tq_242 2 (σ' := (14, [pzR 100, pzI x1, w2], [pzI 72, pzI x1], M)) rfl).trans ?_
  refine (e_icmp_ge tq_242 rfl).trans (e_ite ?_ ?_)
  · refine (pz_goes tq_242 2 (σ' := (19, [pzR 100, pzI x1, pzI 0], [], M)) rfl).trans ?_
    rfl
  · refine (pz_goes tq_242 2 (σ' := (67, [pzR 100, pzI 72, w2], [], M)) rfl).trans ?_
    rfl
theorem m_Mod_undo_19_eq (x1 : Int) (x2 : Int) (M : pz_M) : m_Mod_undo_19 x1 x2 M = bI (m_Mod_min (M 100 6) (M 100 49) M) fun r2 M1 => if x2 < r2 then (grd (0 ≤ (ia x1 x2) ∧ (ia x1 x2) < 83) (grd (0 ≤ (ia x1 x2) ∧ (ia x1 x2) < 83) (bM (pz_wr M1 101 (((ia x1 x2)).toNat) (M1 103 (((ia x1 x2)).toNat))) fun M3 => m_Mod_undo_19 x1 (ia x2 (1)) M3))) else (m_Mod_undo_11 (ia x1 24) (pzI x2) M1) := by
  show pzr 4 242 (19, [pzR 100, pzI x1, pzI x2], [], M) = _
  refine (pz_goes tq_242 5 (σ' := (28, [pzR 100, pzI x1, pzI x2], [pzI (M 100 49), pzI (M 100 6), pzI x2], M)) rfl).trans ?_
  refine (e_callI (as := [pzI (M 100 6), pzI (M 100 49)]) (rest := [pzI x2]) (d' := 3) tq_139 rfl rfl rfl rfl rfl tq_242 rfl).trans (e_bI rfl fun r2 M1 => ?_)
  refine (e_icmp_ge tq_242 rfl).trans (e_ite ?_ ?_)
  · refine (pz_goes tq_242 10 (σ' := (48, [pzR 100, pzI x1, pzI x2], [pzI (ia x1 x2), pzR 103, pzI (ia x1 x2), pzR 101], M1)) rfl).trans ?_
    refine (e_iald (n := 83) rfl rfl tq_242 rfl).trans (e_grd ?_)
    refine (e_iast (n := 83) rfl rfl tq_242 rfl).trans (e_grd ?_)
    refine e_bM (m := pz_wr M1 101 (((ia x1 x2)).toNat) (M1 103 (((ia x1 x2)).toNat))) (f := fun M3 => pzr 4 242 (50, [pzR 100, pzI x1, pzI x2], [], M3)) (fun M3 => ?_)
    refine (pz_goes tq_242 2 (σ' := (19, [pzR 100, pzI x1, pzI (ia x2 (1))], [], M3)) rfl).trans ?_
    rfl
  · refine (pz_goes tq_242 5 (σ' := (11, [pzR 100, pzI (ia x1 24), pzI x2], [], M1)) rfl).trans ?_
    rfl
theorem m_Mod_undo_67_eq (x1 : Int) (w2 : pz_V) (M : pz_M) : m_Mod_undo_67 x1 w2 M = if x1 < 83 then (grd (0 ≤ x1 ∧ x1 < 83) (grd (0 ≤ x1 ∧ x1 < 83) (bM (pz_wr M 101 ((x1).toNat) (M 103 ((x1).toNat))) fun M1 => m_Mod_undo_67 (ia x1 (1)) w2 M1))) else (some (some (pzI 1), M)) := by
  show pzr 4 242 (67, [pzR 100, pzI x1, w2], [], M) = _
  refine (pz_goes tq_242 2 (σ' := (70, [pzR 100, pzI x1, w2], [pzI 83, pzI x1], M)) rfl).trans ?_
  refine (e_icmp_ge tq_242 rfl).trans (e_ite ?_ ?_)
  · refine (pz_goes tq_242 6 (σ' := (83, [pzR 100, pzI x1, w2], [pzI x1, pzR 103, pzI x1, pzR 101], M)) rfl).trans ?_
    refine (e_iald (n := 83) rfl rfl tq_242 rfl).trans (e_grd ?_)
    refine (e_iast (n := 83) rfl rfl tq_242 rfl).trans (e_grd ?_)
    refine e_bM (m := pz_wr M 101 ((x1).toNat) (M 103 ((x1).toNat))) (f := fun M1 => pzr 4 242 (85, [pzR 100, pzI x1, w2], [], M1)) (fun M1 => ?_)
    refine (pz_goes tq_242 2 (σ' := (67, [pzR 100, pzI (ia x1 (1)), w2], [], M1)) rfl).trans ?_
    rfl
  · refine (pz_goes tq_242 1 (σ' := (92, [pzR 100, pzI x1, w2], [pzI 1], M)) rfl).trans ?_
    exact (e_zret tq_242 rfl).trans (grd_pos (by decide))
/-! PeacockDeskModel.check(I)I -/
theorem m_Mod_check_eq (x1 : Int) (M : pz_M) : m_Mod_check x1 M = bI (m_Mod_in x1 0 24 M) fun r2 M1 => if r2 = 0 then some (some (pzI (-2)), M1) else (if (M1 100 8) < x1 then some (some (pzI (-2)), M1) else (bM (pz_wr M1 100 8 0) fun M3 => m_Mod_check_28 x1 0 M3)) := by
  show pzr 6 243 (0, [pzR 100, pzI x1, pzN], [], M) = _
  refine (pz_goes tq_243 3 (σ' := (4, [pzR 100, pzI x1, pzN], [pzI 24, pzI 0, pzI x1], M)) rfl).trans ?_
  refine (e_callI (as := [pzI x1, pzI 0, pzI 24]) (rest := []) (d' := 3) tq_138 rfl rfl rfl rfl rfl tq_243 rfl).trans (e_bI rfl fun r2 M1 => ?_)
  refine (e_if_eq tq_243 rfl).trans (e_ite ?_ ?_)
  · refine (pz_goes tq_243 1 (σ' := (20, [pzR 100, pzI x1, pzN], [pzI (-2)], M1)) rfl).trans ?_
    exact e_iret tq_243 rfl
  · refine (pz_goes tq_243 3 (σ' := (15, [pzR 100, pzI x1, pzN], [pzI (M1 100 8), pzI x1], M1)) rfl).trans ?_
    refine (e_icmp_le tq_243 rfl).trans (e_ite ?_ ?_)
    · refine (pz_goes tq_243 1 (σ' := (20, [pzR 100, pzI x1, pzN], [pzI (-2)], M1)) rfl).trans ?_
      exact e_iret tq_243 rfl
    · refine (pz_goes tq_243 2 (σ' := (23, [pzR 100, pzI x1, pzN], [pzI 0, pzR 100], M1)) rfl).trans ?_
      refine (e_putI rfl tq_243 rfl).trans ?_
      refine e_bM (f := fun M3 => pzr 6 243 (26, [pzR 100, pzI x1, pzN], [], M3)) (fun M3 => ?_)
      refine (pz_goes tq_243 2 (σ' := (28, [pzR 100, pzI x1, pzI 0], [], M3)) rfl).trans ?_
      rfl
theorem m_Mod_check_28_eq (x1 : Int) (x2 : Int) (M : pz_M) : m_Mod_check_28 x1 x2 M = if x2 < x1 then (bI (m_Mod_octet x2 M) fun r2 M1 => bI (m_Mod_isCase x2 M1) fun r4 M3 => if r4 = 0 then (m_Mod_check_70 x1 x2 255 r2 M3) else (bI (m_Mod_isLeft x2 M3) fun r6 M5 => if r6 = 0 then (m_Mod_check_70 x1 x2 0 r2 M5) else (grd (0 ≤ x2 ∧ x2 < 24) (m_Mod_check_70 x1 x2 (M5 105 ((x2).toNat)) r2 M5)))) else (some (some (pzI (-1)), M)) := by
  show pzr 6 243 (28, [pzR 100, pzI x1, pzI x2], [], M) = _
  refine (pz_goes tq_243 2 (σ' := (30, [pzR 100, pzI x1, pzI x2], [pzI x1, pzI x2], M)) rfl).trans ?_
  refine (e_icmp_ge tq_243 rfl).trans (e_ite ?_ ?_)
  · refine (pz_goes tq_243 2 (σ' := (35, [pzR 100, pzI x1, pzI x2], [pzI x2, pzR 100], M)) rfl).trans ?_
    refine (e_callI (as := [pzR 100, pzI x2]) (rest := []) (d' := 3) tq_154 rfl rfl rfl rfl rfl tq_243 rfl).trans (e_bI rfl fun r2 M1 => ?_)
    refine (pz_goes tq_243 2 (σ' := (40, [pzR 100, pzI x1, pzI x2], [pzI x2, pzR 100, pzI r2], M1)) rfl).trans ?_
    refine (e_callI (as := [pzR 100, pzI x2]) (rest := [pzI r2]) (d' := 4) tq_145 rfl rfl rfl rfl rfl tq_243 rfl).trans (e_bI rfl fun r4 M3 => ?_)
    refine (e_if_ne tq_243 rfl).trans (e_ite ?_ ?_)
    · refine (pz_goes tq_243 2 (σ' := (70, [pzR 100, pzI x1, pzI x2], [pzI 255, pzI r2], M3)) rfl).trans ?_
      rfl
    · refine (pz_goes tq_243 2 (σ' := (54, [pzR 100, pzI x1, pzI x2], [pzI x2, pzR 100, pzI r2], M3)) rfl).trans ?_
      refine (e_callI (as := [pzR 100, pzI x2]) (rest := [pzI r2]) (d' := 5) tq_146 rfl rfl rfl rfl rfl tq_243 rfl).trans (e_bI rfl fun r6 M5 => ?_)
      refine (e_if_eq tq_243 rfl).trans (e_ite ?_ ?_)
      · refine (pz_goes tq_243 1 (σ' := (70, [pzR 100, pzI x1, pzI x2], [pzI 0, pzI r2], M5)) rfl).trans ?_
        rfl
      · refine (pz_goes tq_243 3 (σ' := (65, [pzR 100, pzI x1, pzI x2], [pzI x2, pzR 105, pzI r2], M5)) rfl).trans ?_
        refine (e_iald (n := 24) rfl rfl tq_243 rfl).trans (e_grd ?_)
        refine (pz_goes tq_243 1 (σ' := (70, [pzR 100, pzI x1, pzI x2], [pzI (M5 105 ((x2).toNat)), pzI r2], M5)) rfl).trans ?_
        rfl
  · refine (pz_goes tq_243 1 (σ' := (82, [pzR 100, pzI x1, pzI x2], [pzI (-1)], M)) rfl).trans ?_
    exact e_iret tq_243 rfl
theorem m_Mod_check_70_eq (x1 : Int) (x2 : Int) (s0 : Int) (s1 : Int) (M : pz_M) : m_Mod_check_70 x1 x2 s0 s1 M = if s1 = s0 then (m_Mod_check_28 x1 (ia x2 (1)) M) else (some (some (pzI x2), M)) := by
  show pzr 6 243 (70, [pzR 100, pzI x1, pzI x2], [pzI s0, pzI s1], M) = _
  refine (e_icmp_eq tq_243 rfl).trans (e_ite ?_ ?_)
  · refine (pz_goes tq_243 2 (σ' := (28, [pzR 100, pzI x1, pzI (ia x2 (1))], [], M)) rfl).trans ?_
    rfl
  · refine (pz_goes tq_243 1 (σ' := (74, [pzR 100, pzI x1, pzI x2], [pzI x2], M)) rfl).trans ?_
    exact e_iret tq_243 rfl
/-! PeacockDeskModel.criesOfAll()I -/
theorem m_Mod_criesOfAll_eq (M : pz_M) : m_Mod_criesOfAll M = m_Mod_criesOfAll_4 0 0 M := by
  show pzr 3 244 (0, [pzR 100, pzN, pzN], [], M) = _
  refine (pz_goes tq_244 4 (σ' := (4, [pzR 100, pzI 0, pzI 0], [], M)) rfl).trans ?_
  rfl
theorem m_Mod_criesOfAll_4_eq (x1 : Int) (x2 : Int) (M : pz_M) : m_Mod_criesOfAll_4 x1 x2 M = if x2 < 9 then (grd (0 ≤ (ia 72 x2) ∧ (ia 72 x2) < 83) (m_Mod_criesOfAll_4 (ia x1 (M 101 (((ia 72 x2)).toNat))) (ia x2 (1)) M)) else (some (some (pzI x1), M)) := by
  show pzr 3 244 (4, [pzR 100, pzI x1, pzI x2], [], M) = _
  refine (pz_goes tq_244 2 (σ' := (7, [pzR 100, pzI x1, pzI x2], [pzI 9, pzI x2], M)) rfl).trans ?_
  refine (e_icmp_ge tq_244 rfl).trans (e_ite ?_ ?_)
  · refine (pz_goes tq_244 6 (σ' := (19, [pzR 100, pzI x1, pzI x2], [pzI (ia 72 x2), pzR 101, pzI x1], M)) rfl).trans ?_
    refine (e_iald (n := 83) rfl rfl tq_244 rfl).trans (e_grd ?_)
    refine (pz_goes tq_244 4 (σ' := (4, [pzR 100, pzI (ia x1 (M 101 (((ia 72 x2)).toNat))), pzI (ia x2 (1))], [], M)) rfl).trans ?_
    rfl
  · refine (pz_goes tq_244 1 (σ' := (29, [pzR 100, pzI x1, pzI x2], [pzI x1], M)) rfl).trans ?_
    exact e_iret tq_244 rfl
/-! PeacockDeskModel.count(I)I -/
theorem m_Mod_count_eq (x1 : Int) (M : pz_M) : m_Mod_count x1 M = if x1 = 0 then (some (some (pzI (M 101 81)), M)) else (if x1 = 1 then (some (some (pzI (M 100 6)), M)) else (if x1 = 2 then (bI (m_Mod_inState 0 M) fun r2 M1 => some (some (pzI r2), M1)) else (if x1 = 3 then (bI (m_Mod_inState 2 M) fun r4 M3 => some (some (pzI r4), M3)) else (if x1 = 4 then (bI (m_Mod_criesOfAll M) fun r6 M5 => some (some (pzI r6), M5)) else (if x1 = 5 then (some (some (pzI (M 100 17)), M)) else (if x1 = 6 then (some (some (pzI (M 100 8)), M)) else (if x1 = 7 then (some (some (pzI (M 101 82)), M)) else (some (some (pzI (-1)), M))))))))) := by
  show pzr 4 245 (0, [pzR 100, pzI x1], [], M) = _
  refine (pz_goes tq_245 1 (σ' := (1, [pzR 100, pzI x1], [pzI x1], M)) rfl).trans ?_
  refine (e_sw tq_245 rfl).trans ?_
  refine e_sel.trans (e_ite ?_ ?_)
  · refine (pz_goes tq_245 3 (σ' := (54, [pzR 100, pzI x1], [pzI 81, pzR 101], M)) rfl).trans ?_
    refine ((e_iald (n := 83) rfl rfl tq_245 rfl).trans (grd_pos (by decide))).trans ?_
    show pzr 4 245 (55, [pzR 100, pzI x1], [pzI (M 101 81)], M) = _
    exact e_iret tq_245 rfl
  refine e_sel.trans (e_ite ?_ ?_)
  · refine (pz_goes tq_245 2 (σ' := (60, [pzR 100, pzI x1], [pzI (M 100 6)], M)) rfl).trans ?_
    exact e_iret tq_245 rfl
  refine e_sel.trans (e_ite ?_ ?_)
  · refine (pz_goes tq_245 2 (σ' := (63, [pzR 100, pzI x1], [pzI 0, pzR 100], M)) rfl).trans ?_
    refine (e_callI (as := [pzR 100, pzI 0, pzN, pzN]) (rest := []) (d' := 3) tq_149 rfl rfl rfl rfl rfl tq_245 rfl).trans (e_bI rfl fun r2 M1 => ?_)
    exact e_iret tq_245 rfl
  refine e_sel.trans (e_ite ?_ ?_)
  · refine (pz_goes tq_245 2 (σ' := (69, [pzR 100, pzI x1], [pzI 2, pzR 100], M)) rfl).trans ?_
    refine (e_callI (as := [pzR 100, pzI 2, pzN, pzN]) (rest := []) (d' := 3) tq_149 rfl rfl rfl rfl rfl tq_245 rfl).trans (e_bI rfl fun r4 M3 => ?_)
    exact e_iret tq_245 rfl
  refine e_sel.trans (e_ite ?_ ?_)
  · refine (pz_goes tq_245 1 (σ' := (74, [pzR 100, pzI x1], [pzR 100], M)) rfl).trans ?_
    refine (e_callI (as := [pzR 100, pzN, pzN]) (rest := []) (d' := 3) tq_244 rfl rfl rfl rfl rfl tq_245 rfl).trans (e_bI rfl fun r6 M5 => ?_)
    exact e_iret tq_245 rfl
  refine e_sel.trans (e_ite ?_ ?_)
  · refine (pz_goes tq_245 2 (σ' := (82, [pzR 100, pzI x1], [pzI (M 100 17)], M)) rfl).trans ?_
    exact e_iret tq_245 rfl
  refine e_sel.trans (e_ite ?_ ?_)
  · refine (pz_goes tq_245 2 (σ' := (87, [pzR 100, pzI x1], [pzI (M 100 8)], M)) rfl).trans ?_
    exact e_iret tq_245 rfl
  refine e_sel.trans (e_ite ?_ ?_)
  · refine (pz_goes tq_245 3 (σ' := (94, [pzR 100, pzI x1], [pzI 82, pzR 101], M)) rfl).trans ?_
    refine ((e_iald (n := 83) rfl rfl tq_245 rfl).trans (grd_pos (by decide))).trans ?_
    show pzr 4 245 (95, [pzR 100, pzI x1], [pzI (M 101 82)], M) = _
    exact e_iret tq_245 rfl
  refine (show pzr 4 245 (pz_sel [] 96 x1, [pzR 100, pzI x1], [], M) = pzr 4 245 (96, [pzR 100, pzI x1], [], M) from rfl).trans ?_
  refine (pz_goes tq_245 1 (σ' := (97, [pzR 100, pzI x1], [pzI (-1)], M)) rfl).trans ?_
  exact e_iret tq_245 rfl
