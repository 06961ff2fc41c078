/-! PeacockDesk.feed(IIIII)I -/
set_option maxRecDepth 20000 in
theorem m_Desk_feed_eq (x1 : Int) (x2 : Int) (x3 : Int) (x4 : Int) (x5 : Int) (M : pz_M) : m_Desk_feed x1 x2 x3 x4 x5 M = bI (m_Tape_hasRoom 20 M) fun r2 M1 => if r2 = 0 then some (some (pzI (-1)), M1) else (bV (m_Tape_add x1 M1) fun M3 => bV (m_Tape_add x2 M3) fun M4 => bV (m_Tape_add x3 M4) fun M5 => bV (m_Tape_add x4 M5) fun M6 => bV (m_Tape_add x5 M6) fun M7 => some (some (pzI (M7 29 1)), M7)) := by
  show pzr 4 95 (0, [pzR 0, pzI x1, pzI x2, pzI x3, pzI x4, pzI x5], [], M) = _
  refine (pz_goes tq_95 3 (σ' := (6, [pzR 0, pzI x1, pzI x2, pzI x3, pzI x4, pzI x5], [pzI 20, pzR 29], M)) rfl).trans ?_
  refine (e_callI (as := [pzR 29, pzI 20]) (rest := []) (d' := 3) tq_61 rfl rfl rfl rfl rfl tq_95 rfl).trans (e_bI rfl fun r2 M1 => ?_)
  refine (e_if_ne tq_95 rfl).trans (e_ite ?_ ?_)
  · refine (pz_goes tq_95 1 (σ' := (13, [pzR 0, pzI x1, pzI x2, pzI x3, pzI x4, pzI x5], [pzI (-1)], M1)) rfl).trans ?_
    exact e_iret tq_95 rfl
  · refine (pz_goes tq_95 3 (σ' := (19, [pzR 0, pzI x1, pzI x2, pzI x3, pzI x4, pzI x5], [pzI x1, pzR 29], M1)) rfl).trans ?_
    refine (e_callV (as := [pzR 29, pzI x1, pzN]) (rest := []) (d' := 3) tq_62 rfl rfl rfl rfl rfl tq_95 rfl).trans (e_bV rfl fun M3 => ?_)
    refine (pz_goes tq_95 3 (σ' := (27, [pzR 0, pzI x1, pzI x2, pzI x3, pzI x4, pzI x5], [pzI x2, pzR 29], M3)) rfl).trans ?_
    refine (e_callV (as := [pzR 29, pzI x2, pzN]) (rest := []) (d' := 3) tq_62 rfl rfl rfl rfl rfl tq_95 rfl).trans (e_bV rfl fun M4 => ?_)
    refine (pz_goes tq_95 3 (σ' := (35, [pzR 0, pzI x1, pzI x2, pzI x3, pzI x4, pzI x5], [pzI x3, pzR 29], M4)) rfl).trans ?_
    refine (e_callV (as := [pzR 29, pzI x3, pzN]) (rest := []) (d' := 3) tq_62 rfl rfl rfl rfl rfl tq_95 rfl).trans (e_bV rfl fun M5 => ?_)
    refine (pz_goes tq_95 3 (σ' := (44, [pzR 0, pzI x1, pzI x2, pzI x3, pzI x4, pzI x5], [pzI x4, pzR 29], M5)) rfl).trans ?_
    refine (e_callV (as := [pzR 29, pzI x4, pzN]) (rest := []) (d' := 3) tq_62 rfl rfl rfl rfl rfl tq_95 rfl).trans (e_bV rfl fun M6 => ?_)
    refine (pz_goes tq_95 3 (σ' := (53, [pzR 0, pzI x1, pzI x2, pzI x3, pzI x4, pzI x5], [pzI x5, pzR 29], M6)) rfl).trans ?_
    refine (e_callV (as := [pzR 29, pzI x5, pzN]) (rest := []) (d' := 3) tq_62 rfl rfl rfl rfl rfl tq_95 rfl).trans (e_bV rfl fun M7 => ?_)
    refine (pz_goes tq_95 3 (σ' := (63, [pzR 0, pzI x1, pzI x2, pzI x3, pzI x4, pzI x5], [pzI (M7 29 1)], M7)) rfl).trans ?_
    exact e_iret tq_95 rfl
/-! PeacockDesk.law(I)I -/
set_option maxRecDepth 20000 in
theorem m_Desk_law_eq (x1 : Int) (M : pz_M) : m_Desk_law x1 M = bI (m_Tape_take x1 1 240 M) fun r2 M1 => if r2 = 0 then some (some (pzI (-1)), M1) else (bI (m_LawReader_readInto ((M1 0 3).toNat) M1) fun r4 M3 => if r4 = 0 then some (some (pzI (M3 29 4)), M3) else (grd (((M3 0 3).toNat) ≤ 200) (bM (pz_wr M3 0 2 (((M3 0 3).toNat) : Nat)) fun M5 => grd (((M3 0 2).toNat) ≤ 200) (bM (pz_wr M5 0 3 (((M3 0 2).toNat) : Nat)) fun M6 => grd (pz_cls ((M6 0 2).toNat) = 2) (some (some (pzI (M6 ((M6 0 2).toNat) 3)), M6)))))) := by
  show pzr 61 96 (0, [pzR 0, pzI x1, pzN], [], M) = _
  refine (pz_goes tq_96 5 (σ' := (9, [pzR 0, pzI x1, pzN], [pzI 240, pzI 1, pzI x1, pzR 29], M)) rfl).trans ?_
  refine (e_callI (as := [pzR 29, pzI x1, pzI 1, pzI 240]) (rest := []) (d' := 3) tq_63 rfl rfl rfl rfl rfl tq_96 rfl).trans (e_bI rfl fun r2 M1 => ?_)
  refine (e_if_ne tq_96 rfl).trans (e_ite ?_ ?_)
  · refine (pz_goes tq_96 1 (σ' := (16, [pzR 0, pzI x1, pzN], [pzI (-1)], M1)) rfl).trans ?_
    exact e_iret tq_96 rfl
  · refine (pz_goes tq_96 4 (σ' := (25, [pzR 0, pzI x1, pzN], [pzR 29, pzR ((M1 0 3).toNat)], M1)) rfl).trans ?_
    refine (e_callI (as := [pzR ((M1 0 3).toNat), pzR 29, pzN, pzN, pzN, pzN]) (rest := []) (d' := 60) tq_27 rfl rfl rfl rfl rfl tq_96 rfl).trans (e_bI rfl fun r4 M3 => ?_)
    refine (e_if_ne tq_96 rfl).trans (e_ite ?_ ?_)
    · refine (pz_goes tq_96 3 (σ' := (38, [pzR 0, pzI x1, pzN], [pzI (M3 29 4)], M3)) rfl).trans ?_
      exact e_iret tq_96 rfl
    · refine (pz_goes tq_96 6 (σ' := (49, [pzR 0, pzI x1, pzR ((M3 0 2).toNat)], [pzR ((M3 0 3).toNat), pzR 0], M3)) rfl).trans ?_
      refine (e_putM rfl tq_96 rfl).trans (e_grd ?_)
      refine e_bM (f := fun M5 => pzr 61 96 (52, [pzR 0, pzI x1, pzR ((M3 0 2).toNat)], [], M5)) (fun M5 => ?_)
      refine (pz_goes tq_96 2 (σ' := (54, [pzR 0, pzI x1, pzR ((M3 0 2).toNat)], [pzR ((M3 0 2).toNat), pzR 0], M5)) rfl).trans ?_
      refine (e_putM rfl tq_96 rfl).trans (e_grd ?_)
      refine e_bM (f := fun M6 => pzr 61 96 (57, [pzR 0, pzI x1, pzR ((M3 0 2).toNat)], [], M6)) (fun M6 => ?_)
      refine (pz_goes tq_96 2 (σ' := (61, [pzR 0, pzI x1, pzR ((M3 0 2).toNat)], [pzR ((M6 0 2).toNat)], M6)) rfl).trans ?_
      refine (e_getIU tq_96 rfl).trans (e_grd ?_)
      exact e_iret tq_96 rfl
/-! PeacockDesk.docket(I)I -/
set_option maxRecDepth 20000 in
theorem m_Desk_docket_eq (x1 : Int) (M : pz_M) : m_Desk_docket x1 M = bI (m_Tape_take x1 1 160 M) fun r2 M1 => if r2 = 0 then some (some (pzI (-1)), M1) else (grd (pz_cls ((M1 0 1).toNat) = 1) (bI (m_Docket_readFrom ((M1 0 1).toNat) M1) fun r4 M3 => if r4 = 0 then some (some (pzI (M3 29 4)), M3) else (grd (((M3 0 1).toNat) ≤ 200) (bM (pz_wr M3 0 0 (((M3 0 1).toNat) : Nat)) fun M5 => grd (((M3 0 0).toNat) ≤ 200) (bM (pz_wr M5 0 1 (((M3 0 0).toNat) : Nat)) fun M6 => bV (m_Terrace_begin 49 ((M6 0 0).toNat) M6) fun M7 => grd (pz_cls ((M7 0 0).toNat) = 1) (some (some (pzI (M7 ((M7 0 0).toNat) 5)), M7))))))) := by
  show pzr 7 97 (0, [pzR 0, pzI x1, pzN], [], M) = _
  refine (pz_goes tq_97 5 (σ' := (9, [pzR 0, pzI x1, pzN], [pzI 160, pzI 1, pzI x1, pzR 29], M)) rfl).trans ?_
  refine (e_callI (as := [pzR 29, pzI x1, pzI 1, pzI 160]) (rest := []) (d' := 3) tq_63 rfl rfl rfl rfl rfl tq_97 rfl).trans (e_bI rfl fun r2 M1 => ?_)
  refine (e_if_ne tq_97 rfl).trans (e_ite ?_ ?_)
  · refine (pz_goes tq_97 1 (σ' := (16, [pzR 0, pzI x1, pzN], [pzI (-1)], M1)) rfl).trans ?_
    exact e_iret tq_97 rfl
  · refine (pz_goes tq_97 4 (σ' := (25, [pzR 0, pzI x1, pzN], [pzR 29, pzR ((M1 0 1).toNat)], M1)) rfl).trans ?_
    refine e_gcall tq_14 (e_cokU rfl rfl) tq_97 rfl (fun hc => ?_)
    refine (e_callI (as := [pzR ((M1 0 1).toNat), pzR 29, pzN]) (rest := []) (d' := 6) tq_14 rfl hc rfl rfl rfl tq_97 rfl).trans (e_bI rfl fun r4 M3 => ?_)
    refine (e_if_ne tq_97 rfl).trans (e_ite ?_ ?_)
    · refine (pz_goes tq_97 3 (σ' := (38, [pzR 0, pzI x1, pzN], [pzI (M3 29 4)], M3)) rfl).trans ?_
      exact e_iret tq_97 rfl
    · refine (pz_goes tq_97 6 (σ' := (49, [pzR 0, pzI x1, pzR ((M3 0 0).toNat)], [pzR ((M3 0 1).toNat), pzR 0], M3)) rfl).trans ?_
      refine (e_putM rfl tq_97 rfl).trans (e_grd ?_)
      refine e_bM (f := fun M5 => pzr 7 97 (52, [pzR 0, pzI x1, pzR ((M3 0 0).toNat)], [], M5)) (fun M5 => ?_)
      refine (pz_goes tq_97 2 (σ' := (54, [pzR 0, pzI x1, pzR ((M3 0 0).toNat)], [pzR ((M3 0 0).toNat), pzR 0], M5)) rfl).trans ?_
      refine (e_putM rfl tq_97 rfl).trans (e_grd ?_)
      refine e_bM (f := fun M6 => pzr 7 97 (57, [pzR 0, pzI x1, pzR ((M3 0 0).toNat)], [], M6)) (fun M6 => ?_)
      refine (pz_goes tq_97 4 (σ' := (65, [pzR 0, pzI x1, pzR ((M3 0 0).toNat)], [pzR ((M6 0 0).toNat), pzR 49], M6)) rfl).trans ?_
      refine (e_callV (as := [pzR 49, pzR ((M6 0 0).toNat)]) (rest := []) (d' := 5) tq_74 rfl rfl rfl rfl rfl tq_97 rfl).trans (e_bV rfl fun M7 => ?_)
      refine (pz_goes tq_97 2 (σ' := (72, [pzR 0, pzI x1, pzR ((M3 0 0).toNat)], [pzR ((M7 0 0).toNat)], M7)) rfl).trans ?_
      refine (e_getIU tq_97 rfl).trans (e_grd ?_)
      exact e_iret tq_97 rfl
/-! PeacockDesk.ballots(III)I -/
set_option maxRecDepth 20000 in
theorem m_Desk_ballots_eq (x1 : Int) (x2 : Int) (x3 : Int) (M : pz_M) : m_Desk_ballots x1 x2 x3 M = if x1 < (2 : Int) then some (some (pzI (-1)), M) else (if (6 : Int) < x1 then some (some (pzI (-1)), M) else (if x3 < 0 then (m_Desk_ballots_22 x1 x2 x3 pzN M) else (if x3 < x1 then (m_Desk_ballots_34 x1 x2 x3 pzN M) else (m_Desk_ballots_22 x1 x2 x3 pzN M)))) := by
  show pzr 8 98 (0, [pzR 0, pzI x1, pzI x2, pzI x3, pzN], [], M) = _
  refine (pz_goes tq_98 2 (σ' := (2, [pzR 0, pzI x1, pzI x2, pzI x3, pzN], [pzI 2, pzI x1], M)) rfl).trans ?_
  refine (e_icmp_lt tq_98 rfl).trans (e_ite ?_ ?_)
  · refine (pz_goes tq_98 1 (σ' := (12, [pzR 0, pzI x1, pzI x2, pzI x3, pzN], [pzI (-1)], M)) rfl).trans ?_
    exact e_iret tq_98 rfl
  · refine (pz_goes tq_98 2 (σ' := (8, [pzR 0, pzI x1, pzI x2, pzI x3, pzN], [pzI 6, pzI x1], M)) rfl).trans ?_
    refine (e_icmp_le tq_98 rfl).trans (e_ite ?_ ?_)
    · refine (pz_goes tq_98 1 (σ' := (12, [pzR 0, pzI x1, pzI x2, pzI x3, pzN], [pzI (-1)], M)) rfl).trans ?_
      exact e_iret tq_98 rfl
    · refine (pz_goes tq_98 1 (σ' := (14, [pzR 0, pzI x1, pzI x2, pzI x3, pzN], [pzI x3], M)) rfl).trans ?_
      refine (e_if_lt tq_98 rfl).trans (e_ite ?_ ?_)
      · rfl
      · refine (pz_goes tq_98 2 (σ' := (19, [pzR 0, pzI x1, pzI x2, pzI x3, pzN], [pzI x1, pzI x3], M)) rfl).trans ?_
        refine (e_icmp_lt tq_98 rfl).trans (e_ite ?_ ?_)
        · rfl
        · rfl
set_option maxRecDepth 20000 in
theorem m_Desk_ballots_22_eq (x1 : Int) (x2 : Int) (x3 : Int) (w4 : pz_V) (M : pz_M) : m_Desk_ballots_22 x1 x2 x3 w4 M = if x3 < (100 : Int) then (m_Desk_ballots_38 x1 x2 x3 w4 M) else (if (104 : Int) < x3 then (m_Desk_ballots_38 x1 x2 x3 w4 M) else (m_Desk_ballots_34 x1 x2 x3 w4 M)) := by
  show pzr 8 98 (22, [pzR 0, pzI x1, pzI x2, pzI x3, w4], [], M) = _
  refine (pz_goes tq_98 2 (σ' := (25, [pzR 0, pzI x1, pzI x2, pzI x3, w4], [pzI 100, pzI x3], M)) rfl).trans ?_
  refine (e_icmp_lt tq_98 rfl).trans (e_ite ?_ ?_)
  · rfl
  · refine (pz_goes tq_98 2 (σ' := (31, [pzR 0, pzI x1, pzI x2, pzI x3, w4], [pzI 104, pzI x3], M)) rfl).trans ?_
    refine (e_icmp_gt tq_98 rfl).trans (e_ite ?_ ?_)
    · rfl
    · rfl
set_option maxRecDepth 20000 in
theorem m_Desk_ballots_34_eq (x1 : Int) (x2 : Int) (x3 : Int) (w4 : pz_V) (M : pz_M) : m_Desk_ballots_34 x1 x2 x3 w4 M = m_Desk_ballots_39 x1 x2 x3 w4 1 M := by
  show pzr 8 98 (34, [pzR 0, pzI x1, pzI x2, pzI x3, w4], [], M) = _
  refine (pz_goes tq_98 2 (σ' := (39, [pzR 0, pzI x1, pzI x2, pzI x3, w4], [pzI 1], M)) rfl).trans ?_
  rfl
set_option maxRecDepth 20000 in
theorem m_Desk_ballots_38_eq (x1 : Int) (x2 : Int) (x3 : Int) (w4 : pz_V) (M : pz_M) : m_Desk_ballots_38 x1 x2 x3 w4 M = m_Desk_ballots_39 x1 x2 x3 w4 0 M := by
  show pzr 8 98 (38, [pzR 0, pzI x1, pzI x2, pzI x3, w4], [], M) = _
  refine (pz_goes tq_98 1 (σ' := (39, [pzR 0, pzI x1, pzI x2, pzI x3, w4], [pzI 0], M)) rfl).trans ?_
  rfl
set_option maxRecDepth 20000 in
theorem m_Desk_ballots_39_eq (x1 : Int) (x2 : Int) (x3 : Int) (w4 : pz_V) (s0 : Int) (M : pz_M) : m_Desk_ballots_39 x1 x2 x3 w4 s0 M = if s0 = 0 then some (some (pzI (-1)), M) else (bI (m_Tape_take x2 1 120 M) fun r2 M1 => if r2 = 0 then some (some (pzI (-1)), M1) else (bI (m_Cabinet_readFrom x1 M1) fun r4 M3 => if r4 = 0 then some (some (pzI (M3 29 4)), M3) else (bI (m_Cabinet_answer x3 M3) fun r6 M5 => some (some (pzI r6), M5)))) := by
  show pzr 8 98 (39, [pzR 0, pzI x1, pzI x2, pzI x3, w4], [pzI s0], M) = _
  refine (pz_goes tq_98 2 (σ' := (43, [pzR 0, pzI x1, pzI x2, pzI x3, pzI s0], [pzI s0], M)) rfl).trans ?_
  refine (e_if_eq tq_98 rfl).trans (e_ite ?_ ?_)
  · refine (pz_goes tq_98 1 (σ' := (61, [pzR 0, pzI x1, pzI x2, pzI x3, pzI s0], [pzI (-1)], M)) rfl).trans ?_
    exact e_iret tq_98 rfl
  · refine (pz_goes tq_98 5 (σ' := (54, [pzR 0, pzI x1, pzI x2, pzI x3, pzI s0], [pzI 120, pzI 1, pzI x2, pzR 29], M)) rfl).trans ?_
    refine (e_callI (as := [pzR 29, pzI x2, pzI 1, pzI 120]) (rest := []) (d' := 3) tq_63 rfl rfl rfl rfl rfl tq_98 rfl).trans (e_bI rfl fun r2 M1 => ?_)
    refine (e_if_ne tq_98 rfl).trans (e_ite ?_ ?_)
    · refine (pz_goes tq_98 1 (σ' := (61, [pzR 0, pzI x1, pzI x2, pzI x3, pzI s0], [pzI (-1)], M1)) rfl).trans ?_
      exact e_iret tq_98 rfl
    · refine (pz_goes tq_98 5 (σ' := (71, [pzR 0, pzI x1, pzI x2, pzI x3, pzI s0], [pzI x1, pzR 29, pzR 32], M1)) rfl).trans ?_
      refine (e_callI (as := [pzR 32, pzR 29, pzI x1, pzN]) (rest := []) (d' := 6) tq_0 rfl rfl rfl rfl rfl tq_98 rfl).trans (e_bI rfl fun r4 M3 => ?_)
      refine (e_if_eq tq_98 rfl).trans (e_ite ?_ ?_)
      · refine (pz_goes tq_98 3 (σ' := (95, [pzR 0, pzI x1, pzI x2, pzI x3, pzI s0], [pzI (M3 29 4)], M3)) rfl).trans ?_
        exact e_iret tq_98 rfl
      · refine (pz_goes tq_98 3 (σ' := (82, [pzR 0, pzI x1, pzI x2, pzI x3, pzI s0], [pzI x3, pzR 32], M3)) rfl).trans ?_
        refine (e_callI (as := [pzR 32, pzI x3]) (rest := []) (d' := 7) tq_5 rfl rfl rfl rfl rfl tq_98 rfl).trans (e_bI rfl fun r6 M5 => ?_)
        refine (pz_goes tq_98 1 (σ' := (95, [pzR 0, pzI x1, pzI x2, pzI x3, pzI s0], [pzI r6], M5)) rfl).trans ?_
        exact e_iret tq_98 rfl
/-! PeacockDesk.days(I)I -/
set_option maxRecDepth 20000 in
theorem m_Desk_days_eq (x1 : Int) (M : pz_M) : m_Desk_days x1 M = bI (m_Desk_areDays x1 M) fun r2 M1 => if r2 = 0 then some (some (pzI (-1)), M1) else (bV (m_Desk_goOn 49 x1 M1) fun M3 => some (some (pzI (isb (M3 53 10) (M1 53 10))), M3)) := by
  show pzr 10 99 (0, [pzR 0, pzI x1, pzN], [], M) = _
  refine (pz_goes tq_99 1 (σ' := (1, [pzR 0, pzI x1, pzN], [pzI x1], M)) rfl).trans ?_
  refine (e_callI (as := [pzI x1]) (rest := []) (d' := 3) tq_125 rfl rfl rfl rfl rfl tq_99 rfl).trans (e_bI rfl fun r2 M1 => ?_)
  refine (e_if_ne tq_99 rfl).trans (e_ite ?_ ?_)
  · refine (pz_goes tq_99 1 (σ' := (8, [pzR 0, pzI x1, pzN], [pzI (-1)], M1)) rfl).trans ?_
    exact e_iret tq_99 rfl
  · refine (pz_goes tq_99 4 (σ' := (18, [pzR 0, pzI x1, pzN], [pzI 10, pzR 53], M1)) rfl).trans ?_
    refine ((e_iald (n := 11) rfl rfl tq_99 rfl).trans (grd_pos (by decide))).trans ?_
    show pzr 10 99 (19, [pzR 0, pzI x1, pzN], [pzI (M1 53 10)], M1) = _
    refine (pz_goes tq_99 5 (σ' := (26, [pzR 0, pzI x1, pzI (M1 53 10)], [pzI x1, pzR 49, pzR 0], M1)) rfl).trans ?_
    refine (e_callV (as := [pzR 0, pzR 49, pzI x1, pzN]) (rest := []) (d' := 9) tq_126 rfl rfl rfl rfl rfl tq_99 rfl).trans (e_bV rfl fun M3 => ?_)
    refine (pz_goes tq_99 4 (σ' := (38, [pzR 0, pzI x1, pzI (M1 53 10)], [pzI 10, pzR 53], M3)) rfl).trans ?_
    refine ((e_iald (n := 11) rfl rfl tq_99 rfl).trans (grd_pos (by decide))).trans ?_
    show pzr 10 99 (39, [pzR 0, pzI x1, pzI (M1 53 10)], [pzI (M3 53 10)], M3) = _
    refine (pz_goes tq_99 2 (σ' := (41, [pzR 0, pzI x1, pzI (M1 53 10)], [pzI (isb (M3 53 10) (M1 53 10))], M3)) rfl).trans ?_
    exact e_iret tq_99 rfl
/-! PeacockDesk.tried(II)I -/
set_option maxRecDepth 20000 in
theorem m_Desk_tried_eq (x1 : Int) (x2 : Int) (M : pz_M) : m_Desk_tried x1 x2 M = if x2 < 0 then (m_Desk_tried_13 x1 x2 pzN pzN pzN M) else (if (3 : Int) < x2 then (m_Desk_tried_13 x1 x2 pzN pzN pzN M) else (m_Desk_tried_14 x1 x2 pzN pzN pzN 1 M)) := by
  show pzr 10 100 (0, [pzR 0, pzI x1, pzI x2, pzN, pzN, pzN], [], M) = _
  refine (pz_goes tq_100 1 (σ' := (1, [pzR 0, pzI x1, pzI x2, pzN, pzN, pzN], [pzI x2], M)) rfl).trans ?_
  refine (e_if_lt tq_100 rfl).trans (e_ite ?_ ?_)
  · rfl
  · refine (pz_goes tq_100 2 (σ' := (6, [pzR 0, pzI x1, pzI x2, pzN, pzN, pzN], [pzI 3, pzI x2], M)) rfl).trans ?_
    refine (e_icmp_gt tq_100 rfl).trans (e_ite ?_ ?_)
    · rfl
    · refine (pz_goes tq_100 2 (σ' := (14, [pzR 0, pzI x1, pzI x2, pzN, pzN, pzN], [pzI 1], M)) rfl).trans ?_
      rfl
set_option maxRecDepth 20000 in
theorem m_Desk_tried_13_eq (x1 : Int) (x2 : Int) (w3 : pz_V) (w4 : pz_V) (w5 : pz_V) (M : pz_M) : m_Desk_tried_13 x1 x2 w3 w4 w5 M = m_Desk_tried_14 x1 x2 w3 w4 w5 0 M := by
  show pzr 10 100 (13, [pzR 0, pzI x1, pzI x2, w3, w4, w5], [], M) = _
  refine (pz_goes tq_100 1 (σ' := (14, [pzR 0, pzI x1, pzI x2, w3, w4, w5], [pzI 0], M)) rfl).trans ?_
  rfl
set_option maxRecDepth 20000 in
theorem m_Desk_tried_14_eq (x1 : Int) (x2 : Int) (w3 : pz_V) (w4 : pz_V) (w5 : pz_V) (s0 : Int) (M : pz_M) : m_Desk_tried_14 x1 x2 w3 w4 w5 s0 M = if x2 < (10 : Int) then (m_Desk_tried_31 x1 x2 s0 w4 w5 M) else (if x2 < (19 : Int) then (m_Desk_tried_32 x1 x2 s0 w4 w5 1 M) else (m_Desk_tried_31 x1 x2 s0 w4 w5 M)) := by
  show pzr 10 100 (14, [pzR 0, pzI x1, pzI x2, w3, w4, w5], [pzI s0], M) = _
  refine (pz_goes tq_100 3 (σ' := (18, [pzR 0, pzI x1, pzI x2, pzI s0, w4, w5], [pzI 10, pzI x2], M)) rfl).trans ?_
  refine (e_icmp_lt tq_100 rfl).trans (e_ite ?_ ?_)
  · rfl
  · refine (pz_goes tq_100 2 (σ' := (24, [pzR 0, pzI x1, pzI x2, pzI s0, w4, w5], [pzI 19, pzI x2], M)) rfl).trans ?_
    refine (e_icmp_ge tq_100 rfl).trans (e_ite ?_ ?_)
    · refine (pz_goes tq_100 2 (σ' := (32, [pzR 0, pzI x1, pzI x2, pzI s0, w4, w5], [pzI 1], M)) rfl).trans ?_
      rfl
    · rfl
set_option maxRecDepth 20000 in
theorem m_Desk_tried_31_eq (x1 : Int) (x2 : Int) (x3 : Int) (w4 : pz_V) (w5 : pz_V) (M : pz_M) : m_Desk_tried_31 x1 x2 x3 w4 w5 M = m_Desk_tried_32 x1 x2 x3 w4 w5 0 M := by
  show pzr 10 100 (31, [pzR 0, pzI x1, pzI x2, pzI x3, w4, w5], [], M) = _
  refine (pz_goes tq_100 1 (σ' := (32, [pzR 0, pzI x1, pzI x2, pzI x3, w4, w5], [pzI 0], M)) rfl).trans ?_
  rfl
set_option maxRecDepth 20000 in
theorem m_Desk_tried_32_eq (x1 : Int) (x2 : Int) (x3 : Int) (w4 : pz_V) (w5 : pz_V) (s0 : Int) (M : pz_M) : m_Desk_tried_32 x1 x2 x3 w4 w5 s0 M = if x2 < (30 : Int) then (m_Desk_tried_58 x1 x2 x3 s0 w5 M) else (if x2 < (ia 30 (M 49 4)) then (m_Desk_tried_59 x1 x2 x3 s0 w5 1 M) else (m_Desk_tried_58 x1 x2 x3 s0 w5 M)) := by
  show pzr 10 100 (32, [pzR 0, pzI x1, pzI x2, pzI x3, w4, w5], [pzI s0], M) = _
  refine (pz_goes tq_100 3 (σ' := (37, [pzR 0, pzI x1, pzI x2, pzI x3, pzI s0, w5], [pzI 30, pzI x2], M)) rfl).trans ?_
  refine (e_icmp_lt tq_100 rfl).trans (e_ite ?_ ?_)
  · rfl
  · refine (pz_goes tq_100 6 (σ' := (51, [pzR 0, pzI x1, pzI x2, pzI x3, pzI s0, w5], [pzI (ia 30 (M 49 4)), pzI x2], M)) rfl).trans ?_
    refine (e_icmp_ge tq_100 rfl).trans (e_ite ?_ ?_)
    · refine (pz_goes tq_100 2 (σ' := (59, [pzR 0, pzI x1, pzI x2, pzI x3, pzI s0, w5], [pzI 1], M)) rfl).trans ?_
      rfl
    · rfl
set_option maxRecDepth 20000 in
theorem m_Desk_tried_58_eq (x1 : Int) (x2 : Int) (x3 : Int) (x4 : Int) (w5 : pz_V) (M : pz_M) : m_Desk_tried_58 x1 x2 x3 x4 w5 M = m_Desk_tried_59 x1 x2 x3 x4 w5 0 M := by
  show pzr 10 100 (58, [pzR 0, pzI x1, pzI x2, pzI x3, pzI x4, w5], [], M) = _
  refine (pz_goes tq_100 1 (σ' := (59, [pzR 0, pzI x1, pzI x2, pzI x3, pzI x4, w5], [pzI 0], M)) rfl).trans ?_
  rfl
set_option maxRecDepth 20000 in
theorem m_Desk_tried_59_eq (x1 : Int) (x2 : Int) (x3 : Int) (x4 : Int) (w5 : pz_V) (s0 : Int) (M : pz_M) : m_Desk_tried_59 x1 x2 x3 x4 w5 s0 M = bI (m_Desk_areDays x1 M) fun r2 M1 => if r2 = 0 then some (some (pzI (-1)), M1) else (if x3 = 0 then (if x4 = 0 then (if s0 = 0 then some (some (pzI (-1)), M1) else (m_Desk_tried_84 x1 x2 (pzI x3) x4 s0 M1)) else (m_Desk_tried_84 x1 x2 (pzI x3) x4 s0 M1)) else (m_Desk_tried_84 x1 x2 (pzI x3) x4 s0 M1)) := by
  show pzr 10 100 (59, [pzR 0, pzI x1, pzI x2, pzI x3, pzI x4, w5], [pzI s0], M) = _
  refine (pz_goes tq_100 2 (σ' := (62, [pzR 0, pzI x1, pzI x2, pzI x3, pzI x4, pzI s0], [pzI x1], M)) rfl).trans ?_
  refine (e_callI (as := [pzI x1]) (rest := []) (d' := 3) tq_125 rfl rfl rfl rfl rfl tq_100 rfl).trans (e_bI rfl fun r2 M1 => ?_)
  refine (e_if_eq tq_100 rfl).trans (e_ite ?_ ?_)
  · refine (pz_goes tq_100 1 (σ' := (83, [pzR 0, pzI x1, pzI x2, pzI x3, pzI x4, pzI s0], [pzI (-1)], M1)) rfl).trans ?_
    exact e_iret tq_100 rfl
  · refine (pz_goes tq_100 1 (σ' := (69, [pzR 0, pzI x1, pzI x2, pzI x3, pzI x4, pzI s0], [pzI x3], M1)) rfl).trans ?_
    refine (e_if_ne tq_100 rfl).trans (e_ite ?_ ?_)
    · refine (pz_goes tq_100 1 (σ' := (74, [pzR 0, pzI x1, pzI x2, pzI x3, pzI x4, pzI s0], [pzI x4], M1)) rfl).trans ?_
      refine (e_if_ne tq_100 rfl).trans (e_ite ?_ ?_)
      · refine (pz_goes tq_100 1 (σ' := (79, [pzR 0, pzI x1, pzI x2, pzI x3, pzI x4, pzI s0], [pzI s0], M1)) rfl).trans ?_
        refine (e_if_ne tq_100 rfl).trans (e_ite ?_ ?_)
        · refine (pz_goes tq_100 1 (σ' := (83, [pzR 0, pzI x1, pzI x2, pzI x3, pzI x4, pzI s0], [pzI (-1)], M1)) rfl).trans ?_
          exact e_iret tq_100 rfl
        · rfl
      · rfl
    · rfl
set_option maxRecDepth 20000 in
theorem m_Desk_tried_84_eq (x1 : Int) (x2 : Int) (w3 : pz_V) (x4 : Int) (x5 : Int) (M : pz_M) : m_Desk_tried_84 x1 x2 w3 x4 x5 M = bV (m_Terrace_copy 54 49 M) fun M1 => bV (m_Desk_goOn 54 x1 M1) fun M2 => if x5 = 0 then (if x4 = 0 then (if x2 = 0 then (some (some (pzI (isb (M2 58 10) (M2 53 10))), M2)) else (if x2 = 1 then (bI (m_Terrace_criesOfAll 54 M2) fun r4 M3 => bI (m_Terrace_criesOfAll 49 M3) fun r6 M5 => some (some (pzI (isb r4 r6)), M5)) else (if x2 = 2 then (bI (m_Terrace_bitsAt 54 9 M2) fun r8 M7 => some (some (pzI r8), M7)) else (bI (m_Terrace_bitsAt 54 10 M2) fun r10 M9 => some (some (pzI r10), M9))))) else (bI (m_Terrace_bitsAt 54 (isb x2 10) M2) fun r12 M11 => some (some (pzI r12), M11))) else (grd (0 ≤ (isb x2 30) ∧ (isb x2 30) < 24) (some (some (pzI (M2 56 (((isb x2 30)).toNat))), M2))) := by
  show pzr 10 100 (84, [pzR 0, pzI x1, pzI x2, w3, pzI x4, pzI x5], [], M) = _
  refine (pz_goes tq_100 4 (σ' := (92, [pzR 0, pzI x1, pzI x2, w3, pzI x4, pzI x5], [pzR 49, pzR 54], M)) rfl).trans ?_
  refine (e_callV (as := [pzR 54, pzR 49]) (rest := []) (d' := 6) tq_75 rfl rfl rfl rfl rfl tq_100 rfl).trans (e_bV rfl fun M1 => ?_)
  refine (pz_goes tq_100 4 (σ' := (101, [pzR 0, pzI x1, pzI x2, w3, pzI x4, pzI x5], [pzI x1, pzR 54, pzR 0], M1)) rfl).trans ?_
  refine (e_callV (as := [pzR 0, pzR 54, pzI x1, pzN]) (rest := []) (d' := 9) tq_126 rfl rfl rfl rfl rfl tq_100 rfl).trans (e_bV rfl fun M2 => ?_)
  refine (pz_goes tq_100 1 (σ' := (106, [pzR 0, pzI x1, pzI x2, w3, pzI x4, pzI x5], [pzI x5], M2)) rfl).trans ?_
  refine (e_if_eq tq_100 rfl).trans (e_ite ?_ ?_)
  · refine (pz_goes tq_100 1 (σ' := (124, [pzR 0, pzI x1, pzI x2, w3, pzI x4, pzI x5], [pzI x4], M2)) rfl).trans ?_
    refine (e_if_eq tq_100 rfl).trans (e_ite ?_ ?_)
    · refine (pz_goes tq_100 1 (σ' := (140, [pzR 0, pzI x1, pzI x2, w3, pzI x4, pzI x5], [pzI x2], M2)) rfl).trans ?_
      refine (e_sw tq_100 rfl).trans ?_
      refine e_sel.trans (e_ite ?_ ?_)
      · refine (pz_goes tq_100 4 (σ' := (177, [pzR 0, pzI x1, pzI x2, w3, pzI x4, pzI x5], [pzI 10, pzR 58], M2)) rfl).trans ?_
        refine ((e_iald (n := 11) rfl rfl tq_100 rfl).trans (grd_pos (by decide))).trans ?_
        show pzr 10 100 (178, [pzR 0, pzI x1, pzI x2, w3, pzI x4, pzI x5], [pzI (M2 58 10)], M2) = _
        refine (pz_goes tq_100 4 (σ' := (187, [pzR 0, pzI x1, pzI x2, w3, pzI x4, pzI x5], [pzI 10, pzR 53, pzI (M2 58 10)], M2)) rfl).trans ?_
        refine ((e_iald (n := 11) rfl rfl tq_100 rfl).trans (grd_pos (by decide))).trans ?_
        show pzr 10 100 (188, [pzR 0, pzI x1, pzI x2, w3, pzI x4, pzI x5], [pzI (M2 53 10), pzI (M2 58 10)], M2) = _
        refine (pz_goes tq_100 1 (σ' := (189, [pzR 0, pzI x1, pzI x2, w3, pzI x4, pzI x5], [pzI (isb (M2 58 10) (M2 53 10))], M2)) rfl).trans ?_
        exact e_iret tq_100 rfl
      refine e_sel.trans (e_ite ?_ ?_)
      · refine (pz_goes tq_100 2 (σ' := (194, [pzR 0, pzI x1, pzI x2, w3, pzI x4, pzI x5], [pzR 54], M2)) rfl).trans ?_
        refine (e_callI (as := [pzR 54, pzN, pzN]) (rest := []) (d' := 3) tq_83 rfl rfl rfl rfl rfl tq_100 rfl).trans (e_bI rfl fun r4 M3 => ?_)
        refine (pz_goes tq_100 2 (σ' := (201, [pzR 0, pzI x1, pzI x2, w3, pzI x4, pzI x5], [pzR 49, pzI r4], M3)) rfl).trans ?_
        refine (e_callI (as := [pzR 49, pzN, pzN]) (rest := [pzI r4]) (d' := 3) tq_83 rfl rfl rfl rfl rfl tq_100 rfl).trans (e_bI rfl fun r6 M5 => ?_)
        refine (pz_goes tq_100 1 (σ' := (205, [pzR 0, pzI x1, pzI x2, w3, pzI x4, pzI x5], [pzI (isb r4 r6)], M5)) rfl).trans ?_
        exact e_iret tq_100 rfl
      refine e_sel.trans (e_ite ?_ ?_)
      · refine (pz_goes tq_100 3 (σ' := (212, [pzR 0, pzI x1, pzI x2, w3, pzI x4, pzI x5], [pzI 9, pzR 54], M2)) rfl).trans ?_
        refine (e_callI (as := [pzR 54, pzI 9, pzN, pzN]) (rest := []) (d' := 3) tq_80 rfl rfl rfl rfl rfl tq_100 rfl).trans (e_bI rfl fun r8 M7 => ?_)
        exact e_iret tq_100 rfl
      refine (show pzr 10 100 (pz_sel [] 216 x2, [pzR 0, pzI x1, pzI x2, w3, pzI x4, pzI x5], [], M2) = pzr 10 100 (216, [pzR 0, pzI x1, pzI x2, w3, pzI x4, pzI x5], [], M2) from rfl).trans ?_
      refine (pz_goes tq_100 3 (σ' := (222, [pzR 0, pzI x1, pzI x2, w3, pzI x4, pzI x5], [pzI 10, pzR 54], M2)) rfl).trans ?_
      refine (e_callI (as := [pzR 54, pzI 10, pzN, pzN]) (rest := []) (d' := 3) tq_80 rfl rfl rfl rfl rfl tq_100 rfl).trans (e_bI rfl fun r10 M9 => ?_)
      exact e_iret tq_100 rfl
    · refine (pz_goes tq_100 5 (σ' := (135, [pzR 0, pzI x1, pzI x2, w3, pzI x4, pzI x5], [pzI (isb x2 10), pzR 54], M2)) rfl).trans ?_
      refine (e_callI (as := [pzR 54, pzI (isb x2 10), pzN, pzN]) (rest := []) (d' := 3) tq_80 rfl rfl rfl rfl rfl tq_100 rfl).trans (e_bI rfl fun r12 M11 => ?_)
      exact e_iret tq_100 rfl
  · refine (pz_goes tq_100 6 (σ' := (120, [pzR 0, pzI x1, pzI x2, w3, pzI x4, pzI x5], [pzI (isb x2 30), pzR 56], M2)) rfl).trans ?_
    refine (e_iald (n := 24) rfl rfl tq_100 rfl).trans (e_grd ?_)
    exact e_iret tq_100 rfl
/-! PeacockDesk.caseIs(II)I -/
set_option maxRecDepth 20000 in
theorem m_Desk_caseIs_eq (x1 : Int) (x2 : Int) (M : pz_M) : m_Desk_caseIs x1 x2 M = bI (m_Desk_isCase x1 M) fun r2 M1 => if r2 = 0 then some (some (pzI (-1)), M1) else (grd (0 ≤ x1 ∧ x1 < 24) (if x2 = 0 then (grd (pz_cls ((M1 0 0).toNat) = 1) (grd (pz_cls (pz_ref ((M1 0 0).toNat) 0) = 20 ∧ 0 ≤ x1 ∧ x1 < pz_len (pz_ref ((M1 0 0).toNat) 0)) (some (some (pzI (M1 (pz_ref ((M1 0 0).toNat) 0) ((x1).toNat))), M1)))) else (if x2 = 1 then (grd (pz_cls ((M1 0 0).toNat) = 1) (grd (pz_cls (pz_ref ((M1 0 0).toNat) 1) = 20 ∧ 0 ≤ x1 ∧ x1 < pz_len (pz_ref ((M1 0 0).toNat) 1)) (some (some (pzI (M1 (pz_ref ((M1 0 0).toNat) 1) ((x1).toNat))), M1)))) else (if x2 = 2 then (grd (pz_cls ((M1 0 0).toNat) = 1) (grd (pz_cls (pz_ref ((M1 0 0).toNat) 2) = 20 ∧ 0 ≤ x1 ∧ x1 < pz_len (pz_ref ((M1 0 0).toNat) 2)) (some (some (pzI (M1 (pz_ref ((M1 0 0).toNat) 2) ((x1).toNat))), M1)))) else (if x2 = 3 then (if (M1 50 ((x1).toNat)) = (9 : Int) then some (some (pzI 0), M1) else (if (M1 50 ((x1).toNat)) = (10 : Int) then some (some (pzI 2), M1) else (some (some (pzI 1), M1)))) else (if x2 = 4 then (bI (m_Desk_isPeacock (M1 50 ((x1).toNat)) M1) fun r4 M3 => if r4 = 0 then some (some (pzI (-2)), M3) else (some (some (pzI (M1 50 ((x1).toNat))), M3))) else (if x2 = 5 then (grd (0 ≤ x1 ∧ x1 < 24) (some (some (pzI (M1 51 ((x1).toNat))), M1))) else (some (some (pzI (-1)), M1))))))))) := by
  show pzr 4 101 (0, [pzR 0, pzI x1, pzI x2, pzN], [], M) = _
  refine (pz_goes tq_101 2 (σ' := (2, [pzR 0, pzI x1, pzI x2, pzN], [pzI x1, pzR 0], M)) rfl).trans ?_
  refine (e_callI (as := [pzR 0, pzI x1]) (rest := []) (d' := 3) tq_123 rfl rfl rfl rfl rfl tq_101 rfl).trans (e_bI rfl fun r2 M1 => ?_)
  refine (e_if_ne tq_101 rfl).trans (e_ite ?_ ?_)
  · refine (pz_goes tq_101 1 (σ' := (9, [pzR 0, pzI x1, pzI x2, pzN], [pzI (-1)], M1)) rfl).trans ?_
    exact e_iret tq_101 rfl
  · refine (pz_goes tq_101 4 (σ' := (18, [pzR 0, pzI x1, pzI x2, pzN], [pzI x1, pzR 50], M1)) rfl).trans ?_
    refine (e_iald (n := 24) rfl rfl tq_101 rfl).trans (e_grd ?_)
    refine (pz_goes tq_101 2 (σ' := (21, [pzR 0, pzI x1, pzI x2, pzI (M1 50 ((x1).toNat))], [pzI x2], M1)) rfl).trans ?_
    refine (e_sw tq_101 rfl).trans ?_
    refine e_sel.trans (e_ite ?_ ?_)
    · refine (pz_goes tq_101 2 (σ' := (64, [pzR 0, pzI x1, pzI x2, pzI (M1 50 ((x1).toNat))], [pzR ((M1 0 0).toNat)], M1)) rfl).trans ?_
      refine (e_getRU tq_101 rfl).trans (e_grd ?_)
      refine (pz_goes tq_101 1 (σ' := (68, [pzR 0, pzI x1, pzI x2, pzI (M1 50 ((x1).toNat))], [pzI x1, pzR (pz_ref ((M1 0 0).toNat) 0)], M1)) rfl).trans ?_
      refine (e_iaU tq_101 rfl).trans (e_grd ?_)
      exact e_iret tq_101 rfl
    refine e_sel.trans (e_ite ?_ ?_)
    · refine (pz_goes tq_101 2 (σ' := (74, [pzR 0, pzI x1, pzI x2, pzI (M1 50 ((x1).toNat))], [pzR ((M1 0 0).toNat)], M1)) rfl).trans ?_
      refine (e_getRU tq_101 rfl).trans (e_grd ?_)
      refine (pz_goes tq_101 1 (σ' := (78, [pzR 0, pzI x1, pzI x2, pzI (M1 50 ((x1).toNat))], [pzI x1, pzR (pz_ref ((M1 0 0).toNat) 1)], M1)) rfl).trans ?_
      refine (e_iaU tq_101 rfl).trans (e_grd ?_)
      exact e_iret tq_101 rfl
    refine e_sel.trans (e_ite ?_ ?_)
    · refine (pz_goes tq_101 2 (σ' := (84, [pzR 0, pzI x1, pzI x2, pzI (M1 50 ((x1).toNat))], [pzR ((M1 0 0).toNat)], M1)) rfl).trans ?_
      refine (e_getRU tq_101 rfl).trans (e_grd ?_)
      refine (pz_goes tq_101 1 (σ' := (88, [pzR 0, pzI x1, pzI x2, pzI (M1 50 ((x1).toNat))], [pzI x1, pzR (pz_ref ((M1 0 0).toNat) 2)], M1)) rfl).trans ?_
      refine (e_iaU tq_101 rfl).trans (e_grd ?_)
      exact e_iret tq_101 rfl
    refine e_sel.trans (e_ite ?_ ?_)
    · refine (pz_goes tq_101 2 (σ' := (93, [pzR 0, pzI x1, pzI x2, pzI (M1 50 ((x1).toNat))], [pzI 9, pzI (M1 50 ((x1).toNat))], M1)) rfl).trans ?_
      refine (e_icmp_ne tq_101 rfl).trans (e_ite ?_ ?_)
      · refine (pz_goes tq_101 2 (σ' := (111, [pzR 0, pzI x1, pzI x2, pzI (M1 50 ((x1).toNat))], [pzI 0], M1)) rfl).trans ?_
        exact e_iret tq_101 rfl
      · refine (pz_goes tq_101 2 (σ' := (103, [pzR 0, pzI x1, pzI x2, pzI (M1 50 ((x1).toNat))], [pzI 10, pzI (M1 50 ((x1).toNat))], M1)) rfl).trans ?_
        refine (e_icmp_ne tq_101 rfl).trans (e_ite ?_ ?_)
        · refine (pz_goes tq_101 2 (σ' := (111, [pzR 0, pzI x1, pzI x2, pzI (M1 50 ((x1).toNat))], [pzI 2], M1)) rfl).trans ?_
          exact e_iret tq_101 rfl
        · refine (pz_goes tq_101 1 (σ' := (111, [pzR 0, pzI x1, pzI x2, pzI (M1 50 ((x1).toNat))], [pzI 1], M1)) rfl).trans ?_
          exact e_iret tq_101 rfl
    refine e_sel.trans (e_ite ?_ ?_)
    · refine (pz_goes tq_101 1 (σ' := (113, [pzR 0, pzI x1, pzI x2, pzI (M1 50 ((x1).toNat))], [pzI (M1 50 ((x1).toNat))], M1)) rfl).trans ?_
      refine (e_callI (as := [pzI (M1 50 ((x1).toNat))]) (rest := []) (d' := 3) tq_124 rfl rfl rfl rfl rfl tq_101 rfl).trans (e_bI rfl fun r4 M3 => ?_)
      refine (e_if_eq tq_101 rfl).trans (e_ite ?_ ?_)
      · refine (pz_goes tq_101 1 (σ' := (125, [pzR 0, pzI x1, pzI x2, pzI (M1 50 ((x1).toNat))], [pzI (-2)], M3)) rfl).trans ?_
        exact e_iret tq_101 rfl
      · refine (pz_goes tq_101 2 (σ' := (125, [pzR 0, pzI x1, pzI x2, pzI (M1 50 ((x1).toNat))], [pzI (M1 50 ((x1).toNat))], M3)) rfl).trans ?_
        exact e_iret tq_101 rfl
    refine e_sel.trans (e_ite ?_ ?_)
    · refine (pz_goes tq_101 4 (σ' := (134, [pzR 0, pzI x1, pzI x2, pzI (M1 50 ((x1).toNat))], [pzI x1, pzR 51], M1)) rfl).trans ?_
      refine (e_iald (n := 24) rfl rfl tq_101 rfl).trans (e_grd ?_)
      exact e_iret tq_101 rfl
    refine (show pzr 4 101 (pz_sel [] 136 x2, [pzR 0, pzI x1, pzI x2, pzI (M1 50 ((x1).toNat))], [], M1) = pzr 4 101 (136, [pzR 0, pzI x1, pzI x2, pzI (M1 50 ((x1).toNat))], [], M1) from rfl).trans ?_
    refine (pz_goes tq_101 1 (σ' := (137, [pzR 0, pzI x1, pzI x2, pzI (M1 50 ((x1).toNat))], [pzI (-1)], M1)) rfl).trans ?_
    exact e_iret tq_101 rfl
/-! PeacockDesk.peacockIs(II)I -/
set_option maxRecDepth 20000 in
theorem m_Desk_peacockIs_eq (x1 : Int) (x2 : Int) (M : pz_M) : m_Desk_peacockIs x1 x2 M = bI (m_Desk_isPeacock x1 M) fun r2 M1 => if r2 = 0 then some (some (pzI (-1)), M1) else (if x2 = 0 then (bI (m_Terrace_bitsAt 49 x1 M1) fun r4 M3 => some (some (pzI r4), M3)) else (if x2 = 1 then (grd (0 ≤ x1 ∧ x1 < 9) (some (some (pzI (M1 52 ((x1).toNat))), M1))) else (if x2 = 2 then (bI (m_Terrace_weightsAt 49 x1 ((M1 0 0).toNat) M1) fun r6 M5 => some (some (pzI r6), M5)) else (some (some (pzI (-1)), M1))))) := by
  show pzr 4 102 (0, [pzR 0, pzI x1, pzI x2], [], M) = _
  refine (pz_goes tq_102 1 (σ' := (1, [pzR 0, pzI x1, pzI x2], [pzI x1], M)) rfl).trans ?_
  refine (e_callI (as := [pzI x1]) (rest := []) (d' := 3) tq_124 rfl rfl rfl rfl rfl tq_102 rfl).trans (e_bI rfl fun r2 M1 => ?_)
  refine (e_if_ne tq_102 rfl).trans (e_ite ?_ ?_)
  · refine (pz_goes tq_102 1 (σ' := (8, [pzR 0, pzI x1, pzI x2], [pzI (-1)], M1)) rfl).trans ?_
    exact e_iret tq_102 rfl
  · refine (pz_goes tq_102 1 (σ' := (10, [pzR 0, pzI x1, pzI x2], [pzI x2], M1)) rfl).trans ?_
    refine (e_sw tq_102 rfl).trans ?_
    refine e_sel.trans (e_ite ?_ ?_)
    · refine (pz_goes tq_102 3 (σ' := (41, [pzR 0, pzI x1, pzI x2], [pzI x1, pzR 49], M1)) rfl).trans ?_
      refine (e_callI (as := [pzR 49, pzI x1, pzN, pzN]) (rest := []) (d' := 3) tq_80 rfl rfl rfl rfl rfl tq_102 rfl).trans (e_bI rfl fun r4 M3 => ?_)
      exact e_iret tq_102 rfl
    refine e_sel.trans (e_ite ?_ ?_)
    · refine (pz_goes tq_102 4 (σ' := (53, [pzR 0, pzI x1, pzI x2], [pzI x1, pzR 52], M1)) rfl).trans ?_
      refine (e_iald (n := 9) rfl rfl tq_102 rfl).trans (e_grd ?_)
      exact e_iret tq_102 rfl
    refine e_sel.trans (e_ite ?_ ?_)
    · refine (pz_goes tq_102 5 (σ' := (64, [pzR 0, pzI x1, pzI x2], [pzR ((M1 0 0).toNat), pzI x1, pzR 49], M1)) rfl).trans ?_
      refine (e_callI (as := [pzR 49, pzI x1, pzR ((M1 0 0).toNat), pzN, pzN]) (rest := []) (d' := 3) tq_81 rfl rfl rfl rfl rfl tq_102 rfl).trans (e_bI rfl fun r6 M5 => ?_)
      exact e_iret tq_102 rfl
    refine (show pzr 4 102 (pz_sel [] 68 x2, [pzR 0, pzI x1, pzI x2], [], M1) = pzr 4 102 (68, [pzR 0, pzI x1, pzI x2], [], M1) from rfl).trans ?_
    refine (pz_goes tq_102 1 (σ' := (69, [pzR 0, pzI x1, pzI x2], [pzI (-1)], M1)) rfl).trans ?_
    exact e_iret tq_102 rfl
/-! PeacockDesk.byWhen(II)I -/
set_option maxRecDepth 20000 in
theorem m_Desk_byWhen_eq (x1 : Int) (x2 : Int) (M : pz_M) : m_Desk_byWhen x1 x2 M = bI (m_Desk_isCase x1 M) fun r2 M1 => if r2 = 0 then some (some (pzI (-1)), M1) else (bI (m_Desk_areDays x2 M1) fun r4 M3 => if r4 = 0 then some (some (pzI (-1)), M3) else (bV (m_Terrace_copy 54 49 M3) fun M5 => m_Desk_byWhen_30 x1 x2 0 M5)) := by
  show pzr 10 103 (0, [pzR 0, pzI x1, pzI x2, pzN], [], M) = _
  refine (pz_goes tq_103 2 (σ' := (2, [pzR 0, pzI x1, pzI x2, pzN], [pzI x1, pzR 0], M)) rfl).trans ?_
  refine (e_callI (as := [pzR 0, pzI x1]) (rest := []) (d' := 3) tq_123 rfl rfl rfl rfl rfl tq_103 rfl).trans (e_bI rfl fun r2 M1 => ?_)
  refine (e_if_eq tq_103 rfl).trans (e_ite ?_ ?_)
  · refine (pz_goes tq_103 1 (σ' := (16, [pzR 0, pzI x1, pzI x2, pzN], [pzI (-1)], M1)) rfl).trans ?_
    exact e_iret tq_103 rfl
  · refine (pz_goes tq_103 1 (σ' := (9, [pzR 0, pzI x1, pzI x2, pzN], [pzI x2], M1)) rfl).trans ?_
    refine (e_callI (as := [pzI x2]) (rest := []) (d' := 3) tq_125 rfl rfl rfl rfl rfl tq_103 rfl).trans (e_bI rfl fun r4 M3 => ?_)
    refine (e_if_ne tq_103 rfl).trans (e_ite ?_ ?_)
    · refine (pz_goes tq_103 1 (σ' := (16, [pzR 0, pzI x1, pzI x2, pzN], [pzI (-1)], M3)) rfl).trans ?_
      exact e_iret tq_103 rfl
    · refine (pz_goes tq_103 4 (σ' := (25, [pzR 0, pzI x1, pzI x2, pzN], [pzR 49, pzR 54], M3)) rfl).trans ?_
      refine (e_callV (as := [pzR 54, pzR 49]) (rest := []) (d' := 6) tq_75 rfl rfl rfl rfl rfl tq_103 rfl).trans (e_bV rfl fun M5 => ?_)
      refine (pz_goes tq_103 2 (σ' := (30, [pzR 0, pzI x1, pzI x2, pzI 0], [], M5)) rfl).trans ?_
      rfl
set_option maxRecDepth 20000 in
theorem m_Desk_byWhen_30_eq (x1 : Int) (x2 : Int) (x3 : Int) (M : pz_M) : m_Desk_byWhen_30 x1 x2 x3 M = if x2 < x3 then some (some (pzI (-2)), M) else (grd (0 ≤ x1 ∧ x1 < 24) (if (M 55 ((x1).toNat)) = (10 : Int) then some (some (pzI x3), M) else (bV (m_Desk_goOn 54 1 M) fun M1 => m_Desk_byWhen_30 x1 x2 (ia x3 (1)) M1))) := by
  show pzr 10 103 (30, [pzR 0, pzI x1, pzI x2, pzI x3], [], M) = _
  refine (pz_goes tq_103 2 (σ' := (32, [pzR 0, pzI x1, pzI x2, pzI x3], [pzI x2, pzI x3], M)) rfl).trans ?_
  refine (e_icmp_gt tq_103 rfl).trans (e_ite ?_ ?_)
  · refine (pz_goes tq_103 1 (σ' := (68, [pzR 0, pzI x1, pzI x2, pzI x3], [pzI (-2)], M)) rfl).trans ?_
    exact e_iret tq_103 rfl
  · refine (pz_goes tq_103 4 (σ' := (43, [pzR 0, pzI x1, pzI x2, pzI x3], [pzI x1, pzR 55], M)) rfl).trans ?_
    refine (e_iald (n := 24) rfl rfl tq_103 rfl).trans (e_grd ?_)
    refine (pz_goes tq_103 1 (σ' := (46, [pzR 0, pzI x1, pzI x2, pzI x3], [pzI 10, pzI (M 55 ((x1).toNat))], M)) rfl).trans ?_
    refine (e_icmp_ne tq_103 rfl).trans (e_ite ?_ ?_)
    · refine (pz_goes tq_103 1 (σ' := (50, [pzR 0, pzI x1, pzI x2, pzI x3], [pzI x3], M)) rfl).trans ?_
      exact e_iret tq_103 rfl
    · refine (pz_goes tq_103 4 (σ' := (57, [pzR 0, pzI x1, pzI x2, pzI x3], [pzI 1, pzR 54, pzR 0], M)) rfl).trans ?_
      refine (e_callV (as := [pzR 0, pzR 54, pzI 1, pzN]) (rest := []) (d' := 9) tq_126 rfl rfl rfl rfl rfl tq_103 rfl).trans (e_bV rfl fun M1 => ?_)
      refine (pz_goes tq_103 2 (σ' := (30, [pzR 0, pzI x1, pzI x2, pzI (ia x3 (1))], [], M1)) rfl).trans ?_
      rfl
/-! PeacockDesk.allQuiet(I)I -/
set_option maxRecDepth 20000 in
theorem m_Desk_allQuiet_eq (x1 : Int) (M : pz_M) : m_Desk_allQuiet x1 M = bI (m_Desk_areDays x1 M) fun r2 M1 => if r2 = 0 then some (some (pzI (-1)), M1) else (bV (m_Terrace_copy 54 49 M1) fun M3 => m_Desk_allQuiet_22 x1 0 M3) := by
  show pzr 10 104 (0, [pzR 0, pzI x1, pzN], [], M) = _
  refine (pz_goes tq_104 1 (σ' := (1, [pzR 0, pzI x1, pzN], [pzI x1], M)) rfl).trans ?_
  refine (e_callI (as := [pzI x1]) (rest := []) (d' := 3) tq_125 rfl rfl rfl rfl rfl tq_104 rfl).trans (e_bI rfl fun r2 M1 => ?_)
  refine (e_if_ne tq_104 rfl).trans (e_ite ?_ ?_)
  · refine (pz_goes tq_104 1 (σ' := (8, [pzR 0, pzI x1, pzN], [pzI (-1)], M1)) rfl).trans ?_
    exact e_iret tq_104 rfl
  · refine (pz_goes tq_104 4 (σ' := (17, [pzR 0, pzI x1, pzN], [pzR 49, pzR 54], M1)) rfl).trans ?_
    refine (e_callV (as := [pzR 54, pzR 49]) (rest := []) (d' := 6) tq_75 rfl rfl rfl rfl rfl tq_104 rfl).trans (e_bV rfl fun M3 => ?_)
    refine (pz_goes tq_104 2 (σ' := (22, [pzR 0, pzI x1, pzI 0], [], M3)) rfl).trans ?_
    rfl
set_option maxRecDepth 20000 in
theorem m_Desk_allQuiet_22_eq (x1 : Int) (x2 : Int) (M : pz_M) : m_Desk_allQuiet_22 x1 x2 M = if x1 < x2 then some (some (pzI (-2)), M) else (if (M 58 10) = (M 54 4) then some (some (pzI x2), M) else (bV (m_Desk_goOn 54 1 M) fun M1 => m_Desk_allQuiet_22 x1 (ia x2 (1)) M1)) := by
  show pzr 10 104 (22, [pzR 0, pzI x1, pzI x2], [], M) = _
  refine (pz_goes tq_104 2 (σ' := (24, [pzR 0, pzI x1, pzI x2], [pzI x1, pzI x2], M)) rfl).trans ?_
  refine (e_icmp_gt tq_104 rfl).trans (e_ite ?_ ?_)
  · refine (pz_goes tq_104 1 (σ' := (66, [pzR 0, pzI x1, pzI x2], [pzI (-2)], M)) rfl).trans ?_
    exact e_iret tq_104 rfl
  · refine (pz_goes tq_104 4 (σ' := (36, [pzR 0, pzI x1, pzI x2], [pzI 10, pzR 58], M)) rfl).trans ?_
    refine ((e_iald (n := 11) rfl rfl tq_104 rfl).trans (grd_pos (by decide))).trans ?_
    show pzr 10 104 (37, [pzR 0, pzI x1, pzI x2], [pzI (M 58 10)], M) = _
    refine (pz_goes tq_104 3 (σ' := (44, [pzR 0, pzI x1, pzI x2], [pzI (M 54 4), pzI (M 58 10)], M)) rfl).trans ?_
    refine (e_icmp_ne tq_104 rfl).trans (e_ite ?_ ?_)
    · refine (pz_goes tq_104 1 (σ' := (48, [pzR 0, pzI x1, pzI x2], [pzI x2], M)) rfl).trans ?_
      exact e_iret tq_104 rfl
    · refine (pz_goes tq_104 4 (σ' := (55, [pzR 0, pzI x1, pzI x2], [pzI 1, pzR 54, pzR 0], M)) rfl).trans ?_
      refine (e_callV (as := [pzR 0, pzR 54, pzI 1, pzN]) (rest := []) (d' := 9) tq_126 rfl rfl rfl rfl rfl tq_104 rfl).trans (e_bV rfl fun M1 => ?_)
      refine (pz_goes tq_104 2 (σ' := (22, [pzR 0, pzI x1, pzI (ia x2 (1))], [], M1)) rfl).trans ?_
      rfl
/-! PeacockDesk.heard(I)I -/
set_option maxRecDepth 20000 in
theorem m_Desk_heard_eq (x1 : Int) (M : pz_M) : m_Desk_heard x1 M = if x1 = 0 then (m_Desk_heard_11 x1 pzN M) else (if x1 = (1 : Int) then (m_Desk_heard_11 x1 pzN M) else (some (some (pzI (-1)), M))) := by
  show pzr 4 105 (0, [pzR 0, pzI x1, pzN], [], M) = _
  refine (pz_goes tq_105 1 (σ' := (1, [pzR 0, pzI x1, pzN], [pzI x1], M)) rfl).trans ?_
  refine (e_if_eq tq_105 rfl).trans (e_ite ?_ ?_)
  · rfl
  · refine (pz_goes tq_105 2 (σ' := (6, [pzR 0, pzI x1, pzN], [pzI 1, pzI x1], M)) rfl).trans ?_
    refine (e_icmp_eq tq_105 rfl).trans (e_ite ?_ ?_)
    · rfl
    · refine (pz_goes tq_105 1 (σ' := (10, [pzR 0, pzI x1, pzN], [pzI (-1)], M)) rfl).trans ?_
      exact e_iret tq_105 rfl
set_option maxRecDepth 20000 in
theorem m_Desk_heard_11_eq (x1 : Int) (w2 : pz_V) (M : pz_M) : m_Desk_heard_11 x1 w2 M = bI (m_Reckoner_firstOfMost 52 9 M) fun r2 M1 => if x1 = 0 then some (some (pzI r2), M1) else (grd (0 ≤ r2 ∧ r2 < 9) (some (some (pzI (M1 52 ((r2).toNat))), M1))) := by
  show pzr 4 105 (11, [pzR 0, pzI x1, w2], [], M) = _
  refine (pz_goes tq_105 4 (σ' := (20, [pzR 0, pzI x1, w2], [pzI 9, pzR 52], M)) rfl).trans ?_
  refine (e_callI (as := [pzR 52, pzI 9, pzN, pzN]) (rest := []) (d' := 3) tq_44 rfl rfl rfl rfl rfl tq_105 rfl).trans (e_bI rfl fun r2 M1 => ?_)
  refine (pz_goes tq_105 2 (σ' := (25, [pzR 0, pzI x1, pzI r2], [pzI x1], M1)) rfl).trans ?_
  refine (e_if_ne tq_105 rfl).trans (e_ite ?_ ?_)
  · refine (pz_goes tq_105 2 (σ' := (41, [pzR 0, pzI x1, pzI r2], [pzI r2], M1)) rfl).trans ?_
    exact e_iret tq_105 rfl
  · refine (pz_goes tq_105 4 (σ' := (40, [pzR 0, pzI x1, pzI r2], [pzI r2, pzR 52], M1)) rfl).trans ?_
    refine (e_iald (n := 9) rfl rfl tq_105 rfl).trans (e_grd ?_)
    exact e_iret tq_105 rfl
/-! PeacockDesk.longest()I -/
set_option maxRecDepth 20000 in
theorem m_Desk_longest_eq (M : pz_M) : m_Desk_longest M = m_Desk_longest_7 (-2) (-1) 0 M := by
  show pzr 3 106 (0, [pzR 0, pzN, pzN, pzN], [], M) = _
  refine (pz_goes tq_106 6 (σ' := (7, [pzR 0, pzI (-2), pzI (-1), pzI 0], [], M)) rfl).trans ?_
  rfl
set_option maxRecDepth 20000 in
theorem m_Desk_longest_7_eq (x1 : Int) (x2 : Int) (x3 : Int) (M : pz_M) : m_Desk_longest_7 x1 x2 x3 M = if x3 < (M 49 4) then (grd (0 ≤ x3 ∧ x3 < 24) (if (M 50 ((x3).toNat)) = (10 : Int) then (m_Desk_longest_7 x1 x2 (ia x3 (1)) M) else (grd (0 ≤ x3 ∧ x3 < 24) (if x2 < (M 51 ((x3).toNat)) then (grd (0 ≤ x3 ∧ x3 < 24) (m_Desk_longest_7 x3 (M 51 ((x3).toNat)) (ia x3 (1)) M)) else (m_Desk_longest_7 x1 x2 (ia x3 (1)) M))))) else (some (some (pzI x1), M)) := by
  show pzr 3 106 (7, [pzR 0, pzI x1, pzI x2, pzI x3], [], M) = _
  refine (pz_goes tq_106 4 (σ' := (15, [pzR 0, pzI x1, pzI x2, pzI x3], [pzI (M 49 4), pzI x3], M)) rfl).trans ?_
  refine (e_icmp_ge tq_106 rfl).trans (e_ite ?_ ?_)
  · refine (pz_goes tq_106 4 (σ' := (26, [pzR 0, pzI x1, pzI x2, pzI x3], [pzI x3, pzR 50], M)) rfl).trans ?_
    refine (e_iald (n := 24) rfl rfl tq_106 rfl).trans (e_grd ?_)
    refine (pz_goes tq_106 1 (σ' := (29, [pzR 0, pzI x1, pzI x2, pzI x3], [pzI 10, pzI (M 50 ((x3).toNat))], M)) rfl).trans ?_
    refine (e_icmp_eq tq_106 rfl).trans (e_ite ?_ ?_)
    · refine (pz_goes tq_106 2 (σ' := (7, [pzR 0, pzI x1, pzI x2, pzI (ia x3 (1))], [], M)) rfl).trans ?_
      rfl
    · refine (pz_goes tq_106 4 (σ' := (40, [pzR 0, pzI x1, pzI x2, pzI x3], [pzI x3, pzR 51], M)) rfl).trans ?_
      refine (e_iald (n := 24) rfl rfl tq_106 rfl).trans (e_grd ?_)
      refine (pz_goes tq_106 1 (σ' := (42, [pzR 0, pzI x1, pzI x2, pzI x3], [pzI x2, pzI (M 51 ((x3).toNat))], M)) rfl).trans ?_
      refine (e_icmp_le tq_106 rfl).trans (e_ite ?_ ?_)
      · refine (pz_goes tq_106 6 (σ' := (55, [pzR 0, pzI x3, pzI x2, pzI x3], [pzI x3, pzR 51], M)) rfl).trans ?_
        refine (e_iald (n := 24) rfl rfl tq_106 rfl).trans (e_grd ?_)
        refine (pz_goes tq_106 3 (σ' := (7, [pzR 0, pzI x3, pzI (M 51 ((x3).toNat)), pzI (ia x3 (1))], [], M)) rfl).trans ?_
        rfl
      · refine (pz_goes tq_106 2 (σ' := (7, [pzR 0, pzI x1, pzI x2, pzI (ia x3 (1))], [], M)) rfl).trans ?_
        rfl
  · refine (pz_goes tq_106 1 (σ' := (64, [pzR 0, pzI x1, pzI x2, pzI x3], [pzI x1], M)) rfl).trans ?_
    exact e_iret tq_106 rfl
/-! PeacockDesk.ofSubject(II)I -/
set_option maxRecDepth 20000 in
theorem m_Desk_ofSubject_eq (x1 : Int) (x2 : Int) (M : pz_M) : m_Desk_ofSubject x1 x2 M = if x1 < 0 then some (some (pzI (-1)), M) else (if x1 < (16 : Int) then (if x2 = 0 then (m_Desk_ofSubject_26 x1 x2 0 0 M) else (if x2 = (1 : Int) then (m_Desk_ofSubject_26 x1 x2 0 0 M) else (some (some (pzI (-1)), M)))) else (some (some (pzI (-1)), M))) := by
  show pzr 4 107 (0, [pzR 0, pzI x1, pzI x2, pzN, pzN], [], M) = _
  refine (pz_goes tq_107 1 (σ' := (1, [pzR 0, pzI x1, pzI x2, pzN, pzN], [pzI x1], M)) rfl).trans ?_
  refine (e_if_lt tq_107 rfl).trans (e_ite ?_ ?_)
  · refine (pz_goes tq_107 1 (σ' := (20, [pzR 0, pzI x1, pzI x2, pzN, pzN], [pzI (-1)], M)) rfl).trans ?_
    exact e_iret tq_107 rfl
  · refine (pz_goes tq_107 2 (σ' := (7, [pzR 0, pzI x1, pzI x2, pzN, pzN], [pzI 16, pzI x1], M)) rfl).trans ?_
    refine (e_icmp_ge tq_107 rfl).trans (e_ite ?_ ?_)
    · refine (pz_goes tq_107 1 (σ' := (11, [pzR 0, pzI x1, pzI x2, pzN, pzN], [pzI x2], M)) rfl).trans ?_
      refine (e_if_eq tq_107 rfl).trans (e_ite ?_ ?_)
      · refine (pz_goes tq_107 4 (σ' := (26, [pzR 0, pzI x1, pzI x2, pzI 0, pzI 0], [], M)) rfl).trans ?_
        rfl
      · refine (pz_goes tq_107 2 (σ' := (16, [pzR 0, pzI x1, pzI x2, pzN, pzN], [pzI 1, pzI x2], M)) rfl).trans ?_
        refine (e_icmp_eq tq_107 rfl).trans (e_ite ?_ ?_)
        · refine (pz_goes tq_107 4 (σ' := (26, [pzR 0, pzI x1, pzI x2, pzI 0, pzI 0], [], M)) rfl).trans ?_
          rfl
        · refine (pz_goes tq_107 1 (σ' := (20, [pzR 0, pzI x1, pzI x2, pzN, pzN], [pzI (-1)], M)) rfl).trans ?_
          exact e_iret tq_107 rfl
    · refine (pz_goes tq_107 1 (σ' := (20, [pzR 0, pzI x1, pzI x2, pzN, pzN], [pzI (-1)], M)) rfl).trans ?_
      exact e_iret tq_107 rfl
set_option maxRecDepth 20000 in
theorem m_Desk_ofSubject_26_eq (x1 : Int) (x2 : Int) (x3 : Int) (x4 : Int) (M : pz_M) : m_Desk_ofSubject_26 x1 x2 x3 x4 M = if x4 < (M 49 4) then (grd (pz_cls ((M 0 0).toNat) = 1) (grd (pz_cls (pz_ref ((M 0 0).toNat) 0) = 20 ∧ 0 ≤ x4 ∧ x4 < pz_len (pz_ref ((M 0 0).toNat) 0)) (if (M (pz_ref ((M 0 0).toNat) 0) ((x4).toNat)) = x1 then (if x2 = 0 then (m_Desk_ofSubject_26 x1 x2 (ia x3 1) (ia x4 (1)) M) else (bI (m_Terrace_openWeight 49 x4 ((M 0 0).toNat) M) fun r2 M1 => m_Desk_ofSubject_26 x1 x2 (ia x3 r2) (ia x4 (1)) M1)) else (m_Desk_ofSubject_26 x1 x2 x3 (ia x4 (1)) M)))) else (some (some (pzI x3), M)) := by
  show pzr 4 107 (26, [pzR 0, pzI x1, pzI x2, pzI x3, pzI x4], [], M) = _
  refine (pz_goes tq_107 4 (σ' := (35, [pzR 0, pzI x1, pzI x2, pzI x3, pzI x4], [pzI (M 49 4), pzI x4], M)) rfl).trans ?_
  refine (e_icmp_ge tq_107 rfl).trans (e_ite ?_ ?_)
  · refine (pz_goes tq_107 2 (σ' := (42, [pzR 0, pzI x1, pzI x2, pzI x3, pzI x4], [pzR ((M 0 0).toNat)], M)) rfl).trans ?_
    refine (e_getRU tq_107 rfl).trans (e_grd ?_)
    refine (pz_goes tq_107 1 (σ' := (47, [pzR 0, pzI x1, pzI x2, pzI x3, pzI x4], [pzI x4, pzR (pz_ref ((M 0 0).toNat) 0)], M)) rfl).trans ?_
    refine (e_iaU tq_107 rfl).trans (e_grd ?_)
    refine (pz_goes tq_107 1 (σ' := (49, [pzR 0, pzI x1, pzI x2, pzI x3, pzI x4], [pzI x1, pzI (M (pz_ref ((M 0 0).toNat) 0) ((x4).toNat))], M)) rfl).trans ?_
    refine (e_icmp_ne tq_107 rfl).trans (e_ite ?_ ?_)
    · refine (pz_goes tq_107 2 (σ' := (54, [pzR 0, pzI x1, pzI x2, pzI x3, pzI x4], [pzI x2, pzI x3], M)) rfl).trans ?_
      refine (e_if_ne tq_107 rfl).trans (e_ite ?_ ?_)
      · refine (pz_goes tq_107 6 (σ' := (26, [pzR 0, pzI x1, pzI x2, pzI (ia x3 1), pzI (ia x4 (1))], [], M)) rfl).trans ?_
        rfl
      · refine (pz_goes tq_107 5 (σ' := (71, [pzR 0, pzI x1, pzI x2, pzI x3, pzI x4], [pzR ((M 0 0).toNat), pzI x4, pzR 49, pzI x3], M)) rfl).trans ?_
        refine (e_callI (as := [pzR 49, pzI x4, pzR ((M 0 0).toNat)]) (rest := [pzI x3]) (d' := 3) tq_82 rfl rfl rfl rfl rfl tq_107 rfl).trans (e_bI rfl fun r2 M1 => ?_)
        refine (pz_goes tq_107 4 (σ' := (26, [pzR 0, pzI x1, pzI x2, pzI (ia x3 r2), pzI (ia x4 (1))], [], M1)) rfl).trans ?_
        rfl
    · refine (pz_goes tq_107 2 (σ' := (26, [pzR 0, pzI x1, pzI x2, pzI x3, pzI (ia x4 (1))], [], M)) rfl).trans ?_
      rfl
  · refine (pz_goes tq_107 1 (σ' := (83, [pzR 0, pzI x1, pzI x2, pzI x3, pzI x4], [pzI x3], M)) rfl).trans ?_
    exact e_iret tq_107 rfl
/-! PeacockDesk.numbers(I)I -/
set_option maxRecDepth 20000 in
theorem m_Desk_numbers_eq (x1 : Int) (M : pz_M) : m_Desk_numbers x1 M = if x1 = 0 then (bI (m_Terrace_spread 49 M) fun r2 M1 => some (some (pzI r2), M1)) else (if x1 = 1 then (grd (pz_cls ((M 0 0).toNat) = 1) (bI (m_Docket_alike ((M 0 0).toNat) M) fun r4 M3 => some (some (pzI r4), M3))) else (some (some (pzI (-1)), M))) := by
  show pzr 5 108 (0, [pzR 0, pzI x1], [], M) = _
  refine (pz_goes tq_108 1 (σ' := (1, [pzR 0, pzI x1], [pzI x1], M)) rfl).trans ?_
  refine (e_sw tq_108 rfl).trans ?_
  refine e_sel.trans (e_ite ?_ ?_)
  · refine (pz_goes tq_108 2 (σ' := (32, [pzR 0, pzI x1], [pzR 49], M)) rfl).trans ?_
    refine (e_callI (as := [pzR 49, pzN, pzN, pzN]) (rest := []) (d' := 4) tq_84 rfl rfl rfl rfl rfl tq_108 rfl).trans (e_bI rfl fun r2 M1 => ?_)
    exact e_iret tq_108 rfl
  refine e_sel.trans (e_ite ?_ ?_)
  · refine (pz_goes tq_108 2 (σ' := (40, [pzR 0, pzI x1], [pzR ((M 0 0).toNat)], M)) rfl).trans ?_
    refine e_gcall tq_17 (e_cokU rfl rfl) tq_108 rfl (fun hc => ?_)
    refine (e_callI (as := [pzR ((M 0 0).toNat), pzN, pzN, pzN]) (rest := []) (d' := 3) tq_17 rfl hc rfl rfl rfl tq_108 rfl).trans (e_bI rfl fun r4 M3 => ?_)
    exact e_iret tq_108 rfl
  refine (show pzr 5 108 (pz_sel [] 44 x1, [pzR 0, pzI x1], [], M) = pzr 5 108 (44, [pzR 0, pzI x1], [], M) from rfl).trans ?_
  refine (pz_goes tq_108 1 (σ' := (45, [pzR 0, pzI x1], [pzI (-1)], M)) rfl).trans ?_
  exact e_iret tq_108 rfl
/-! PeacockDesk.fair(I)I -/
set_option maxRecDepth 20000 in
theorem m_Desk_fair_eq (x1 : Int) (M : pz_M) : m_Desk_fair x1 M = if x1 < (1 : Int) then some (some (pzI (-1)), M) else (if (4 : Int) < x1 then some (some (pzI (-1)), M) else (bV (m_Sharing_clear M) fun M1 => m_Desk_fair_21 x1 0 M1)) := by
  show pzr 31 109 (0, [pzR 0, pzI x1, pzN], [], M) = _
  refine (pz_goes tq_109 2 (σ' := (2, [pzR 0, pzI x1, pzN], [pzI 1, pzI x1], M)) rfl).trans ?_
  refine (e_icmp_lt tq_109 rfl).trans (e_ite ?_ ?_)
  · refine (pz_goes tq_109 1 (σ' := (11, [pzR 0, pzI x1, pzN], [pzI (-1)], M)) rfl).trans ?_
    exact e_iret tq_109 rfl
  · refine (pz_goes tq_109 2 (σ' := (7, [pzR 0, pzI x1, pzN], [pzI 4, pzI x1], M)) rfl).trans ?_
    refine (e_icmp_le tq_109 rfl).trans (e_ite ?_ ?_)
    · refine (pz_goes tq_109 1 (σ' := (11, [pzR 0, pzI x1, pzN], [pzI (-1)], M)) rfl).trans ?_
      exact e_iret tq_109 rfl
    · refine (pz_goes tq_109 2 (σ' := (16, [pzR 0, pzI x1, pzN], [pzR 35], M)) rfl).trans ?_
      refine (e_callV (as := [pzR 35]) (rest := []) (d' := 3) tq_53 rfl rfl rfl rfl rfl tq_109 rfl).trans (e_bV rfl fun M1 => ?_)
      refine (pz_goes tq_109 2 (σ' := (21, [pzR 0, pzI x1, pzI 0], [], M1)) rfl).trans ?_
      rfl
set_option maxRecDepth 20000 in
theorem m_Desk_fair_21_eq (x1 : Int) (x2 : Int) (M : pz_M) : m_Desk_fair_21 x1 x2 M = if x2 < (M 49 4) then (grd (0 ≤ x2 ∧ x2 < 24) (if (M 50 ((x2).toNat)) = (10 : Int) then (m_Desk_fair_21 x1 (ia x2 (1)) M) else (grd (pz_cls ((M 0 0).toNat) = 1) (grd (pz_cls (pz_ref ((M 0 0).toNat) 1) = 20 ∧ 0 ≤ x2 ∧ x2 < pz_len (pz_ref ((M 0 0).toNat) 1)) (bI (m_Sharing_add (M (pz_ref ((M 0 0).toNat) 1) ((x2).toNat)) M) fun r2 M1 => if r2 = 0 then some (some (pzI (-4)), M1) else (m_Desk_fair_21 x1 (ia x2 (1)) M1)))))) else (bI (m_Sharing_leastGreatest x1 M) fun r4 M3 => some (some (pzI r4), M3)) := by
  show pzr 31 109 (21, [pzR 0, pzI x1, pzI x2], [], M) = _
  refine (pz_goes tq_109 4 (σ' := (29, [pzR 0, pzI x1, pzI x2], [pzI (M 49 4), pzI x2], M)) rfl).trans ?_
  refine (e_icmp_ge tq_109 rfl).trans (e_ite ?_ ?_)
  · refine (pz_goes tq_109 4 (σ' := (40, [pzR 0, pzI x1, pzI x2], [pzI x2, pzR 50], M)) rfl).trans ?_
    refine (e_iald (n := 24) rfl rfl tq_109 rfl).trans (e_grd ?_)
    refine (pz_goes tq_109 1 (σ' := (43, [pzR 0, pzI x1, pzI x2], [pzI 10, pzI (M 50 ((x2).toNat))], M)) rfl).trans ?_
    refine (e_icmp_eq tq_109 rfl).trans (e_ite ?_ ?_)
    · refine (pz_goes tq_109 2 (σ' := (21, [pzR 0, pzI x1, pzI (ia x2 (1))], [], M)) rfl).trans ?_
      rfl
    · refine (pz_goes tq_109 4 (σ' := (54, [pzR 0, pzI x1, pzI x2], [pzR ((M 0 0).toNat), pzR 35], M)) rfl).trans ?_
      refine (e_getRU tq_109 rfl).trans (e_grd ?_)
      refine (pz_goes tq_109 1 (σ' := (58, [pzR 0, pzI x1, pzI x2], [pzI x2, pzR (pz_ref ((M 0 0).toNat) 1), pzR 35], M)) rfl).trans ?_
      refine (e_iaU tq_109 rfl).trans (e_grd ?_)
      refine (e_callI (as := [pzR 35, pzI (M (pz_ref ((M 0 0).toNat) 1) ((x2).toNat))]) (rest := []) (d' := 3) tq_54 rfl rfl rfl rfl rfl tq_109 rfl).trans (e_bI rfl fun r2 M1 => ?_)
      refine (e_if_ne tq_109 rfl).trans (e_ite ?_ ?_)
      · refine (pz_goes tq_109 1 (σ' := (67, [pzR 0, pzI x1, pzI x2], [pzI (-4)], M1)) rfl).trans ?_
        exact e_iret tq_109 rfl
      · refine (pz_goes tq_109 2 (σ' := (21, [pzR 0, pzI x1, pzI (ia x2 (1))], [], M1)) rfl).trans ?_
        rfl
  · refine (pz_goes tq_109 3 (σ' := (79, [pzR 0, pzI x1, pzI x2], [pzI x1, pzR 35], M)) rfl).trans ?_
    refine (e_callI (as := [pzR 35, pzI x1, pzN, pzN]) (rest := []) (d' := 30) tq_55 rfl rfl rfl rfl rfl tq_109 rfl).trans (e_bI rfl fun r4 M3 => ?_)
    exact e_iret tq_109 rfl
/-! PeacockDesk.seats(IIZI)I -/
set_option maxRecDepth 20000 in
theorem m_Desk_seats_eq (x1 : Int) (x2 : Int) (x3 : Int) (x4 : Int) (M : pz_M) : m_Desk_seats x1 x2 x3 x4 M = if x2 < (1 : Int) then some (some (pzI (-1)), M) else (if (60 : Int) < x2 then some (some (pzI (-1)), M) else (if x4 < 0 then some (some (pzI (-1)), M) else (if x4 < x1 then (bI (m_Tape_take x1 2 8 M) fun r2 M1 => if r2 = 0 then some (some (pzI (-1)), M1) else (bI (m_Parties_load x1 M1) fun r4 M3 => if r4 = 0 then some (some (pzI (-2)), M3) else (if x3 = 0 then (bV (m_Parties_shareByRests x2 r4 M3) fun M5 => grd (0 ≤ x4 ∧ x4 < 8) (some (some (pzI (M5 41 ((x4).toNat))), M5))) else (bV (m_Parties_shareByHighest x2 M3) fun M6 => grd (0 ≤ x4 ∧ x4 < 8) (some (some (pzI (M6 41 ((x4).toNat))), M6)))))) else (some (some (pzI (-1)), M))))) := by
  show pzr 5 110 (0, [pzR 0, pzI x1, pzI x2, pzI x3, pzI x4, pzN], [], M) = _
  refine (pz_goes tq_110 2 (σ' := (2, [pzR 0, pzI x1, pzI x2, pzI x3, pzI x4, pzN], [pzI 1, pzI x2], M)) rfl).trans ?_
  refine (e_icmp_lt tq_110 rfl).trans (e_ite ?_ ?_)
  · refine (pz_goes tq_110 1 (σ' := (37, [pzR 0, pzI x1, pzI x2, pzI x3, pzI x4, pzN], [pzI (-1)], M)) rfl).trans ?_
    exact e_iret tq_110 rfl
  · refine (pz_goes tq_110 2 (σ' := (8, [pzR 0, pzI x1, pzI x2, pzI x3, pzI x4, pzN], [pzI 60, pzI x2], M)) rfl).trans ?_
    refine (e_icmp_gt tq_110 rfl).trans (e_ite ?_ ?_)
    · refine (pz_goes tq_110 1 (σ' := (37, [pzR 0, pzI x1, pzI x2, pzI x3, pzI x4, pzN], [pzI (-1)], M)) rfl).trans ?_
      exact e_iret tq_110 rfl
    · refine (pz_goes tq_110 1 (σ' := (13, [pzR 0, pzI x1, pzI x2, pzI x3, pzI x4, pzN], [pzI x4], M)) rfl).trans ?_
      refine (e_if_lt tq_110 rfl).trans (e_ite ?_ ?_)
      · refine (pz_goes tq_110 1 (σ' := (37, [pzR 0, pzI x1, pzI x2, pzI x3, pzI x4, pzN], [pzI (-1)], M)) rfl).trans ?_
        exact e_iret tq_110 rfl
      · refine (pz_goes tq_110 2 (σ' := (19, [pzR 0, pzI x1, pzI x2, pzI x3, pzI x4, pzN], [pzI x1, pzI x4], M)) rfl).trans ?_
        refine (e_icmp_ge tq_110 rfl).trans (e_ite ?_ ?_)
        · refine (pz_goes tq_110 5 (σ' := (30, [pzR 0, pzI x1, pzI x2, pzI x3, pzI x4, pzN], [pzI 8, pzI 2, pzI x1, pzR 29], M)) rfl).trans ?_
          refine (e_callI (as := [pzR 29, pzI x1, pzI 2, pzI 8]) (rest := []) (d' := 3) tq_63 rfl rfl rfl rfl rfl tq_110 rfl).trans (e_bI rfl fun r2 M1 => ?_)
          refine (e_if_ne tq_110 rfl).trans (e_ite ?_ ?_)
          · refine (pz_goes tq_110 1 (σ' := (37, [pzR 0, pzI x1, pzI x2, pzI x3, pzI x4, pzN], [pzI (-1)], M1)) rfl).trans ?_
            exact e_iret tq_110 rfl
          · refine (pz_goes tq_110 5 (σ' := (47, [pzR 0, pzI x1, pzI x2, pzI x3, pzI x4, pzN], [pzI x1, pzR 29, pzR 38], M1)) rfl).trans ?_
            refine (e_callI (as := [pzR 38, pzR 29, pzI x1, pzN, pzN]) (rest := []) (d' := 4) tq_32 rfl rfl rfl rfl rfl tq_110 rfl).trans (e_bI rfl fun r4 M3 => ?_)
            refine (pz_goes tq_110 2 (σ' := (54, [pzR 0, pzI x1, pzI x2, pzI x3, pzI x4, pzI r4], [pzI r4], M3)) rfl).trans ?_
            refine (e_if_ne tq_110 rfl).trans (e_ite ?_ ?_)
            · refine (pz_goes tq_110 1 (σ' := (59, [pzR 0, pzI x1, pzI x2, pzI x3, pzI x4, pzI r4], [pzI (-2)], M3)) rfl).trans ?_
              exact e_iret tq_110 rfl
            · refine (pz_goes tq_110 1 (σ' := (61, [pzR 0, pzI x1, pzI x2, pzI x3, pzI x4, pzI r4], [pzI x3], M3)) rfl).trans ?_
              refine (e_if_eq tq_110 rfl).trans (e_ite ?_ ?_)
              · refine (pz_goes tq_110 4 (σ' := (82, [pzR 0, pzI x1, pzI x2, pzI x3, pzI x4, pzI r4], [pzI r4, pzI x2, pzR 38], M3)) rfl).trans ?_
                refine (e_callV (as := [pzR 38, pzI x2, pzI r4, pzN, pzN, pzN]) (rest := []) (d' := 4) tq_33 rfl rfl rfl rfl rfl tq_110 rfl).trans (e_bV rfl fun M5 => ?_)
                refine (pz_goes tq_110 4 (σ' := (94, [pzR 0, pzI x1, pzI x2, pzI x3, pzI x4, pzI r4], [pzI x4, pzR 41], M5)) rfl).trans ?_
                refine (e_iald (n := 8) rfl rfl tq_110 rfl).trans (e_grd ?_)
                exact e_iret tq_110 rfl
              · refine (pz_goes tq_110 3 (σ' := (69, [pzR 0, pzI x1, pzI x2, pzI x3, pzI x4, pzI r4], [pzI x2, pzR 38], M3)) rfl).trans ?_
                refine (e_callV (as := [pzR 38, pzI x2, pzN, pzN, pzN]) (rest := []) (d' := 3) tq_34 rfl rfl rfl rfl rfl tq_110 rfl).trans (e_bV rfl fun M6 => ?_)
                refine (pz_goes tq_110 5 (σ' := (94, [pzR 0, pzI x1, pzI x2, pzI x3, pzI x4, pzI r4], [pzI x4, pzR 41], M6)) rfl).trans ?_
                refine (e_iald (n := 8) rfl rfl tq_110 rfl).trans (e_grd ?_)
                exact e_iret tq_110 rfl
        · refine (pz_goes tq_110 1 (σ' := (37, [pzR 0, pzI x1, pzI x2, pzI x3, pzI x4, pzN], [pzI (-1)], M)) rfl).trans ?_
          exact e_iret tq_110 rfl
/-! PeacockDesk.power(III)I -/
set_option maxRecDepth 20000 in
theorem m_Desk_power_eq (x1 : Int) (x2 : Int) (x3 : Int) (M : pz_M) : m_Desk_power x1 x2 x3 M = if x3 < 0 then (m_Desk_power_9 x1 x2 x3 pzN M) else (if x3 < x1 then (m_Desk_power_15 x1 x2 x3 pzN M) else (m_Desk_power_9 x1 x2 x3 pzN M)) := by
  show pzr 5 111 (0, [pzR 0, pzI x1, pzI x2, pzI x3, pzN], [], M) = _
  refine (pz_goes tq_111 1 (σ' := (1, [pzR 0, pzI x1, pzI x2, pzI x3, pzN], [pzI x3], M)) rfl).trans ?_
  refine (e_if_lt tq_111 rfl).trans (e_ite ?_ ?_)
  · rfl
  · refine (pz_goes tq_111 2 (σ' := (6, [pzR 0, pzI x1, pzI x2, pzI x3, pzN], [pzI x1, pzI x3], M)) rfl).trans ?_
    refine (e_icmp_lt tq_111 rfl).trans (e_ite ?_ ?_)
    · rfl
    · rfl
set_option maxRecDepth 20000 in
theorem m_Desk_power_9_eq (x1 : Int) (x2 : Int) (x3 : Int) (w4 : pz_V) (M : pz_M) : m_Desk_power_9 x1 x2 x3 w4 M = if x3 = (100 : Int) then (m_Desk_power_15 x1 x2 x3 w4 M) else (m_Desk_power_20 x1 x2 x3 w4 0 M) := by
  show pzr 5 111 (9, [pzR 0, pzI x1, pzI x2, pzI x3, w4], [], M) = _
  refine (pz_goes tq_111 2 (σ' := (12, [pzR 0, pzI x1, pzI x2, pzI x3, w4], [pzI 100, pzI x3], M)) rfl).trans ?_
  refine (e_icmp_ne tq_111 rfl).trans (e_ite ?_ ?_)
  · rfl
  · refine (pz_goes tq_111 1 (σ' := (20, [pzR 0, pzI x1, pzI x2, pzI x3, w4], [pzI 0], M)) rfl).trans ?_
    rfl
set_option maxRecDepth 20000 in
theorem m_Desk_power_15_eq (x1 : Int) (x2 : Int) (x3 : Int) (w4 : pz_V) (M : pz_M) : m_Desk_power_15 x1 x2 x3 w4 M = m_Desk_power_20 x1 x2 x3 w4 1 M := by
  show pzr 5 111 (15, [pzR 0, pzI x1, pzI x2, pzI x3, w4], [], M) = _
  refine (pz_goes tq_111 2 (σ' := (20, [pzR 0, pzI x1, pzI x2, pzI x3, w4], [pzI 1], M)) rfl).trans ?_
  rfl
set_option maxRecDepth 20000 in
theorem m_Desk_power_20_eq (x1 : Int) (x2 : Int) (x3 : Int) (w4 : pz_V) (s0 : Int) (M : pz_M) : m_Desk_power_20 x1 x2 x3 w4 s0 M = if x2 < (1 : Int) then some (some (pzI (-1)), M) else (if (2040 : Int) < x2 then some (some (pzI (-1)), M) else (if s0 = 0 then some (some (pzI (-1)), M) else (bI (m_Tape_take x1 2 8 M) fun r2 M1 => if r2 = 0 then some (some (pzI (-1)), M1) else (bI (m_Parties_load x1 M1) fun r4 M3 => bV (m_Parties_countOrders x2 M3) fun M5 => if x3 = (100 : Int) then (bI (m_Reckoner_firstOfMost 41 x1 M5) fun r7 M6 => some (some (pzI r7), M6)) else (grd (0 ≤ x3 ∧ x3 < 8) (some (some (pzI (M5 41 ((x3).toNat))), M5))))))) := by
  show pzr 5 111 (20, [pzR 0, pzI x1, pzI x2, pzI x3, w4], [pzI s0], M) = _
  refine (pz_goes tq_111 3 (σ' := (24, [pzR 0, pzI x1, pzI x2, pzI x3, pzI s0], [pzI 1, pzI x2], M)) rfl).trans ?_
  refine (e_icmp_lt tq_111 rfl).trans (e_ite ?_ ?_)
  · refine (pz_goes tq_111 1 (σ' := (54, [pzR 0, pzI x1, pzI x2, pzI x3, pzI s0], [pzI (-1)], M)) rfl).trans ?_
    exact e_iret tq_111 rfl
  · refine (pz_goes tq_111 2 (σ' := (31, [pzR 0, pzI x1, pzI x2, pzI x3, pzI s0], [pzI 2040, pzI x2], M)) rfl).trans ?_
    refine (e_icmp_gt tq_111 rfl).trans (e_ite ?_ ?_)
    · refine (pz_goes tq_111 1 (σ' := (54, [pzR 0, pzI x1, pzI x2, pzI x3, pzI s0], [pzI (-1)], M)) rfl).trans ?_
      exact e_iret tq_111 rfl
    · refine (pz_goes tq_111 1 (σ' := (36, [pzR 0, pzI x1, pzI x2, pzI x3, pzI s0], [pzI s0], M)) rfl).trans ?_
      refine (e_if_eq tq_111 rfl).trans (e_ite ?_ ?_)
      · refine (pz_goes tq_111 1 (σ' := (54, [pzR 0, pzI x1, pzI x2, pzI x3, pzI s0], [pzI (-1)], M)) rfl).trans ?_
        exact e_iret tq_111 rfl
      · refine (pz_goes tq_111 5 (σ' := (47, [pzR 0, pzI x1, pzI x2, pzI x3, pzI s0], [pzI 8, pzI 2, pzI x1, pzR 29], M)) rfl).trans ?_
        refine (e_callI (as := [pzR 29, pzI x1, pzI 2, pzI 8]) (rest := []) (d' := 3) tq_63 rfl rfl rfl rfl rfl tq_111 rfl).trans (e_bI rfl fun r2 M1 => ?_)
        refine (e_if_ne tq_111 rfl).trans (e_ite ?_ ?_)
        · refine (pz_goes tq_111 1 (σ' := (54, [pzR 0, pzI x1, pzI x2, pzI x3, pzI s0], [pzI (-1)], M1)) rfl).trans ?_
          exact e_iret tq_111 rfl
        · refine (pz_goes tq_111 5 (σ' := (64, [pzR 0, pzI x1, pzI x2, pzI x3, pzI s0], [pzI x1, pzR 29, pzR 38], M1)) rfl).trans ?_
          refine (e_callI (as := [pzR 38, pzR 29, pzI x1, pzN, pzN]) (rest := []) (d' := 4) tq_32 rfl rfl rfl rfl rfl tq_111 rfl).trans (e_bI rfl fun r4 M3 => ?_)
          refine (pz_goes tq_111 4 (σ' := (73, [pzR 0, pzI x1, pzI x2, pzI x3, pzI s0], [pzI x2, pzR 38], M3)) rfl).trans ?_
          refine (e_callV (as := [pzR 38, pzI x2, pzN, pzN, pzN, pzN, pzN]) (rest := []) (d' := 4) tq_35 rfl rfl rfl rfl rfl tq_111 rfl).trans (e_bV rfl fun M5 => ?_)
          refine (pz_goes tq_111 2 (σ' := (79, [pzR 0, pzI x1, pzI x2, pzI x3, pzI s0], [pzI 100, pzI x3], M5)) rfl).trans ?_
          refine (e_icmp_ne tq_111 rfl).trans (e_ite ?_ ?_)
          · refine (pz_goes tq_111 4 (σ' := (90, [pzR 0, pzI x1, pzI x2, pzI x3, pzI s0], [pzI x1, pzR 41], M5)) rfl).trans ?_
            refine (e_callI (as := [pzR 41, pzI x1, pzN, pzN]) (rest := []) (d' := 3) tq_44 rfl rfl rfl rfl rfl tq_111 rfl).trans (e_bI rfl fun r7 M6 => ?_)
            refine (pz_goes tq_111 1 (σ' := (105, [pzR 0, pzI x1, pzI x2, pzI x3, pzI s0], [pzI r7], M6)) rfl).trans ?_
            exact e_iret tq_111 rfl
          · refine (pz_goes tq_111 4 (σ' := (104, [pzR 0, pzI x1, pzI x2, pzI x3, pzI s0], [pzI x3, pzR 41], M5)) rfl).trans ?_
            refine (e_iald (n := 8) rfl rfl tq_111 rfl).trans (e_grd ?_)
            exact e_iret tq_111 rfl
/-! PeacockDesk.quills(II)I -/
set_option maxRecDepth 20000 in
theorem m_Desk_quills_eq (x1 : Int) (x2 : Int) (M : pz_M) : m_Desk_quills x1 x2 M = if x2 < 0 then some (some (pzI (-1)), M) else (if (2 : Int) < x2 then some (some (pzI (-1)), M) else (bI (m_Tape_take x1 2 12 M) fun r2 M1 => if r2 = 0 then some (some (pzI (-1)), M1) else (m_Desk_quills_27 x1 x2 0 M1))) := by
  show pzr 5 112 (0, [pzR 0, pzI x1, pzI x2, pzN], [], M) = _
  refine (pz_goes tq_112 1 (σ' := (1, [pzR 0, pzI x1, pzI x2, pzN], [pzI x2], M)) rfl).trans ?_
  refine (e_if_lt tq_112 rfl).trans (e_ite ?_ ?_)
  · refine (pz_goes tq_112 1 (σ' := (24, [pzR 0, pzI x1, pzI x2, pzN], [pzI (-1)], M)) rfl).trans ?_
    exact e_iret tq_112 rfl
  · refine (pz_goes tq_112 2 (σ' := (6, [pzR 0, pzI x1, pzI x2, pzN], [pzI 2, pzI x2], M)) rfl).trans ?_
    refine (e_icmp_gt tq_112 rfl).trans (e_ite ?_ ?_)
    · refine (pz_goes tq_112 1 (σ' := (24, [pzR 0, pzI x1, pzI x2, pzN], [pzI (-1)], M)) rfl).trans ?_
      exact e_iret tq_112 rfl
    · refine (pz_goes tq_112 5 (σ' := (17, [pzR 0, pzI x1, pzI x2, pzN], [pzI 12, pzI 2, pzI x1, pzR 29], M)) rfl).trans ?_
      refine (e_callI (as := [pzR 29, pzI x1, pzI 2, pzI 12]) (rest := []) (d' := 3) tq_63 rfl rfl rfl rfl rfl tq_112 rfl).trans (e_bI rfl fun r2 M1 => ?_)
      refine (e_if_ne tq_112 rfl).trans (e_ite ?_ ?_)
      · refine (pz_goes tq_112 1 (σ' := (24, [pzR 0, pzI x1, pzI x2, pzN], [pzI (-1)], M1)) rfl).trans ?_
        exact e_iret tq_112 rfl
      · refine (pz_goes tq_112 2 (σ' := (27, [pzR 0, pzI x1, pzI x2, pzI 0], [], M1)) rfl).trans ?_
        rfl
set_option maxRecDepth 20000 in
theorem m_Desk_quills_27_eq (x1 : Int) (x2 : Int) (x3 : Int) (M : pz_M) : m_Desk_quills_27 x1 x2 x3 M = if x3 < x1 then (bI (m_Tape_byteAt x3 M) fun r2 M1 => if (9 : Int) < r2 then some (some (pzI (-3)), M1) else (m_Desk_quills_27 x1 x2 (ia x3 (1)) M1)) else (bI (m_Reckoner_quillRest x1 M) fun r4 M3 => if x2 = 0 then (if r4 = 0 then some (some (pzI 1), M3) else (some (some (pzI 0), M3))) else (if x2 = (1 : Int) then (bI (m_Tape_byteAt (isb x1 1) M3) fun r6 M5 => bI (m_Math_floorMod (isb r6 r4) 11 M5) fun r8 M7 => some (some (pzI r8), M7)) else (bI (m_Reckoner_quillWays x1 r4 M3) fun r10 M9 => some (some (pzI r10), M9)))) := by
  show pzr 5 112 (27, [pzR 0, pzI x1, pzI x2, pzI x3], [], M) = _
  refine (pz_goes tq_112 2 (σ' := (29, [pzR 0, pzI x1, pzI x2, pzI x3], [pzI x1, pzI x3], M)) rfl).trans ?_
  refine (e_icmp_ge tq_112 rfl).trans (e_ite ?_ ?_)
  · refine (pz_goes tq_112 3 (σ' := (37, [pzR 0, pzI x1, pzI x2, pzI x3], [pzI x3, pzR 29], M)) rfl).trans ?_
    refine (e_callI (as := [pzR 29, pzI x3]) (rest := []) (d' := 3) tq_64 rfl rfl rfl rfl rfl tq_112 rfl).trans (e_bI rfl fun r2 M1 => ?_)
    refine (pz_goes tq_112 1 (σ' := (42, [pzR 0, pzI x1, pzI x2, pzI x3], [pzI 9, pzI r2], M1)) rfl).trans ?_
    refine (e_icmp_le tq_112 rfl).trans (e_ite ?_ ?_)
    · refine (pz_goes tq_112 1 (σ' := (47, [pzR 0, pzI x1, pzI x2, pzI x3], [pzI (-3)], M1)) rfl).trans ?_
      exact e_iret tq_112 rfl
    · refine (pz_goes tq_112 2 (σ' := (27, [pzR 0, pzI x1, pzI x2, pzI (ia x3 (1))], [], M1)) rfl).trans ?_
      rfl
  · refine (pz_goes tq_112 3 (σ' := (59, [pzR 0, pzI x1, pzI x2, pzI x3], [pzI x1, pzR 29], M)) rfl).trans ?_
    refine (e_callI (as := [pzR 29, pzI x1, pzN, pzN]) (rest := []) (d' := 4) tq_45 rfl rfl rfl rfl rfl tq_112 rfl).trans (e_bI rfl fun r4 M3 => ?_)
    refine (pz_goes tq_112 2 (σ' := (64, [pzR 0, pzI x1, pzI x2, pzI r4], [pzI x2], M3)) rfl).trans ?_
    refine (e_if_ne tq_112 rfl).trans (e_ite ?_ ?_)
    · refine (pz_goes tq_112 1 (σ' := (68, [pzR 0, pzI x1, pzI x2, pzI r4], [pzI r4], M3)) rfl).trans ?_
      refine (e_if_ne tq_112 rfl).trans (e_ite ?_ ?_)
      · refine (pz_goes tq_112 2 (σ' := (76, [pzR 0, pzI x1, pzI x2, pzI r4], [pzI 1], M3)) rfl).trans ?_
        exact e_iret tq_112 rfl
      · refine (pz_goes tq_112 1 (σ' := (76, [pzR 0, pzI x1, pzI x2, pzI r4], [pzI 0], M3)) rfl).trans ?_
        exact e_iret tq_112 rfl
    · refine (pz_goes tq_112 2 (σ' := (79, [pzR 0, pzI x1, pzI x2, pzI r4], [pzI 1, pzI x2], M3)) rfl).trans ?_
      refine (e_icmp_ne tq_112 rfl).trans (e_ite ?_ ?_)
      · refine (pz_goes tq_112 5 (σ' := (89, [pzR 0, pzI x1, pzI x2, pzI r4], [pzI (isb x1 1), pzR 29], M3)) rfl).trans ?_
        refine (e_callI (as := [pzR 29, pzI (isb x1 1)]) (rest := []) (d' := 3) tq_64 rfl rfl rfl rfl rfl tq_112 rfl).trans (e_bI rfl fun r6 M5 => ?_)
        refine (pz_goes tq_112 3 (σ' := (96, [pzR 0, pzI x1, pzI x2, pzI r4], [pzI 11, pzI (isb r6 r4)], M5)) rfl).trans ?_
        refine (e_callI (as := [pzI (isb r6 r4), pzI 11, pzN]) (rest := []) (d' := 3) tq_129 rfl rfl rfl rfl rfl tq_112 rfl).trans (e_bI rfl fun r8 M7 => ?_)
        refine (pz_goes tq_112 1 (σ' := (111, [pzR 0, pzI x1, pzI x2, pzI r4], [pzI r8], M7)) rfl).trans ?_
        exact e_iret tq_112 rfl
      · refine (pz_goes tq_112 4 (σ' := (108, [pzR 0, pzI x1, pzI x2, pzI r4], [pzI r4, pzI x1, pzR 29], M3)) rfl).trans ?_
        refine (e_callI (as := [pzR 29, pzI x1, pzI r4, pzN, pzN, pzN, pzN]) (rest := []) (d' := 4) tq_46 rfl rfl rfl rfl rfl tq_112 rfl).trans (e_bI rfl fun r10 M9 => ?_)
        exact e_iret tq_112 rfl
/-! PeacockDesk.weekday(III)I -/
set_option maxRecDepth 20000 in
theorem m_Desk_weekday_eq (x1 : Int) (x2 : Int) (x3 : Int) (M : pz_M) : m_Desk_weekday x1 x2 x3 M = bI (m_Reckoner_isYear x3 M) fun r2 M1 => if r2 = 0 then some (some (pzI (-1)), M1) else (if x2 < (1 : Int) then some (some (pzI (-1)), M1) else (if (12 : Int) < x2 then some (some (pzI (-1)), M1) else (if x1 < (1 : Int) then some (some (pzI (-2)), M1) else (bI (m_Reckoner_daysOfMonth x2 x3 M1) fun r4 M3 => if r4 < x1 then some (some (pzI (-2)), M3) else (m_Desk_weekday_43 (pzI x1) x2 x3 x1 1 M3))))) := by
  show pzr 5 113 (0, [pzR 0, pzI x1, pzI x2, pzI x3, pzN, pzN], [], M) = _
  refine (pz_goes tq_113 1 (σ' := (1, [pzR 0, pzI x1, pzI x2, pzI x3, pzN, pzN], [pzI x3], M)) rfl).trans ?_
  refine (e_callI (as := [pzI x3]) (rest := []) (d' := 3) tq_47 rfl rfl rfl rfl rfl tq_113 rfl).trans (e_bI rfl fun r2 M1 => ?_)
  refine (e_if_eq tq_113 rfl).trans (e_ite ?_ ?_)
  · refine (pz_goes tq_113 1 (σ' := (19, [pzR 0, pzI x1, pzI x2, pzI x3, pzN, pzN], [pzI (-1)], M1)) rfl).trans ?_
    exact e_iret tq_113 rfl
  · refine (pz_goes tq_113 2 (σ' := (9, [pzR 0, pzI x1, pzI x2, pzI x3, pzN, pzN], [pzI 1, pzI x2], M1)) rfl).trans ?_
    refine (e_icmp_lt tq_113 rfl).trans (e_ite ?_ ?_)
    · refine (pz_goes tq_113 1 (σ' := (19, [pzR 0, pzI x1, pzI x2, pzI x3, pzN, pzN], [pzI (-1)], M1)) rfl).trans ?_
      exact e_iret tq_113 rfl
    · refine (pz_goes tq_113 2 (σ' := (15, [pzR 0, pzI x1, pzI x2, pzI x3, pzN, pzN], [pzI 12, pzI x2], M1)) rfl).trans ?_
      refine (e_icmp_le tq_113 rfl).trans (e_ite ?_ ?_)
      · refine (pz_goes tq_113 1 (σ' := (19, [pzR 0, pzI x1, pzI x2, pzI x3, pzN, pzN], [pzI (-1)], M1)) rfl).trans ?_
        exact e_iret tq_113 rfl
      · refine (pz_goes tq_113 2 (σ' := (22, [pzR 0, pzI x1, pzI x2, pzI x3, pzN, pzN], [pzI 1, pzI x1], M1)) rfl).trans ?_
        refine (e_icmp_lt tq_113 rfl).trans (e_ite ?_ ?_)
        · refine (pz_goes tq_113 1 (σ' := (36, [pzR 0, pzI x1, pzI x2, pzI x3, pzN, pzN], [pzI (-2)], M1)) rfl).trans ?_
          exact e_iret tq_113 rfl
        · refine (pz_goes tq_113 3 (σ' := (28, [pzR 0, pzI x1, pzI x2, pzI x3, pzN, pzN], [pzI x3, pzI x2, pzI x1], M1)) rfl).trans ?_
          refine (e_callI (as := [pzI x2, pzI x3]) (rest := [pzI x1]) (d' := 4) tq_50 rfl rfl rfl rfl rfl tq_113 rfl).trans (e_bI rfl fun r4 M3 => ?_)
          refine (e_icmp_le tq_113 rfl).trans (e_ite ?_ ?_)
          · refine (pz_goes tq_113 1 (σ' := (36, [pzR 0, pzI x1, pzI x2, pzI x3, pzN, pzN], [pzI (-2)], M3)) rfl).trans ?_
            exact e_iret tq_113 rfl
          · refine (pz_goes tq_113 4 (σ' := (43, [pzR 0, pzI x1, pzI x2, pzI x3, pzI x1, pzI 1], [], M3)) rfl).trans ?_
            rfl
set_option maxRecDepth 20000 in
theorem m_Desk_weekday_43_eq (w1 : pz_V) (x2 : Int) (x3 : Int) (x4 : Int) (x5 : Int) (M : pz_M) : m_Desk_weekday_43 w1 x2 x3 x4 x5 M = if x5 < x2 then (bI (m_Reckoner_daysOfMonth x5 x3 M) fun r2 M1 => m_Desk_weekday_43 w1 x2 x3 (ia x4 r2) (ia x5 (1)) M1) else (bI (m_Reckoner_weekdayOf x3 x4 M) fun r4 M3 => some (some (pzI r4), M3)) := by
  show pzr 5 113 (43, [pzR 0, w1, pzI x2, pzI x3, pzI x4, pzI x5], [], M) = _
  refine (pz_goes tq_113 2 (σ' := (46, [pzR 0, w1, pzI x2, pzI x3, pzI x4, pzI x5], [pzI x2, pzI x5], M)) rfl).trans ?_
  refine (e_icmp_ge tq_113 rfl).trans (e_ite ?_ ?_)
  · refine (pz_goes tq_113 3 (σ' := (54, [pzR 0, w1, pzI x2, pzI x3, pzI x4, pzI x5], [pzI x3, pzI x5, pzI x4], M)) rfl).trans ?_
    refine (e_callI (as := [pzI x5, pzI x3]) (rest := [pzI x4]) (d' := 4) tq_50 rfl rfl rfl rfl rfl tq_113 rfl).trans (e_bI rfl fun r2 M1 => ?_)
    refine (pz_goes tq_113 4 (σ' := (43, [pzR 0, w1, pzI x2, pzI x3, pzI (ia x4 r2), pzI (ia x5 (1))], [], M1)) rfl).trans ?_
    rfl
  · refine (pz_goes tq_113 2 (σ' := (69, [pzR 0, w1, pzI x2, pzI x3, pzI x4, pzI x5], [pzI x4, pzI x3], M)) rfl).trans ?_
    refine (e_callI (as := [pzI x3, pzI x4, pzN, pzN]) (rest := []) (d' := 3) tq_51 rfl rfl rfl rfl rfl tq_113 rfl).trans (e_bI rfl fun r4 M3 => ?_)
    exact e_iret tq_113 rfl
/-! PeacockDesk.work(III)I -/
set_option maxRecDepth 20000 in
theorem m_Desk_work_eq (x1 : Int) (x2 : Int) (x3 : Int) (M : pz_M) : m_Desk_work x1 x2 x3 M = bI (m_Reckoner_isYear x1 M) fun r2 M1 => if r2 = 0 then some (some (pzI (-1)), M1) else (if x2 < (1 : Int) then some (some (pzI (-1)), M1) else (if x3 < x2 then some (some (pzI (-1)), M1) else (bI (m_Reckoner_daysOfYear x1 M1) fun r4 M3 => if r4 < x3 then some (some (pzI (-1)), M3) else (m_Desk_work_33 x1 (pzI x2) x3 0 x2 M3)))) := by
  show pzr 5 114 (0, [pzR 0, pzI x1, pzI x2, pzI x3, pzN, pzN], [], M) = _
  refine (pz_goes tq_114 1 (σ' := (1, [pzR 0, pzI x1, pzI x2, pzI x3, pzN, pzN], [pzI x1], M)) rfl).trans ?_
  refine (e_callI (as := [pzI x1]) (rest := []) (d' := 3) tq_47 rfl rfl rfl rfl rfl tq_114 rfl).trans (e_bI rfl fun r2 M1 => ?_)
  refine (e_if_eq tq_114 rfl).trans (e_ite ?_ ?_)
  · refine (pz_goes tq_114 1 (σ' := (26, [pzR 0, pzI x1, pzI x2, pzI x3, pzN, pzN], [pzI (-1)], M1)) rfl).trans ?_
    exact e_iret tq_114 rfl
  · refine (pz_goes tq_114 2 (σ' := (9, [pzR 0, pzI x1, pzI x2, pzI x3, pzN, pzN], [pzI 1, pzI x2], M1)) rfl).trans ?_
    refine (e_icmp_lt tq_114 rfl).trans (e_ite ?_ ?_)
    · refine (pz_goes tq_114 1 (σ' := (26, [pzR 0, pzI x1, pzI x2, pzI x3, pzN, pzN], [pzI (-1)], M1)) rfl).trans ?_
      exact e_iret tq_114 rfl
    · refine (pz_goes tq_114 2 (σ' := (14, [pzR 0, pzI x1, pzI x2, pzI x3, pzN, pzN], [pzI x3, pzI x2], M1)) rfl).trans ?_
      refine (e_icmp_gt tq_114 rfl).trans (e_ite ?_ ?_)
      · refine (pz_goes tq_114 1 (σ' := (26, [pzR 0, pzI x1, pzI x2, pzI x3, pzN, pzN], [pzI (-1)], M1)) rfl).trans ?_
        exact e_iret tq_114 rfl
      · refine (pz_goes tq_114 2 (σ' := (19, [pzR 0, pzI x1, pzI x2, pzI x3, pzN, pzN], [pzI x1, pzI x3], M1)) rfl).trans ?_
        refine (e_callI (as := [pzI x1]) (rest := [pzI x3]) (d' := 4) tq_49 rfl rfl rfl rfl rfl tq_114 rfl).trans (e_bI rfl fun r4 M3 => ?_)
        refine (e_icmp_le tq_114 rfl).trans (e_ite ?_ ?_)
        · refine (pz_goes tq_114 1 (σ' := (26, [pzR 0, pzI x1, pzI x2, pzI x3, pzN, pzN], [pzI (-1)], M3)) rfl).trans ?_
          exact e_iret tq_114 rfl
        · refine (pz_goes tq_114 4 (σ' := (33, [pzR 0, pzI x1, pzI x2, pzI x3, pzI 0, pzI x2], [], M3)) rfl).trans ?_
          rfl
set_option maxRecDepth 20000 in
theorem m_Desk_work_33_eq (x1 : Int) (w2 : pz_V) (x3 : Int) (x4 : Int) (x5 : Int) (M : pz_M) : m_Desk_work_33 x1 w2 x3 x4 x5 M = if x5 < x3 then (bI (m_Reckoner_weekdayOf x1 x5 M) fun r2 M1 => if r2 < (5 : Int) then (m_Desk_work_33 x1 w2 x3 (ia x4 (1)) (ia x5 (1)) M1) else (m_Desk_work_33 x1 w2 x3 x4 (ia x5 (1)) M1)) else (some (some (pzI x4), M)) := by
  show pzr 5 114 (33, [pzR 0, pzI x1, w2, pzI x3, pzI x4, pzI x5], [], M) = _
  refine (pz_goes tq_114 2 (σ' := (36, [pzR 0, pzI x1, w2, pzI x3, pzI x4, pzI x5], [pzI x3, pzI x5], M)) rfl).trans ?_
  refine (e_icmp_ge tq_114 rfl).trans (e_ite ?_ ?_)
  · refine (pz_goes tq_114 2 (σ' := (42, [pzR 0, pzI x1, w2, pzI x3, pzI x4, pzI x5], [pzI x5, pzI x1], M)) rfl).trans ?_
    refine (e_callI (as := [pzI x1, pzI x5, pzN, pzN]) (rest := []) (d' := 3) tq_51 rfl rfl rfl rfl rfl tq_114 rfl).trans (e_bI rfl fun r2 M1 => ?_)
    refine (pz_goes tq_114 1 (σ' := (46, [pzR 0, pzI x1, w2, pzI x3, pzI x4, pzI x5], [pzI 5, pzI r2], M1)) rfl).trans ?_
    refine (e_icmp_ge tq_114 rfl).trans (e_ite ?_ ?_)
    · refine (pz_goes tq_114 3 (σ' := (33, [pzR 0, pzI x1, w2, pzI x3, pzI (ia x4 (1)), pzI (ia x5 (1))], [], M1)) rfl).trans ?_
      rfl
    · refine (pz_goes tq_114 2 (σ' := (33, [pzR 0, pzI x1, w2, pzI x3, pzI x4, pzI (ia x5 (1))], [], M1)) rfl).trans ?_
      rfl
  · refine (pz_goes tq_114 1 (σ' := (60, [pzR 0, pzI x1, w2, pzI x3, pzI x4, pzI x5], [pzI x4], M)) rfl).trans ?_
    exact e_iret tq_114 rfl
/-! PeacockDesk.cry(III)I -/
set_option maxRecDepth 20000 in
theorem m_Desk_cry_eq (x1 : Int) (x2 : Int) (x3 : Int) (M : pz_M) : m_Desk_cry x1 x2 x3 M = if x1 < 0 then some (some (pzI (-1)), M) else (if (99 : Int) < x1 then some (some (pzI (-1)), M) else (if x2 < 0 then some (some (pzI (-1)), M) else (if (99 : Int) < x2 then some (some (pzI (-1)), M) else (if x3 < (1 : Int) then some (some (pzI (-1)), M) else (if (99 : Int) < x3 then some (some (pzI (-1)), M) else (bI (m_Reckoner_secondsOf x1 x2 x3 M) fun r2 M1 => some (some (pzI r2), M1))))))) := by
  show pzr 4 115 (0, [pzR 0, pzI x1, pzI x2, pzI x3], [], M) = _
  refine (pz_goes tq_115 1 (σ' := (1, [pzR 0, pzI x1, pzI x2, pzI x3], [pzI x1], M)) rfl).trans ?_
  refine (e_if_lt tq_115 rfl).trans (e_ite ?_ ?_)
  · refine (pz_goes tq_115 1 (σ' := (32, [pzR 0, pzI x1, pzI x2, pzI x3], [pzI (-1)], M)) rfl).trans ?_
    exact e_iret tq_115 rfl
  · refine (pz_goes tq_115 2 (σ' := (7, [pzR 0, pzI x1, pzI x2, pzI x3], [pzI 99, pzI x1], M)) rfl).trans ?_
    refine (e_icmp_gt tq_115 rfl).trans (e_ite ?_ ?_)
    · refine (pz_goes tq_115 1 (σ' := (32, [pzR 0, pzI x1, pzI x2, pzI x3], [pzI (-1)], M)) rfl).trans ?_
      exact e_iret tq_115 rfl
    · refine (pz_goes tq_115 1 (σ' := (11, [pzR 0, pzI x1, pzI x2, pzI x3], [pzI x2], M)) rfl).trans ?_
      refine (e_if_lt tq_115 rfl).trans (e_ite ?_ ?_)
      · refine (pz_goes tq_115 1 (σ' := (32, [pzR 0, pzI x1, pzI x2, pzI x3], [pzI (-1)], M)) rfl).trans ?_
        exact e_iret tq_115 rfl
      · refine (pz_goes tq_115 2 (σ' := (17, [pzR 0, pzI x1, pzI x2, pzI x3], [pzI 99, pzI x2], M)) rfl).trans ?_
        refine (e_icmp_gt tq_115 rfl).trans (e_ite ?_ ?_)
        · refine (pz_goes tq_115 1 (σ' := (32, [pzR 0, pzI x1, pzI x2, pzI x3], [pzI (-1)], M)) rfl).trans ?_
          exact e_iret tq_115 rfl
        · refine (pz_goes tq_115 2 (σ' := (22, [pzR 0, pzI x1, pzI x2, pzI x3], [pzI 1, pzI x3], M)) rfl).trans ?_
          refine (e_icmp_lt tq_115 rfl).trans (e_ite ?_ ?_)
          · refine (pz_goes tq_115 1 (σ' := (32, [pzR 0, pzI x1, pzI x2, pzI x3], [pzI (-1)], M)) rfl).trans ?_
            exact e_iret tq_115 rfl
          · refine (pz_goes tq_115 2 (σ' := (28, [pzR 0, pzI x1, pzI x2, pzI x3], [pzI 99, pzI x3], M)) rfl).trans ?_
            refine (e_icmp_le tq_115 rfl).trans (e_ite ?_ ?_)
            · refine (pz_goes tq_115 1 (σ' := (32, [pzR 0, pzI x1, pzI x2, pzI x3], [pzI (-1)], M)) rfl).trans ?_
              exact e_iret tq_115 rfl
            · refine (pz_goes tq_115 3 (σ' := (36, [pzR 0, pzI x1, pzI x2, pzI x3], [pzI x3, pzI x2, pzI x1], M)) rfl).trans ?_
              refine (e_callI (as := [pzI x1, pzI x2, pzI x3, pzN, pzN]) (rest := []) (d' := 3) tq_52 rfl rfl rfl rfl rfl tq_115 rfl).trans (e_bI rfl fun r2 M1 => ?_)
              exact e_iret tq_115 rfl
/-! PeacockDesk.pickedUp(II)I -/
set_option maxRecDepth 20000 in
theorem m_Desk_pickedUp_eq (x1 : Int) (x2 : Int) (M : pz_M) : m_Desk_pickedUp x1 x2 M = if x1 < (1 : Int) then some (some (pzI (-1)), M) else (if (10 : Int) < x1 then some (some (pzI (-1)), M) else (if x2 < 0 then some (some (pzI (-1)), M) else (if (255 : Int) < x2 then some (some (pzI (-1)), M) else (bI (m_Tape_take (imu 2 x1) 2 20 M) fun r2 M1 => if r2 = 0 then some (some (pzI (-1)), M1) else (bV (m_Path_load x1 x2 M1) fun M3 => bI (m_Path_mostHad M3) fun r5 M4 => some (some (pzI r5), M4)))))) := by
  show pzr 8 116 (0, [pzR 0, pzI x1, pzI x2], [], M) = _
  refine (pz_goes tq_116 2 (σ' := (2, [pzR 0, pzI x1, pzI x2], [pzI 1, pzI x1], M)) rfl).trans ?_
  refine (e_icmp_lt tq_116 rfl).trans (e_ite ?_ ?_)
  · refine (pz_goes tq_116 1 (σ' := (39, [pzR 0, pzI x1, pzI x2], [pzI (-1)], M)) rfl).trans ?_
    exact e_iret tq_116 rfl
  · refine (pz_goes tq_116 2 (σ' := (8, [pzR 0, pzI x1, pzI x2], [pzI 10, pzI x1], M)) rfl).trans ?_
    refine (e_icmp_gt tq_116 rfl).trans (e_ite ?_ ?_)
    · refine (pz_goes tq_116 1 (σ' := (39, [pzR 0, pzI x1, pzI x2], [pzI (-1)], M)) rfl).trans ?_
      exact e_iret tq_116 rfl
    · refine (pz_goes tq_116 1 (σ' := (12, [pzR 0, pzI x1, pzI x2], [pzI x2], M)) rfl).trans ?_
      refine (e_if_lt tq_116 rfl).trans (e_ite ?_ ?_)
      · refine (pz_goes tq_116 1 (σ' := (39, [pzR 0, pzI x1, pzI x2], [pzI (-1)], M)) rfl).trans ?_
        exact e_iret tq_116 rfl
      · refine (pz_goes tq_116 2 (σ' := (19, [pzR 0, pzI x1, pzI x2], [pzI 255, pzI x2], M)) rfl).trans ?_
        refine (e_icmp_gt tq_116 rfl).trans (e_ite ?_ ?_)
        · refine (pz_goes tq_116 1 (σ' := (39, [pzR 0, pzI x1, pzI x2], [pzI (-1)], M)) rfl).trans ?_
          exact e_iret tq_116 rfl
        · refine (pz_goes tq_116 7 (σ' := (32, [pzR 0, pzI x1, pzI x2], [pzI 20, pzI 2, pzI (imu 2 x1), pzR 29], M)) rfl).trans ?_
          refine (e_callI (as := [pzR 29, pzI (imu 2 x1), pzI 2, pzI 20]) (rest := []) (d' := 3) tq_63 rfl rfl rfl rfl rfl tq_116 rfl).trans (e_bI rfl fun r2 M1 => ?_)
          refine (e_if_ne tq_116 rfl).trans (e_ite ?_ ?_)
          · refine (pz_goes tq_116 1 (σ' := (39, [pzR 0, pzI x1, pzI x2], [pzI (-1)], M1)) rfl).trans ?_
            exact e_iret tq_116 rfl
          · refine (pz_goes tq_116 6 (σ' := (50, [pzR 0, pzI x1, pzI x2], [pzI x2, pzI x1, pzR 29, pzR 42], M1)) rfl).trans ?_
            refine (e_callV (as := [pzR 42, pzR 29, pzI x1, pzI x2, pzN]) (rest := []) (d' := 4) tq_37 rfl rfl rfl rfl rfl tq_116 rfl).trans (e_bV rfl fun M3 => ?_)
            refine (pz_goes tq_116 2 (σ' := (57, [pzR 0, pzI x1, pzI x2], [pzR 42], M3)) rfl).trans ?_
            refine (e_callI (as := [pzR 42, pzN, pzN]) (rest := []) (d' := 7) tq_39 rfl rfl rfl rfl rfl tq_116 rfl).trans (e_bI rfl fun r5 M4 => ?_)
            exact e_iret tq_116 rfl
/-! PeacockDesk.tails(II)I -/
set_option maxRecDepth 20000 in
theorem m_Desk_tails_eq (x1 : Int) (x2 : Int) (M : pz_M) : m_Desk_tails x1 x2 M = if x2 < (1 : Int) then some (some (pzI (-1)), M) else (if x1 < x2 then some (some (pzI (-1)), M) else (bI (m_Tape_take x1 2 12 M) fun r2 M1 => if r2 = 0 then some (some (pzI (-1)), M1) else (bI (m_Tails_load x1 M1) fun r4 M3 => if r4 = 0 then some (some (pzI (-3)), M3) else (bI (m_Tails_firstBeat x2 M3) fun r6 M5 => some (some (pzI r6), M5))))) := by
  show pzr 31 117 (0, [pzR 0, pzI x1, pzI x2], [], M) = _
  refine (pz_goes tq_117 2 (σ' := (2, [pzR 0, pzI x1, pzI x2], [pzI 1, pzI x2], M)) rfl).trans ?_
  refine (e_icmp_lt tq_117 rfl).trans (e_ite ?_ ?_)
  · refine (pz_goes tq_117 1 (σ' := (25, [pzR 0, pzI x1, pzI x2], [pzI (-1)], M)) rfl).trans ?_
    exact e_iret tq_117 rfl
  · refine (pz_goes tq_117 2 (σ' := (7, [pzR 0, pzI x1, pzI x2], [pzI x1, pzI x2], M)) rfl).trans ?_
    refine (e_icmp_gt tq_117 rfl).trans (e_ite ?_ ?_)
    · refine (pz_goes tq_117 1 (σ' := (25, [pzR 0, pzI x1, pzI x2], [pzI (-1)], M)) rfl).trans ?_
      exact e_iret tq_117 rfl
    · refine (pz_goes tq_117 5 (σ' := (18, [pzR 0, pzI x1, pzI x2], [pzI 12, pzI 2, pzI x1, pzR 29], M)) rfl).trans ?_
      refine (e_callI (as := [pzR 29, pzI x1, pzI 2, pzI 12]) (rest := []) (d' := 3) tq_63 rfl rfl rfl rfl rfl tq_117 rfl).trans (e_bI rfl fun r2 M1 => ?_)
      refine (e_if_ne tq_117 rfl).trans (e_ite ?_ ?_)
      · refine (pz_goes tq_117 1 (σ' := (25, [pzR 0, pzI x1, pzI x2], [pzI (-1)], M1)) rfl).trans ?_
        exact e_iret tq_117 rfl
      · refine (pz_goes tq_117 5 (σ' := (35, [pzR 0, pzI x1, pzI x2], [pzI x1, pzR 29, pzR 47], M1)) rfl).trans ?_
        refine (e_callI (as := [pzR 47, pzR 29, pzI x1, pzN, pzN]) (rest := []) (d' := 4) tq_57 rfl rfl rfl rfl rfl tq_117 rfl).trans (e_bI rfl fun r4 M3 => ?_)
        refine (e_if_ne tq_117 rfl).trans (e_ite ?_ ?_)
        · refine (pz_goes tq_117 1 (σ' := (43, [pzR 0, pzI x1, pzI x2], [pzI (-3)], M3)) rfl).trans ?_
          exact e_iret tq_117 rfl
        · refine (pz_goes tq_117 3 (σ' := (49, [pzR 0, pzI x1, pzI x2], [pzI x2, pzR 47], M3)) rfl).trans ?_
          refine (e_callI (as := [pzR 47, pzI x2]) (rest := []) (d' := 30) tq_58 rfl rfl rfl rfl rfl tq_117 rfl).trans (e_bI rfl fun r6 M5 => ?_)
          exact e_iret tq_117 rfl
/-! PeacockDesk.seed(I)Z -/
set_option maxRecDepth 20000 in
theorem m_Desk_seed_eq (x1 : Int) (M : pz_M) : m_Desk_seed x1 M = if x1 < 0 then some (some (pzI 0), M) else (if (65535 : Int) < x1 then some (some (pzI 0), M) else (bM (pz_wr M 49 6 x1) fun M1 => some (some (pzI 1), M1))) := by
  show pzr 3 118 (0, [pzR 0, pzI x1], [], M) = _
  refine (pz_goes tq_118 1 (σ' := (1, [pzR 0, pzI x1], [pzI x1], M)) rfl).trans ?_
  refine (e_if_lt tq_118 rfl).trans (e_ite ?_ ?_)
  · refine (pz_goes tq_118 1 (σ' := (12, [pzR 0, pzI x1], [pzI 0], M)) rfl).trans ?_
    exact (e_zret tq_118 rfl).trans (grd_pos (by decide))
  · refine (pz_goes tq_118 2 (σ' := (8, [pzR 0, pzI x1], [pzI 65535, pzI x1], M)) rfl).trans ?_
    refine (e_icmp_le tq_118 rfl).trans (e_ite ?_ ?_)
    · refine (pz_goes tq_118 1 (σ' := (12, [pzR 0, pzI x1], [pzI 0], M)) rfl).trans ?_
      exact (e_zret tq_118 rfl).trans (grd_pos (by decide))
    · refine (pz_goes tq_118 3 (σ' := (18, [pzR 0, pzI x1], [pzI x1, pzR 49], M)) rfl).trans ?_
      refine (e_putI rfl tq_118 rfl).trans ?_
      refine e_bM (f := fun M1 => pzr 3 118 (21, [pzR 0, pzI x1], [], M1)) (fun M1 => ?_)
      refine (pz_goes tq_118 1 (σ' := (22, [pzR 0, pzI x1], [pzI 1], M1)) rfl).trans ?_
      exact (e_zret tq_118 rfl).trans (grd_pos (by decide))
/-! PeacockDesk.keep()I -/
set_option maxRecDepth 20000 in
theorem m_Desk_keep_eq (M : pz_M) : m_Desk_keep M = bV (m_Terrace_copy 59 49 M) fun M1 => bM (pz_wr M1 0 13 1) fun M2 => some (some (pzI (M2 49 5)), M2) := by
  show pzr 7 119 (0, [pzR 0], [], M) = _
  refine (pz_goes tq_119 4 (σ' := (8, [pzR 0], [pzR 49, pzR 59], M)) rfl).trans ?_
  refine (e_callV (as := [pzR 59, pzR 49]) (rest := []) (d' := 6) tq_75 rfl rfl rfl rfl rfl tq_119 rfl).trans (e_bV rfl fun M1 => ?_)
  refine (pz_goes tq_119 2 (σ' := (13, [pzR 0], [pzI 1, pzR 0], M1)) rfl).trans ?_
  refine ((e_putZ rfl tq_119 rfl).trans (grd_pos (by decide))).trans ?_
  refine e_bM (f := fun M2 => pzr 7 119 (16, [pzR 0], [], M2)) (fun M2 => ?_)
  refine (pz_goes tq_119 3 (σ' := (23, [pzR 0], [pzI (M2 49 5)], M2)) rfl).trans ?_
  exact e_iret tq_119 rfl
/-! PeacockDesk.undo()Z -/
set_option maxRecDepth 20000 in
theorem m_Desk_undo_eq (M : pz_M) : m_Desk_undo M = if (M 0 13) = 0 then some (some (pzI 0), M) else (bV (m_Terrace_goBackTo 49 59 M) fun M1 => some (some (pzI 1), M1)) := by
  show pzr 6 120 (0, [pzR 0], [], M) = _
  refine (pz_goes tq_120 2 (σ' := (4, [pzR 0], [pzI (M 0 13)], M)) rfl).trans ?_
  refine (e_if_ne tq_120 rfl).trans (e_ite ?_ ?_)
  · refine (pz_goes tq_120 1 (σ' := (8, [pzR 0], [pzI 0], M)) rfl).trans ?_
    exact (e_zret tq_120 rfl).trans (grd_pos (by decide))
  · refine (pz_goes tq_120 4 (σ' := (17, [pzR 0], [pzR 59, pzR 49], M)) rfl).trans ?_
    refine (e_callV (as := [pzR 49, pzR 59, pzN]) (rest := []) (d' := 5) tq_76 rfl rfl rfl rfl rfl tq_120 rfl).trans (e_bV rfl fun M1 => ?_)
    refine (pz_goes tq_120 1 (σ' := (21, [pzR 0], [pzI 1], M1)) rfl).trans ?_
    exact (e_zret tq_120 rfl).trans (grd_pos (by decide))
/-! PeacockDesk.check(I)I -/
set_option maxRecDepth 20000 in
theorem m_Desk_check_eq (x1 : Int) (M : pz_M) : m_Desk_check x1 M = bI (m_Tape_take x1 0 24 M) fun r2 M1 => if r2 = 0 then some (some (pzI (-2)), M1) else (m_Desk_check_19 x1 0 pzN M1) := by
  show pzr 4 121 (0, [pzR 0, pzI x1, pzN, pzN], [], M) = _
  refine (pz_goes tq_121 5 (σ' := (8, [pzR 0, pzI x1, pzN, pzN], [pzI 24, pzI 0, pzI x1, pzR 29], M)) rfl).trans ?_
  refine (e_callI (as := [pzR 29, pzI x1, pzI 0, pzI 24]) (rest := []) (d' := 3) tq_63 rfl rfl rfl rfl rfl tq_121 rfl).trans (e_bI rfl fun r2 M1 => ?_)
  refine (e_if_ne tq_121 rfl).trans (e_ite ?_ ?_)
  · refine (pz_goes tq_121 1 (σ' := (16, [pzR 0, pzI x1, pzN, pzN], [pzI (-2)], M1)) rfl).trans ?_
    exact e_iret tq_121 rfl
  · refine (pz_goes tq_121 2 (σ' := (19, [pzR 0, pzI x1, pzI 0, pzN], [], M1)) rfl).trans ?_
    rfl
set_option maxRecDepth 20000 in
theorem m_Desk_check_19_eq (x1 : Int) (x2 : Int) (w3 : pz_V) (M : pz_M) : m_Desk_check_19 x1 x2 w3 M = if x2 < x1 then (if x2 < (M 49 4) then (bI (m_Terrace_openWeight 49 x2 ((M 0 0).toNat) M) fun r2 M1 => m_Desk_check_53 x1 x2 w3 r2 M1) else (m_Desk_check_53 x1 x2 w3 255 M)) else (some (some (pzI (-1)), M)) := by
  show pzr 4 121 (19, [pzR 0, pzI x1, pzI x2, w3], [], M) = _
  refine (pz_goes tq_121 2 (σ' := (21, [pzR 0, pzI x1, pzI x2, w3], [pzI x1, pzI x2], M)) rfl).trans ?_
  refine (e_icmp_ge tq_121 rfl).trans (e_ite ?_ ?_)
  · refine (pz_goes tq_121 4 (σ' := (32, [pzR 0, pzI x1, pzI x2, w3], [pzI (M 49 4), pzI x2], M)) rfl).trans ?_
    refine (e_icmp_ge tq_121 rfl).trans (e_ite ?_ ?_)
    · refine (pz_goes tq_121 5 (σ' := (44, [pzR 0, pzI x1, pzI x2, w3], [pzR ((M 0 0).toNat), pzI x2, pzR 49], M)) rfl).trans ?_
      refine (e_callI (as := [pzR 49, pzI x2, pzR ((M 0 0).toNat)]) (rest := []) (d' := 3) tq_82 rfl rfl rfl rfl rfl tq_121 rfl).trans (e_bI rfl fun r2 M1 => ?_)
      refine (pz_goes tq_121 1 (σ' := (53, [pzR 0, pzI x1, pzI x2, w3], [pzI r2], M1)) rfl).trans ?_
      rfl
    · refine (pz_goes tq_121 1 (σ' := (53, [pzR 0, pzI x1, pzI x2, w3], [pzI 255], M)) rfl).trans ?_
      rfl
  · refine (pz_goes tq_121 1 (σ' := (75, [pzR 0, pzI x1, pzI x2, w3], [pzI (-1)], M)) rfl).trans ?_
    exact e_iret tq_121 rfl
set_option maxRecDepth 20000 in
theorem m_Desk_check_53_eq (x1 : Int) (x2 : Int) (w3 : pz_V) (s0 : Int) (M : pz_M) : m_Desk_check_53 x1 x2 w3 s0 M = bI (m_Tape_byteAt x2 M) fun r2 M1 => if r2 = s0 then (m_Desk_check_19 x1 (ia x2 (1)) (pzI s0) M1) else (some (some (pzI x2), M1)) := by
  show pzr 4 121 (53, [pzR 0, pzI x1, pzI x2, w3], [pzI s0], M) = _
  refine (pz_goes tq_121 4 (σ' := (59, [pzR 0, pzI x1, pzI x2, pzI s0], [pzI x2, pzR 29], M)) rfl).trans ?_
  refine (e_callI (as := [pzR 29, pzI x2]) (rest := []) (d' := 3) tq_64 rfl rfl rfl rfl rfl tq_121 rfl).trans (e_bI rfl fun r2 M1 => ?_)
  refine (pz_goes tq_121 1 (σ' := (63, [pzR 0, pzI x1, pzI x2, pzI s0], [pzI s0, pzI r2], M1)) rfl).trans ?_
  refine (e_icmp_eq tq_121 rfl).trans (e_ite ?_ ?_)
  · refine (pz_goes tq_121 2 (σ' := (19, [pzR 0, pzI x1, pzI (ia x2 (1)), pzI s0], [], M1)) rfl).trans ?_
    rfl
  · refine (pz_goes tq_121 1 (σ' := (67, [pzR 0, pzI x1, pzI x2, pzI s0], [pzI x2], M1)) rfl).trans ?_
    exact e_iret tq_121 rfl
/-! PeacockDesk.count(I)I -/
set_option maxRecDepth 20000 in
theorem m_Desk_count_eq (x1 : Int) (M : pz_M) : m_Desk_count x1 M = if x1 = 0 then (some (some (pzI (M 49 5)), M)) else (if x1 = 1 then (some (some (pzI (M 49 4)), M)) else (if x1 = 2 then (bI (m_Terrace_bitsAt 49 9 M) fun r2 M1 => some (some (pzI r2), M1)) else (if x1 = 3 then (bI (m_Terrace_bitsAt 49 10 M) fun r4 M3 => some (some (pzI r4), M3)) else (if x1 = 4 then (bI (m_Terrace_criesOfAll 49 M) fun r6 M5 => some (some (pzI r6), M5)) else (if x1 = 5 then (grd (pz_cls ((M 0 2).toNat) = 2) (some (some (pzI (M ((M 0 2).toNat) 3)), M))) else (if x1 = 6 then (some (some (pzI (M 29 1)), M)) else (if x1 = 7 then (some (some (pzI (M 49 6)), M)) else (some (some (pzI (-1)), M))))))))) := by
  show pzr 4 122 (0, [pzR 0, pzI x1], [], M) = _
  refine (pz_goes tq_122 1 (σ' := (1, [pzR 0, pzI x1], [pzI x1], M)) rfl).trans ?_
  refine (e_sw tq_122 rfl).trans ?_
  refine e_sel.trans (e_ite ?_ ?_)
  · refine (pz_goes tq_122 3 (σ' := (55, [pzR 0, pzI x1], [pzI (M 49 5)], M)) rfl).trans ?_
    exact e_iret tq_122 rfl
  refine e_sel.trans (e_ite ?_ ?_)
  · refine (pz_goes tq_122 3 (σ' := (63, [pzR 0, pzI x1], [pzI (M 49 4)], M)) rfl).trans ?_
    exact e_iret tq_122 rfl
  refine e_sel.trans (e_ite ?_ ?_)
  · refine (pz_goes tq_122 3 (σ' := (70, [pzR 0, pzI x1], [pzI 9, pzR 49], M)) rfl).trans ?_
    refine (e_callI (as := [pzR 49, pzI 9, pzN, pzN]) (rest := []) (d' := 3) tq_80 rfl rfl rfl rfl rfl tq_122 rfl).trans (e_bI rfl fun r2 M1 => ?_)
    exact e_iret tq_122 rfl
  refine e_sel.trans (e_ite ?_ ?_)
  · refine (pz_goes tq_122 3 (σ' := (80, [pzR 0, pzI x1], [pzI 10, pzR 49], M)) rfl).trans ?_
    refine (e_callI (as := [pzR 49, pzI 10, pzN, pzN]) (rest := []) (d' := 3) tq_80 rfl rfl rfl rfl rfl tq_122 rfl).trans (e_bI rfl fun r4 M3 => ?_)
    exact e_iret tq_122 rfl
  refine e_sel.trans (e_ite ?_ ?_)
  · refine (pz_goes tq_122 2 (σ' := (88, [pzR 0, pzI x1], [pzR 49], M)) rfl).trans ?_
    refine (e_callI (as := [pzR 49, pzN, pzN]) (rest := []) (d' := 3) tq_83 rfl rfl rfl rfl rfl tq_122 rfl).trans (e_bI rfl fun r6 M5 => ?_)
    exact e_iret tq_122 rfl
  refine e_sel.trans (e_ite ?_ ?_)
  · refine (pz_goes tq_122 2 (σ' := (96, [pzR 0, pzI x1], [pzR ((M 0 2).toNat)], M)) rfl).trans ?_
    refine (e_getIU tq_122 rfl).trans (e_grd ?_)
    exact e_iret tq_122 rfl
  refine e_sel.trans (e_ite ?_ ?_)
  · refine (pz_goes tq_122 3 (σ' := (107, [pzR 0, pzI x1], [pzI (M 29 1)], M)) rfl).trans ?_
    exact e_iret tq_122 rfl
  refine e_sel.trans (e_ite ?_ ?_)
  · refine (pz_goes tq_122 3 (σ' := (115, [pzR 0, pzI x1], [pzI (M 49 6)], M)) rfl).trans ?_
    exact e_iret tq_122 rfl
  refine (show pzr 4 122 (pz_sel [] 116 x1, [pzR 0, pzI x1], [], M) = pzr 4 122 (116, [pzR 0, pzI x1], [], M) from rfl).trans ?_
  refine (pz_goes tq_122 1 (σ' := (117, [pzR 0, pzI x1], [pzI (-1)], M)) rfl).trans ?_
  exact e_iret tq_122 rfl
/-! PeacockDesk.isCase(I)Z -/
set_option maxRecDepth 20000 in
theorem m_Desk_isCase_eq (x1 : Int) (M : pz_M) : m_Desk_isCase x1 M = if x1 < 0 then some (some (pzI 0), M) else (if x1 < (M 49 4) then some (some (pzI 1), M) else (some (some (pzI 0), M))) := by
  show pzr 3 123 (0, [pzR 0, pzI x1], [], M) = _
  refine (pz_goes tq_123 1 (σ' := (1, [pzR 0, pzI x1], [pzI x1], M)) rfl).trans ?_
  refine (e_if_lt tq_123 rfl).trans (e_ite ?_ ?_)
  · refine (pz_goes tq_123 1 (σ' := (20, [pzR 0, pzI x1], [pzI 0], M)) rfl).trans ?_
    exact (e_zret tq_123 rfl).trans (grd_pos (by decide))
  · refine (pz_goes tq_123 4 (σ' := (12, [pzR 0, pzI x1], [pzI (M 49 4), pzI x1], M)) rfl).trans ?_
    refine (e_icmp_ge tq_123 rfl).trans (e_ite ?_ ?_)
    · refine (pz_goes tq_123 2 (σ' := (20, [pzR 0, pzI x1], [pzI 1], M)) rfl).trans ?_
      exact (e_zret tq_123 rfl).trans (grd_pos (by decide))
    · refine (pz_goes tq_123 1 (σ' := (20, [pzR 0, pzI x1], [pzI 0], M)) rfl).trans ?_
      exact (e_zret tq_123 rfl).trans (grd_pos (by decide))
/-! PeacockDesk.isPeacock(I)Z -/
set_option maxRecDepth 20000 in
theorem m_Desk_isPeacock_eq (x0 : Int) (M : pz_M) : m_Desk_isPeacock x0 M = if x0 < 0 then some (some (pzI 0), M) else (if x0 < (9 : Int) then some (some (pzI 1), M) else (some (some (pzI 0), M))) := by
  show pzr 3 124 (0, [pzI x0], [], M) = _
  refine (pz_goes tq_124 1 (σ' := (1, [pzI x0], [pzI x0], M)) rfl).trans ?_
  refine (e_if_lt tq_124 rfl).trans (e_ite ?_ ?_)
  · refine (pz_goes tq_124 1 (σ' := (15, [pzI x0], [pzI 0], M)) rfl).trans ?_
    exact (e_zret tq_124 rfl).trans (grd_pos (by decide))
  · refine (pz_goes tq_124 2 (σ' := (7, [pzI x0], [pzI 9, pzI x0], M)) rfl).trans ?_
    refine (e_icmp_ge tq_124 rfl).trans (e_ite ?_ ?_)
    · refine (pz_goes tq_124 2 (σ' := (15, [pzI x0], [pzI 1], M)) rfl).trans ?_
      exact (e_zret tq_124 rfl).trans (grd_pos (by decide))
    · refine (pz_goes tq_124 1 (σ' := (15, [pzI x0], [pzI 0], M)) rfl).trans ?_
      exact (e_zret tq_124 rfl).trans (grd_pos (by decide))
/-! PeacockDesk.areDays(I)Z -/
set_option maxRecDepth 20000 in
theorem m_Desk_areDays_eq (x0 : Int) (M : pz_M) : m_Desk_areDays x0 M = if x0 < (1 : Int) then some (some (pzI 0), M) else (if (100 : Int) < x0 then some (some (pzI 0), M) else (some (some (pzI 1), M))) := by
  show pzr 3 125 (0, [pzI x0], [], M) = _
  refine (pz_goes tq_125 2 (σ' := (2, [pzI x0], [pzI 1, pzI x0], M)) rfl).trans ?_
  refine (e_icmp_lt tq_125 rfl).trans (e_ite ?_ ?_)
  · refine (pz_goes tq_125 1 (σ' := (16, [pzI x0], [pzI 0], M)) rfl).trans ?_
    exact (e_zret tq_125 rfl).trans (grd_pos (by decide))
  · refine (pz_goes tq_125 2 (σ' := (8, [pzI x0], [pzI 100, pzI x0], M)) rfl).trans ?_
    refine (e_icmp_gt tq_125 rfl).trans (e_ite ?_ ?_)
    · refine (pz_goes tq_125 1 (σ' := (16, [pzI x0], [pzI 0], M)) rfl).trans ?_
      exact (e_zret tq_125 rfl).trans (grd_pos (by decide))
    · refine (pz_goes tq_125 2 (σ' := (16, [pzI x0], [pzI 1], M)) rfl).trans ?_
      exact (e_zret tq_125 rfl).trans (grd_pos (by decide))
/-! PeacockDesk.goOn(LPeacockDesk$Terrace;I)V -/
set_option maxRecDepth 20000 in
theorem m_Desk_goOn_eq (k1 : Nat) (x2 : Int) (M : pz_M) (h1 : pz_cls k1 = 9) : m_Desk_goOn k1 x2 M = m_Desk_goOn_2 k1 x2 0 M := by
  show pzr 9 126 (0, [pzR 0, pzR k1, pzI x2, pzN], [], M) = _
  refine (pz_goes tq_126 2 (σ' := (2, [pzR 0, pzR k1, pzI x2, pzI 0], [], M)) rfl).trans ?_
  rfl
set_option maxRecDepth 20000 in
theorem m_Desk_goOn_2_eq (k1 : Nat) (x2 : Int) (x3 : Int) (M : pz_M) (h1 : pz_cls k1 = 9) : m_Desk_goOn_2 k1 x2 x3 M = if x3 < x2 then (if x3 < (100 : Int) then (bV (m_Terrace_dayGoesBy k1 ((M 0 2).toNat) ((M 0 0).toNat) M) fun M1 => m_Desk_goOn_2 k1 x2 (ia x3 (1)) M1) else (some (none, M))) else (some (none, M)) := by
  show pzr 9 126 (2, [pzR 0, pzR k1, pzI x2, pzI x3], [], M) = _
  refine (pz_goes tq_126 2 (σ' := (4, [pzR 0, pzR k1, pzI x2, pzI x3], [pzI x2, pzI x3], M)) rfl).trans ?_
  refine (e_icmp_ge tq_126 rfl).trans (e_ite ?_ ?_)
  · refine (pz_goes tq_126 2 (σ' := (10, [pzR 0, pzR k1, pzI x2, pzI x3], [pzI 100, pzI x3], M)) rfl).trans ?_
    refine (e_icmp_ge tq_126 rfl).trans (e_ite ?_ ?_)
    · refine (pz_goes tq_126 5 (σ' := (22, [pzR 0, pzR k1, pzI x2, pzI x3], [pzR ((M 0 0).toNat), pzR ((M 0 2).toNat), pzR k1], M)) rfl).trans ?_
      refine (e_callV (as := [pzR k1, pzR ((M 0 2).toNat), pzR ((M 0 0).toNat), pzN]) (rest := []) (d' := 8) tq_85 rfl (e_cokS rfl rfl h1) rfl rfl rfl tq_126 rfl).trans (e_bV rfl fun M1 => ?_)
      refine (pz_goes tq_126 2 (σ' := (2, [pzR 0, pzR k1, pzI x2, pzI (ia x3 (1))], [], M1)) rfl).trans ?_
      rfl
    · exact e_ret tq_126 rfl
  · exact e_ret tq_126 rfl
/-! java/lang/Math.max(II)I -/
set_option maxRecDepth 20000 in
theorem m_Math_max_eq (x0 : Int) (x1 : Int) (M : pz_M) : m_Math_max x0 x1 M = if x0 < x1 then some (some (pzI x1), M) else (some (some (pzI x0), M)) := by
  show pzr 3 127 (0, [pzI x0, pzI x1], [], M) = _
  refine (pz_goes tq_127 2 (σ' := (2, [pzI x0, pzI x1], [pzI x1, pzI x0], M)) rfl).trans ?_
  refine (e_icmp_lt tq_127 rfl).trans (e_ite ?_ ?_)
  · refine (pz_goes tq_127 1 (σ' := (10, [pzI x0, pzI x1], [pzI x1], M)) rfl).trans ?_
    exact e_iret tq_127 rfl
  · refine (pz_goes tq_127 2 (σ' := (10, [pzI x0, pzI x1], [pzI x0], M)) rfl).trans ?_
    exact e_iret tq_127 rfl
/-! java/lang/Math.min(II)I -/
set_option maxRecDepth 20000 in
theorem m_Math_min_eq (x0 : Int) (x1 : Int) (M : pz_M) : m_Math_min x0 x1 M = if x1 < x0 then some (some (pzI x1), M) else (some (some (pzI x0), M)) := by
  show pzr 3 128 (0, [pzI x0, pzI x1], [], M) = _
  refine (pz_goes tq_128 2 (σ' := (2, [pzI x0, pzI x1], [pzI x1, pzI x0], M)) rfl).trans ?_
  refine (e_icmp_gt tq_128 rfl).trans (e_ite ?_ ?_)
  · refine (pz_goes tq_128 1 (σ' := (10, [pzI x0, pzI x1], [pzI x1], M)) rfl).trans ?_
    exact e_iret tq_128 rfl
  · refine (pz_goes tq_128 2 (σ' := (10, [pzI x0, pzI x1], [pzI x0], M)) rfl).trans ?_
    exact e_iret tq_128 rfl
/-! java/lang/Math.floorMod(II)I -/
set_option maxRecDepth 20000 in
theorem m_Math_floorMod_eq (x0 : Int) (x1 : Int) (M : pz_M) : m_Math_floorMod x0 x1 M = grd (x1 ≠ 0) (if (ixo x0 x1) < 0 then (if (irm x0 x1) = 0 then some (some (pzI (irm x0 x1)), M) else (some (some (pzI (ia (irm x0 x1) x1)), M))) else (some (some (pzI (irm x0 x1)), M))) := by
  show pzr 3 129 (0, [pzI x0, pzI x1, pzN], [], M) = _
  refine (pz_goes tq_129 2 (σ' := (2, [pzI x0, pzI x1, pzN], [pzI x1, pzI x0], M)) rfl).trans ?_
  refine (e_div tq_129 rfl).trans (e_grd ?_)
  refine (pz_goes tq_129 4 (σ' := (7, [pzI x0, pzI x1, pzI (irm x0 x1)], [pzI (ixo x0 x1)], M)) rfl).trans ?_
  refine (e_if_ge tq_129 rfl).trans (e_ite ?_ ?_)
  · refine (pz_goes tq_129 1 (σ' := (11, [pzI x0, pzI x1, pzI (irm x0 x1)], [pzI (irm x0 x1)], M)) rfl).trans ?_
    refine (e_if_eq tq_129 rfl).trans (e_ite ?_ ?_)
    · refine (pz_goes tq_129 1 (σ' := (19, [pzI x0, pzI x1, pzI (irm x0 x1)], [pzI (irm x0 x1)], M)) rfl).trans ?_
      exact e_iret tq_129 rfl
    · refine (pz_goes tq_129 3 (σ' := (17, [pzI x0, pzI x1, pzI (irm x0 x1)], [pzI (ia (irm x0 x1) x1)], M)) rfl).trans ?_
      exact e_iret tq_129 rfl
  · refine (pz_goes tq_129 1 (σ' := (19, [pzI x0, pzI x1, pzI (irm x0 x1)], [pzI (irm x0 x1)], M)) rfl).trans ?_
    exact e_iret tq_129 rfl
/-! java/lang/Integer.bitCount(I)I -/
set_option maxRecDepth 20000 in
theorem m_Integer_bitCount_eq (x0 : Int) (M : pz_M) : m_Integer_bitCount x0 M = some (some (pzI (ian (ia (ia (ian (ia (ia (ian (isb x0 (ian (iuh x0 1) 1431655765)) 858993459) (ian (iuh (isb x0 (ian (iuh x0 1) 1431655765)) 2) 858993459)) (iuh (ia (ian (isb x0 (ian (iuh x0 1) 1431655765)) 858993459) (ian (iuh (isb x0 (ian (iuh x0 1) 1431655765)) 2) 858993459)) 4)) 252645135) (iuh (ian (ia (ia (ian (isb x0 (ian (iuh x0 1) 1431655765)) 858993459) (ian (iuh (isb x0 (ian (iuh x0 1) 1431655765)) 2) 858993459)) (iuh (ia (ian (isb x0 (ian (iuh x0 1) 1431655765)) 858993459) (ian (iuh (isb x0 (ian (iuh x0 1) 1431655765)) 2) 858993459)) 4)) 252645135) 8)) (iuh (ia (ian (ia (ia (ian (isb x0 (ian (iuh x0 1) 1431655765)) 858993459) (ian (iuh (isb x0 (ian (iuh x0 1) 1431655765)) 2) 858993459)) (iuh (ia (ian (isb x0 (ian (iuh x0 1) 1431655765)) 858993459) (ian (iuh (isb x0 (ian (iuh x0 1) 1431655765)) 2) 858993459)) 4)) 252645135) (iuh (ian (ia (ia (ian (isb x0 (ian (iuh x0 1) 1431655765)) 858993459) (ian (iuh (isb x0 (ian (iuh x0 1) 1431655765)) 2) 858993459)) (iuh (ia (ian (isb x0 (ian (iuh x0 1) 1431655765)) 858993459) (ian (iuh (isb x0 (ian (iuh x0 1) 1431655765)) 2) 858993459)) 4)) 252645135) 8)) 16)) 63)), M) := by
  show pzr 3 130 (0, [pzI x0], [], M) = _
  refine (pz_goes tq_130 41 (σ' := (52, [pzI (ia (ia (ian (ia (ia (ian (isb x0 (ian (iuh x0 1) 1431655765)) 858993459) (ian (iuh (isb x0 (ian (iuh x0 1) 1431655765)) 2) 858993459)) (iuh (ia (ian (isb x0 (ian (iuh x0 1) 1431655765)) 858993459) (ian (iuh (isb x0 (ian (iuh x0 1) 1431655765)) 2) 858993459)) 4)) 252645135) (iuh (ian (ia (ia (ian (isb x0 (ian (iuh x0 1) 1431655765)) 858993459) (ian (iuh (isb x0 (ian (iuh x0 1) 1431655765)) 2) 858993459)) (iuh (ia (ian (isb x0 (ian (iuh x0 1) 1431655765)) 858993459) (ian (iuh (isb x0 (ian (iuh x0 1) 1431655765)) 2) 858993459)) 4)) 252645135) 8)) (iuh (ia (ian (ia (ia (ian (isb x0 (ian (iuh x0 1) 1431655765)) 858993459) (ian (iuh (isb x0 (ian (iuh x0 1) 1431655765)) 2) 858993459)) (iuh (ia (ian (isb x0 (ian (iuh x0 1) 1431655765)) 858993459) (ian (iuh (isb x0 (ian (iuh x0 1) 1431655765)) 2) 858993459)) 4)) 252645135) (iuh (ian (ia (ia (ian (isb x0 (ian (iuh x0 1) 1431655765)) 858993459) (ian (iuh (isb x0 (ian (iuh x0 1) 1431655765)) 2) 858993459)) (iuh (ia (ian (isb x0 (ian (iuh x0 1) 1431655765)) 858993459) (ian (iuh (isb x0 (ian (iuh x0 1) 1431655765)) 2) 858993459)) 4)) 252645135) 8)) 16))], [pzI (ian (ia (ia (ian (ia (ia (ian (isb x0 (ian (iuh x0 1) 1431655765)) 858993459) (ian (iuh (isb x0 (ian (iuh x0 1) 1431655765)) 2) 858993459)) (iuh (ia (ian (isb x0 (ian (iuh x0 1) 1431655765)) 858993459) (ian (iuh (isb x0 (ian (iuh x0 1) 1431655765)) 2) 858993459)) 4)) 252645135) (iuh (ian (ia (ia (ian (isb x0 (ian (iuh x0 1) 1431655765)) 858993459) (ian (iuh (isb x0 (ian (iuh x0 1) 1431655765)) 2) 858993459)) (iuh (ia (ian (isb x0 (ian (iuh x0 1) 1431655765)) 858993459) (ian (iuh (isb x0 (ian (iuh x0 1) 1431655765)) 2) 858993459)) 4)) 252645135) 8)) (iuh (ia (ian (ia (ia (ian (isb x0 (ian (iuh x0 1) 1431655765)) 858993459) (ian (iuh (isb x0 (ian (iuh x0 1) 1431655765)) 2) 858993459)) (iuh (ia (ian (isb x0 (ian (iuh x0 1) 1431655765)) 858993459) (ian (iuh (isb x0 (ian (iuh x0 1) 1431655765)) 2) 858993459)) 4)) 252645135) (iuh (ian (ia (ia (ian (isb x0 (ian (iuh x0 1) 1431655765)) 858993459) (ian (iuh (isb x0 (ian (iuh x0 1) 1431655765)) 2) 858993459)) (iuh (ia (ian (isb x0 (ian (iuh x0 1) 1431655765)) 858993459) (ian (iuh (isb x0 (ian (iuh x0 1) 1431655765)) 2) 858993459)) 4)) 252645135) 8)) 16)) 63)], M)) rfl).trans ?_
  exact e_iret tq_130 rfl
/-! java/lang/Integer.numberOfTrailingZeros(I)I -/
set_option maxRecDepth 20000 in
theorem m_Integer_numberOfTrailingZeros_eq (x0 : Int) (M : pz_M) : m_Integer_numberOfTrailingZeros x0 M = if 0 < (ian (ixo x0 (-1)) (isb x0 1)) then (if (65536 : Int) < (ian (ixo x0 (-1)) (isb x0 1)) then (m_Integer_numberOfTrailingZeros_34 (iuh (ian (ixo x0 (-1)) (isb x0 1)) 16) (ia 1 (16)) M) else (m_Integer_numberOfTrailingZeros_34 (ian (ixo x0 (-1)) (isb x0 1)) 1 M)) else (some (some (pzI (ian (ian (ixo x0 (-1)) (isb x0 1)) 32)), M)) := by
  show pzr 3 131 (0, [pzI x0, pzN], [], M) = _
  refine (pz_goes tq_131 9 (σ' := (9, [pzI (ian (ixo x0 (-1)) (isb x0 1)), pzN], [pzI (ian (ixo x0 (-1)) (isb x0 1))], M)) rfl).trans ?_
  refine (e_if_gt tq_131 rfl).trans (e_ite ?_ ?_)
  · refine (pz_goes tq_131 4 (σ' := (23, [pzI (ian (ixo x0 (-1)) (isb x0 1)), pzI 1], [pzI 65536, pzI (ian (ixo x0 (-1)) (isb x0 1))], M)) rfl).trans ?_
    refine (e_icmp_le tq_131 rfl).trans (e_ite ?_ ?_)
    · refine (pz_goes tq_131 5 (σ' := (34, [pzI (iuh (ian (ixo x0 (-1)) (isb x0 1)) 16), pzI (ia 1 (16))], [], M)) rfl).trans ?_
      rfl
    · rfl
  · refine (pz_goes tq_131 3 (σ' := (16, [pzI (ian (ixo x0 (-1)) (isb x0 1)), pzN], [pzI (ian (ian (ixo x0 (-1)) (isb x0 1)) 32)], M)) rfl).trans ?_
    exact e_iret tq_131 rfl
set_option maxRecDepth 20000 in
theorem m_Integer_numberOfTrailingZeros_34_eq (x0 : Int) (x1 : Int) (M : pz_M) : m_Integer_numberOfTrailingZeros_34 x0 x1 M = if (256 : Int) < x0 then (m_Integer_numberOfTrailingZeros_49 (iuh x0 8) (ia x1 (8)) M) else (m_Integer_numberOfTrailingZeros_49 x0 x1 M) := by
  show pzr 3 131 (34, [pzI x0, pzI x1], [], M) = _
  refine (pz_goes tq_131 2 (σ' := (38, [pzI x0, pzI x1], [pzI 256, pzI x0], M)) rfl).trans ?_
  refine (e_icmp_le tq_131 rfl).trans (e_ite ?_ ?_)
  · refine (pz_goes tq_131 5 (σ' := (49, [pzI (iuh x0 8), pzI (ia x1 (8))], [], M)) rfl).trans ?_
    rfl
  · rfl
set_option maxRecDepth 20000 in
theorem m_Integer_numberOfTrailingZeros_49_eq (x0 : Int) (x1 : Int) (M : pz_M) : m_Integer_numberOfTrailingZeros_49 x0 x1 M = if (16 : Int) < x0 then (m_Integer_numberOfTrailingZeros_62 (iuh x0 4) (ia x1 (4)) M) else (m_Integer_numberOfTrailingZeros_62 x0 x1 M) := by
  show pzr 3 131 (49, [pzI x0, pzI x1], [], M) = _
  refine (pz_goes tq_131 2 (σ' := (52, [pzI x0, pzI x1], [pzI 16, pzI x0], M)) rfl).trans ?_
  refine (e_icmp_le tq_131 rfl).trans (e_ite ?_ ?_)
  · refine (pz_goes tq_131 5 (σ' := (62, [pzI (iuh x0 4), pzI (ia x1 (4))], [], M)) rfl).trans ?_
    rfl
  · rfl
set_option maxRecDepth 20000 in
theorem m_Integer_numberOfTrailingZeros_62_eq (x0 : Int) (x1 : Int) (M : pz_M) : m_Integer_numberOfTrailingZeros_62 x0 x1 M = if (4 : Int) < x0 then some (some (pzI (ia (ia x1 (2)) (iuh (iuh x0 2) 1))), M) else (some (some (pzI (ia x1 (iuh x0 1))), M)) := by
  show pzr 3 131 (62, [pzI x0, pzI x1], [], M) = _
  refine (pz_goes tq_131 2 (σ' := (64, [pzI x0, pzI x1], [pzI 4, pzI x0], M)) rfl).trans ?_
  refine (e_icmp_le tq_131 rfl).trans (e_ite ?_ ?_)
  · refine (pz_goes tq_131 10 (σ' := (79, [pzI (iuh x0 2), pzI (ia x1 (2))], [pzI (ia (ia x1 (2)) (iuh (iuh x0 2) 1))], M)) rfl).trans ?_
    exact e_iret tq_131 rfl
  · refine (pz_goes tq_131 5 (σ' := (79, [pzI x0, pzI x1], [pzI (ia x1 (iuh x0 1))], M)) rfl).trans ?_
    exact e_iret tq_131 rfl
/-! java/util/Arrays.fill([II)V -/
set_option maxRecDepth 20000 in
theorem m_Arrays_fill_eq (k0 : Nat) (x1 : Int) (M : pz_M) (h0 : pz_cls k0 = 20) : m_Arrays_fill k0 x1 M = m_Arrays_fill_5 k0 x1 0 (pz_len k0) M := by
  show pzr 3 132 (0, [pzR k0, pzI x1, pzN, pzN], [], M) = _
  refine (pz_goes tq_132 3 (σ' := (3, [pzR k0, pzI x1, pzI 0, pzN], [pzR k0], M)) rfl).trans ?_
  refine (e_alen h0 tq_132 rfl).trans ?_
  refine (pz_goes tq_132 1 (σ' := (5, [pzR k0, pzI x1, pzI 0, pzI (pz_len k0)], [], M)) rfl).trans ?_
  rfl
set_option maxRecDepth 20000 in
theorem m_Arrays_fill_5_eq (k0 : Nat) (x1 : Int) (x2 : Int) (x3 : Int) (M : pz_M) (h0 : pz_cls k0 = 20) : m_Arrays_fill_5 k0 x1 x2 x3 M = if x2 < x3 then (grd (0 ≤ x2 ∧ x2 < (pz_len k0)) (bM (pz_wr M k0 ((x2).toNat) x1) fun M1 => m_Arrays_fill_5 k0 x1 (ia x2 (1)) x3 M1)) else (some (none, M)) := by
  show pzr 3 132 (5, [pzR k0, pzI x1, pzI x2, pzI x3], [], M) = _
  refine (pz_goes tq_132 2 (σ' := (7, [pzR k0, pzI x1, pzI x2, pzI x3], [pzI x3, pzI x2], M)) rfl).trans ?_
  refine (e_icmp_ge tq_132 rfl).trans (e_ite ?_ ?_)
  · refine (pz_goes tq_132 3 (σ' := (13, [pzR k0, pzI x1, pzI x2, pzI x3], [pzI x1, pzI x2, pzR k0], M)) rfl).trans ?_
    refine (e_iast (n := (pz_len k0)) h0 rfl tq_132 rfl).trans (e_grd ?_)
    refine e_bM (m := pz_wr M k0 ((x2).toNat) x1) (f := fun M1 => pzr 3 132 (14, [pzR k0, pzI x1, pzI x2, pzI x3], [], M1)) (fun M1 => ?_)
    refine (pz_goes tq_132 2 (σ' := (5, [pzR k0, pzI x1, pzI (ia x2 (1)), pzI x3], [], M1)) rfl).trans ?_
    rfl
  · exact e_ret tq_132 rfl
/-! java/lang/String.length()I -/
set_option maxRecDepth 20000 in
theorem m_String_length_eq (k0 : Nat) (M : pz_M) (h0 : pz_cls k0 = 24) : m_String_length k0 M = bI (m_String_coder k0 M) fun r2 M1 => some (some (pzI (ihr (pz_sln.getD ((k0 + 5) - 86) 0 : Nat) r2)), M1) := by
  show pzr 4 133 (0, [pzR k0], [], M) = _
  refine (pz_goes tq_133 1 (σ' := (1, [pzR k0], [pzR k0], M)) rfl).trans ?_
  refine (e_sval h0 tq_133 rfl).trans ?_
  refine (e_slen (sb_cls h0) tq_133 rfl).trans ?_
  refine (pz_goes tq_133 1 (σ' := (6, [pzR k0], [pzR k0, pzI (pz_sln.getD ((k0 + 5) - 86) 0 : Nat)], M)) rfl).trans ?_
  refine (e_callI (as := [pzR k0]) (rest := [pzI (pz_sln.getD ((k0 + 5) - 86) 0 : Nat)]) (d' := 3) tq_135 rfl (e_cokS rfl rfl h0) rfl rfl rfl tq_133 rfl).trans (e_bI rfl fun r2 M1 => ?_)
  refine (pz_goes tq_133 1 (σ' := (10, [pzR k0], [pzI (ihr (pz_sln.getD ((k0 + 5) - 86) 0 : Nat) r2)], M1)) rfl).trans ?_
  exact e_iret tq_133 rfl
/-! java/lang/String.charAt(I)C -/
set_option maxRecDepth 20000 in
theorem m_String_charAt_eq (k0 : Nat) (x1 : Int) (M : pz_M) (h0 : pz_cls k0 = 24) : m_String_charAt k0 x1 M = bI (m_String_isLatin1 k0 M) fun r2 M1 => if r2 = 0 then (none) else (bI (m_StringLatin1_charAt (k0 + 5) x1 M1) fun r4 M3 => grd (g_chr r4 = true) (some (some (pzI r4), M3))) := by
  show pzr 4 134 (0, [pzR k0, pzI x1], [], M) = _
  refine (pz_goes tq_134 1 (σ' := (1, [pzR k0, pzI x1], [pzR k0], M)) rfl).trans ?_
  refine (e_callI (as := [pzR k0]) (rest := []) (d' := 3) tq_136 rfl (e_cokS rfl rfl h0) rfl rfl rfl tq_134 rfl).trans (e_bI rfl fun r2 M1 => ?_)
  refine (e_if_eq tq_134 rfl).trans (e_ite ?_ ?_)
  · exact e_stop tq_134 rfl
  · refine (pz_goes tq_134 1 (σ' := (8, [pzR k0, pzI x1], [pzR k0], M1)) rfl).trans ?_
    refine (e_sval h0 tq_134 rfl).trans ?_
    refine (pz_goes tq_134 1 (σ' := (12, [pzR k0, pzI x1], [pzI x1, pzR (k0 + 5)], M1)) rfl).trans ?_
    refine (e_callI (as := [pzR (k0 + 5), pzI x1]) (rest := []) (d' := 3) tq_137 rfl rfl rfl rfl rfl tq_134 rfl).trans (e_bI rfl fun r4 M3 => ?_)
    exact e_gret tq_134 rfl
/-! java/lang/String.coder()B -/
set_option maxRecDepth 20000 in
theorem m_String_coder_eq (k0 : Nat) (M : pz_M) (h0 : pz_cls k0 = 24) : m_String_coder k0 M = if (1 : Int) = 0 then (grd (g_byte 1 = true) (some (some (pzI 1), M))) else (grd (g_byte 0 = true) (some (some (pzI 0), M))) := by
  show pzr 3 135 (0, [pzR k0], [], M) = _
  refine (pz_goes tq_135 1 (σ' := (3, [pzR k0], [pzI 1], M)) rfl).trans ?_
  refine (e_if_eq tq_135 rfl).trans (e_ite ?_ ?_)
  · refine (pz_goes tq_135 1 (σ' := (14, [pzR k0], [pzI 1], M)) rfl).trans ?_
    exact e_gret tq_135 rfl
  · refine (pz_goes tq_135 1 (σ' := (7, [pzR k0], [pzR k0], M)) rfl).trans ?_
    refine (e_scod h0 tq_135 rfl).trans ?_
    refine (pz_goes tq_135 1 (σ' := (14, [pzR k0], [pzI 0], M)) rfl).trans ?_
    exact e_gret tq_135 rfl
/-! java/lang/String.isLatin1()Z -/
set_option maxRecDepth 20000 in
theorem m_String_isLatin1_eq (k0 : Nat) (M : pz_M) (h0 : pz_cls k0 = 24) : m_String_isLatin1 k0 M = if (1 : Int) = 0 then some (some (pzI 0), M) else (if (0 : Int) = 0 then some (some (pzI 1), M) else (some (some (pzI 0), M))) := by
  show pzr 3 136 (0, [pzR k0], [], M) = _
  refine (pz_goes tq_136 1 (σ' := (3, [pzR k0], [pzI 1], M)) rfl).trans ?_
  refine (e_if_eq tq_136 rfl).trans (e_ite ?_ ?_)
  · refine (pz_goes tq_136 1 (σ' := (18, [pzR k0], [pzI 0], M)) rfl).trans ?_
    exact (e_zret tq_136 rfl).trans (grd_pos (by decide))
  · refine (pz_goes tq_136 1 (σ' := (7, [pzR k0], [pzR k0], M)) rfl).trans ?_
    refine (e_scod h0 tq_136 rfl).trans ?_
    refine (e_if_ne tq_136 rfl).trans (e_ite ?_ ?_)
    · refine (pz_goes tq_136 2 (σ' := (18, [pzR k0], [pzI 1], M)) rfl).trans ?_
      exact (e_zret tq_136 rfl).trans (grd_pos (by decide))
    · refine (pz_goes tq_136 1 (σ' := (18, [pzR k0], [pzI 0], M)) rfl).trans ?_
      exact (e_zret tq_136 rfl).trans (grd_pos (by decide))
/-! java/lang/StringLatin1.charAt([BI)C -/
set_option maxRecDepth 20000 in
theorem m_StringLatin1_charAt_eq (k0 : Nat) (x1 : Int) (M : pz_M) (h0 : pz_cls k0 = 25) : m_StringLatin1_charAt k0 x1 M = grd (0 ≤ x1 ∧ x1 < (pz_sln.getD (k0 - 86) 0 : Nat)) (grd (0 ≤ x1 ∧ x1 < pz_sln.getD (k0 - 86) 0) (grd (g_chr (itc (ian (((pz_sby.getD (k0 - 86) []).getD (x1).toNat 0).toInt) 255)) = true) (some (some (pzI (itc (ian (((pz_sby.getD (k0 - 86) []).getD (x1).toNat 0).toInt) 255))), M)))) := by
  show pzr 3 137 (0, [pzR k0, pzI x1], [], M) = _
  refine (pz_goes tq_137 2 (σ' := (2, [pzR k0, pzI x1], [pzR k0, pzI x1], M)) rfl).trans ?_
  refine (e_slen h0 tq_137 rfl).trans ?_
  refine (e_chk rfl tq_137 rfl).trans (e_grd ?_)
  refine (pz_goes tq_137 2 (σ' := (8, [pzR k0, pzI x1], [pzI x1, pzR k0], M)) rfl).trans ?_
  refine (e_sbld h0 tq_137 rfl).trans (e_grd ?_)
  refine (pz_goes tq_137 3 (σ' := (14, [pzR k0, pzI x1], [pzI (itc (ian (((pz_sby.getD (k0 - 86) []).getD (x1).toNat 0).toInt) 255))], M)) rfl).trans ?_
  exact e_gret tq_137 rfl
/-! PeacockDeskModel.in(III)Z -/
set_option maxRecDepth 20000 in
theorem m_Mod_in_eq (x0 : Int) (x1 : Int) (x2 : Int) (M : pz_M) : m_Mod_in x0 x1 x2 M = if x0 < x1 then some (some (pzI 0), M) else (if x2 < x0 then some (some (pzI 0), M) else (some (some (pzI 1), M))) := by
  show pzr 3 138 (0, [pzI x0, pzI x1, pzI x2], [], M) = _
  refine (pz_goes tq_138 2 (σ' := (2, [pzI x0, pzI x1, pzI x2], [pzI x1, pzI x0], M)) rfl).trans ?_
  refine (e_icmp_lt tq_138 rfl).trans (e_ite ?_ ?_)
  · refine (pz_goes tq_138 1 (σ' := (15, [pzI x0, pzI x1, pzI x2], [pzI 0], M)) rfl).trans ?_
    exact (e_zret tq_138 rfl).trans (grd_pos (by decide))
  · refine (pz_goes tq_138 2 (σ' := (7, [pzI x0, pzI x1, pzI x2], [pzI x2, pzI x0], M)) rfl).trans ?_
    refine (e_icmp_gt tq_138 rfl).trans (e_ite ?_ ?_)
    · refine (pz_goes tq_138 1 (σ' := (15, [pzI x0, pzI x1, pzI x2], [pzI 0], M)) rfl).trans ?_
      exact (e_zret tq_138 rfl).trans (grd_pos (by decide))
    · refine (pz_goes tq_138 2 (σ' := (15, [pzI x0, pzI x1, pzI x2], [pzI 1], M)) rfl).trans ?_
      exact (e_zret tq_138 rfl).trans (grd_pos (by decide))
/-! PeacockDeskModel.min(II)I -/
set_option maxRecDepth 20000 in
theorem m_Mod_min_eq (x0 : Int) (x1 : Int) (M : pz_M) : m_Mod_min x0 x1 M = if x0 < x1 then some (some (pzI x0), M) else (some (some (pzI x1), M)) := by
  show pzr 3 139 (0, [pzI x0, pzI x1], [], M) = _
  refine (pz_goes tq_139 2 (σ' := (2, [pzI x0, pzI x1], [pzI x1, pzI x0], M)) rfl).trans ?_
  refine (e_icmp_ge tq_139 rfl).trans (e_ite ?_ ?_)
  · refine (pz_goes tq_139 2 (σ' := (10, [pzI x0, pzI x1], [pzI x0], M)) rfl).trans ?_
    exact e_iret tq_139 rfl
  · refine (pz_goes tq_139 1 (σ' := (10, [pzI x0, pzI x1], [pzI x1], M)) rfl).trans ?_
    exact e_iret tq_139 rfl
/-! PeacockDeskModel.max(II)I -/
set_option maxRecDepth 20000 in
theorem m_Mod_max_eq (x0 : Int) (x1 : Int) (M : pz_M) : m_Mod_max x0 x1 M = if x1 < x0 then some (some (pzI x0), M) else (some (some (pzI x1), M)) := by
  show pzr 3 140 (0, [pzI x0, pzI x1], [], M) = _
  refine (pz_goes tq_140 2 (σ' := (2, [pzI x0, pzI x1], [pzI x1, pzI x0], M)) rfl).trans ?_
  refine (e_icmp_le tq_140 rfl).trans (e_ite ?_ ?_)
  · refine (pz_goes tq_140 2 (σ' := (10, [pzI x0, pzI x1], [pzI x0], M)) rfl).trans ?_
    exact e_iret tq_140 rfl
  · refine (pz_goes tq_140 1 (σ' := (10, [pzI x0, pzI x1], [pzI x1], M)) rfl).trans ?_
    exact e_iret tq_140 rfl
/-! PeacockDeskModel.size(I)I -/
set_option maxRecDepth 20000 in
theorem m_Mod_size_eq (x0 : Int) (M : pz_M) : m_Mod_size x0 M = if x0 < 0 then some (some (pzI (ing x0)), M) else (some (some (pzI x0), M)) := by
  show pzr 3 141 (0, [pzI x0], [], M) = _
  refine (pz_goes tq_141 1 (σ' := (1, [pzI x0], [pzI x0], M)) rfl).trans ?_
  refine (e_if_ge tq_141 rfl).trans (e_ite ?_ ?_)
  · refine (pz_goes tq_141 3 (σ' := (10, [pzI x0], [pzI (ing x0)], M)) rfl).trans ?_
    exact e_iret tq_141 rfl
  · refine (pz_goes tq_141 1 (σ' := (10, [pzI x0], [pzI x0], M)) rfl).trans ?_
    exact e_iret tq_141 rfl
/-! PeacockDeskModel.has(II)Z -/
set_option maxRecDepth 20000 in
theorem m_Mod_has_eq (x0 : Int) (x1 : Int) (M : pz_M) : m_Mod_has x0 x1 M = if (ian (ihr x0 x1) 1) = (1 : Int) then some (some (pzI 1), M) else (some (some (pzI 0), M)) := by
  show pzr 3 142 (0, [pzI x0, pzI x1], [], M) = _
  refine (pz_goes tq_142 6 (σ' := (6, [pzI x0, pzI x1], [pzI 1, pzI (ian (ihr x0 x1) 1)], M)) rfl).trans ?_
  refine (e_icmp_ne tq_142 rfl).trans (e_ite ?_ ?_)
  · refine (pz_goes tq_142 2 (σ' := (14, [pzI x0, pzI x1], [pzI 1], M)) rfl).trans ?_
    exact (e_zret tq_142 rfl).trans (grd_pos (by decide))
  · refine (pz_goes tq_142 1 (σ' := (14, [pzI x0, pzI x1], [pzI 0], M)) rfl).trans ?_
    exact (e_zret tq_142 rfl).trans (grd_pos (by decide))
/-! PeacockDeskModel.bits(I)I -/
set_option maxRecDepth 20000 in
theorem m_Mod_bits_eq (x0 : Int) (M : pz_M) : m_Mod_bits x0 M = m_Mod_bits_4 x0 0 0 M := by
  show pzr 3 143 (0, [pzI x0, pzN, pzN], [], M) = _
  refine (pz_goes tq_143 4 (σ' := (4, [pzI x0, pzI 0, pzI 0], [], M)) rfl).trans ?_
  rfl
set_option maxRecDepth 20000 in
theorem m_Mod_bits_4_eq (x0 : Int) (x1 : Int) (x2 : Int) (M : pz_M) : m_Mod_bits_4 x0 x1 x2 M = if x2 < (24 : Int) then (m_Mod_bits_4 x0 (ia x1 (ian (ihr x0 x2) 1)) (ia x2 (1)) M) else (some (some (pzI x1), M)) := by
  show pzr 3 143 (4, [pzI x0, pzI x1, pzI x2], [], M) = _
  refine (pz_goes tq_143 2 (σ' := (7, [pzI x0, pzI x1, pzI x2], [pzI 24, pzI x2], M)) rfl).trans ?_
  refine (e_icmp_ge tq_143 rfl).trans (e_ite ?_ ?_)
  · refine (pz_goes tq_143 10 (σ' := (4, [pzI x0, pzI (ia x1 (ian (ihr x0 x2) 1)), pzI (ia x2 (1))], [], M)) rfl).trans ?_
    rfl
  · refine (pz_goes tq_143 1 (σ' := (25, [pzI x0, pzI x1, pzI x2], [pzI x1], M)) rfl).trans ?_
    exact e_iret tq_143 rfl
/-! PeacockDeskModel.copies([I[I)V -/
set_option maxRecDepth 20000 in
theorem m_Mod_copies_eq (k0 : Nat) (k1 : Nat) (M : pz_M) (h0 : pz_cls k0 = 21) (h1 : pz_cls k1 = 21) : m_Mod_copies k0 k1 M = m_Mod_copies_2 k0 k1 0 M := by
  show pzr 3 144 (0, [pzR k0, pzR k1, pzN], [], M) = _
  refine (pz_goes tq_144 2 (σ' := (2, [pzR k0, pzR k1, pzI 0], [], M)) rfl).trans ?_
  rfl
set_option maxRecDepth 20000 in
theorem m_Mod_copies_2_eq (k0 : Nat) (k1 : Nat) (x2 : Int) (M : pz_M) (h0 : pz_cls k0 = 21) (h1 : pz_cls k1 = 21) : m_Mod_copies_2 k0 k1 x2 M = if x2 < (83 : Int) then (grd (0 ≤ x2 ∧ x2 < (pz_len k0)) (grd (0 ≤ x2 ∧ x2 < (pz_len k1)) (bM (pz_wr M k1 ((x2).toNat) (M k0 ((x2).toNat))) fun M1 => m_Mod_copies_2 k0 k1 (ia x2 (1)) M1))) else (some (none, M)) := by
  show pzr 3 144 (2, [pzR k0, pzR k1, pzI x2], [], M) = _
  refine (pz_goes tq_144 2 (σ' := (5, [pzR k0, pzR k1, pzI x2], [pzI 83, pzI x2], M)) rfl).trans ?_
  refine (e_icmp_ge tq_144 rfl).trans (e_ite ?_ ?_)
  · refine (pz_goes tq_144 4 (σ' := (12, [pzR k0, pzR k1, pzI x2], [pzI x2, pzR k0, pzI x2, pzR k1], M)) rfl).trans ?_
    refine (e_iald (n := (pz_len k0)) h0 rfl tq_144 rfl).trans (e_grd ?_)
    refine (e_iast (n := (pz_len k1)) h1 rfl tq_144 rfl).trans (e_grd ?_)
    refine e_bM (m := pz_wr M k1 ((x2).toNat) (M k0 ((x2).toNat))) (f := fun M1 => pzr 3 144 (14, [pzR k0, pzR k1, pzI x2], [], M1)) (fun M1 => ?_)
    refine (pz_goes tq_144 2 (σ' := (2, [pzR k0, pzR k1, pzI (ia x2 (1))], [], M1)) rfl).trans ?_
    rfl
  · exact e_ret tq_144 rfl
/-! PeacockDeskModel.isCase(I)Z -/
set_option maxRecDepth 20000 in
theorem m_Mod_isCase_eq (x1 : Int) (M : pz_M) : m_Mod_isCase x1 M = bI (m_Mod_in x1 0 (isb (M 100 6) 1) M) fun r2 M1 => grd (r2 = 0 ∨ r2 = 1) (some (some (pzI r2), M1)) := by
  show pzr 4 145 (0, [pzR 100, pzI x1], [], M) = _
  refine (pz_goes tq_145 6 (σ' := (8, [pzR 100, pzI x1], [pzI (isb (M 100 6) 1), pzI 0, pzI x1], M)) rfl).trans ?_
  refine (e_callI (as := [pzI x1, pzI 0, pzI (isb (M 100 6) 1)]) (rest := []) (d' := 3) tq_138 rfl rfl rfl rfl rfl tq_145 rfl).trans (e_bI rfl fun r2 M1 => ?_)
  exact e_zret tq_145 rfl
/-! PeacockDeskModel.isLeft(I)Z -/
set_option maxRecDepth 20000 in
theorem m_Mod_isLeft_eq (x1 : Int) (M : pz_M) : m_Mod_isLeft x1 M = bI (m_Mod_isCase x1 M) fun r2 M1 => if r2 = 0 then some (some (pzI 0), M1) else (grd (0 ≤ (ia 0 x1) ∧ (ia 0 x1) < 83) (if (M1 101 (((ia 0 x1)).toNat)) = (2 : Int) then some (some (pzI 0), M1) else (some (some (pzI 1), M1)))) := by
  show pzr 5 146 (0, [pzR 100, pzI x1], [], M) = _
  refine (pz_goes tq_146 2 (σ' := (2, [pzR 100, pzI x1], [pzI x1, pzR 100], M)) rfl).trans ?_
  refine (e_callI (as := [pzR 100, pzI x1]) (rest := []) (d' := 4) tq_145 rfl rfl rfl rfl rfl tq_146 rfl).trans (e_bI rfl fun r2 M1 => ?_)
  refine (e_if_eq tq_146 rfl).trans (e_ite ?_ ?_)
  · refine (pz_goes tq_146 1 (σ' := (25, [pzR 100, pzI x1], [pzI 0], M1)) rfl).trans ?_
    exact (e_zret tq_146 rfl).trans (grd_pos (by decide))
  · refine (pz_goes tq_146 5 (σ' := (15, [pzR 100, pzI x1], [pzI (ia 0 x1), pzR 101], M1)) rfl).trans ?_
    refine (e_iald (n := 83) rfl rfl tq_146 rfl).trans (e_grd ?_)
    refine (pz_goes tq_146 1 (σ' := (17, [pzR 100, pzI x1], [pzI 2, pzI (M1 101 (((ia 0 x1)).toNat))], M1)) rfl).trans ?_
    refine (e_icmp_eq tq_146 rfl).trans (e_ite ?_ ?_)
    · refine (pz_goes tq_146 1 (σ' := (25, [pzR 100, pzI x1], [pzI 0], M1)) rfl).trans ?_
      exact (e_zret tq_146 rfl).trans (grd_pos (by decide))
    · refine (pz_goes tq_146 2 (σ' := (25, [pzR 100, pzI x1], [pzI 1], M1)) rfl).trans ?_
      exact (e_zret tq_146 rfl).trans (grd_pos (by decide))
/-! PeacockDeskModel.hasIt(II)Z -/
set_option maxRecDepth 20000 in
theorem m_Mod_hasIt_eq (x1 : Int) (x2 : Int) (M : pz_M) : m_Mod_hasIt x1 x2 M = bI (m_Mod_isCase x2 M) fun r2 M1 => if r2 = 0 then some (some (pzI 0), M1) else (grd (0 ≤ (ia 0 x2) ∧ (ia 0 x2) < 83) (if (M1 101 (((ia 0 x2)).toNat)) = (1 : Int) then (grd (0 ≤ (ia 24 x2) ∧ (ia 24 x2) < 83) (if (M1 101 (((ia 24 x2)).toNat)) = x1 then some (some (pzI 1), M1) else (some (some (pzI 0), M1)))) else (some (some (pzI 0), M1)))) := by
  show pzr 5 147 (0, [pzR 100, pzI x1, pzI x2], [], M) = _
  refine (pz_goes tq_147 2 (σ' := (2, [pzR 100, pzI x1, pzI x2], [pzI x2, pzR 100], M)) rfl).trans ?_
  refine (e_callI (as := [pzR 100, pzI x2]) (rest := []) (d' := 4) tq_145 rfl rfl rfl rfl rfl tq_147 rfl).trans (e_bI rfl fun r2 M1 => ?_)
  refine (e_if_eq tq_147 rfl).trans (e_ite ?_ ?_)
  · refine (pz_goes tq_147 1 (σ' := (38, [pzR 100, pzI x1, pzI x2], [pzI 0], M1)) rfl).trans ?_
    exact (e_zret tq_147 rfl).trans (grd_pos (by decide))
  · refine (pz_goes tq_147 5 (σ' := (15, [pzR 100, pzI x1, pzI x2], [pzI (ia 0 x2), pzR 101], M1)) rfl).trans ?_
    refine (e_iald (n := 83) rfl rfl tq_147 rfl).trans (e_grd ?_)
    refine (pz_goes tq_147 1 (σ' := (17, [pzR 100, pzI x1, pzI x2], [pzI 1, pzI (M1 101 (((ia 0 x2)).toNat))], M1)) rfl).trans ?_
    refine (e_icmp_ne tq_147 rfl).trans (e_ite ?_ ?_)
    · refine (pz_goes tq_147 5 (σ' := (28, [pzR 100, pzI x1, pzI x2], [pzI (ia 24 x2), pzR 101], M1)) rfl).trans ?_
      refine (e_iald (n := 83) rfl rfl tq_147 rfl).trans (e_grd ?_)
      refine (pz_goes tq_147 1 (σ' := (30, [pzR 100, pzI x1, pzI x2], [pzI x1, pzI (M1 101 (((ia 24 x2)).toNat))], M1)) rfl).trans ?_
      refine (e_icmp_ne tq_147 rfl).trans (e_ite ?_ ?_)
      · refine (pz_goes tq_147 2 (σ' := (38, [pzR 100, pzI x1, pzI x2], [pzI 1], M1)) rfl).trans ?_
        exact (e_zret tq_147 rfl).trans (grd_pos (by decide))
      · refine (pz_goes tq_147 1 (σ' := (38, [pzR 100, pzI x1, pzI x2], [pzI 0], M1)) rfl).trans ?_
        exact (e_zret tq_147 rfl).trans (grd_pos (by decide))
    · refine (pz_goes tq_147 1 (σ' := (38, [pzR 100, pzI x1, pzI x2], [pzI 0], M1)) rfl).trans ?_
      exact (e_zret tq_147 rfl).trans (grd_pos (by decide))
/-! PeacockDeskModel.casesOf(I)I -/
set_option maxRecDepth 20000 in
theorem m_Mod_casesOf_eq (x1 : Int) (M : pz_M) : m_Mod_casesOf x1 M = m_Mod_casesOf_4 x1 0 0 M := by
  show pzr 6 148 (0, [pzR 100, pzI x1, pzN, pzN], [], M) = _
  refine (pz_goes tq_148 4 (σ' := (4, [pzR 100, pzI x1, pzI 0, pzI 0], [], M)) rfl).trans ?_
  rfl
set_option maxRecDepth 20000 in
theorem m_Mod_casesOf_4_eq (x1 : Int) (x2 : Int) (x3 : Int) (M : pz_M) : m_Mod_casesOf_4 x1 x2 x3 M = if x3 < (M 100 6) then (bI (m_Mod_hasIt x1 x3 M) fun r2 M1 => if r2 = 0 then (m_Mod_casesOf_4 x1 x2 (ia x3 (1)) M1) else (m_Mod_casesOf_4 x1 (iro x2 (ihl 1 x3)) (ia x3 (1)) M1)) else (some (some (pzI x2), M)) := by
  show pzr 6 148 (4, [pzR 100, pzI x1, pzI x2, pzI x3], [], M) = _
  refine (pz_goes tq_148 3 (σ' := (9, [pzR 100, pzI x1, pzI x2, pzI x3], [pzI (M 100 6), pzI x3], M)) rfl).trans ?_
  refine (e_icmp_ge tq_148 rfl).trans (e_ite ?_ ?_)
  · refine (pz_goes tq_148 3 (σ' := (15, [pzR 100, pzI x1, pzI x2, pzI x3], [pzI x3, pzI x1, pzR 100], M)) rfl).trans ?_
    refine (e_callI (as := [pzR 100, pzI x1, pzI x3]) (rest := []) (d' := 5) tq_147 rfl rfl rfl rfl rfl tq_148 rfl).trans (e_bI rfl fun r2 M1 => ?_)
    refine (e_if_eq tq_148 rfl).trans (e_ite ?_ ?_)
    · refine (pz_goes tq_148 2 (σ' := (4, [pzR 100, pzI x1, pzI x2, pzI (ia x3 (1))], [], M1)) rfl).trans ?_
      rfl
    · refine (pz_goes tq_148 8 (σ' := (4, [pzR 100, pzI x1, pzI (iro x2 (ihl 1 x3)), pzI (ia x3 (1))], [], M1)) rfl).trans ?_
      rfl
  · refine (pz_goes tq_148 1 (σ' := (34, [pzR 100, pzI x1, pzI x2, pzI x3], [pzI x2], M)) rfl).trans ?_
    exact e_iret tq_148 rfl
/-! PeacockDeskModel.inState(I)I -/
set_option maxRecDepth 20000 in
theorem m_Mod_inState_eq (x1 : Int) (M : pz_M) : m_Mod_inState x1 M = m_Mod_inState_4 x1 0 0 M := by
  show pzr 3 149 (0, [pzR 100, pzI x1, pzN, pzN], [], M) = _
  refine (pz_goes tq_149 4 (σ' := (4, [pzR 100, pzI x1, pzI 0, pzI 0], [], M)) rfl).trans ?_
  rfl
set_option maxRecDepth 20000 in
theorem m_Mod_inState_4_eq (x1 : Int) (x2 : Int) (x3 : Int) (M : pz_M) : m_Mod_inState_4 x1 x2 x3 M = if x3 < (M 100 6) then (grd (0 ≤ (ia 0 x3) ∧ (ia 0 x3) < 83) (if (M 101 (((ia 0 x3)).toNat)) = x1 then (m_Mod_inState_4 x1 (iro x2 (ihl 1 x3)) (ia x3 (1)) M) else (m_Mod_inState_4 x1 x2 (ia x3 (1)) M))) else (some (some (pzI x2), M)) := by
  show pzr 3 149 (4, [pzR 100, pzI x1, pzI x2, pzI x3], [], M) = _
  refine (pz_goes tq_149 3 (σ' := (9, [pzR 100, pzI x1, pzI x2, pzI x3], [pzI (M 100 6), pzI x3], M)) rfl).trans ?_
  refine (e_icmp_ge tq_149 rfl).trans (e_ite ?_ ?_)
  · refine (pz_goes tq_149 5 (σ' := (19, [pzR 100, pzI x1, pzI x2, pzI x3], [pzI (ia 0 x3), pzR 101], M)) rfl).trans ?_
    refine (e_iald (n := 83) rfl rfl tq_149 rfl).trans (e_grd ?_)
    refine (pz_goes tq_149 1 (σ' := (21, [pzR 100, pzI x1, pzI x2, pzI x3], [pzI x1, pzI (M 101 (((ia 0 x3)).toNat))], M)) rfl).trans ?_
    refine (e_icmp_ne tq_149 rfl).trans (e_ite ?_ ?_)
    · refine (pz_goes tq_149 8 (σ' := (4, [pzR 100, pzI x1, pzI (iro x2 (ihl 1 x3)), pzI (ia x3 (1))], [], M)) rfl).trans ?_
      rfl
    · refine (pz_goes tq_149 2 (σ' := (4, [pzR 100, pzI x1, pzI x2, pzI (ia x3 (1))], [], M)) rfl).trans ?_
      rfl
  · refine (pz_goes tq_149 1 (σ' := (37, [pzR 100, pzI x1, pzI x2, pzI x3], [pzI x2], M)) rfl).trans ?_
    exact e_iret tq_149 rfl
/-! PeacockDeskModel.goesTo(II)V -/
set_option maxRecDepth 20000 in
theorem m_Mod_goesTo_eq (x1 : Int) (x2 : Int) (M : pz_M) : m_Mod_goesTo x1 x2 M = grd (0 ≤ (ia 0 x1) ∧ (ia 0 x1) < 83) (bM (pz_wr M 101 (((ia 0 x1)).toNat) 1) fun M1 => grd (0 ≤ (ia 24 x1) ∧ (ia 24 x1) < 83) (bM (pz_wr M1 101 (((ia 24 x1)).toNat) x2) fun M2 => some (none, M2))) := by
  show pzr 3 150 (0, [pzR 100, pzI x1, pzI x2], [], M) = _
  refine (pz_goes tq_150 6 (σ' := (8, [pzR 100, pzI x1, pzI x2], [pzI 1, pzI (ia 0 x1), pzR 101], M)) rfl).trans ?_
  refine (e_iast (n := 83) rfl rfl tq_150 rfl).trans (e_grd ?_)
  refine e_bM (m := pz_wr M 101 (((ia 0 x1)).toNat) 1) (f := fun M1 => pzr 3 150 (9, [pzR 100, pzI x1, pzI x2], [], M1)) (fun M1 => ?_)
  refine (pz_goes tq_150 6 (σ' := (18, [pzR 100, pzI x1, pzI x2], [pzI x2, pzI (ia 24 x1), pzR 101], M1)) rfl).trans ?_
  refine (e_iast (n := 83) rfl rfl tq_150 rfl).trans (e_grd ?_)
  refine e_bM (m := pz_wr M1 101 (((ia 24 x1)).toNat) x2) (f := fun M2 => pzr 3 150 (19, [pzR 100, pzI x1, pzI x2], [], M2)) (fun M2 => ?_)
  exact e_ret tq_150 rfl
/-! PeacockDeskModel.say(II)Z -/
set_option maxRecDepth 20000 in
theorem m_Mod_say_eq (x1 : Int) (x2 : Int) (M : pz_M) : m_Mod_say x1 x2 M = bI (m_Mod_isCase x1 M) fun r2 M1 => if r2 = 0 then some (some (pzI 0), M1) else (bI (m_Mod_in x2 0 8 M1) fun r4 M3 => if r4 = 0 then some (some (pzI 0), M3) else (bI (m_Mod_casesOf x2 M3) fun r6 M5 => bI (m_Mod_bits r6 M5) fun r8 M7 => if r8 < (12 : Int) then (bV (m_Mod_goesTo x1 x2 M7) fun M9 => some (some (pzI 1), M9)) else (some (some (pzI 0), M7)))) := by
  show pzr 7 151 (0, [pzR 100, pzI x1, pzI x2], [], M) = _
  refine (pz_goes tq_151 2 (σ' := (2, [pzR 100, pzI x1, pzI x2], [pzI x1, pzR 100], M)) rfl).trans ?_
  refine (e_callI (as := [pzR 100, pzI x1]) (rest := []) (d' := 4) tq_145 rfl rfl rfl rfl rfl tq_151 rfl).trans (e_bI rfl fun r2 M1 => ?_)
  refine (e_if_eq tq_151 rfl).trans (e_ite ?_ ?_)
  · refine (pz_goes tq_151 1 (σ' := (32, [pzR 100, pzI x1, pzI x2], [pzI 0], M1)) rfl).trans ?_
    exact (e_zret tq_151 rfl).trans (grd_pos (by decide))
  · refine (pz_goes tq_151 3 (σ' := (12, [pzR 100, pzI x1, pzI x2], [pzI 8, pzI 0, pzI x2], M1)) rfl).trans ?_
    refine (e_callI (as := [pzI x2, pzI 0, pzI 8]) (rest := []) (d' := 3) tq_138 rfl rfl rfl rfl rfl tq_151 rfl).trans (e_bI rfl fun r4 M3 => ?_)
    refine (e_if_eq tq_151 rfl).trans (e_ite ?_ ?_)
    · refine (pz_goes tq_151 1 (σ' := (32, [pzR 100, pzI x1, pzI x2], [pzI 0], M3)) rfl).trans ?_
      exact (e_zret tq_151 rfl).trans (grd_pos (by decide))
    · refine (pz_goes tq_151 2 (σ' := (20, [pzR 100, pzI x1, pzI x2], [pzI x2, pzR 100], M3)) rfl).trans ?_
      refine (e_callI (as := [pzR 100, pzI x2, pzN, pzN]) (rest := []) (d' := 6) tq_148 rfl rfl rfl rfl rfl tq_151 rfl).trans (e_bI rfl fun r6 M5 => ?_)
      refine (e_callI (as := [pzI r6, pzN, pzN]) (rest := []) (d' := 3) tq_143 rfl rfl rfl rfl rfl tq_151 rfl).trans (e_bI rfl fun r8 M7 => ?_)
      refine (pz_goes tq_151 1 (σ' := (28, [pzR 100, pzI x1, pzI x2], [pzI 12, pzI r8], M7)) rfl).trans ?_
      refine (e_icmp_lt tq_151 rfl).trans (e_ite ?_ ?_)
      · refine (pz_goes tq_151 3 (σ' := (36, [pzR 100, pzI x1, pzI x2], [pzI x2, pzI x1, pzR 100], M7)) rfl).trans ?_
        refine (e_callV (as := [pzR 100, pzI x1, pzI x2]) (rest := []) (d' := 3) tq_150 rfl rfl rfl rfl rfl tq_151 rfl).trans (e_bV rfl fun M9 => ?_)
        refine (pz_goes tq_151 1 (σ' := (40, [pzR 100, pzI x1, pzI x2], [pzI 1], M9)) rfl).trans ?_
        exact (e_zret tq_151 rfl).trans (grd_pos (by decide))
      · refine (pz_goes tq_151 1 (σ' := (32, [pzR 100, pzI x1, pzI x2], [pzI 0], M7)) rfl).trans ?_
        exact (e_zret tq_151 rfl).trans (grd_pos (by decide))
/-! PeacockDeskModel.types(I)V -/
set_option maxRecDepth 20000 in
theorem m_Mod_types_eq (x1 : Int) (M : pz_M) : m_Mod_types x1 M = m_Mod_types_2 x1 3 M := by
  show pzr 3 152 (0, [pzR 100, pzI x1, pzN], [], M) = _
  refine (pz_goes tq_152 2 (σ' := (2, [pzR 100, pzI x1, pzI 3], [], M)) rfl).trans ?_
  rfl
set_option maxRecDepth 20000 in
theorem m_Mod_types_2_eq (x1 : Int) (x2 : Int) (M : pz_M) : m_Mod_types_2 x1 x2 M = if x2 < 0 then some (none, M) else (grd (0 ≤ (M 100 8) ∧ (M 100 8) < 260) (bM (pz_wr M 107 (((M 100 8)).toNat) (itb (itb (ihr x1 (imu 8 x2))))) fun M1 => bM (pz_wr M1 100 8 (ia (M1 100 8) 1)) fun M2 => m_Mod_types_2 x1 (ia x2 (-1)) M2)) := by
  show pzr 3 152 (2, [pzR 100, pzI x1, pzI x2], [], M) = _
  refine (pz_goes tq_152 1 (σ' := (3, [pzR 100, pzI x1, pzI x2], [pzI x2], M)) rfl).trans ?_
  refine (e_if_lt tq_152 rfl).trans (e_ite ?_ ?_)
  · exact e_ret tq_152 rfl
  · refine (pz_goes tq_152 10 (σ' := (21, [pzR 100, pzI x1, pzI x2], [pzI (itb (ihr x1 (imu 8 x2))), pzI (M 100 8), pzR 107], M)) rfl).trans ?_
    refine (e_bast (n := 260) rfl rfl tq_152 rfl).trans (e_grd ?_)
    refine e_bM (m := pz_wr M 107 (((M 100 8)).toNat) (itb (itb (ihr x1 (imu 8 x2))))) (f := fun M1 => pzr 3 152 (22, [pzR 100, pzI x1, pzI x2], [], M1)) (fun M1 => ?_)
    refine (pz_goes tq_152 5 (σ' := (29, [pzR 100, pzI x1, pzI x2], [pzI (ia (M1 100 8) 1), pzR 100], M1)) rfl).trans ?_
    refine (e_putI rfl tq_152 rfl).trans ?_
    refine e_bM (f := fun M2 => pzr 3 152 (32, [pzR 100, pzI x1, pzI x2], [], M2)) (fun M2 => ?_)
    refine (pz_goes tq_152 2 (σ' := (2, [pzR 100, pzI x1, pzI (ia x2 (-1))], [], M2)) rfl).trans ?_
    rfl
/-! PeacockDeskModel.feed(IIIII)I -/
set_option maxRecDepth 20000 in
theorem m_Mod_feed_eq (x1 : Int) (x2 : Int) (x3 : Int) (x4 : Int) (x5 : Int) (M : pz_M) : m_Mod_feed x1 x2 x3 x4 x5 M = if (260 : Int) < (ia (M 100 8) 20) then some (some (pzI (-1)), M) else (bV (m_Mod_types x1 M) fun M1 => bV (m_Mod_types x2 M1) fun M2 => bV (m_Mod_types x3 M2) fun M3 => bV (m_Mod_types x4 M3) fun M4 => bV (m_Mod_types x5 M4) fun M5 => some (some (pzI (M5 100 8)), M5)) := by
  show pzr 4 153 (0, [pzR 100, pzI x1, pzI x2, pzI x3, pzI x4, pzI x5], [], M) = _
  refine (pz_goes tq_153 5 (σ' := (10, [pzR 100, pzI x1, pzI x2, pzI x3, pzI x4, pzI x5], [pzI 260, pzI (ia (M 100 8) 20)], M)) rfl).trans ?_
  refine (e_icmp_le tq_153 rfl).trans (e_ite ?_ ?_)
  · refine (pz_goes tq_153 1 (σ' := (14, [pzR 100, pzI x1, pzI x2, pzI x3, pzI x4, pzI x5], [pzI (-1)], M)) rfl).trans ?_
    exact e_iret tq_153 rfl
  · refine (pz_goes tq_153 2 (σ' := (17, [pzR 100, pzI x1, pzI x2, pzI x3, pzI x4, pzI x5], [pzI x1, pzR 100], M)) rfl).trans ?_
    refine (e_callV (as := [pzR 100, pzI x1, pzN]) (rest := []) (d' := 3) tq_152 rfl rfl rfl rfl rfl tq_153 rfl).trans (e_bV rfl fun M1 => ?_)
    refine (pz_goes tq_153 2 (σ' := (22, [pzR 100, pzI x1, pzI x2, pzI x3, pzI x4, pzI x5], [pzI x2, pzR 100], M1)) rfl).trans ?_
    refine (e_callV (as := [pzR 100, pzI x2, pzN]) (rest := []) (d' := 3) tq_152 rfl rfl rfl rfl rfl tq_153 rfl).trans (e_bV rfl fun M2 => ?_)
    refine (pz_goes tq_153 2 (σ' := (27, [pzR 100, pzI x1, pzI x2, pzI x3, pzI x4, pzI x5], [pzI x3, pzR 100], M2)) rfl).trans ?_
    refine (e_callV (as := [pzR 100, pzI x3, pzN]) (rest := []) (d' := 3) tq_152 rfl rfl rfl rfl rfl tq_153 rfl).trans (e_bV rfl fun M3 => ?_)
    refine (pz_goes tq_153 2 (σ' := (33, [pzR 100, pzI x1, pzI x2, pzI x3, pzI x4, pzI x5], [pzI x4, pzR 100], M3)) rfl).trans ?_
    refine (e_callV (as := [pzR 100, pzI x4, pzN]) (rest := []) (d' := 3) tq_152 rfl rfl rfl rfl rfl tq_153 rfl).trans (e_bV rfl fun M4 => ?_)
    refine (pz_goes tq_153 2 (σ' := (39, [pzR 100, pzI x1, pzI x2, pzI x3, pzI x4, pzI x5], [pzI x5, pzR 100], M4)) rfl).trans ?_
    refine (e_callV (as := [pzR 100, pzI x5, pzN]) (rest := []) (d' := 3) tq_152 rfl rfl rfl rfl rfl tq_153 rfl).trans (e_bV rfl fun M5 => ?_)
    refine (pz_goes tq_153 2 (σ' := (46, [pzR 100, pzI x1, pzI x2, pzI x3, pzI x4, pzI x5], [pzI (M5 100 8)], M5)) rfl).trans ?_
    exact e_iret tq_153 rfl
/-! PeacockDeskModel.octet(I)I -/
set_option maxRecDepth 20000 in
theorem m_Mod_octet_eq (x1 : Int) (M : pz_M) : m_Mod_octet x1 M = grd (0 ≤ x1 ∧ x1 < 260) (some (some (pzI (ian (M 107 ((x1).toNat)) 255)), M)) := by
  show pzr 3 154 (0, [pzR 100, pzI x1], [], M) = _
  refine (pz_goes tq_154 3 (σ' := (5, [pzR 100, pzI x1], [pzI x1, pzR 107], M)) rfl).trans ?_
  refine (e_iald (n := 260) rfl rfl tq_154 rfl).trans (e_grd ?_)
  refine (pz_goes tq_154 2 (σ' := (10, [pzR 100, pzI x1], [pzI (ian (M 107 ((x1).toNat)) 255)], M)) rfl).trans ?_
  exact e_iret tq_154 rfl
/-! PeacockDeskModel.here()I -/
set_option maxRecDepth 20000 in
theorem m_Mod_here_eq (M : pz_M) : m_Mod_here M = if (M 100 9) < (M 100 10) then (grd (0 ≤ (M 100 9) ∧ (M 100 9) < 260) (some (some (pzI (ian (M 107 (((M 100 9)).toNat)) 255)), M))) else (some (some (pzI (-1)), M)) := by
  show pzr 3 155 (0, [pzR 100], [], M) = _
  refine (pz_goes tq_155 4 (σ' := (8, [pzR 100], [pzI (M 100 10), pzI (M 100 9)], M)) rfl).trans ?_
  refine (e_icmp_ge tq_155 rfl).trans (e_ite ?_ ?_)
  · refine (pz_goes tq_155 4 (σ' := (19, [pzR 100], [pzI (M 100 9), pzR 107], M)) rfl).trans ?_
    refine (e_iald (n := 260) rfl rfl tq_155 rfl).trans (e_grd ?_)
    refine (pz_goes tq_155 3 (σ' := (28, [pzR 100], [pzI (ian (M 107 (((M 100 9)).toNat)) 255)], M)) rfl).trans ?_
    exact e_iret tq_155 rfl
  · refine (pz_goes tq_155 1 (σ' := (28, [pzR 100], [pzI (-1)], M)) rfl).trans ?_
    exact e_iret tq_155 rfl
/-! PeacockDeskModel.isDigit()Z -/
set_option maxRecDepth 20000 in
theorem m_Mod_isDigit_eq (M : pz_M) : m_Mod_isDigit M = bI (m_Mod_here M) fun r2 M1 => if r2 < (48 : Int) then some (some (pzI 0), M1) else (bI (m_Mod_here M1) fun r4 M3 => if (57 : Int) < r4 then some (some (pzI 0), M3) else (some (some (pzI 1), M3))) := by
  show pzr 4 156 (0, [pzR 100], [], M) = _
  refine (pz_goes tq_156 1 (σ' := (1, [pzR 100], [pzR 100], M)) rfl).trans ?_
  refine (e_callI (as := [pzR 100]) (rest := []) (d' := 3) tq_155 rfl rfl rfl rfl rfl tq_156 rfl).trans (e_bI rfl fun r2 M1 => ?_)
  refine (pz_goes tq_156 1 (σ' := (6, [pzR 100], [pzI 48, pzI r2], M1)) rfl).trans ?_
  refine (e_icmp_lt tq_156 rfl).trans (e_ite ?_ ?_)
  · refine (pz_goes tq_156 1 (σ' := (23, [pzR 100], [pzI 0], M1)) rfl).trans ?_
    exact (e_zret tq_156 rfl).trans (grd_pos (by decide))
  · refine (pz_goes tq_156 1 (σ' := (10, [pzR 100], [pzR 100], M1)) rfl).trans ?_
    refine (e_callI (as := [pzR 100]) (rest := []) (d' := 3) tq_155 rfl rfl rfl rfl rfl tq_156 rfl).trans (e_bI rfl fun r4 M3 => ?_)
    refine (pz_goes tq_156 1 (σ' := (15, [pzR 100], [pzI 57, pzI r4], M3)) rfl).trans ?_
    refine (e_icmp_gt tq_156 rfl).trans (e_ite ?_ ?_)
    · refine (pz_goes tq_156 1 (σ' := (23, [pzR 100], [pzI 0], M3)) rfl).trans ?_
      exact (e_zret tq_156 rfl).trans (grd_pos (by decide))
    · refine (pz_goes tq_156 2 (σ' := (23, [pzR 100], [pzI 1], M3)) rfl).trans ?_
      exact (e_zret tq_156 rfl).trans (grd_pos (by decide))
/-! PeacockDeskModel.wrongAt(II)Z -/
set_option maxRecDepth 20000 in
theorem m_Mod_wrongAt_eq (x1 : Int) (x2 : Int) (M : pz_M) : m_Mod_wrongAt x1 x2 M = bM (pz_wr M 100 11 (isb (imu (-1000) x1) x2)) fun M1 => some (some (pzI 0), M1) := by
  show pzr 3 157 (0, [pzR 100, pzI x1, pzI x2], [], M) = _
  refine (pz_goes tq_157 6 (σ' := (8, [pzR 100, pzI x1, pzI x2], [pzI (isb (imu (-1000) x1) x2), pzR 100], M)) rfl).trans ?_
  refine (e_putI rfl tq_157 rfl).trans ?_
  refine e_bM (f := fun M1 => pzr 3 157 (11, [pzR 100, pzI x1, pzI x2], [], M1)) (fun M1 => ?_)
  refine (pz_goes tq_157 1 (σ' := (12, [pzR 100, pzI x1, pzI x2], [pzI 0], M1)) rfl).trans ?_
  exact (e_zret tq_157 rfl).trans (grd_pos (by decide))
/-! PeacockDeskModel.takes(I)Z -/
set_option maxRecDepth 20000 in
theorem m_Mod_takes_eq (x1 : Int) (M : pz_M) : m_Mod_takes x1 M = bI (m_Mod_here M) fun r2 M1 => if r2 = x1 then (bM (pz_wr M1 100 9 (ia (M1 100 9) 1)) fun M3 => some (some (pzI 1), M3)) else (bI (m_Mod_wrongAt 1 (M1 100 9) M1) fun r5 M4 => grd (r5 = 0 ∨ r5 = 1) (some (some (pzI r5), M4))) := by
  show pzr 4 158 (0, [pzR 100, pzI x1], [], M) = _
  refine (pz_goes tq_158 1 (σ' := (1, [pzR 100, pzI x1], [pzR 100], M)) rfl).trans ?_
  refine (e_callI (as := [pzR 100]) (rest := []) (d' := 3) tq_155 rfl rfl rfl rfl rfl tq_158 rfl).trans (e_bI rfl fun r2 M1 => ?_)
  refine (pz_goes tq_158 1 (σ' := (5, [pzR 100, pzI x1], [pzI x1, pzI r2], M1)) rfl).trans ?_
  refine (e_icmp_eq tq_158 rfl).trans (e_ite ?_ ?_)
  · refine (pz_goes tq_158 5 (σ' := (25, [pzR 100, pzI x1], [pzI (ia (M1 100 9) 1), pzR 100], M1)) rfl).trans ?_
    refine (e_putI rfl tq_158 rfl).trans ?_
    refine e_bM (f := fun M3 => pzr 4 158 (28, [pzR 100, pzI x1], [], M3)) (fun M3 => ?_)
    refine (pz_goes tq_158 1 (σ' := (29, [pzR 100, pzI x1], [pzI 1], M3)) rfl).trans ?_
    exact (e_zret tq_158 rfl).trans (grd_pos (by decide))
  · refine (pz_goes tq_158 4 (σ' := (14, [pzR 100, pzI x1], [pzI (M1 100 9), pzI 1, pzR 100], M1)) rfl).trans ?_
    refine (e_callI (as := [pzR 100, pzI 1, pzI (M1 100 9)]) (rest := []) (d' := 3) tq_157 rfl rfl rfl rfl rfl tq_158 rfl).trans (e_bI rfl fun r5 M4 => ?_)
    exact e_zret tq_158 rfl
/-! PeacockDeskModel.readsNumber()Z -/
set_option maxRecDepth 20000 in
theorem m_Mod_readsNumber_eq (M : pz_M) : m_Mod_readsNumber M = bM (pz_wr M 100 12 0) fun M1 => m_Mod_readsNumber_10 (M 100 9) M1 := by
  show pzr 5 159 (0, [pzR 100, pzN], [], M) = _
  refine (pz_goes tq_159 5 (σ' := (7, [pzR 100, pzI (M 100 9)], [pzI 0, pzR 100], M)) rfl).trans ?_
  refine (e_putI rfl tq_159 rfl).trans ?_
  refine e_bM (f := fun M1 => pzr 5 159 (10, [pzR 100, pzI (M 100 9)], [], M1)) (fun M1 => ?_)
  rfl
set_option maxRecDepth 20000 in
theorem m_Mod_readsNumber_10_eq (x1 : Int) (M : pz_M) : m_Mod_readsNumber_10 x1 M = bI (m_Mod_isDigit M) fun r2 M1 => if r2 = 0 then some (some (pzI 1), M1) else (if (M1 100 9) = (ia x1 5) then (bI (m_Mod_wrongAt 2 (M1 100 9) M1) fun r4 M3 => grd (r4 = 0 ∨ r4 = 1) (some (some (pzI r4), M3))) else (bI (m_Mod_here M1) fun r6 M5 => bM (pz_wr M5 100 12 (isb (ia (imu 10 (M1 100 12)) r6) 48)) fun M7 => bM (pz_wr M7 100 9 (ia (M7 100 9) 1)) fun M8 => m_Mod_readsNumber_10 x1 M8)) := by
  show pzr 5 159 (10, [pzR 100, pzI x1], [], M) = _
  refine (pz_goes tq_159 1 (σ' := (11, [pzR 100, pzI x1], [pzR 100], M)) rfl).trans ?_
  refine (e_callI (as := [pzR 100]) (rest := []) (d' := 4) tq_156 rfl rfl rfl rfl rfl tq_159 rfl).trans (e_bI rfl fun r2 M1 => ?_)
  refine (e_if_eq tq_159 rfl).trans (e_ite ?_ ?_)
  · refine (pz_goes tq_159 1 (σ' := (70, [pzR 100, pzI x1], [pzI 1], M1)) rfl).trans ?_
    exact (e_zret tq_159 rfl).trans (grd_pos (by decide))
  · refine (pz_goes tq_159 5 (σ' := (24, [pzR 100, pzI x1], [pzI (ia x1 5), pzI (M1 100 9)], M1)) rfl).trans ?_
    refine (e_icmp_ne tq_159 rfl).trans (e_ite ?_ ?_)
    · refine (pz_goes tq_159 4 (σ' := (33, [pzR 100, pzI x1], [pzI (M1 100 9), pzI 2, pzR 100], M1)) rfl).trans ?_
      refine (e_callI (as := [pzR 100, pzI 2, pzI (M1 100 9)]) (rest := []) (d' := 3) tq_157 rfl rfl rfl rfl rfl tq_159 rfl).trans (e_bI rfl fun r4 M3 => ?_)
      exact e_zret tq_159 rfl
    · refine (pz_goes tq_159 6 (σ' := (46, [pzR 100, pzI x1], [pzR 100, pzI (imu 10 (M1 100 12)), pzR 100], M1)) rfl).trans ?_
      refine (e_callI (as := [pzR 100]) (rest := [pzI (imu 10 (M1 100 12)), pzR 100]) (d' := 3) tq_155 rfl rfl rfl rfl rfl tq_159 rfl).trans (e_bI rfl fun r6 M5 => ?_)
      refine (pz_goes tq_159 3 (σ' := (53, [pzR 100, pzI x1], [pzI (isb (ia (imu 10 (M1 100 12)) r6) 48), pzR 100], M5)) rfl).trans ?_
      refine (e_putI rfl tq_159 rfl).trans ?_
      refine e_bM (f := fun M7 => pzr 5 159 (56, [pzR 100, pzI x1], [], M7)) (fun M7 => ?_)
      refine (pz_goes tq_159 5 (σ' := (63, [pzR 100, pzI x1], [pzI (ia (M7 100 9) 1), pzR 100], M7)) rfl).trans ?_
      refine (e_putI rfl tq_159 rfl).trans ?_
      refine e_bM (f := fun M8 => pzr 5 159 (66, [pzR 100, pzI x1], [], M8)) (fun M8 => ?_)
      refine (pz_goes tq_159 1 (σ' := (10, [pzR 100, pzI x1], [], M8)) rfl).trans ?_
      rfl
/-! PeacockDeskModel.notes(II)V -/
set_option maxRecDepth 20000 in
theorem m_Mod_notes_eq (x1 : Int) (x2 : Int) (M : pz_M) : m_Mod_notes x1 x2 M = grd (0 ≤ (M 100 14) ∧ (M 100 14) < 260) (bM (pz_wr M 108 (((M 100 14)).toNat) (ia (imu 1048576 x1) x2)) fun M1 => bM (pz_wr M1 100 14 (ia (M1 100 14) 1)) fun M2 => some (none, M2)) := by
  show pzr 3 160 (0, [pzR 100, pzI x1, pzI x2], [], M) = _
  refine (pz_goes tq_160 9 (σ' := (14, [pzR 100, pzI x1, pzI x2], [pzI (ia (imu 1048576 x1) x2), pzI (M 100 14), pzR 108], M)) rfl).trans ?_
  refine (e_iast (n := 260) rfl rfl tq_160 rfl).trans (e_grd ?_)
  refine e_bM (m := pz_wr M 108 (((M 100 14)).toNat) (ia (imu 1048576 x1) x2)) (f := fun M1 => pzr 3 160 (15, [pzR 100, pzI x1, pzI x2], [], M1)) (fun M1 => ?_)
  refine (pz_goes tq_160 5 (σ' := (22, [pzR 100, pzI x1, pzI x2], [pzI (ia (M1 100 14) 1), pzR 100], M1)) rfl).trans ?_
  refine (e_putI rfl tq_160 rfl).trans ?_
  refine e_bM (f := fun M2 => pzr 3 160 (25, [pzR 100, pzI x1, pzI x2], [], M2)) (fun M2 => ?_)
  exact e_ret tq_160 rfl
/-! PeacockDeskModel.opens(I)Z -/
set_option maxRecDepth 20000 in
theorem m_Mod_opens_eq (x1 : Int) (M : pz_M) : m_Mod_opens x1 M = if (M 100 13) = (6 : Int) then (bI (m_Mod_wrongAt 5 (M 100 9) M) fun r2 M1 => grd (r2 = 0 ∨ r2 = 1) (some (some (pzI r2), M1))) else (bM (pz_wr M 100 13 (ia (M 100 13) 1)) fun M3 => grd (0 ≤ (M3 100 15) ∧ (M3 100 15) < 260) (bM (pz_wr M3 109 (((M3 100 15)).toNat) (imu 1048576 x1)) fun M4 => bM (pz_wr M4 100 15 (ia (M4 100 15) 1)) fun M5 => bM (pz_wr M5 100 9 (ia (M5 100 9) 1)) fun M6 => some (some (pzI 1), M6))) := by
  show pzr 4 161 (0, [pzR 100, pzI x1], [], M) = _
  refine (pz_goes tq_161 3 (σ' := (6, [pzR 100, pzI x1], [pzI 6, pzI (M 100 13)], M)) rfl).trans ?_
  refine (e_icmp_ne tq_161 rfl).trans (e_ite ?_ ?_)
  · refine (pz_goes tq_161 4 (σ' := (15, [pzR 100, pzI x1], [pzI (M 100 9), pzI 5, pzR 100], M)) rfl).trans ?_
    refine (e_callI (as := [pzR 100, pzI 5, pzI (M 100 9)]) (rest := []) (d' := 3) tq_157 rfl rfl rfl rfl rfl tq_161 rfl).trans (e_bI rfl fun r2 M1 => ?_)
    exact e_zret tq_161 rfl
  · refine (pz_goes tq_161 5 (σ' := (26, [pzR 100, pzI x1], [pzI (ia (M 100 13) 1), pzR 100], M)) rfl).trans ?_
    refine (e_putI rfl tq_161 rfl).trans ?_
    refine e_bM (f := fun M3 => pzr 4 161 (29, [pzR 100, pzI x1], [], M3)) (fun M3 => ?_)
    refine (pz_goes tq_161 7 (σ' := (41, [pzR 100, pzI x1], [pzI (imu 1048576 x1), pzI (M3 100 15), pzR 109], M3)) rfl).trans ?_
    refine (e_iast (n := 260) rfl rfl tq_161 rfl).trans (e_grd ?_)
    refine e_bM (m := pz_wr M3 109 (((M3 100 15)).toNat) (imu 1048576 x1)) (f := fun M4 => pzr 4 161 (42, [pzR 100, pzI x1], [], M4)) (fun M4 => ?_)
    refine (pz_goes tq_161 5 (σ' := (49, [pzR 100, pzI x1], [pzI (ia (M4 100 15) 1), pzR 100], M4)) rfl).trans ?_
    refine (e_putI rfl tq_161 rfl).trans ?_
    refine e_bM (f := fun M5 => pzr 4 161 (52, [pzR 100, pzI x1], [], M5)) (fun M5 => ?_)
    refine (pz_goes tq_161 5 (σ' := (59, [pzR 100, pzI x1], [pzI (ia (M5 100 9) 1), pzR 100], M5)) rfl).trans ?_
    refine (e_putI rfl tq_161 rfl).trans ?_
    refine e_bM (f := fun M6 => pzr 4 161 (62, [pzR 100, pzI x1], [], M6)) (fun M6 => ?_)
    refine (pz_goes tq_161 1 (σ' := (63, [pzR 100, pzI x1], [pzI 1], M6)) rfl).trans ?_
    exact (e_zret tq_161 rfl).trans (grd_pos (by decide))
/-! PeacockDeskModel.waitTop()I -/
set_option maxRecDepth 20000 in
theorem m_Mod_waitTop_eq (M : pz_M) : m_Mod_waitTop M = if (M 100 15) = 0 then some (some (pzI (-1)), M) else (grd (0 ≤ (isb (M 100 15) 1) ∧ (isb (M 100 15) 1) < 260) (some (some (pzI (idv (M 109 (((isb (M 100 15) 1)).toNat)) 1048576)), M))) := by
  show pzr 3 162 (0, [pzR 100], [], M) = _
  refine (pz_goes tq_162 2 (σ' := (4, [pzR 100], [pzI (M 100 15)], M)) rfl).trans ?_
  refine (e_if_ne tq_162 rfl).trans (e_ite ?_ ?_)
  · refine (pz_goes tq_162 2 (σ' := (25, [pzR 100], [pzI (-1)], M)) rfl).trans ?_
    exact e_iret tq_162 rfl
  · refine (pz_goes tq_162 6 (σ' := (21, [pzR 100], [pzI (isb (M 100 15) 1), pzR 109], M)) rfl).trans ?_
    refine (e_iald (n := 260) rfl rfl tq_162 rfl).trans (e_grd ?_)
    refine (pz_goes tq_162 1 (σ' := (24, [pzR 100], [pzI 1048576, pzI (M 109 (((isb (M 100 15) 1)).toNat))], M)) rfl).trans ?_
    refine ((e_div tq_162 rfl).trans (grd_pos (by decide))).trans ?_
    show pzr 3 162 (25, [pzR 100], [pzI (idv (M 109 (((isb (M 100 15) 1)).toNat)) 1048576)], M) = _
    exact e_iret tq_162 rfl
/-! PeacockDeskModel.factOf(I)I -/
set_option maxRecDepth 20000 in
theorem m_Mod_factOf_eq (x0 : Int) (M : pz_M) : m_Mod_factOf x0 M = if x0 = 99 then (some (some (pzI 1), M)) else (if x0 = 100 then (some (some (pzI 5), M)) else (if x0 = 101 then (some (some (pzI (-1)), M)) else (if x0 = 102 then (some (some (pzI (-1)), M)) else (if x0 = 103 then (some (some (pzI (-1)), M)) else (if x0 = 104 then (some (some (pzI (-1)), M)) else (if x0 = 105 then (some (some (pzI (-1)), M)) else (if x0 = 106 then (some (some (pzI (-1)), M)) else (if x0 = 107 then (some (some (pzI (-1)), M)) else (if x0 = 108 then (some (some (pzI (-1)), M)) else (if x0 = 109 then (some (some (pzI (-1)), M)) else (if x0 = 110 then (some (some (pzI (-1)), M)) else (if x0 = 111 then (some (some (pzI (-1)), M)) else (if x0 = 112 then (some (some (pzI 0), M)) else (if x0 = 113 then (some (some (pzI 6), M)) else (if x0 = 114 then (some (some (pzI 7), M)) else (if x0 = 115 then (some (some (pzI 2), M)) else (if x0 = 116 then (some (some (pzI 8), M)) else (if x0 = 117 then (some (some (pzI 4), M)) else (if x0 = 118 then (some (some (pzI 3), M)) else (if x0 = 119 then (some (some (pzI 9), M)) else (some (some (pzI (-1)), M)))))))))))))))))))))) := by
  show pzr 3 163 (0, [pzI x0], [], M) = _
  refine (pz_goes tq_163 1 (σ' := (1, [pzI x0], [pzI x0], M)) rfl).trans ?_
  refine (e_sw tq_163 rfl).trans ?_
  refine e_sel.trans (e_ite ?_ ?_)
  · refine (pz_goes tq_163 1 (σ' := (103, [pzI x0], [pzI 1], M)) rfl).trans ?_
    exact e_iret tq_163 rfl
  refine e_sel.trans (e_ite ?_ ?_)
  · refine (pz_goes tq_163 1 (σ' := (111, [pzI x0], [pzI 5], M)) rfl).trans ?_
    exact e_iret tq_163 rfl
  refine e_sel.trans (e_ite ?_ ?_)
  · refine (pz_goes tq_163 1 (σ' := (125, [pzI x0], [pzI (-1)], M)) rfl).trans ?_
    exact e_iret tq_163 rfl
  refine e_sel.trans (e_ite ?_ ?_)
  · refine (pz_goes tq_163 1 (σ' := (125, [pzI x0], [pzI (-1)], M)) rfl).trans ?_
    exact e_iret tq_163 rfl
  refine e_sel.trans (e_ite ?_ ?_)
  · refine (pz_goes tq_163 1 (σ' := (125, [pzI x0], [pzI (-1)], M)) rfl).trans ?_
    exact e_iret tq_163 rfl
  refine e_sel.trans (e_ite ?_ ?_)
  · refine (pz_goes tq_163 1 (σ' := (125, [pzI x0], [pzI (-1)], M)) rfl).trans ?_
    exact e_iret tq_163 rfl
  refine e_sel.trans (e_ite ?_ ?_)
  · refine (pz_goes tq_163 1 (σ' := (125, [pzI x0], [pzI (-1)], M)) rfl).trans ?_
    exact e_iret tq_163 rfl
  refine e_sel.trans (e_ite ?_ ?_)
  · refine (pz_goes tq_163 1 (σ' := (125, [pzI x0], [pzI (-1)], M)) rfl).trans ?_
    exact e_iret tq_163 rfl
  refine e_sel.trans (e_ite ?_ ?_)
  · refine (pz_goes tq_163 1 (σ' := (125, [pzI x0], [pzI (-1)], M)) rfl).trans ?_
    exact e_iret tq_163 rfl
  refine e_sel.trans (e_ite ?_ ?_)
  · refine (pz_goes tq_163 1 (σ' := (125, [pzI x0], [pzI (-1)], M)) rfl).trans ?_
    exact e_iret tq_163 rfl
  refine e_sel.trans (e_ite ?_ ?_)
  · refine (pz_goes tq_163 1 (σ' := (125, [pzI x0], [pzI (-1)], M)) rfl).trans ?_
    exact e_iret tq_163 rfl
  refine e_sel.trans (e_ite ?_ ?_)
  · refine (pz_goes tq_163 1 (σ' := (125, [pzI x0], [pzI (-1)], M)) rfl).trans ?_
    exact e_iret tq_163 rfl
  refine e_sel.trans (e_ite ?_ ?_)
  · refine (pz_goes tq_163 1 (σ' := (125, [pzI x0], [pzI (-1)], M)) rfl).trans ?_
    exact e_iret tq_163 rfl
  refine e_sel.trans (e_ite ?_ ?_)
  · refine (pz_goes tq_163 1 (σ' := (101, [pzI x0], [pzI 0], M)) rfl).trans ?_
    exact e_iret tq_163 rfl
  refine e_sel.trans (e_ite ?_ ?_)
  · refine (pz_goes tq_163 1 (σ' := (114, [pzI x0], [pzI 6], M)) rfl).trans ?_
    exact e_iret tq_163 rfl
  refine e_sel.trans (e_ite ?_ ?_)
  · refine (pz_goes tq_163 1 (σ' := (117, [pzI x0], [pzI 7], M)) rfl).trans ?_
    exact e_iret tq_163 rfl
  refine e_sel.trans (e_ite ?_ ?_)
  · refine (pz_goes tq_163 1 (σ' := (105, [pzI x0], [pzI 2], M)) rfl).trans ?_
    exact e_iret tq_163 rfl
  refine e_sel.trans (e_ite ?_ ?_)
  · refine (pz_goes tq_163 1 (σ' := (120, [pzI x0], [pzI 8], M)) rfl).trans ?_
    exact e_iret tq_163 rfl
  refine e_sel.trans (e_ite ?_ ?_)
  · refine (pz_goes tq_163 1 (σ' := (109, [pzI x0], [pzI 4], M)) rfl).trans ?_
    exact e_iret tq_163 rfl
  refine e_sel.trans (e_ite ?_ ?_)
  · refine (pz_goes tq_163 1 (σ' := (107, [pzI x0], [pzI 3], M)) rfl).trans ?_
    exact e_iret tq_163 rfl
  refine e_sel.trans (e_ite ?_ ?_)
  · refine (pz_goes tq_163 1 (σ' := (123, [pzI x0], [pzI 9], M)) rfl).trans ?_
    exact e_iret tq_163 rfl
  refine (show pzr 3 163 (pz_sel [] 124 x0, [pzI x0], [], M) = pzr 3 163 (124, [pzI x0], [], M) from rfl).trans ?_
  refine (pz_goes tq_163 1 (σ' := (125, [pzI x0], [pzI (-1)], M)) rfl).trans ?_
  exact e_iret tq_163 rfl
