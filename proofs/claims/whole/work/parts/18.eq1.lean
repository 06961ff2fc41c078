/-! PeacockDesk$Parties.countOrders(I)V -/
set_option maxRecDepth 20000 in
theorem m_Parties_countOrders_eq (x1 : Int) (M : pz_M) : m_Parties_countOrders x1 M = m_Parties_countOrders_2 x1 0 pzN pzN pzN pzN M := by
  show pzr 4 35 (0, [pzR 38, pzI x1, pzN, pzN, pzN, pzN, pzN], [], M) = _
  refine (pz_goes tq_35 2 (σ' := (2, [pzR 38, pzI x1, pzI 0, pzN, pzN, pzN, pzN], [], M)) rfl).trans ?_
  rfl
set_option maxRecDepth 20000 in
theorem m_Parties_countOrders_2_eq (x1 : Int) (x2 : Int) (w3 : pz_V) (w4 : pz_V) (w5 : pz_V) (w6 : pz_V) (M : pz_M) : m_Parties_countOrders_2 x1 x2 w3 w4 w5 w6 M = if x2 < (ihl 1 (M 38 3)) then (bI (m_Parties_sumOf x2 M) fun r2 M1 => bI (m_Integer_bitCount x2 M1) fun r4 M3 => m_Parties_countOrders_27 x1 x2 r2 r4 0 w6 M3) else (some (none, M)) := by
  show pzr 4 35 (2, [pzR 38, pzI x1, pzI x2, w3, w4, w5, w6], [], M) = _
  refine (pz_goes tq_35 5 (σ' := (9, [pzR 38, pzI x1, pzI x2, w3, w4, w5, w6], [pzI (ihl 1 (M 38 3)), pzI x2], M)) rfl).trans ?_
  refine (e_icmp_ge tq_35 rfl).trans (e_ite ?_ ?_)
  · refine (pz_goes tq_35 2 (σ' := (14, [pzR 38, pzI x1, pzI x2, w3, w4, w5, w6], [pzI x2, pzR 38], M)) rfl).trans ?_
    refine (e_callI (as := [pzR 38, pzI x2, pzN, pzN]) (rest := []) (d' := 3) tq_36 rfl rfl rfl rfl rfl tq_35 rfl).trans (e_bI rfl fun r2 M1 => ?_)
    refine (pz_goes tq_35 2 (σ' := (19, [pzR 38, pzI x1, pzI x2, pzI r2, w4, w5, w6], [pzI x2], M1)) rfl).trans ?_
    refine (e_callI (as := [pzI x2]) (rest := []) (d' := 3) tq_130 rfl rfl rfl rfl rfl tq_35 rfl).trans (e_bI rfl fun r4 M3 => ?_)
    refine (pz_goes tq_35 3 (σ' := (27, [pzR 38, pzI x1, pzI x2, pzI r2, pzI r4, pzI 0, w6], [], M3)) rfl).trans ?_
    rfl
  · exact e_ret tq_35 rfl
set_option maxRecDepth 20000 in
theorem m_Parties_countOrders_27_eq (x1 : Int) (x2 : Int) (x3 : Int) (x4 : Int) (x5 : Int) (w6 : pz_V) (M : pz_M) : m_Parties_countOrders_27 x1 x2 x3 x4 x5 w6 M = if x5 < (M 38 3) then (if (ian (ihr x2 x5) 1) = 0 then (m_Parties_countOrders_50 x1 x2 x3 x4 x5 w6 1 M) else (m_Parties_countOrders_50 x1 x2 x3 x4 x5 w6 0 M)) else (m_Parties_countOrders_2 x1 (ia x2 (1)) (pzI x3) (pzI x4) (pzI x5) w6 M) := by
  show pzr 4 35 (27, [pzR 38, pzI x1, pzI x2, pzI x3, pzI x4, pzI x5, w6], [], M) = _
  refine (pz_goes tq_35 3 (σ' := (33, [pzR 38, pzI x1, pzI x2, pzI x3, pzI x4, pzI x5, w6], [pzI (M 38 3), pzI x5], M)) rfl).trans ?_
  refine (e_icmp_ge tq_35 rfl).trans (e_ite ?_ ?_)
  · refine (pz_goes tq_35 5 (σ' := (42, [pzR 38, pzI x1, pzI x2, pzI x3, pzI x4, pzI x5, w6], [pzI (ian (ihr x2 x5) 1)], M)) rfl).trans ?_
    refine (e_if_ne tq_35 rfl).trans (e_ite ?_ ?_)
    · refine (pz_goes tq_35 2 (σ' := (50, [pzR 38, pzI x1, pzI x2, pzI x3, pzI x4, pzI x5, w6], [pzI 1], M)) rfl).trans ?_
      rfl
    · refine (pz_goes tq_35 1 (σ' := (50, [pzR 38, pzI x1, pzI x2, pzI x3, pzI x4, pzI x5, w6], [pzI 0], M)) rfl).trans ?_
      rfl
  · refine (pz_goes tq_35 2 (σ' := (2, [pzR 38, pzI x1, pzI (ia x2 (1)), pzI x3, pzI x4, pzI x5, w6], [], M)) rfl).trans ?_
    rfl
set_option maxRecDepth 20000 in
theorem m_Parties_countOrders_50_eq (x1 : Int) (x2 : Int) (x3 : Int) (x4 : Int) (x5 : Int) (w6 : pz_V) (s0 : Int) (M : pz_M) : m_Parties_countOrders_50 x1 x2 x3 x4 x5 w6 s0 M = if s0 = 0 then (m_Parties_countOrders_27 x1 x2 x3 x4 (ia x5 (1)) (pzI s0) M) else (if x3 < x1 then (grd (0 ≤ x5 ∧ x5 < 8) (if (ia x3 (M 39 ((x5).toNat))) < x1 then (m_Parties_countOrders_27 x1 x2 x3 x4 (ia x5 (1)) (pzI s0) M) else (grd (0 ≤ x5 ∧ x5 < 8) (grd (0 ≤ x4 ∧ x4 < 8) (grd (0 ≤ (isb (isb (M 38 3) 1) x4) ∧ (isb (isb (M 38 3) 1) x4) < 8) (grd (0 ≤ x5 ∧ x5 < 8) (bM (pz_wr M 41 ((x5).toNat) (ia (M 41 ((x5).toNat)) (imu ((pz_ords.getD (x4).toNat 0).toInt) ((pz_ords.getD ((isb (isb (M 38 3) 1) x4)).toNat 0).toInt)))) fun M1 => m_Parties_countOrders_27 x1 x2 x3 x4 (ia x5 (1)) (pzI s0) M1))))))) else (m_Parties_countOrders_27 x1 x2 x3 x4 (ia x5 (1)) (pzI s0) M)) := by
  show pzr 4 35 (50, [pzR 38, pzI x1, pzI x2, pzI x3, pzI x4, pzI x5, w6], [pzI s0], M) = _
  refine (pz_goes tq_35 2 (σ' := (54, [pzR 38, pzI x1, pzI x2, pzI x3, pzI x4, pzI x5, pzI s0], [pzI s0], M)) rfl).trans ?_
  refine (e_if_eq tq_35 rfl).trans (e_ite ?_ ?_)
  · refine (pz_goes tq_35 2 (σ' := (27, [pzR 38, pzI x1, pzI x2, pzI x3, pzI x4, pzI (ia x5 (1)), pzI s0], [], M)) rfl).trans ?_
    rfl
  · refine (pz_goes tq_35 2 (σ' := (59, [pzR 38, pzI x1, pzI x2, pzI x3, pzI x4, pzI x5, pzI s0], [pzI x1, pzI x3], M)) rfl).trans ?_
    refine (e_icmp_ge tq_35 rfl).trans (e_ite ?_ ?_)
    · refine (pz_goes tq_35 4 (σ' := (69, [pzR 38, pzI x1, pzI x2, pzI x3, pzI x4, pzI x5, pzI s0], [pzI x5, pzR 39, pzI x3], M)) rfl).trans ?_
      refine (e_iald (n := 8) rfl rfl tq_35 rfl).trans (e_grd ?_)
      refine (pz_goes tq_35 2 (σ' := (72, [pzR 38, pzI x1, pzI x2, pzI x3, pzI x4, pzI x5, pzI s0], [pzI x1, pzI (ia x3 (M 39 ((x5).toNat)))], M)) rfl).trans ?_
      refine (e_icmp_lt tq_35 rfl).trans (e_ite ?_ ?_)
      · refine (pz_goes tq_35 2 (σ' := (27, [pzR 38, pzI x1, pzI x2, pzI x3, pzI x4, pzI (ia x5 (1)), pzI s0], [], M)) rfl).trans ?_
        rfl
      · refine (pz_goes tq_35 4 (σ' := (82, [pzR 38, pzI x1, pzI x2, pzI x3, pzI x4, pzI x5, pzI s0], [pzI x5, pzR 41, pzI x5, pzR 41], M)) rfl).trans ?_
        refine (e_iald (n := 8) rfl rfl tq_35 rfl).trans (e_grd ?_)
        refine (pz_goes tq_35 2 (σ' := (88, [pzR 38, pzI x1, pzI x2, pzI x3, pzI x4, pzI x5, pzI s0], [pzI x4, pzR 80, pzI (M 41 ((x5).toNat)), pzI x5, pzR 41], M)) rfl).trans ?_
        refine (e_tald tq_35 rfl).trans (e_grd ?_)
        refine (pz_goes tq_35 7 (σ' := (101, [pzR 38, pzI x1, pzI x2, pzI x3, pzI x4, pzI x5, pzI s0], [pzI (isb (isb (M 38 3) 1) x4), pzR 80, pzI ((pz_ords.getD (x4).toNat 0).toInt), pzI (M 41 ((x5).toNat)), pzI x5, pzR 41], M)) rfl).trans ?_
        refine (e_tald tq_35 rfl).trans (e_grd ?_)
        refine (pz_goes tq_35 2 (σ' := (104, [pzR 38, pzI x1, pzI x2, pzI x3, pzI x4, pzI x5, pzI s0], [pzI (ia (M 41 ((x5).toNat)) (imu ((pz_ords.getD (x4).toNat 0).toInt) ((pz_ords.getD ((isb (isb (M 38 3) 1) x4)).toNat 0).toInt))), pzI x5, pzR 41], M)) rfl).trans ?_
        refine (e_iast (n := 8) rfl rfl tq_35 rfl).trans (e_grd ?_)
        refine e_bM (m := pz_wr M 41 ((x5).toNat) (ia (M 41 ((x5).toNat)) (imu ((pz_ords.getD (x4).toNat 0).toInt) ((pz_ords.getD ((isb (isb (M 38 3) 1) x4)).toNat 0).toInt)))) (f := fun M1 => pzr 4 35 (105, [pzR 38, pzI x1, pzI x2, pzI x3, pzI x4, pzI x5, pzI s0], [], M1)) (fun M1 => ?_)
        refine (pz_goes tq_35 2 (σ' := (27, [pzR 38, pzI x1, pzI x2, pzI x3, pzI x4, pzI (ia x5 (1)), pzI s0], [], M1)) rfl).trans ?_
        rfl
    · refine (pz_goes tq_35 2 (σ' := (27, [pzR 38, pzI x1, pzI x2, pzI x3, pzI x4, pzI (ia x5 (1)), pzI s0], [], M)) rfl).trans ?_
      rfl
/-! PeacockDesk$Parties.sumOf(I)I -/
set_option maxRecDepth 20000 in
theorem m_Parties_sumOf_eq (x1 : Int) (M : pz_M) : m_Parties_sumOf x1 M = m_Parties_sumOf_4 x1 0 0 M := by
  show pzr 3 36 (0, [pzR 38, pzI x1, pzN, pzN], [], M) = _
  refine (pz_goes tq_36 4 (σ' := (4, [pzR 38, pzI x1, pzI 0, pzI 0], [], M)) rfl).trans ?_
  rfl
set_option maxRecDepth 20000 in
theorem m_Parties_sumOf_4_eq (x1 : Int) (x2 : Int) (x3 : Int) (M : pz_M) : m_Parties_sumOf_4 x1 x2 x3 M = if x3 < (M 38 3) then (grd (0 ≤ x3 ∧ x3 < 8) (m_Parties_sumOf_4 x1 (ia x2 (imu (ian (ihr x1 x3) 1) (M 39 ((x3).toNat)))) (ia x3 (1)) M)) else (some (some (pzI x2), M)) := by
  show pzr 3 36 (4, [pzR 38, pzI x1, pzI x2, pzI x3], [], M) = _
  refine (pz_goes tq_36 3 (σ' := (9, [pzR 38, pzI x1, pzI x2, pzI x3], [pzI (M 38 3), pzI x3], M)) rfl).trans ?_
  refine (e_icmp_ge tq_36 rfl).trans (e_ite ?_ ?_)
  · refine (pz_goes tq_36 9 (σ' := (23, [pzR 38, pzI x1, pzI x2, pzI x3], [pzI x3, pzR 39, pzI (ian (ihr x1 x3) 1), pzI x2], M)) rfl).trans ?_
    refine (e_iald (n := 8) rfl rfl tq_36 rfl).trans (e_grd ?_)
    refine (pz_goes tq_36 5 (σ' := (4, [pzR 38, pzI x1, pzI (ia x2 (imu (ian (ihr x1 x3) 1) (M 39 ((x3).toNat)))), pzI (ia x3 (1))], [], M)) rfl).trans ?_
    rfl
  · refine (pz_goes tq_36 1 (σ' := (34, [pzR 38, pzI x1, pzI x2, pzI x3], [pzI x2], M)) rfl).trans ?_
    exact e_iret tq_36 rfl
/-! PeacockDesk$Path.load(LPeacockDesk$Tape;II)V -/
set_option maxRecDepth 20000 in
theorem m_Path_load_eq (x2 : Int) (x3 : Int) (M : pz_M) : m_Path_load x2 x3 M = bM (pz_wr M 42 4 0) fun M1 => bV (m_Path_insert x3 (-1) M1) fun M2 => m_Path_load_14 x2 (pzI x3) 0 M2 := by
  show pzr 4 37 (0, [pzR 42, pzR 29, pzI x2, pzI x3, pzN], [], M) = _
  refine (pz_goes tq_37 2 (σ' := (2, [pzR 42, pzR 29, pzI x2, pzI x3, pzN], [pzI 0, pzR 42], M)) rfl).trans ?_
  refine (e_putI rfl tq_37 rfl).trans ?_
  refine e_bM (f := fun M1 => pzr 4 37 (5, [pzR 42, pzR 29, pzI x2, pzI x3, pzN], [], M1)) (fun M1 => ?_)
  refine (pz_goes tq_37 3 (σ' := (8, [pzR 42, pzR 29, pzI x2, pzI x3, pzN], [pzI (-1), pzI x3, pzR 42], M1)) rfl).trans ?_
  refine (e_callV (as := [pzR 42, pzI x3, pzI (-1), pzN]) (rest := []) (d' := 3) tq_38 rfl rfl rfl rfl rfl tq_37 rfl).trans (e_bV rfl fun M2 => ?_)
  refine (pz_goes tq_37 2 (σ' := (14, [pzR 42, pzR 29, pzI x2, pzI x3, pzI 0], [], M2)) rfl).trans ?_
  rfl
set_option maxRecDepth 20000 in
theorem m_Path_load_14_eq (x2 : Int) (w3 : pz_V) (x4 : Int) (M : pz_M) : m_Path_load_14 x2 w3 x4 M = if x4 < x2 then (bI (m_Tape_byteAt (imu 2 x4) M) fun r2 M1 => bI (m_Tape_byteAt (ia (imu 2 x4) 1) M1) fun r4 M3 => bV (m_Path_insert r2 r4 M3) fun M5 => m_Path_load_14 x2 w3 (ia x4 (1)) M5) else (some (none, M)) := by
  show pzr 4 37 (14, [pzR 42, pzR 29, pzI x2, w3, pzI x4], [], M) = _
  refine (pz_goes tq_37 2 (σ' := (17, [pzR 42, pzR 29, pzI x2, w3, pzI x4], [pzI x2, pzI x4], M)) rfl).trans ?_
  refine (e_icmp_ge tq_37 rfl).trans (e_ite ?_ ?_)
  · refine (pz_goes tq_37 5 (σ' := (26, [pzR 42, pzR 29, pzI x2, w3, pzI x4], [pzI (imu 2 x4), pzR 29, pzR 42], M)) rfl).trans ?_
    refine (e_callI (as := [pzR 29, pzI (imu 2 x4)]) (rest := [pzR 42]) (d' := 3) tq_64 rfl rfl rfl rfl rfl tq_37 rfl).trans (e_bI rfl fun r2 M1 => ?_)
    refine (pz_goes tq_37 6 (σ' := (36, [pzR 42, pzR 29, pzI x2, w3, pzI x4], [pzI (ia (imu 2 x4) 1), pzR 29, pzI r2, pzR 42], M1)) rfl).trans ?_
    refine (e_callI (as := [pzR 29, pzI (ia (imu 2 x4) 1)]) (rest := [pzI r2, pzR 42]) (d' := 3) tq_64 rfl rfl rfl rfl rfl tq_37 rfl).trans (e_bI rfl fun r4 M3 => ?_)
    refine (e_callV (as := [pzR 42, pzI r2, pzI r4, pzN]) (rest := []) (d' := 3) tq_38 rfl rfl rfl rfl rfl tq_37 rfl).trans (e_bV rfl fun M5 => ?_)
    refine (pz_goes tq_37 2 (σ' := (14, [pzR 42, pzR 29, pzI x2, w3, pzI (ia x4 (1))], [], M5)) rfl).trans ?_
    rfl
  · exact e_ret tq_37 rfl
/-! PeacockDesk$Path.insert(II)V -/
set_option maxRecDepth 20000 in
theorem m_Path_insert_eq (x1 : Int) (x2 : Int) (M : pz_M) : m_Path_insert x1 x2 M = if (M 42 4) < (11 : Int) then (m_Path_insert_15 x1 x2 (M 42 4) M) else (some (none, M)) := by
  show pzr 3 38 (0, [pzR 42, pzI x1, pzI x2, pzN], [], M) = _
  refine (pz_goes tq_38 3 (σ' := (6, [pzR 42, pzI x1, pzI x2, pzN], [pzI 11, pzI (M 42 4)], M)) rfl).trans ?_
  refine (e_icmp_lt tq_38 rfl).trans (e_ite ?_ ?_)
  · refine (pz_goes tq_38 3 (σ' := (15, [pzR 42, pzI x1, pzI x2, pzI (M 42 4)], [], M)) rfl).trans ?_
    rfl
  · exact e_ret tq_38 rfl
set_option maxRecDepth 20000 in
theorem m_Path_insert_15_eq (x1 : Int) (x2 : Int) (x3 : Int) (M : pz_M) : m_Path_insert_15 x1 x2 x3 M = if 0 < x3 then (grd (0 ≤ (isb x3 1) ∧ (isb x3 1) < 11) (if x1 < (M 43 (((isb x3 1)).toNat)) then (grd (0 ≤ (isb x3 1) ∧ (isb x3 1) < 11) (grd (0 ≤ x3 ∧ x3 < 11) (bM (pz_wr M 43 ((x3).toNat) (M 43 (((isb x3 1)).toNat))) fun M1 => grd (0 ≤ (isb x3 1) ∧ (isb x3 1) < 11) (grd (0 ≤ x3 ∧ x3 < 11) (bM (pz_wr M1 44 ((x3).toNat) (M1 44 (((isb x3 1)).toNat))) fun M2 => m_Path_insert_15 x1 x2 (ia x3 (-1)) M2))))) else (m_Path_insert_65 x1 x2 x3 M))) else (m_Path_insert_65 x1 x2 x3 M) := by
  show pzr 3 38 (15, [pzR 42, pzI x1, pzI x2, pzI x3], [], M) = _
  refine (pz_goes tq_38 1 (σ' := (16, [pzR 42, pzI x1, pzI x2, pzI x3], [pzI x3], M)) rfl).trans ?_
  refine (e_if_le tq_38 rfl).trans (e_ite ?_ ?_)
  · refine (pz_goes tq_38 5 (σ' := (26, [pzR 42, pzI x1, pzI x2, pzI x3], [pzI (isb x3 1), pzR 43], M)) rfl).trans ?_
    refine (e_iald (n := 11) rfl rfl tq_38 rfl).trans (e_grd ?_)
    refine (pz_goes tq_38 1 (σ' := (28, [pzR 42, pzI x1, pzI x2, pzI x3], [pzI x1, pzI (M 43 (((isb x3 1)).toNat))], M)) rfl).trans ?_
    refine (e_icmp_le tq_38 rfl).trans (e_ite ?_ ?_)
    · refine (pz_goes tq_38 8 (σ' := (43, [pzR 42, pzI x1, pzI x2, pzI x3], [pzI (isb x3 1), pzR 43, pzI x3, pzR 43], M)) rfl).trans ?_
      refine (e_iald (n := 11) rfl rfl tq_38 rfl).trans (e_grd ?_)
      refine (e_iast (n := 11) rfl rfl tq_38 rfl).trans (e_grd ?_)
      refine e_bM (m := pz_wr M 43 ((x3).toNat) (M 43 (((isb x3 1)).toNat))) (f := fun M1 => pzr 3 38 (45, [pzR 42, pzI x1, pzI x2, pzI x3], [], M1)) (fun M1 => ?_)
      refine (pz_goes tq_38 8 (σ' := (57, [pzR 42, pzI x1, pzI x2, pzI x3], [pzI (isb x3 1), pzR 44, pzI x3, pzR 44], M1)) rfl).trans ?_
      refine (e_iald (n := 11) rfl rfl tq_38 rfl).trans (e_grd ?_)
      refine (e_iast (n := 11) rfl rfl tq_38 rfl).trans (e_grd ?_)
      refine e_bM (m := pz_wr M1 44 ((x3).toNat) (M1 44 (((isb x3 1)).toNat))) (f := fun M2 => pzr 3 38 (59, [pzR 42, pzI x1, pzI x2, pzI x3], [], M2)) (fun M2 => ?_)
      refine (pz_goes tq_38 2 (σ' := (15, [pzR 42, pzI x1, pzI x2, pzI (ia x3 (-1))], [], M2)) rfl).trans ?_
      rfl
    · rfl
  · rfl
set_option maxRecDepth 20000 in
theorem m_Path_insert_65_eq (x1 : Int) (x2 : Int) (x3 : Int) (M : pz_M) : m_Path_insert_65 x1 x2 x3 M = grd (0 ≤ x3 ∧ x3 < 11) (bM (pz_wr M 43 ((x3).toNat) x1) fun M1 => grd (0 ≤ x3 ∧ x3 < 11) (bM (pz_wr M1 44 ((x3).toNat) x2) fun M2 => bM (pz_wr M2 42 4 (ia (M2 42 4) 1)) fun M3 => some (none, M3))) := by
  show pzr 3 38 (65, [pzR 42, pzI x1, pzI x2, pzI x3], [], M) = _
  refine (pz_goes tq_38 4 (σ' := (71, [pzR 42, pzI x1, pzI x2, pzI x3], [pzI x1, pzI x3, pzR 43], M)) rfl).trans ?_
  refine (e_iast (n := 11) rfl rfl tq_38 rfl).trans (e_grd ?_)
  refine e_bM (m := pz_wr M 43 ((x3).toNat) x1) (f := fun M1 => pzr 3 38 (72, [pzR 42, pzI x1, pzI x2, pzI x3], [], M1)) (fun M1 => ?_)
  refine (pz_goes tq_38 4 (σ' := (78, [pzR 42, pzI x1, pzI x2, pzI x3], [pzI x2, pzI x3, pzR 44], M1)) rfl).trans ?_
  refine (e_iast (n := 11) rfl rfl tq_38 rfl).trans (e_grd ?_)
  refine e_bM (m := pz_wr M1 44 ((x3).toNat) x2) (f := fun M2 => pzr 3 38 (79, [pzR 42, pzI x1, pzI x2, pzI x3], [], M2)) (fun M2 => ?_)
  refine (pz_goes tq_38 5 (σ' := (86, [pzR 42, pzI x1, pzI x2, pzI x3], [pzI (ia (M2 42 4) 1), pzR 42], M2)) rfl).trans ?_
  refine (e_putI rfl tq_38 rfl).trans ?_
  refine e_bM (f := fun M3 => pzr 3 38 (89, [pzR 42, pzI x1, pzI x2, pzI x3], [], M3)) (fun M3 => ?_)
  exact e_ret tq_38 rfl
/-! PeacockDesk$Path.mostHad()I -/
set_option maxRecDepth 20000 in
theorem m_Path_mostHad_eq (M : pz_M) : m_Path_mostHad M = bV (m_Arrays_fill ((M 42 2).toNat) 1000000 M) fun M1 => m_Path_mostHad_11 0 pzN M1 := by
  show pzr 7 39 (0, [pzR 42, pzN, pzN], [], M) = _
  refine (pz_goes tq_39 3 (σ' := (6, [pzR 42, pzN, pzN], [pzI 1000000, pzR ((M 42 2).toNat)], M)) rfl).trans ?_
  refine (e_callV (as := [pzR ((M 42 2).toNat), pzI 1000000, pzN, pzN]) (rest := []) (d' := 3) tq_132 rfl rfl rfl rfl rfl tq_39 rfl).trans (e_bV rfl fun M1 => ?_)
  refine (pz_goes tq_39 2 (σ' := (11, [pzR 42, pzI 0, pzN], [], M1)) rfl).trans ?_
  rfl
set_option maxRecDepth 20000 in
theorem m_Path_mostHad_11_eq (x1 : Int) (w2 : pz_V) (M : pz_M) : m_Path_mostHad_11 x1 w2 M = if x1 < (M 42 4) then (grd (0 ≤ x1 ∧ x1 < 11) (if (M 44 ((x1).toNat)) < 0 then (bI (m_Path_slot x1 0 0 M) fun r2 M1 => grd (pz_cls ((M 42 2).toNat) = 20 ∧ 0 ≤ r2 ∧ r2 < pz_len ((M 42 2).toNat)) (bM (pz_wr M1 ((M 42 2).toNat) ((r2).toNat) 0) fun M3 => m_Path_mostHad_11 (ia x1 (1)) w2 M3)) else (m_Path_mostHad_11 (ia x1 (1)) w2 M))) else (m_Path_mostHad_48 1 w2 M) := by
  show pzr 7 39 (11, [pzR 42, pzI x1, w2], [], M) = _
  refine (pz_goes tq_39 3 (σ' := (16, [pzR 42, pzI x1, w2], [pzI (M 42 4), pzI x1], M)) rfl).trans ?_
  refine (e_icmp_ge tq_39 rfl).trans (e_ite ?_ ?_)
  · refine (pz_goes tq_39 3 (σ' := (24, [pzR 42, pzI x1, w2], [pzI x1, pzR 44], M)) rfl).trans ?_
    refine (e_iald (n := 11) rfl rfl tq_39 rfl).trans (e_grd ?_)
    refine (e_if_ge tq_39 rfl).trans (e_ite ?_ ?_)
    · refine (pz_goes tq_39 5 (σ' := (35, [pzR 42, pzI x1, w2], [pzI 0, pzI 0, pzI x1, pzR ((M 42 2).toNat)], M)) rfl).trans ?_
      refine (e_callI (as := [pzI x1, pzI 0, pzI 0]) (rest := [pzR ((M 42 2).toNat)]) (d' := 3) tq_43 rfl rfl rfl rfl rfl tq_39 rfl).trans (e_bI rfl fun r2 M1 => ?_)
      refine (pz_goes tq_39 1 (σ' := (39, [pzR 42, pzI x1, w2], [pzI 0, pzI r2, pzR ((M 42 2).toNat)], M1)) rfl).trans ?_
      refine (e_isU tq_39 rfl).trans (e_grd ?_)
      refine e_bM (m := pz_wr M1 ((M 42 2).toNat) ((r2).toNat) 0) (f := fun M3 => pzr 7 39 (40, [pzR 42, pzI x1, w2], [], M3)) (fun M3 => ?_)
      refine (pz_goes tq_39 2 (σ' := (11, [pzR 42, pzI (ia x1 (1)), w2], [], M3)) rfl).trans ?_
      rfl
    · refine (pz_goes tq_39 2 (σ' := (11, [pzR 42, pzI (ia x1 (1)), w2], [], M)) rfl).trans ?_
      rfl
  · refine (pz_goes tq_39 2 (σ' := (48, [pzR 42, pzI 1, w2], [], M)) rfl).trans ?_
    rfl
set_option maxRecDepth 20000 in
theorem m_Path_mostHad_48_eq (x1 : Int) (w2 : pz_V) (M : pz_M) : m_Path_mostHad_48 x1 w2 M = if x1 < (M 42 4) then (bV (m_Arrays_fill ((M 42 3).toNat) 1000000 M) fun M1 => bV (m_Path_growAll x1 M1) fun M2 => grd (((M2 42 3).toNat) ≤ 200) (bM (pz_wr M2 42 2 (((M2 42 3).toNat) : Nat)) fun M3 => grd (((M2 42 2).toNat) ≤ 200) (bM (pz_wr M3 42 3 (((M2 42 2).toNat) : Nat)) fun M4 => m_Path_mostHad_48 (ia x1 (1)) (pzR ((M2 42 2).toNat)) M4))) else (m_Path_mostHad_98 0 0 M) := by
  show pzr 7 39 (48, [pzR 42, pzI x1, w2], [], M) = _
  refine (pz_goes tq_39 3 (σ' := (53, [pzR 42, pzI x1, w2], [pzI (M 42 4), pzI x1], M)) rfl).trans ?_
  refine (e_icmp_ge tq_39 rfl).trans (e_ite ?_ ?_)
  · refine (pz_goes tq_39 3 (σ' := (62, [pzR 42, pzI x1, w2], [pzI 1000000, pzR ((M 42 3).toNat)], M)) rfl).trans ?_
    refine (e_callV (as := [pzR ((M 42 3).toNat), pzI 1000000, pzN, pzN]) (rest := []) (d' := 3) tq_132 rfl rfl rfl rfl rfl tq_39 rfl).trans (e_bV rfl fun M1 => ?_)
    refine (pz_goes tq_39 2 (σ' := (67, [pzR 42, pzI x1, w2], [pzI x1, pzR 42], M1)) rfl).trans ?_
    refine (e_callV (as := [pzR 42, pzI x1, pzN, pzN]) (rest := []) (d' := 6) tq_40 rfl rfl rfl rfl rfl tq_39 rfl).trans (e_bV rfl fun M2 => ?_)
    refine (pz_goes tq_39 6 (σ' := (80, [pzR 42, pzI x1, pzR ((M2 42 2).toNat)], [pzR ((M2 42 3).toNat), pzR 42], M2)) rfl).trans ?_
    refine (e_putM rfl tq_39 rfl).trans (e_grd ?_)
    refine e_bM (f := fun M3 => pzr 7 39 (83, [pzR 42, pzI x1, pzR ((M2 42 2).toNat)], [], M3)) (fun M3 => ?_)
    refine (pz_goes tq_39 2 (σ' := (85, [pzR 42, pzI x1, pzR ((M2 42 2).toNat)], [pzR ((M2 42 2).toNat), pzR 42], M3)) rfl).trans ?_
    refine (e_putM rfl tq_39 rfl).trans (e_grd ?_)
    refine e_bM (f := fun M4 => pzr 7 39 (88, [pzR 42, pzI x1, pzR ((M2 42 2).toNat)], [], M4)) (fun M4 => ?_)
    refine (pz_goes tq_39 2 (σ' := (48, [pzR 42, pzI (ia x1 (1)), pzR ((M2 42 2).toNat)], [], M4)) rfl).trans ?_
    rfl
  · refine (pz_goes tq_39 4 (σ' := (98, [pzR 42, pzI 0, pzI 0], [], M)) rfl).trans ?_
    rfl
set_option maxRecDepth 20000 in
theorem m_Path_mostHad_98_eq (x1 : Int) (x2 : Int) (M : pz_M) : m_Path_mostHad_98 x1 x2 M = if x2 < (M 42 4) then (bI (m_Path_slot 0 0 x2 M) fun r2 M1 => grd (pz_cls ((M 42 2).toNat) = 20 ∧ 0 ≤ r2 ∧ r2 < pz_len ((M 42 2).toNat)) (if (M1 ((M 42 2).toNat) ((r2).toNat)) < (1000000 : Int) then (m_Path_mostHad_98 x2 (ia x2 (1)) M1) else (bI (m_Path_slot 0 1 x2 M1) fun r4 M3 => grd (pz_cls ((M1 42 2).toNat) = 20 ∧ 0 ≤ r4 ∧ r4 < pz_len ((M1 42 2).toNat)) (if (M3 ((M1 42 2).toNat) ((r4).toNat)) < (1000000 : Int) then (m_Path_mostHad_98 x2 (ia x2 (1)) M3) else (m_Path_mostHad_98 x1 (ia x2 (1)) M3))))) else (some (some (pzI x1), M)) := by
  show pzr 7 39 (98, [pzR 42, pzI x1, pzI x2], [], M) = _
  refine (pz_goes tq_39 3 (σ' := (103, [pzR 42, pzI x1, pzI x2], [pzI (M 42 4), pzI x2], M)) rfl).trans ?_
  refine (e_icmp_ge tq_39 rfl).trans (e_ite ?_ ?_)
  · refine (pz_goes tq_39 5 (σ' := (113, [pzR 42, pzI x1, pzI x2], [pzI x2, pzI 0, pzI 0, pzR ((M 42 2).toNat)], M)) rfl).trans ?_
    refine (e_callI (as := [pzI 0, pzI 0, pzI x2]) (rest := [pzR ((M 42 2).toNat)]) (d' := 3) tq_43 rfl rfl rfl rfl rfl tq_39 rfl).trans (e_bI rfl fun r2 M1 => ?_)
    refine (e_iaU tq_39 rfl).trans (e_grd ?_)
    refine (pz_goes tq_39 1 (σ' := (119, [pzR 42, pzI x1, pzI x2], [pzI 1000000, pzI (M1 ((M 42 2).toNat) ((r2).toNat))], M1)) rfl).trans ?_
    refine (e_icmp_lt tq_39 rfl).trans (e_ite ?_ ?_)
    · refine (pz_goes tq_39 4 (σ' := (98, [pzR 42, pzI x2, pzI (ia x2 (1))], [], M1)) rfl).trans ?_
      rfl
    · refine (pz_goes tq_39 5 (σ' := (129, [pzR 42, pzI x1, pzI x2], [pzI x2, pzI 1, pzI 0, pzR ((M1 42 2).toNat)], M1)) rfl).trans ?_
      refine (e_callI (as := [pzI 0, pzI 1, pzI x2]) (rest := [pzR ((M1 42 2).toNat)]) (d' := 3) tq_43 rfl rfl rfl rfl rfl tq_39 rfl).trans (e_bI rfl fun r4 M3 => ?_)
      refine (e_iaU tq_39 rfl).trans (e_grd ?_)
      refine (pz_goes tq_39 1 (σ' := (135, [pzR 42, pzI x1, pzI x2], [pzI 1000000, pzI (M3 ((M1 42 2).toNat) ((r4).toNat))], M3)) rfl).trans ?_
      refine (e_icmp_ge tq_39 rfl).trans (e_ite ?_ ?_)
      · refine (pz_goes tq_39 4 (σ' := (98, [pzR 42, pzI x2, pzI (ia x2 (1))], [], M3)) rfl).trans ?_
        rfl
      · refine (pz_goes tq_39 2 (σ' := (98, [pzR 42, pzI x1, pzI (ia x2 (1))], [], M3)) rfl).trans ?_
        rfl
  · refine (pz_goes tq_39 1 (σ' := (147, [pzR 42, pzI x1, pzI x2], [pzI x1], M)) rfl).trans ?_
    exact e_iret tq_39 rfl
/-! PeacockDesk$Path.growAll(I)V -/
set_option maxRecDepth 20000 in
theorem m_Path_growAll_eq (x1 : Int) (M : pz_M) : m_Path_growAll x1 M = m_Path_growAll_2 x1 0 pzN M := by
  show pzr 6 40 (0, [pzR 42, pzI x1, pzN, pzN], [], M) = _
  refine (pz_goes tq_40 2 (σ' := (2, [pzR 42, pzI x1, pzI 0, pzN], [], M)) rfl).trans ?_
  rfl
set_option maxRecDepth 20000 in
theorem m_Path_growAll_2_eq (x1 : Int) (x2 : Int) (w3 : pz_V) (M : pz_M) : m_Path_growAll_2 x1 x2 w3 M = if (M 42 4) < (ia x2 x1) then some (none, M) else (m_Path_growAll_14 x1 x2 0 M) := by
  show pzr 6 40 (2, [pzR 42, pzI x1, pzI x2, w3], [], M) = _
  refine (pz_goes tq_40 5 (σ' := (9, [pzR 42, pzI x1, pzI x2, w3], [pzI (M 42 4), pzI (ia x2 x1)], M)) rfl).trans ?_
  refine (e_icmp_gt tq_40 rfl).trans (e_ite ?_ ?_)
  · exact e_ret tq_40 rfl
  · refine (pz_goes tq_40 2 (σ' := (14, [pzR 42, pzI x1, pzI x2, pzI 0], [], M)) rfl).trans ?_
    rfl
set_option maxRecDepth 20000 in
theorem m_Path_growAll_14_eq (x1 : Int) (x2 : Int) (x3 : Int) (M : pz_M) : m_Path_growAll_14 x1 x2 x3 M = if x3 < x1 then (bV (m_Path_grow x2 x1 0 x3 M) fun M1 => bV (m_Path_grow x2 x1 1 x3 M1) fun M2 => m_Path_growAll_14 x1 x2 (ia x3 (1)) M2) else (m_Path_growAll_2 x1 (ia x2 (1)) (pzI x3) M) := by
  show pzr 6 40 (14, [pzR 42, pzI x1, pzI x2, pzI x3], [], M) = _
  refine (pz_goes tq_40 2 (σ' := (16, [pzR 42, pzI x1, pzI x2, pzI x3], [pzI x1, pzI x3], M)) rfl).trans ?_
  refine (e_icmp_ge tq_40 rfl).trans (e_ite ?_ ?_)
  · refine (pz_goes tq_40 5 (σ' := (24, [pzR 42, pzI x1, pzI x2, pzI x3], [pzI x3, pzI 0, pzI x1, pzI x2, pzR 42], M)) rfl).trans ?_
    refine (e_callV (as := [pzR 42, pzI x2, pzI x1, pzI 0, pzI x3, pzN, pzN]) (rest := []) (d' := 5) tq_41 rfl rfl rfl rfl rfl tq_40 rfl).trans (e_bV rfl fun M1 => ?_)
    refine (pz_goes tq_40 5 (σ' := (32, [pzR 42, pzI x1, pzI x2, pzI x3], [pzI x3, pzI 1, pzI x1, pzI x2, pzR 42], M1)) rfl).trans ?_
    refine (e_callV (as := [pzR 42, pzI x2, pzI x1, pzI 1, pzI x3, pzN, pzN]) (rest := []) (d' := 5) tq_41 rfl rfl rfl rfl rfl tq_40 rfl).trans (e_bV rfl fun M2 => ?_)
    refine (pz_goes tq_40 2 (σ' := (14, [pzR 42, pzI x1, pzI x2, pzI (ia x3 (1))], [], M2)) rfl).trans ?_
    rfl
  · refine (pz_goes tq_40 2 (σ' := (2, [pzR 42, pzI x1, pzI (ia x2 (1)), pzI x3], [], M)) rfl).trans ?_
    rfl
/-! PeacockDesk$Path.grow(IIII)V -/
set_option maxRecDepth 20000 in
theorem m_Path_grow_eq (x1 : Int) (x2 : Int) (x3 : Int) (x4 : Int) (M : pz_M) : m_Path_grow x1 x2 x3 x4 M = bI (m_Path_slot x1 x3 x4 M) fun r2 M1 => grd (pz_cls ((M 42 2).toNat) = 20 ∧ 0 ≤ r2 ∧ r2 < pz_len ((M 42 2).toNat)) (if (M1 ((M 42 2).toNat) ((r2).toNat)) < (1000000 : Int) then (if x3 = 0 then (m_Path_grow_39 x1 x2 (pzI x3) x4 (M1 ((M 42 2).toNat) ((r2).toNat)) pzN x1 M1) else (m_Path_grow_39 x1 x2 (pzI x3) x4 (M1 ((M 42 2).toNat) ((r2).toNat)) pzN (isb (ia x1 x2) 1) M1)) else (some (none, M1))) := by
  show pzr 5 41 (0, [pzR 42, pzI x1, pzI x2, pzI x3, pzI x4, pzN, pzN], [], M) = _
  refine (pz_goes tq_41 5 (σ' := (8, [pzR 42, pzI x1, pzI x2, pzI x3, pzI x4, pzN, pzN], [pzI x4, pzI x3, pzI x1, pzR ((M 42 2).toNat)], M)) rfl).trans ?_
  refine (e_callI (as := [pzI x1, pzI x3, pzI x4]) (rest := [pzR ((M 42 2).toNat)]) (d' := 3) tq_43 rfl rfl rfl rfl rfl tq_41 rfl).trans (e_bI rfl fun r2 M1 => ?_)
  refine (e_iaU tq_41 rfl).trans (e_grd ?_)
  refine (pz_goes tq_41 3 (σ' := (18, [pzR 42, pzI x1, pzI x2, pzI x3, pzI x4, pzI (M1 ((M 42 2).toNat) ((r2).toNat)), pzN], [pzI 1000000, pzI (M1 ((M 42 2).toNat) ((r2).toNat))], M1)) rfl).trans ?_
  refine (e_icmp_lt tq_41 rfl).trans (e_ite ?_ ?_)
  · refine (pz_goes tq_41 3 (σ' := (27, [pzR 42, pzI x1, pzI x2, pzI x3, pzI x4, pzI (M1 ((M 42 2).toNat) ((r2).toNat)), pzN], [pzI x3, pzR 43], M1)) rfl).trans ?_
    refine (e_if_ne tq_41 rfl).trans (e_ite ?_ ?_)
    · refine (pz_goes tq_41 2 (σ' := (39, [pzR 42, pzI x1, pzI x2, pzI x3, pzI x4, pzI (M1 ((M 42 2).toNat) ((r2).toNat)), pzN], [pzI x1, pzR 43], M1)) rfl).trans ?_
      rfl
    · refine (pz_goes tq_41 5 (σ' := (39, [pzR 42, pzI x1, pzI x2, pzI x3, pzI x4, pzI (M1 ((M 42 2).toNat) ((r2).toNat)), pzN], [pzI (isb (ia x1 x2) 1), pzR 43], M1)) rfl).trans ?_
      rfl
  · exact e_ret tq_41 rfl
set_option maxRecDepth 20000 in
theorem m_Path_grow_39_eq (x1 : Int) (x2 : Int) (w3 : pz_V) (x4 : Int) (x5 : Int) (w6 : pz_V) (s0 : Int) (M : pz_M) : m_Path_grow_39 x1 x2 w3 x4 x5 w6 s0 M = grd (0 ≤ s0 ∧ s0 < 11) (if 0 < x1 then (grd (0 ≤ (isb x1 1) ∧ (isb x1 1) < 11) (bV (m_Path_reach (isb x1 1) (isb x1 1) 0 x4 (isb (ia x5 (M 43 ((s0).toNat))) (M 43 (((isb x1 1)).toNat))) M) fun M1 => m_Path_grow_73 x1 x2 w3 x4 x5 (M 43 ((s0).toNat)) M1)) else (m_Path_grow_73 x1 x2 w3 x4 x5 (M 43 ((s0).toNat)) M)) := by
  show pzr 5 41 (39, [pzR 42, pzI x1, pzI x2, w3, pzI x4, pzI x5, w6], [pzI s0, pzR 43], M) = _
  refine (e_iald (n := 11) rfl rfl tq_41 rfl).trans (e_grd ?_)
  refine (pz_goes tq_41 2 (σ' := (43, [pzR 42, pzI x1, pzI x2, w3, pzI x4, pzI x5, pzI (M 43 ((s0).toNat))], [pzI x1], M)) rfl).trans ?_
  refine (e_if_le tq_41 rfl).trans (e_ite ?_ ?_)
  · refine (pz_goes tq_41 17 (σ' := (68, [pzR 42, pzI x1, pzI x2, w3, pzI x4, pzI x5, pzI (M 43 ((s0).toNat))], [pzI (isb x1 1), pzR 43, pzI (ia x5 (M 43 ((s0).toNat))), pzI x4, pzI 0, pzI (isb x1 1), pzI (isb x1 1), pzR 42], M)) rfl).trans ?_
    refine (e_iald (n := 11) rfl rfl tq_41 rfl).trans (e_grd ?_)
    refine (pz_goes tq_41 1 (σ' := (70, [pzR 42, pzI x1, pzI x2, w3, pzI x4, pzI x5, pzI (M 43 ((s0).toNat))], [pzI (isb (ia x5 (M 43 ((s0).toNat))) (M 43 (((isb x1 1)).toNat))), pzI x4, pzI 0, pzI (isb x1 1), pzI (isb x1 1), pzR 42], M)) rfl).trans ?_
    refine (e_callV (as := [pzR 42, pzI (isb x1 1), pzI (isb x1 1), pzI 0, pzI x4, pzI (isb (ia x5 (M 43 ((s0).toNat))) (M 43 (((isb x1 1)).toNat))), pzN]) (rest := []) (d' := 4) tq_42 rfl rfl rfl rfl rfl tq_41 rfl).trans (e_bV rfl fun M1 => ?_)
    rfl
  · rfl
set_option maxRecDepth 20000 in
theorem m_Path_grow_73_eq (x1 : Int) (x2 : Int) (w3 : pz_V) (x4 : Int) (x5 : Int) (x6 : Int) (M : pz_M) : m_Path_grow_73 x1 x2 w3 x4 x5 x6 M = if (ia x1 x2) < (M 42 4) then (grd (0 ≤ (ia x1 x2) ∧ (ia x1 x2) < 11) (bV (m_Path_reach (ia x1 x2) x1 1 x4 (isb (ia x5 (M 43 (((ia x1 x2)).toNat))) x6) M) fun M1 => some (none, M1))) else (some (none, M)) := by
  show pzr 5 41 (73, [pzR 42, pzI x1, pzI x2, w3, pzI x4, pzI x5, pzI x6], [], M) = _
  refine (pz_goes tq_41 5 (σ' := (80, [pzR 42, pzI x1, pzI x2, w3, pzI x4, pzI x5, pzI x6], [pzI (M 42 4), pzI (ia x1 x2)], M)) rfl).trans ?_
  refine (e_icmp_ge tq_41 rfl).trans (e_ite ?_ ?_)
  · refine (pz_goes tq_41 13 (σ' := (100, [pzR 42, pzI x1, pzI x2, w3, pzI x4, pzI x5, pzI x6], [pzI (ia x1 x2), pzR 43, pzI x5, pzI x4, pzI 1, pzI x1, pzI (ia x1 x2), pzR 42], M)) rfl).trans ?_
    refine (e_iald (n := 11) rfl rfl tq_41 rfl).trans (e_grd ?_)
    refine (pz_goes tq_41 3 (σ' := (105, [pzR 42, pzI x1, pzI x2, w3, pzI x4, pzI x5, pzI x6], [pzI (isb (ia x5 (M 43 (((ia x1 x2)).toNat))) x6), pzI x4, pzI 1, pzI x1, pzI (ia x1 x2), pzR 42], M)) rfl).trans ?_
    refine (e_callV (as := [pzR 42, pzI (ia x1 x2), pzI x1, pzI 1, pzI x4, pzI (isb (ia x5 (M 43 (((ia x1 x2)).toNat))) x6), pzN]) (rest := []) (d' := 4) tq_42 rfl rfl rfl rfl rfl tq_41 rfl).trans (e_bV rfl fun M1 => ?_)
    exact e_ret tq_41 rfl
  · exact e_ret tq_41 rfl
/-! PeacockDesk$Path.reach(IIIII)V -/
set_option maxRecDepth 20000 in
theorem m_Path_reach_eq (x1 : Int) (x2 : Int) (x3 : Int) (x4 : Int) (x5 : Int) (M : pz_M) : m_Path_reach x1 x2 x3 x4 x5 M = grd (0 ≤ x1 ∧ x1 < 11) (if (M 44 ((x1).toNat)) < x5 then (m_Path_reach_22 (pzI x1) (pzI x2) (pzI x3) (pzI x4) x5 pzN x4 x3 x2 M) else (m_Path_reach_22 (pzI x1) (pzI x2) (pzI x3) (pzI x4) x5 pzN (ia x4 1) x3 x2 M)) := by
  show pzr 4 42 (0, [pzR 42, pzI x1, pzI x2, pzI x3, pzI x4, pzI x5, pzN], [], M) = _
  refine (pz_goes tq_42 6 (σ' := (9, [pzR 42, pzI x1, pzI x2, pzI x3, pzI x4, pzI x5, pzN], [pzI x1, pzR 44, pzI x5, pzI x3, pzI x2], M)) rfl).trans ?_
  refine (e_iald (n := 11) rfl rfl tq_42 rfl).trans (e_grd ?_)
  refine (e_icmp_gt tq_42 rfl).trans (e_ite ?_ ?_)
  · refine (pz_goes tq_42 1 (σ' := (22, [pzR 42, pzI x1, pzI x2, pzI x3, pzI x4, pzI x5, pzN], [pzI x4, pzI x3, pzI x2], M)) rfl).trans ?_
    rfl
  · refine (pz_goes tq_42 4 (σ' := (22, [pzR 42, pzI x1, pzI x2, pzI x3, pzI x4, pzI x5, pzN], [pzI (ia x4 1), pzI x3, pzI x2], M)) rfl).trans ?_
    rfl
set_option maxRecDepth 20000 in
theorem m_Path_reach_22_eq (w1 : pz_V) (w2 : pz_V) (w3 : pz_V) (w4 : pz_V) (x5 : Int) (w6 : pz_V) (s0 : Int) (s1 : Int) (s2 : Int) (M : pz_M) : m_Path_reach_22 w1 w2 w3 w4 x5 w6 s0 s1 s2 M = bI (m_Path_slot s2 s1 s0 M) fun r2 M1 => grd (pz_cls ((M1 42 3).toNat) = 20 ∧ 0 ≤ r2 ∧ r2 < pz_len ((M1 42 3).toNat)) (bI (m_Math_min (M1 ((M1 42 3).toNat) ((r2).toNat)) x5 M1) fun r4 M3 => grd (pz_cls ((M1 42 3).toNat) = 20 ∧ 0 ≤ r2 ∧ r2 < pz_len ((M1 42 3).toNat)) (bM (pz_wr M3 ((M1 42 3).toNat) ((r2).toNat) r4) fun M5 => some (none, M5))) := by
  show pzr 4 42 (22, [pzR 42, w1, w2, w3, w4, pzI x5, w6], [pzI s0, pzI s1, pzI s2], M) = _
  refine (e_callI (as := [pzI s2, pzI s1, pzI s0]) (rest := []) (d' := 3) tq_43 rfl rfl rfl rfl rfl tq_42 rfl).trans (e_bI rfl fun r2 M1 => ?_)
  refine (pz_goes tq_42 7 (σ' := (39, [pzR 42, w1, w2, w3, w4, pzI x5, pzI r2], [pzI r2, pzR ((M1 42 3).toNat), pzI r2, pzR ((M1 42 3).toNat)], M1)) rfl).trans ?_
  refine (e_iaU tq_42 rfl).trans (e_grd ?_)
  refine (pz_goes tq_42 1 (σ' := (42, [pzR 42, w1, w2, w3, w4, pzI x5, pzI r2], [pzI x5, pzI (M1 ((M1 42 3).toNat) ((r2).toNat)), pzI r2, pzR ((M1 42 3).toNat)], M1)) rfl).trans ?_
  refine (e_callI (as := [pzI (M1 ((M1 42 3).toNat) ((r2).toNat)), pzI x5]) (rest := [pzI r2, pzR ((M1 42 3).toNat)]) (d' := 3) tq_128 rfl rfl rfl rfl rfl tq_42 rfl).trans (e_bI rfl fun r4 M3 => ?_)
  refine (e_isU tq_42 rfl).trans (e_grd ?_)
  refine e_bM (m := pz_wr M3 ((M1 42 3).toNat) ((r2).toNat) r4) (f := fun M5 => pzr 4 42 (46, [pzR 42, w1, w2, w3, w4, pzI x5, pzI r2], [], M5)) (fun M5 => ?_)
  exact e_ret tq_42 rfl
/-! PeacockDesk$Path.slot(III)I -/
set_option maxRecDepth 20000 in
theorem m_Path_slot_eq (x0 : Int) (x1 : Int) (x2 : Int) (M : pz_M) : m_Path_slot x0 x1 x2 M = some (some (pzI (ia (imu (ia (imu x0 2) x1) 11) x2)), M) := by
  show pzr 3 43 (0, [pzI x0, pzI x1, pzI x2], [], M) = _
  refine (pz_goes tq_43 9 (σ' := (10, [pzI x0, pzI x1, pzI x2], [pzI (ia (imu (ia (imu x0 2) x1) 11) x2)], M)) rfl).trans ?_
  exact e_iret tq_43 rfl
/-! PeacockDesk$Reckoner.firstOfMost([II)I -/
set_option maxRecDepth 20000 in
theorem m_Reckoner_firstOfMost_eq (k0 : Nat) (x1 : Int) (M : pz_M) (h0 : pz_cls k0 = 20) : m_Reckoner_firstOfMost k0 x1 M = m_Reckoner_firstOfMost_4 k0 x1 0 1 M := by
  show pzr 3 44 (0, [pzR k0, pzI x1, pzN, pzN], [], M) = _
  refine (pz_goes tq_44 4 (σ' := (4, [pzR k0, pzI x1, pzI 0, pzI 1], [], M)) rfl).trans ?_
  rfl
set_option maxRecDepth 20000 in
theorem m_Reckoner_firstOfMost_4_eq (k0 : Nat) (x1 : Int) (x2 : Int) (x3 : Int) (M : pz_M) (h0 : pz_cls k0 = 20) : m_Reckoner_firstOfMost_4 k0 x1 x2 x3 M = if x3 < x1 then (if x3 < (pz_len k0) then (grd (0 ≤ x3 ∧ x3 < (pz_len k0)) (grd (0 ≤ x2 ∧ x2 < (pz_len k0)) (if (M k0 ((x2).toNat)) < (M k0 ((x3).toNat)) then (m_Reckoner_firstOfMost_4 k0 x1 x3 (ia x3 (1)) M) else (m_Reckoner_firstOfMost_4 k0 x1 x2 (ia x3 (1)) M)))) else (some (some (pzI x2), M))) else (some (some (pzI x2), M)) := by
  show pzr 3 44 (4, [pzR k0, pzI x1, pzI x2, pzI x3], [], M) = _
  refine (pz_goes tq_44 2 (σ' := (6, [pzR k0, pzI x1, pzI x2, pzI x3], [pzI x1, pzI x3], M)) rfl).trans ?_
  refine (e_icmp_ge tq_44 rfl).trans (e_ite ?_ ?_)
  · refine (pz_goes tq_44 2 (σ' := (11, [pzR k0, pzI x1, pzI x2, pzI x3], [pzR k0, pzI x3], M)) rfl).trans ?_
    refine (e_alen h0 tq_44 rfl).trans ?_
    refine (e_icmp_ge tq_44 rfl).trans (e_ite ?_ ?_)
    · refine (pz_goes tq_44 2 (σ' := (17, [pzR k0, pzI x1, pzI x2, pzI x3], [pzI x3, pzR k0], M)) rfl).trans ?_
      refine (e_iald (n := (pz_len k0)) h0 rfl tq_44 rfl).trans (e_grd ?_)
      refine (pz_goes tq_44 2 (σ' := (20, [pzR k0, pzI x1, pzI x2, pzI x3], [pzI x2, pzR k0, pzI (M k0 ((x3).toNat))], M)) rfl).trans ?_
      refine (e_iald (n := (pz_len k0)) h0 rfl tq_44 rfl).trans (e_grd ?_)
      refine (e_icmp_le tq_44 rfl).trans (e_ite ?_ ?_)
      · refine (pz_goes tq_44 4 (σ' := (4, [pzR k0, pzI x1, pzI x3, pzI (ia x3 (1))], [], M)) rfl).trans ?_
        rfl
      · refine (pz_goes tq_44 2 (σ' := (4, [pzR k0, pzI x1, pzI x2, pzI (ia x3 (1))], [], M)) rfl).trans ?_
        rfl
    · refine (pz_goes tq_44 1 (σ' := (33, [pzR k0, pzI x1, pzI x2, pzI x3], [pzI x2], M)) rfl).trans ?_
      exact e_iret tq_44 rfl
  · refine (pz_goes tq_44 1 (σ' := (33, [pzR k0, pzI x1, pzI x2, pzI x3], [pzI x2], M)) rfl).trans ?_
    exact e_iret tq_44 rfl
/-! PeacockDesk$Reckoner.quillRest(LPeacockDesk$Tape;I)I -/
set_option maxRecDepth 20000 in
theorem m_Reckoner_quillRest_eq (x1 : Int) (M : pz_M) : m_Reckoner_quillRest x1 M = m_Reckoner_quillRest_4 x1 0 0 M := by
  show pzr 4 45 (0, [pzR 29, pzI x1, pzN, pzN], [], M) = _
  refine (pz_goes tq_45 4 (σ' := (4, [pzR 29, pzI x1, pzI 0, pzI 0], [], M)) rfl).trans ?_
  rfl
set_option maxRecDepth 20000 in
theorem m_Reckoner_quillRest_4_eq (x1 : Int) (x2 : Int) (x3 : Int) (M : pz_M) : m_Reckoner_quillRest_4 x1 x2 x3 M = if x3 < x1 then (bI (m_Tape_byteAt x3 M) fun r2 M1 => m_Reckoner_quillRest_4 x1 (ia x2 (imu r2 (isb x1 x3))) (ia x3 (1)) M1) else (some (some (pzI (irm x2 11)), M)) := by
  show pzr 4 45 (4, [pzR 29, pzI x1, pzI x2, pzI x3], [], M) = _
  refine (pz_goes tq_45 2 (σ' := (6, [pzR 29, pzI x1, pzI x2, pzI x3], [pzI x1, pzI x3], M)) rfl).trans ?_
  refine (e_icmp_ge tq_45 rfl).trans (e_ite ?_ ?_)
  · refine (pz_goes tq_45 3 (σ' := (12, [pzR 29, pzI x1, pzI x2, pzI x3], [pzI x3, pzR 29, pzI x2], M)) rfl).trans ?_
    refine (e_callI (as := [pzR 29, pzI x3]) (rest := [pzI x2]) (d' := 3) tq_64 rfl rfl rfl rfl rfl tq_45 rfl).trans (e_bI rfl fun r2 M1 => ?_)
    refine (pz_goes tq_45 8 (σ' := (4, [pzR 29, pzI x1, pzI (ia x2 (imu r2 (isb x1 x3))), pzI (ia x3 (1))], [], M1)) rfl).trans ?_
    rfl
  · refine (pz_goes tq_45 2 (σ' := (30, [pzR 29, pzI x1, pzI x2, pzI x3], [pzI 11, pzI x2], M)) rfl).trans ?_
    refine ((e_div tq_45 rfl).trans (grd_pos (by decide))).trans ?_
    show pzr 4 45 (31, [pzR 29, pzI x1, pzI x2, pzI x3], [pzI (irm x2 11)], M) = _
    exact e_iret tq_45 rfl
/-! PeacockDesk$Reckoner.quillWays(LPeacockDesk$Tape;II)I -/
set_option maxRecDepth 20000 in
theorem m_Reckoner_quillWays_eq (x1 : Int) (x2 : Int) (M : pz_M) : m_Reckoner_quillWays x1 x2 M = m_Reckoner_quillWays_5 x1 x2 0 0 pzN pzN M := by
  show pzr 4 46 (0, [pzR 29, pzI x1, pzI x2, pzN, pzN, pzN, pzN], [], M) = _
  refine (pz_goes tq_46 4 (σ' := (5, [pzR 29, pzI x1, pzI x2, pzI 0, pzI 0, pzN, pzN], [], M)) rfl).trans ?_
  rfl
set_option maxRecDepth 20000 in
theorem m_Reckoner_quillWays_5_eq (x1 : Int) (x2 : Int) (x3 : Int) (x4 : Int) (w5 : pz_V) (w6 : pz_V) (M : pz_M) : m_Reckoner_quillWays_5 x1 x2 x3 x4 w5 w6 M = if x4 < x1 then (bI (m_Tape_byteAt x4 M) fun r2 M1 => m_Reckoner_quillWays_22 x1 x2 x3 x4 r2 0 M1) else (some (some (pzI x3), M)) := by
  show pzr 4 46 (5, [pzR 29, pzI x1, pzI x2, pzI x3, pzI x4, w5, w6], [], M) = _
  refine (pz_goes tq_46 2 (σ' := (8, [pzR 29, pzI x1, pzI x2, pzI x3, pzI x4, w5, w6], [pzI x1, pzI x4], M)) rfl).trans ?_
  refine (e_icmp_ge tq_46 rfl).trans (e_ite ?_ ?_)
  · refine (pz_goes tq_46 2 (σ' := (14, [pzR 29, pzI x1, pzI x2, pzI x3, pzI x4, w5, w6], [pzI x4, pzR 29], M)) rfl).trans ?_
    refine (e_callI (as := [pzR 29, pzI x4]) (rest := []) (d' := 3) tq_64 rfl rfl rfl rfl rfl tq_46 rfl).trans (e_bI rfl fun r2 M1 => ?_)
    refine (pz_goes tq_46 3 (σ' := (22, [pzR 29, pzI x1, pzI x2, pzI x3, pzI x4, pzI r2, pzI 0], [], M1)) rfl).trans ?_
    rfl
  · refine (pz_goes tq_46 1 (σ' := (70, [pzR 29, pzI x1, pzI x2, pzI x3, pzI x4, w5, w6], [pzI x3], M)) rfl).trans ?_
    exact e_iret tq_46 rfl
set_option maxRecDepth 20000 in
theorem m_Reckoner_quillWays_22_eq (x1 : Int) (x2 : Int) (x3 : Int) (x4 : Int) (x5 : Int) (x6 : Int) (M : pz_M) : m_Reckoner_quillWays_22 x1 x2 x3 x4 x5 x6 M = if (9 : Int) < x6 then (m_Reckoner_quillWays_5 x1 x2 x3 (ia x4 (1)) (pzI x5) (pzI x6) M) else (if x6 = x5 then (m_Reckoner_quillWays_22 x1 x2 x3 x4 x5 (ia x6 (1)) M) else (if (irm (ia x2 (imu (isb x6 x5) (isb x1 x4))) 11) = 0 then (m_Reckoner_quillWays_22 x1 x2 (ia x3 (1)) x4 x5 (ia x6 (1)) M) else (m_Reckoner_quillWays_22 x1 x2 x3 x4 x5 (ia x6 (1)) M))) := by
  show pzr 4 46 (22, [pzR 29, pzI x1, pzI x2, pzI x3, pzI x4, pzI x5, pzI x6], [], M) = _
  refine (pz_goes tq_46 2 (σ' := (26, [pzR 29, pzI x1, pzI x2, pzI x3, pzI x4, pzI x5, pzI x6], [pzI 9, pzI x6], M)) rfl).trans ?_
  refine (e_icmp_gt tq_46 rfl).trans (e_ite ?_ ?_)
  · refine (pz_goes tq_46 2 (σ' := (5, [pzR 29, pzI x1, pzI x2, pzI x3, pzI (ia x4 (1)), pzI x5, pzI x6], [], M)) rfl).trans ?_
    rfl
  · refine (pz_goes tq_46 2 (σ' := (33, [pzR 29, pzI x1, pzI x2, pzI x3, pzI x4, pzI x5, pzI x6], [pzI x5, pzI x6], M)) rfl).trans ?_
    refine (e_icmp_eq tq_46 rfl).trans (e_ite ?_ ?_)
    · refine (pz_goes tq_46 2 (σ' := (22, [pzR 29, pzI x1, pzI x2, pzI x3, pzI x4, pzI x5, pzI (ia x6 (1))], [], M)) rfl).trans ?_
      rfl
    · refine (pz_goes tq_46 10 (σ' := (50, [pzR 29, pzI x1, pzI x2, pzI x3, pzI x4, pzI x5, pzI x6], [pzI 11, pzI (ia x2 (imu (isb x6 x5) (isb x1 x4)))], M)) rfl).trans ?_
      refine ((e_div tq_46 rfl).trans (grd_pos (by decide))).trans ?_
      show pzr 4 46 (51, [pzR 29, pzI x1, pzI x2, pzI x3, pzI x4, pzI x5, pzI x6], [pzI (irm (ia x2 (imu (isb x6 x5) (isb x1 x4))) 11)], M) = _
      refine (e_if_ne tq_46 rfl).trans (e_ite ?_ ?_)
      · refine (pz_goes tq_46 3 (σ' := (22, [pzR 29, pzI x1, pzI x2, pzI (ia x3 (1)), pzI x4, pzI x5, pzI (ia x6 (1))], [], M)) rfl).trans ?_
        rfl
      · refine (pz_goes tq_46 2 (σ' := (22, [pzR 29, pzI x1, pzI x2, pzI x3, pzI x4, pzI x5, pzI (ia x6 (1))], [], M)) rfl).trans ?_
        rfl
/-! PeacockDesk$Reckoner.isYear(I)Z -/
set_option maxRecDepth 20000 in
theorem m_Reckoner_isYear_eq (x0 : Int) (M : pz_M) : m_Reckoner_isYear x0 M = if x0 < (1600 : Int) then some (some (pzI 0), M) else (if (2999 : Int) < x0 then some (some (pzI 0), M) else (some (some (pzI 1), M))) := by
  show pzr 3 47 (0, [pzI x0], [], M) = _
  refine (pz_goes tq_47 2 (σ' := (4, [pzI x0], [pzI 1600, pzI x0], M)) rfl).trans ?_
  refine (e_icmp_lt tq_47 rfl).trans (e_ite ?_ ?_)
  · refine (pz_goes tq_47 1 (σ' := (19, [pzI x0], [pzI 0], M)) rfl).trans ?_
    exact (e_zret tq_47 rfl).trans (grd_pos (by decide))
  · refine (pz_goes tq_47 2 (σ' := (11, [pzI x0], [pzI 2999, pzI x0], M)) rfl).trans ?_
    refine (e_icmp_gt tq_47 rfl).trans (e_ite ?_ ?_)
    · refine (pz_goes tq_47 1 (σ' := (19, [pzI x0], [pzI 0], M)) rfl).trans ?_
      exact (e_zret tq_47 rfl).trans (grd_pos (by decide))
    · refine (pz_goes tq_47 2 (σ' := (19, [pzI x0], [pzI 1], M)) rfl).trans ?_
      exact (e_zret tq_47 rfl).trans (grd_pos (by decide))
/-! PeacockDesk$Reckoner.isLeap(I)Z -/
set_option maxRecDepth 20000 in
theorem m_Reckoner_isLeap_eq (x0 : Int) (M : pz_M) : m_Reckoner_isLeap x0 M = if (irm x0 4) = 0 then (if (irm x0 100) = 0 then (if (irm x0 400) = 0 then some (some (pzI 1), M) else (some (some (pzI 0), M))) else (some (some (pzI 1), M))) else (some (some (pzI 0), M)) := by
  show pzr 3 48 (0, [pzI x0], [], M) = _
  refine (pz_goes tq_48 2 (σ' := (2, [pzI x0], [pzI 4, pzI x0], M)) rfl).trans ?_
  refine ((e_div tq_48 rfl).trans (grd_pos (by decide))).trans ?_
  show pzr 3 48 (3, [pzI x0], [pzI (irm x0 4)], M) = _
  refine (e_if_ne tq_48 rfl).trans (e_ite ?_ ?_)
  · refine (pz_goes tq_48 2 (σ' := (9, [pzI x0], [pzI 100, pzI x0], M)) rfl).trans ?_
    refine ((e_div tq_48 rfl).trans (grd_pos (by decide))).trans ?_
    show pzr 3 48 (10, [pzI x0], [pzI (irm x0 100)], M) = _
    refine (e_if_ne tq_48 rfl).trans (e_ite ?_ ?_)
    · refine (pz_goes tq_48 2 (σ' := (17, [pzI x0], [pzI 400, pzI x0], M)) rfl).trans ?_
      refine ((e_div tq_48 rfl).trans (grd_pos (by decide))).trans ?_
      show pzr 3 48 (18, [pzI x0], [pzI (irm x0 400)], M) = _
      refine (e_if_ne tq_48 rfl).trans (e_ite ?_ ?_)
      · refine (pz_goes tq_48 2 (σ' := (26, [pzI x0], [pzI 1], M)) rfl).trans ?_
        exact (e_zret tq_48 rfl).trans (grd_pos (by decide))
      · refine (pz_goes tq_48 1 (σ' := (26, [pzI x0], [pzI 0], M)) rfl).trans ?_
        exact (e_zret tq_48 rfl).trans (grd_pos (by decide))
    · refine (pz_goes tq_48 2 (σ' := (26, [pzI x0], [pzI 1], M)) rfl).trans ?_
      exact (e_zret tq_48 rfl).trans (grd_pos (by decide))
  · refine (pz_goes tq_48 1 (σ' := (26, [pzI x0], [pzI 0], M)) rfl).trans ?_
    exact (e_zret tq_48 rfl).trans (grd_pos (by decide))
/-! PeacockDesk$Reckoner.daysOfYear(I)I -/
set_option maxRecDepth 20000 in
theorem m_Reckoner_daysOfYear_eq (x0 : Int) (M : pz_M) : m_Reckoner_daysOfYear x0 M = bI (m_Reckoner_isLeap x0 M) fun r2 M1 => if r2 = 0 then some (some (pzI 365), M1) else (some (some (pzI 366), M1)) := by
  show pzr 4 49 (0, [pzI x0], [], M) = _
  refine (pz_goes tq_49 1 (σ' := (1, [pzI x0], [pzI x0], M)) rfl).trans ?_
  refine (e_callI (as := [pzI x0]) (rest := []) (d' := 3) tq_48 rfl rfl rfl rfl rfl tq_49 rfl).trans (e_bI rfl fun r2 M1 => ?_)
  refine (e_if_eq tq_49 rfl).trans (e_ite ?_ ?_)
  · refine (pz_goes tq_49 1 (σ' := (16, [pzI x0], [pzI 365], M1)) rfl).trans ?_
    exact e_iret tq_49 rfl
  · refine (pz_goes tq_49 2 (σ' := (16, [pzI x0], [pzI 366], M1)) rfl).trans ?_
    exact e_iret tq_49 rfl
/-! PeacockDesk$Reckoner.daysOfMonth(II)I -/
set_option maxRecDepth 20000 in
theorem m_Reckoner_daysOfMonth_eq (x0 : Int) (x1 : Int) (M : pz_M) : m_Reckoner_daysOfMonth x0 x1 M = if x0 = (2 : Int) then (bI (m_Reckoner_isLeap x1 M) fun r2 M1 => if r2 = 0 then some (some (pzI 28), M1) else (some (some (pzI 29), M1))) else (if x0 = (4 : Int) then some (some (pzI 30), M) else (if x0 = (6 : Int) then some (some (pzI 30), M) else (if x0 = (9 : Int) then some (some (pzI 30), M) else (if x0 = (11 : Int) then some (some (pzI 30), M) else (some (some (pzI 31), M)))))) := by
  show pzr 4 50 (0, [pzI x0, pzI x1], [], M) = _
  refine (pz_goes tq_50 2 (σ' := (2, [pzI x0, pzI x1], [pzI 2, pzI x0], M)) rfl).trans ?_
  refine (e_icmp_ne tq_50 rfl).trans (e_ite ?_ ?_)
  · refine (pz_goes tq_50 1 (σ' := (6, [pzI x0, pzI x1], [pzI x1], M)) rfl).trans ?_
    refine (e_callI (as := [pzI x1]) (rest := []) (d' := 3) tq_48 rfl rfl rfl rfl rfl tq_50 rfl).trans (e_bI rfl fun r2 M1 => ?_)
    refine (e_if_eq tq_50 rfl).trans (e_ite ?_ ?_)
    · refine (pz_goes tq_50 1 (σ' := (19, [pzI x0, pzI x1], [pzI 28], M1)) rfl).trans ?_
      exact e_iret tq_50 rfl
    · refine (pz_goes tq_50 2 (σ' := (19, [pzI x0, pzI x1], [pzI 29], M1)) rfl).trans ?_
      exact e_iret tq_50 rfl
  · refine (pz_goes tq_50 2 (σ' := (22, [pzI x0, pzI x1], [pzI 4, pzI x0], M)) rfl).trans ?_
    refine (e_icmp_eq tq_50 rfl).trans (e_ite ?_ ?_)
    · refine (pz_goes tq_50 2 (σ' := (50, [pzI x0, pzI x1], [pzI 30], M)) rfl).trans ?_
      exact e_iret tq_50 rfl
    · refine (pz_goes tq_50 2 (σ' := (28, [pzI x0, pzI x1], [pzI 6, pzI x0], M)) rfl).trans ?_
      refine (e_icmp_eq tq_50 rfl).trans (e_ite ?_ ?_)
      · refine (pz_goes tq_50 2 (σ' := (50, [pzI x0, pzI x1], [pzI 30], M)) rfl).trans ?_
        exact e_iret tq_50 rfl
      · refine (pz_goes tq_50 2 (σ' := (34, [pzI x0, pzI x1], [pzI 9, pzI x0], M)) rfl).trans ?_
        refine (e_icmp_eq tq_50 rfl).trans (e_ite ?_ ?_)
        · refine (pz_goes tq_50 2 (σ' := (50, [pzI x0, pzI x1], [pzI 30], M)) rfl).trans ?_
          exact e_iret tq_50 rfl
        · refine (pz_goes tq_50 2 (σ' := (40, [pzI x0, pzI x1], [pzI 11, pzI x0], M)) rfl).trans ?_
          refine (e_icmp_ne tq_50 rfl).trans (e_ite ?_ ?_)
          · refine (pz_goes tq_50 2 (σ' := (50, [pzI x0, pzI x1], [pzI 30], M)) rfl).trans ?_
            exact e_iret tq_50 rfl
          · refine (pz_goes tq_50 1 (σ' := (50, [pzI x0, pzI x1], [pzI 31], M)) rfl).trans ?_
            exact e_iret tq_50 rfl
/-! PeacockDesk$Reckoner.weekdayOf(II)I -/
set_option maxRecDepth 20000 in
theorem m_Reckoner_weekdayOf_eq (x0 : Int) (x1 : Int) (M : pz_M) : m_Reckoner_weekdayOf x0 x1 M = some (some (pzI (irm (isb (ia (ia (ia 5 (imu 365 (isb x0 1600))) (ia (isb (idv (ia (isb x0 1600) 3) 4) (idv (ia (isb x0 1600) 99) 100)) (idv (ia (isb x0 1600) 399) 400))) x1) 1) 7)), M) := by
  show pzr 3 51 (0, [pzI x0, pzI x1, pzN, pzN], [], M) = _
  refine (pz_goes tq_51 8 (σ' := (10, [pzI x0, pzI x1, pzI (isb x0 1600), pzN], [pzI 4, pzI (ia (isb x0 1600) 3)], M)) rfl).trans ?_
  refine ((e_div tq_51 rfl).trans (grd_pos (by decide))).trans ?_
  show pzr 3 51 (11, [pzI x0, pzI x1, pzI (isb x0 1600), pzN], [pzI (idv (ia (isb x0 1600) 3) 4)], M) = _
  refine (pz_goes tq_51 4 (σ' := (17, [pzI x0, pzI x1, pzI (isb x0 1600), pzN], [pzI 100, pzI (ia (isb x0 1600) 99), pzI (idv (ia (isb x0 1600) 3) 4)], M)) rfl).trans ?_
  refine ((e_div tq_51 rfl).trans (grd_pos (by decide))).trans ?_
  show pzr 3 51 (18, [pzI x0, pzI x1, pzI (isb x0 1600), pzN], [pzI (idv (ia (isb x0 1600) 99) 100), pzI (idv (ia (isb x0 1600) 3) 4)], M) = _
  refine (pz_goes tq_51 5 (σ' := (27, [pzI x0, pzI x1, pzI (isb x0 1600), pzN], [pzI 400, pzI (ia (isb x0 1600) 399), pzI (isb (idv (ia (isb x0 1600) 3) 4) (idv (ia (isb x0 1600) 99) 100))], M)) rfl).trans ?_
  refine ((e_div tq_51 rfl).trans (grd_pos (by decide))).trans ?_
  show pzr 3 51 (28, [pzI x0, pzI x1, pzI (isb x0 1600), pzN], [pzI (idv (ia (isb x0 1600) 399) 400), pzI (isb (idv (ia (isb x0 1600) 3) 4) (idv (ia (isb x0 1600) 99) 100))], M) = _
  refine (pz_goes tq_51 14 (σ' := (45, [pzI x0, pzI x1, pzI (isb x0 1600), pzI (ia (isb (idv (ia (isb x0 1600) 3) 4) (idv (ia (isb x0 1600) 99) 100)) (idv (ia (isb x0 1600) 399) 400))], [pzI 7, pzI (isb (ia (ia (ia 5 (imu 365 (isb x0 1600))) (ia (isb (idv (ia (isb x0 1600) 3) 4) (idv (ia (isb x0 1600) 99) 100)) (idv (ia (isb x0 1600) 399) 400))) x1) 1)], M)) rfl).trans ?_
  refine ((e_div tq_51 rfl).trans (grd_pos (by decide))).trans ?_
  show pzr 3 51 (46, [pzI x0, pzI x1, pzI (isb x0 1600), pzI (ia (isb (idv (ia (isb x0 1600) 3) 4) (idv (ia (isb x0 1600) 99) 100)) (idv (ia (isb x0 1600) 399) 400))], [pzI (irm (isb (ia (ia (ia 5 (imu 365 (isb x0 1600))) (ia (isb (idv (ia (isb x0 1600) 3) 4) (idv (ia (isb x0 1600) 99) 100)) (idv (ia (isb x0 1600) 399) 400))) x1) 1) 7)], M) = _
  exact e_iret tq_51 rfl
/-! PeacockDesk$Reckoner.secondsOf(III)I -/
set_option maxRecDepth 20000 in
theorem m_Reckoner_secondsOf_eq (x0 : Int) (x1 : Int) (x2 : Int) (M : pz_M) : m_Reckoner_secondsOf x0 x1 x2 M = m_Reckoner_secondsOf_13 (pzI x0) (pzI x1) x2 (imu 4 (ia (imu x0 x0) (imu x1 x1))) 0 M := by
  show pzr 3 52 (0, [pzI x0, pzI x1, pzI x2, pzN, pzN], [], M) = _
  refine (pz_goes tq_52 12 (σ' := (13, [pzI x0, pzI x1, pzI x2, pzI (imu 4 (ia (imu x0 x0) (imu x1 x1))), pzI 0], [], M)) rfl).trans ?_
  rfl
set_option maxRecDepth 20000 in
theorem m_Reckoner_secondsOf_13_eq (w0 : pz_V) (w1 : pz_V) (x2 : Int) (x3 : Int) (x4 : Int) (M : pz_M) : m_Reckoner_secondsOf_13 w0 w1 x2 x3 x4 M = if x4 < (1000 : Int) then (if (imu (imu (imu x4 x4) x2) x2) < x3 then (m_Reckoner_secondsOf_13 w0 w1 x2 x3 (ia x4 (1)) M) else (some (some (pzI x4), M))) else (some (some (pzI x4), M)) := by
  show pzr 3 52 (13, [w0, w1, pzI x2, pzI x3, pzI x4], [], M) = _
  refine (pz_goes tq_52 2 (σ' := (18, [w0, w1, pzI x2, pzI x3, pzI x4], [pzI 1000, pzI x4], M)) rfl).trans ?_
  refine (e_icmp_ge tq_52 rfl).trans (e_ite ?_ ?_)
  · refine (pz_goes tq_52 8 (σ' := (31, [w0, w1, pzI x2, pzI x3, pzI x4], [pzI x3, pzI (imu (imu (imu x4 x4) x2) x2)], M)) rfl).trans ?_
    refine (e_icmp_ge tq_52 rfl).trans (e_ite ?_ ?_)
    · refine (pz_goes tq_52 2 (σ' := (13, [w0, w1, pzI x2, pzI x3, pzI (ia x4 (1))], [], M)) rfl).trans ?_
      rfl
    · refine (pz_goes tq_52 1 (σ' := (42, [w0, w1, pzI x2, pzI x3, pzI x4], [pzI x4], M)) rfl).trans ?_
      exact e_iret tq_52 rfl
  · refine (pz_goes tq_52 1 (σ' := (42, [w0, w1, pzI x2, pzI x3, pzI x4], [pzI x4], M)) rfl).trans ?_
    exact e_iret tq_52 rfl
/-! PeacockDesk$Sharing.clear()V -/
set_option maxRecDepth 20000 in
theorem m_Sharing_clear_eq (M : pz_M) : m_Sharing_clear M = bM (pz_wr M 35 2 0) fun M1 => some (none, M1) := by
  show pzr 3 53 (0, [pzR 35], [], M) = _
  refine (pz_goes tq_53 2 (σ' := (2, [pzR 35], [pzI 0, pzR 35], M)) rfl).trans ?_
  refine (e_putI rfl tq_53 rfl).trans ?_
  refine e_bM (f := fun M1 => pzr 3 53 (5, [pzR 35], [], M1)) (fun M1 => ?_)
  exact e_ret tq_53 rfl
/-! PeacockDesk$Sharing.add(I)Z -/
set_option maxRecDepth 20000 in
theorem m_Sharing_add_eq (x1 : Int) (M : pz_M) : m_Sharing_add x1 M = if (M 35 2) < (10 : Int) then (grd (0 ≤ (M 35 2) ∧ (M 35 2) < 10) (bM (pz_wr M 36 (((M 35 2)).toNat) x1) fun M1 => bM (pz_wr M1 35 2 (ia (M1 35 2) 1)) fun M2 => some (some (pzI 1), M2))) else (some (some (pzI 0), M)) := by
  show pzr 3 54 (0, [pzR 35, pzI x1], [], M) = _
  refine (pz_goes tq_54 3 (σ' := (6, [pzR 35, pzI x1], [pzI 10, pzI (M 35 2)], M)) rfl).trans ?_
  refine (e_icmp_lt tq_54 rfl).trans (e_ite ?_ ?_)
  · refine (pz_goes tq_54 5 (σ' := (20, [pzR 35, pzI x1], [pzI x1, pzI (M 35 2), pzR 36], M)) rfl).trans ?_
    refine (e_iast (n := 10) rfl rfl tq_54 rfl).trans (e_grd ?_)
    refine e_bM (m := pz_wr M 36 (((M 35 2)).toNat) x1) (f := fun M1 => pzr 3 54 (21, [pzR 35, pzI x1], [], M1)) (fun M1 => ?_)
    refine (pz_goes tq_54 5 (σ' := (28, [pzR 35, pzI x1], [pzI (ia (M1 35 2) 1), pzR 35], M1)) rfl).trans ?_
    refine (e_putI rfl tq_54 rfl).trans ?_
    refine e_bM (f := fun M2 => pzr 3 54 (31, [pzR 35, pzI x1], [], M2)) (fun M2 => ?_)
    refine (pz_goes tq_54 1 (σ' := (32, [pzR 35, pzI x1], [pzI 1], M2)) rfl).trans ?_
    exact (e_zret tq_54 rfl).trans (grd_pos (by decide))
  · refine (pz_goes tq_54 1 (σ' := (10, [pzR 35, pzI x1], [pzI 0], M)) rfl).trans ?_
    exact (e_zret tq_54 rfl).trans (grd_pos (by decide))
/-! PeacockDesk$Sharing.leastGreatest(I)I -/
set_option maxRecDepth 20000 in
theorem m_Sharing_leastGreatest_eq (x1 : Int) (M : pz_M) : m_Sharing_leastGreatest x1 M = m_Sharing_leastGreatest_4 x1 0 0 M := by
  show pzr 30 55 (0, [pzR 35, pzI x1, pzN, pzN], [], M) = _
  refine (pz_goes tq_55 4 (σ' := (4, [pzR 35, pzI x1, pzI 0, pzI 0], [], M)) rfl).trans ?_
  rfl
set_option maxRecDepth 20000 in
theorem m_Sharing_leastGreatest_4_eq (x1 : Int) (x2 : Int) (x3 : Int) (M : pz_M) : m_Sharing_leastGreatest_4 x1 x2 x3 M = if x3 < (M 35 2) then (grd (0 ≤ x3 ∧ x3 < 10) (m_Sharing_leastGreatest_4 x1 (ia x2 (M 36 ((x3).toNat))) (ia x3 (1)) M)) else (bM (pz_wr M 35 3 x1) fun M1 => bM (pz_wr M1 35 4 x2) fun M2 => bV (m_Arrays_fill 37 0 M2) fun M3 => bV (m_Sharing_shareOut (29) 0 0 M3) fun M4 => some (some (pzI (M4 35 4)), M4)) := by
  show pzr 30 55 (4, [pzR 35, pzI x1, pzI x2, pzI x3], [], M) = _
  refine (pz_goes tq_55 3 (σ' := (9, [pzR 35, pzI x1, pzI x2, pzI x3], [pzI (M 35 2), pzI x3], M)) rfl).trans ?_
  refine (e_icmp_ge tq_55 rfl).trans (e_ite ?_ ?_)
  · refine (pz_goes tq_55 4 (σ' := (18, [pzR 35, pzI x1, pzI x2, pzI x3], [pzI x3, pzR 36, pzI x2], M)) rfl).trans ?_
    refine (e_iald (n := 10) rfl rfl tq_55 rfl).trans (e_grd ?_)
    refine (pz_goes tq_55 4 (σ' := (4, [pzR 35, pzI x1, pzI (ia x2 (M 36 ((x3).toNat))), pzI (ia x3 (1))], [], M)) rfl).trans ?_
    rfl
  · refine (pz_goes tq_55 2 (σ' := (29, [pzR 35, pzI x1, pzI x2, pzI x3], [pzI x1, pzR 35], M)) rfl).trans ?_
    refine (e_putI rfl tq_55 rfl).trans ?_
    refine e_bM (f := fun M1 => pzr 30 55 (32, [pzR 35, pzI x1, pzI x2, pzI x3], [], M1)) (fun M1 => ?_)
    refine (pz_goes tq_55 2 (σ' := (34, [pzR 35, pzI x1, pzI x2, pzI x3], [pzI x2, pzR 35], M1)) rfl).trans ?_
    refine (e_putI rfl tq_55 rfl).trans ?_
    refine e_bM (f := fun M2 => pzr 30 55 (37, [pzR 35, pzI x1, pzI x2, pzI x3], [], M2)) (fun M2 => ?_)
    refine (pz_goes tq_55 3 (σ' := (42, [pzR 35, pzI x1, pzI x2, pzI x3], [pzI 0, pzR 37], M2)) rfl).trans ?_
    refine (e_callV (as := [pzR 37, pzI 0, pzN, pzN]) (rest := []) (d' := 3) tq_132 rfl rfl rfl rfl rfl tq_55 rfl).trans (e_bV rfl fun M3 => ?_)
    refine (pz_goes tq_55 3 (σ' := (48, [pzR 35, pzI x1, pzI x2, pzI x3], [pzI 0, pzI 0, pzR 35], M3)) rfl).trans ?_
    refine (e_callV (as := [pzR 35, pzI 0, pzI 0, pzN, pzN, pzN]) (rest := []) (d' := 29) tq_56 rfl rfl rfl rfl rfl tq_55 rfl).trans (e_bV rfl fun M4 => ?_)
    refine (pz_goes tq_55 2 (σ' := (55, [pzR 35, pzI x1, pzI x2, pzI x3], [pzI (M4 35 4)], M4)) rfl).trans ?_
    exact e_iret tq_55 rfl
/-! PeacockDesk$Sharing.shareOut(II)V -/
set_option maxRecDepth 20000 in
theorem m_Sharing_shareOut_eq (d : Nat) (x1 : Int) (x2 : Int) (M : pz_M) : m_Sharing_shareOut d x1 x2 M = if x1 < (M 35 2) then (m_Sharing_shareOut_16 d x1 x2 0 pzN pzN M) else (bM (pz_wr M 35 4 x2) fun M1 => some (none, M1)) := by
  show pzr d 56 (0, [pzR 35, pzI x1, pzI x2, pzN, pzN, pzN], [], M) = _
  refine (pz_goes tq_56 3 (σ' := (5, [pzR 35, pzI x1, pzI x2, pzN, pzN, pzN], [pzI (M 35 2), pzI x1], M)) rfl).trans ?_
  refine (e_icmp_lt tq_56 rfl).trans (e_ite ?_ ?_)
  · refine (pz_goes tq_56 2 (σ' := (16, [pzR 35, pzI x1, pzI x2, pzI 0, pzN, pzN], [], M)) rfl).trans ?_
    rfl
  · refine (pz_goes tq_56 2 (σ' := (10, [pzR 35, pzI x1, pzI x2, pzN, pzN, pzN], [pzI x2, pzR 35], M)) rfl).trans ?_
    refine (e_putI rfl tq_56 rfl).trans ?_
    refine e_bM (f := fun M1 => pzr d 56 (13, [pzR 35, pzI x1, pzI x2, pzN, pzN, pzN], [], M1)) (fun M1 => ?_)
    exact e_ret tq_56 rfl
set_option maxRecDepth 20000 in
theorem m_Sharing_shareOut_16_eq (d : Nat) (x1 : Int) (x2 : Int) (x3 : Int) (w4 : pz_V) (w5 : pz_V) (M : pz_M) : m_Sharing_shareOut_16 d x1 x2 x3 w4 w5 M = if x3 < (M 35 3) then (if x3 < (4 : Int) then (grd (0 ≤ x3 ∧ x3 < 4) (grd (0 ≤ x1 ∧ x1 < 10) (if (ia (M 37 ((x3).toNat)) (M 36 ((x1).toNat))) < (M 35 4) then (grd (0 ≤ x3 ∧ x3 < 4) (bM (pz_wr M 37 ((x3).toNat) (ia (M 37 ((x3).toNat)) (M 36 ((x1).toNat)))) fun M1 => grd (4 ≤ d) (bI (m_Math_max x2 (ia (M 37 ((x3).toNat)) (M 36 ((x1).toNat))) M1) fun r3 M2 => grd (4 ≤ d) (bV (m_Sharing_shareOut (d - 1) (ia x1 1) r3 M2) fun M4 => grd (0 ≤ x3 ∧ x3 < 4) (bM (pz_wr M4 37 ((x3).toNat) (M 37 ((x3).toNat))) fun M5 => m_Sharing_shareOut_86 d x1 x2 x3 (M 37 ((x3).toNat)) (pzI (ia (M 37 ((x3).toNat)) (M 36 ((x1).toNat)))) M5))))) else (m_Sharing_shareOut_86 d x1 x2 x3 (M 37 ((x3).toNat)) (pzI (ia (M 37 ((x3).toNat)) (M 36 ((x1).toNat)))) M)))) else (some (none, M))) else (some (none, M)) := by
  show pzr d 56 (16, [pzR 35, pzI x1, pzI x2, pzI x3, w4, w5], [], M) = _
  refine (pz_goes tq_56 3 (σ' := (21, [pzR 35, pzI x1, pzI x2, pzI x3, w4, w5], [pzI (M 35 3), pzI x3], M)) rfl).trans ?_
  refine (e_icmp_ge tq_56 rfl).trans (e_ite ?_ ?_)
  · refine (pz_goes tq_56 2 (σ' := (26, [pzR 35, pzI x1, pzI x2, pzI x3, w4, w5], [pzI 4, pzI x3], M)) rfl).trans ?_
    refine (e_icmp_ge tq_56 rfl).trans (e_ite ?_ ?_)
    · refine (pz_goes tq_56 3 (σ' := (34, [pzR 35, pzI x1, pzI x2, pzI x3, w4, w5], [pzI x3, pzR 37], M)) rfl).trans ?_
      refine (e_iald (n := 4) rfl rfl tq_56 rfl).trans (e_grd ?_)
      refine (pz_goes tq_56 5 (σ' := (44, [pzR 35, pzI x1, pzI x2, pzI x3, pzI (M 37 ((x3).toNat)), w5], [pzI x1, pzR 36, pzI (M 37 ((x3).toNat))], M)) rfl).trans ?_
      refine (e_iald (n := 10) rfl rfl tq_56 rfl).trans (e_grd ?_)
      refine (pz_goes tq_56 5 (σ' := (54, [pzR 35, pzI x1, pzI x2, pzI x3, pzI (M 37 ((x3).toNat)), pzI (ia (M 37 ((x3).toNat)) (M 36 ((x1).toNat)))], [pzI (M 35 4), pzI (ia (M 37 ((x3).toNat)) (M 36 ((x1).toNat)))], M)) rfl).trans ?_
      refine (e_icmp_ge tq_56 rfl).trans (e_ite ?_ ?_)
      · refine (pz_goes tq_56 4 (σ' := (64, [pzR 35, pzI x1, pzI x2, pzI x3, pzI (M 37 ((x3).toNat)), pzI (ia (M 37 ((x3).toNat)) (M 36 ((x1).toNat)))], [pzI (ia (M 37 ((x3).toNat)) (M 36 ((x1).toNat))), pzI x3, pzR 37], M)) rfl).trans ?_
        refine (e_iast (n := 4) rfl rfl tq_56 rfl).trans (e_grd ?_)
        refine e_bM (m := pz_wr M 37 ((x3).toNat) (ia (M 37 ((x3).toNat)) (M 36 ((x1).toNat)))) (f := fun M1 => pzr d 56 (65, [pzR 35, pzI x1, pzI x2, pzI x3, pzI (M 37 ((x3).toNat)), pzI (ia (M 37 ((x3).toNat)) (M 36 ((x1).toNat)))], [], M1)) (fun M1 => ?_)
        refine (pz_goes tq_56 6 (σ' := (72, [pzR 35, pzI x1, pzI x2, pzI x3, pzI (M 37 ((x3).toNat)), pzI (ia (M 37 ((x3).toNat)) (M 36 ((x1).toNat)))], [pzI (ia (M 37 ((x3).toNat)) (M 36 ((x1).toNat))), pzI x2, pzI (ia x1 1), pzR 35], M1)) rfl).trans ?_
        refine e_gcall tq_127 (e_cokD0 rfl) tq_56 rfl (fun hc => ?_)
        refine (e_callI (as := [pzI x2, pzI (ia (M 37 ((x3).toNat)) (M 36 ((x1).toNat)))]) (rest := [pzI (ia x1 1), pzR 35]) (d' := 3) tq_127 rfl hc rfl rfl rfl tq_56 rfl).trans (e_bI rfl fun r3 M2 => ?_)
        refine e_gcall tq_56 (e_cokRC rfl rfl rfl) tq_56 rfl (fun hc => ?_)
        refine (e_callV (as := [pzR 35, pzI (ia x1 1), pzI r3, pzN, pzN, pzN]) (rest := []) (d' := d - 1) tq_56 rfl hc rfl rfl rfl tq_56 rfl).trans (e_bV rfl fun M4 => ?_)
        refine (pz_goes tq_56 4 (σ' := (85, [pzR 35, pzI x1, pzI x2, pzI x3, pzI (M 37 ((x3).toNat)), pzI (ia (M 37 ((x3).toNat)) (M 36 ((x1).toNat)))], [pzI (M 37 ((x3).toNat)), pzI x3, pzR 37], M4)) rfl).trans ?_
        refine (e_iast (n := 4) rfl rfl tq_56 rfl).trans (e_grd ?_)
        refine e_bM (m := pz_wr M4 37 ((x3).toNat) (M 37 ((x3).toNat))) (f := fun M5 => pzr d 56 (86, [pzR 35, pzI x1, pzI x2, pzI x3, pzI (M 37 ((x3).toNat)), pzI (ia (M 37 ((x3).toNat)) (M 36 ((x1).toNat)))], [], M5)) (fun M5 => ?_)
        rfl
      · rfl
    · exact e_ret tq_56 rfl
  · exact e_ret tq_56 rfl
set_option maxRecDepth 20000 in
theorem m_Sharing_shareOut_86_eq (d : Nat) (x1 : Int) (x2 : Int) (x3 : Int) (x4 : Int) (w5 : pz_V) (M : pz_M) : m_Sharing_shareOut_86 d x1 x2 x3 x4 w5 M = if x4 = 0 then some (none, M) else (m_Sharing_shareOut_16 d x1 x2 (ia x3 (1)) (pzI x4) w5 M) := by
  show pzr d 56 (86, [pzR 35, pzI x1, pzI x2, pzI x3, pzI x4, w5], [], M) = _
  refine (pz_goes tq_56 1 (σ' := (88, [pzR 35, pzI x1, pzI x2, pzI x3, pzI x4, w5], [pzI x4], M)) rfl).trans ?_
  refine (e_if_ne tq_56 rfl).trans (e_ite ?_ ?_)
  · exact e_ret tq_56 rfl
  · refine (pz_goes tq_56 2 (σ' := (16, [pzR 35, pzI x1, pzI x2, pzI (ia x3 (1)), pzI x4, w5], [], M)) rfl).trans ?_
    rfl
/-! PeacockDesk$Tails.load(LPeacockDesk$Tape;I)Z -/
set_option maxRecDepth 20000 in
theorem m_Tails_load_eq (x2 : Int) (M : pz_M) : m_Tails_load x2 M = bI (m_Math_min x2 12 M) fun r2 M1 => bI (m_Math_max 0 r2 M1) fun r4 M3 => bM (pz_wr M3 47 1 r4) fun M5 => m_Tails_load_19 (pzI x2) 1 0 M5 := by
  show pzr 4 57 (0, [pzR 47, pzR 29, pzI x2, pzN, pzN], [], M) = _
  refine (pz_goes tq_57 4 (σ' := (5, [pzR 47, pzR 29, pzI x2, pzN, pzN], [pzI 12, pzI x2, pzI 0, pzR 47], M)) rfl).trans ?_
  refine (e_callI (as := [pzI x2, pzI 12]) (rest := [pzI 0, pzR 47]) (d' := 3) tq_128 rfl rfl rfl rfl rfl tq_57 rfl).trans (e_bI rfl fun r2 M1 => ?_)
  refine (e_callI (as := [pzI 0, pzI r2]) (rest := [pzR 47]) (d' := 3) tq_127 rfl rfl rfl rfl rfl tq_57 rfl).trans (e_bI rfl fun r4 M3 => ?_)
  refine (e_putI rfl tq_57 rfl).trans ?_
  refine e_bM (f := fun M5 => pzr 4 57 (14, [pzR 47, pzR 29, pzI x2, pzN, pzN], [], M5)) (fun M5 => ?_)
  refine (pz_goes tq_57 4 (σ' := (19, [pzR 47, pzR 29, pzI x2, pzI 1, pzI 0], [], M5)) rfl).trans ?_
  rfl
set_option maxRecDepth 20000 in
theorem m_Tails_load_19_eq (w2 : pz_V) (x3 : Int) (x4 : Int) (M : pz_M) : m_Tails_load_19 w2 x3 x4 M = if x4 < (M 47 1) then (bI (m_Tape_byteAt x4 M) fun r2 M1 => grd (0 ≤ x4 ∧ x4 < 12) (bM (pz_wr M1 48 ((x4).toNat) r2) fun M3 => if x3 = 0 then (m_Tails_load_19 w2 0 (ia x4 (1)) M3) else (grd (0 ≤ x4 ∧ x4 < 12) (if 0 < (M3 48 ((x4).toNat)) then (m_Tails_load_19 w2 1 (ia x4 (1)) M3) else (m_Tails_load_19 w2 0 (ia x4 (1)) M3))))) else (grd (x3 = 0 ∨ x3 = 1) (some (some (pzI x3), M))) := by
  show pzr 4 57 (19, [pzR 47, pzR 29, w2, pzI x3, pzI x4], [], M) = _
  refine (pz_goes tq_57 3 (σ' := (25, [pzR 47, pzR 29, w2, pzI x3, pzI x4], [pzI (M 47 1), pzI x4], M)) rfl).trans ?_
  refine (e_icmp_ge tq_57 rfl).trans (e_ite ?_ ?_)
  · refine (pz_goes tq_57 5 (σ' := (37, [pzR 47, pzR 29, w2, pzI x3, pzI x4], [pzI x4, pzR 29, pzI x4, pzR 48], M)) rfl).trans ?_
    refine (e_callI (as := [pzR 29, pzI x4]) (rest := [pzI x4, pzR 48]) (d' := 3) tq_64 rfl rfl rfl rfl rfl tq_57 rfl).trans (e_bI rfl fun r2 M1 => ?_)
    refine (e_iast (n := 12) rfl rfl tq_57 rfl).trans (e_grd ?_)
    refine e_bM (m := pz_wr M1 48 ((x4).toNat) r2) (f := fun M3 => pzr 4 57 (41, [pzR 47, pzR 29, w2, pzI x3, pzI x4], [], M3)) (fun M3 => ?_)
    refine (pz_goes tq_57 1 (σ' := (42, [pzR 47, pzR 29, w2, pzI x3, pzI x4], [pzI x3], M3)) rfl).trans ?_
    refine (e_if_eq tq_57 rfl).trans (e_ite ?_ ?_)
    · refine (pz_goes tq_57 4 (σ' := (19, [pzR 47, pzR 29, w2, pzI 0, pzI (ia x4 (1))], [], M3)) rfl).trans ?_
      rfl
    · refine (pz_goes tq_57 3 (σ' := (51, [pzR 47, pzR 29, w2, pzI x3, pzI x4], [pzI x4, pzR 48], M3)) rfl).trans ?_
      refine (e_iald (n := 12) rfl rfl tq_57 rfl).trans (e_grd ?_)
      refine (e_if_le tq_57 rfl).trans (e_ite ?_ ?_)
      · refine (pz_goes tq_57 5 (σ' := (19, [pzR 47, pzR 29, w2, pzI 1, pzI (ia x4 (1))], [], M3)) rfl).trans ?_
        rfl
      · refine (pz_goes tq_57 4 (σ' := (19, [pzR 47, pzR 29, w2, pzI 0, pzI (ia x4 (1))], [], M3)) rfl).trans ?_
        rfl
  · refine (pz_goes tq_57 1 (σ' := (68, [pzR 47, pzR 29, w2, pzI x3, pzI x4], [pzI x3], M)) rfl).trans ?_
    exact e_zret tq_57 rfl
/-! PeacockDesk$Tails.firstBeat(I)I -/
set_option maxRecDepth 20000 in
theorem m_Tails_firstBeat_eq (x1 : Int) (M : pz_M) : m_Tails_firstBeat x1 M = bM (pz_wr M 47 2 100001) fun M1 => bV (m_Tails_choose (29) 0 x1 1 M1) fun M2 => if (100000 : Int) < (M2 47 2) then some (some (pzI (-2)), M2) else (some (some (pzI (M2 47 2)), M2)) := by
  show pzr 30 58 (0, [pzR 47, pzI x1], [], M) = _
  refine (pz_goes tq_58 2 (σ' := (3, [pzR 47, pzI x1], [pzI 100001, pzR 47], M)) rfl).trans ?_
  refine (e_putI rfl tq_58 rfl).trans ?_
  refine e_bM (f := fun M1 => pzr 30 58 (6, [pzR 47, pzI x1], [], M1)) (fun M1 => ?_)
  refine (pz_goes tq_58 4 (σ' := (10, [pzR 47, pzI x1], [pzI 1, pzI x1, pzI 0, pzR 47], M1)) rfl).trans ?_
  refine (e_callV (as := [pzR 47, pzI 0, pzI x1, pzI 1, pzN]) (rest := []) (d' := 29) tq_59 rfl rfl rfl rfl rfl tq_58 rfl).trans (e_bV rfl fun M2 => ?_)
  refine (pz_goes tq_58 3 (σ' := (19, [pzR 47, pzI x1], [pzI 100000, pzI (M2 47 2)], M2)) rfl).trans ?_
  refine (e_icmp_le tq_58 rfl).trans (e_ite ?_ ?_)
  · refine (pz_goes tq_58 2 (σ' := (31, [pzR 47, pzI x1], [pzI (-2)], M2)) rfl).trans ?_
    exact e_iret tq_58 rfl
  · refine (pz_goes tq_58 2 (σ' := (31, [pzR 47, pzI x1], [pzI (M2 47 2)], M2)) rfl).trans ?_
    exact e_iret tq_58 rfl
/-! PeacockDesk$Tails.choose(III)V -/
set_option maxRecDepth 20000 in
theorem m_Tails_choose_eq (d : Nat) (x1 : Int) (x2 : Int) (x3 : Int) (M : pz_M) : m_Tails_choose d x1 x2 x3 M = if x3 < (M 47 2) then (if (isb (M 47 1) x1) < x2 then some (none, M) else (if x2 = 0 then (bM (pz_wr M 47 2 x3) fun M1 => some (none, M1)) else (grd (0 ≤ x1 ∧ x1 < 12) (grd (4 ≤ d) (bI (m_Tails_commonOf x3 (M 48 ((x1).toNat)) M) fun r3 M2 => if 0 < r3 then (grd (r3 ≠ 0) (grd (0 ≤ x1 ∧ x1 < 12) (grd (4 ≤ d) (bV (m_Tails_choose (d - 1) (ia x1 1) (isb x2 1) (imu (idv x3 r3) (M2 48 ((x1).toNat))) M2) fun M4 => m_Tails_choose_67 d x1 x2 x3 (pzI r3) M4)))) else (m_Tails_choose_67 d x1 x2 x3 (pzI r3) M2)))))) else (some (none, M)) := by
  show pzr d 59 (0, [pzR 47, pzI x1, pzI x2, pzI x3, pzN], [], M) = _
  refine (pz_goes tq_59 3 (σ' := (5, [pzR 47, pzI x1, pzI x2, pzI x3, pzN], [pzI (M 47 2), pzI x3], M)) rfl).trans ?_
  refine (e_icmp_ge tq_59 rfl).trans (e_ite ?_ ?_)
  · refine (pz_goes tq_59 5 (σ' := (15, [pzR 47, pzI x1, pzI x2, pzI x3, pzN], [pzI x2, pzI (isb (M 47 1) x1)], M)) rfl).trans ?_
    refine (e_icmp_ge tq_59 rfl).trans (e_ite ?_ ?_)
    · exact e_ret tq_59 rfl
    · refine (pz_goes tq_59 1 (σ' := (20, [pzR 47, pzI x1, pzI x2, pzI x3, pzN], [pzI x2], M)) rfl).trans ?_
      refine (e_if_ne tq_59 rfl).trans (e_ite ?_ ?_)
      · refine (pz_goes tq_59 2 (σ' := (25, [pzR 47, pzI x1, pzI x2, pzI x3, pzN], [pzI x3, pzR 47], M)) rfl).trans ?_
        refine (e_putI rfl tq_59 rfl).trans ?_
        refine e_bM (f := fun M1 => pzr d 59 (28, [pzR 47, pzI x1, pzI x2, pzI x3, pzN], [], M1)) (fun M1 => ?_)
        exact e_ret tq_59 rfl
      · refine (pz_goes tq_59 4 (σ' := (35, [pzR 47, pzI x1, pzI x2, pzI x3, pzN], [pzI x1, pzR 48, pzI x3], M)) rfl).trans ?_
        refine (e_iald (n := 12) rfl rfl tq_59 rfl).trans (e_grd ?_)
        refine e_gcall tq_60 (e_cokD0 rfl) tq_59 rfl (fun hc => ?_)
        refine (e_callI (as := [pzI x3, pzI (M 48 ((x1).toNat)), pzN, pzN, pzN, pzN]) (rest := []) (d' := 3) tq_60 rfl hc rfl rfl rfl tq_59 rfl).trans (e_bI rfl fun r3 M2 => ?_)
        refine (pz_goes tq_59 2 (σ' := (43, [pzR 47, pzI x1, pzI x2, pzI x3, pzI r3], [pzI r3], M2)) rfl).trans ?_
        refine (e_if_le tq_59 rfl).trans (e_ite ?_ ?_)
        · refine (pz_goes tq_59 9 (σ' := (56, [pzR 47, pzI x1, pzI x2, pzI x3, pzI r3], [pzI r3, pzI x3, pzI (isb x2 1), pzI (ia x1 1), pzR 47], M2)) rfl).trans ?_
          refine (e_div tq_59 rfl).trans (e_grd ?_)
          refine (pz_goes tq_59 3 (σ' := (62, [pzR 47, pzI x1, pzI x2, pzI x3, pzI r3], [pzI x1, pzR 48, pzI (idv x3 r3), pzI (isb x2 1), pzI (ia x1 1), pzR 47], M2)) rfl).trans ?_
          refine (e_iald (n := 12) rfl rfl tq_59 rfl).trans (e_grd ?_)
          refine (pz_goes tq_59 1 (σ' := (64, [pzR 47, pzI x1, pzI x2, pzI x3, pzI r3], [pzI (imu (idv x3 r3) (M2 48 ((x1).toNat))), pzI (isb x2 1), pzI (ia x1 1), pzR 47], M2)) rfl).trans ?_
          refine e_gcall tq_59 (e_cokRC rfl rfl rfl) tq_59 rfl (fun hc => ?_)
          refine (e_callV (as := [pzR 47, pzI (ia x1 1), pzI (isb x2 1), pzI (imu (idv x3 r3) (M2 48 ((x1).toNat))), pzN]) (rest := []) (d' := d - 1) tq_59 rfl hc rfl rfl rfl tq_59 rfl).trans (e_bV rfl fun M4 => ?_)
          rfl
        · rfl
  · exact e_ret tq_59 rfl
set_option maxRecDepth 20000 in
theorem m_Tails_choose_67_eq (d : Nat) (x1 : Int) (x2 : Int) (x3 : Int) (w4 : pz_V) (M : pz_M) : m_Tails_choose_67 d x1 x2 x3 w4 M = grd (4 ≤ d) (bV (m_Tails_choose (d - 1) (ia x1 1) x2 x3 M) fun M1 => some (none, M1)) := by
  show pzr d 59 (67, [pzR 47, pzI x1, pzI x2, pzI x3, w4], [], M) = _
  refine (pz_goes tq_59 6 (σ' := (73, [pzR 47, pzI x1, pzI x2, pzI x3, w4], [pzI x3, pzI x2, pzI (ia x1 1), pzR 47], M)) rfl).trans ?_
  refine e_gcall tq_59 (e_cokRC rfl rfl rfl) tq_59 rfl (fun hc => ?_)
  refine (e_callV (as := [pzR 47, pzI (ia x1 1), pzI x2, pzI x3, pzN]) (rest := []) (d' := d - 1) tq_59 rfl hc rfl rfl rfl tq_59 rfl).trans (e_bV rfl fun M1 => ?_)
  exact e_ret tq_59 rfl
/-! PeacockDesk$Tails.commonOf(II)I -/
set_option maxRecDepth 20000 in
theorem m_Tails_commonOf_eq (x0 : Int) (x1 : Int) (M : pz_M) : m_Tails_commonOf x0 x1 M = m_Tails_commonOf_7 (pzI x0) (pzI x1) x0 x1 0 pzN M := by
  show pzr 3 60 (0, [pzI x0, pzI x1, pzN, pzN, pzN, pzN], [], M) = _
  refine (pz_goes tq_60 6 (σ' := (7, [pzI x0, pzI x1, pzI x0, pzI x1, pzI 0, pzN], [], M)) rfl).trans ?_
  rfl
set_option maxRecDepth 20000 in
theorem m_Tails_commonOf_7_eq (w0 : pz_V) (w1 : pz_V) (x2 : Int) (x3 : Int) (x4 : Int) (w5 : pz_V) (M : pz_M) : m_Tails_commonOf_7 w0 w1 x2 x3 x4 w5 M = if x4 < (64 : Int) then (if x3 = 0 then some (some (pzI x2), M) else (grd (x3 ≠ 0) (m_Tails_commonOf_7 w0 w1 x3 (irm x2 x3) (ia x4 (1)) (pzI (irm x2 x3)) M))) else (some (some (pzI x2), M)) := by
  show pzr 3 60 (7, [w0, w1, pzI x2, pzI x3, pzI x4, w5], [], M) = _
  refine (pz_goes tq_60 2 (σ' := (11, [w0, w1, pzI x2, pzI x3, pzI x4, w5], [pzI 64, pzI x4], M)) rfl).trans ?_
  refine (e_icmp_ge tq_60 rfl).trans (e_ite ?_ ?_)
  · refine (pz_goes tq_60 1 (σ' := (15, [w0, w1, pzI x2, pzI x3, pzI x4, w5], [pzI x3], M)) rfl).trans ?_
    refine (e_if_eq tq_60 rfl).trans (e_ite ?_ ?_)
    · refine (pz_goes tq_60 1 (σ' := (35, [w0, w1, pzI x2, pzI x3, pzI x4, w5], [pzI x2], M)) rfl).trans ?_
      exact e_iret tq_60 rfl
    · refine (pz_goes tq_60 2 (σ' := (20, [w0, w1, pzI x2, pzI x3, pzI x4, w5], [pzI x3, pzI x2], M)) rfl).trans ?_
      refine (e_div tq_60 rfl).trans (e_grd ?_)
      refine (pz_goes tq_60 7 (σ' := (7, [w0, w1, pzI x3, pzI (irm x2 x3), pzI (ia x4 (1)), pzI (irm x2 x3)], [], M)) rfl).trans ?_
      rfl
  · refine (pz_goes tq_60 1 (σ' := (35, [w0, w1, pzI x2, pzI x3, pzI x4, w5], [pzI x2], M)) rfl).trans ?_
    exact e_iret tq_60 rfl
/-! PeacockDesk$Tape.hasRoom(I)Z -/
set_option maxRecDepth 20000 in
theorem m_Tape_hasRoom_eq (x1 : Int) (M : pz_M) : m_Tape_hasRoom x1 M = if (260 : Int) < (ia (M 29 1) x1) then some (some (pzI 0), M) else (some (some (pzI 1), M)) := by
  show pzr 3 61 (0, [pzR 29, pzI x1], [], M) = _
  refine (pz_goes tq_61 5 (σ' := (9, [pzR 29, pzI x1], [pzI 260, pzI (ia (M 29 1) x1)], M)) rfl).trans ?_
  refine (e_icmp_gt tq_61 rfl).trans (e_ite ?_ ?_)
  · refine (pz_goes tq_61 1 (σ' := (17, [pzR 29, pzI x1], [pzI 0], M)) rfl).trans ?_
    exact (e_zret tq_61 rfl).trans (grd_pos (by decide))
  · refine (pz_goes tq_61 2 (σ' := (17, [pzR 29, pzI x1], [pzI 1], M)) rfl).trans ?_
    exact (e_zret tq_61 rfl).trans (grd_pos (by decide))
/-! PeacockDesk$Tape.add(I)V -/
set_option maxRecDepth 20000 in
theorem m_Tape_add_eq (x1 : Int) (M : pz_M) : m_Tape_add x1 M = m_Tape_add_3 x1 24 M := by
  show pzr 3 62 (0, [pzR 29, pzI x1, pzN], [], M) = _
  refine (pz_goes tq_62 2 (σ' := (3, [pzR 29, pzI x1, pzI 24], [], M)) rfl).trans ?_
  rfl
set_option maxRecDepth 20000 in
theorem m_Tape_add_3_eq (x1 : Int) (x2 : Int) (M : pz_M) : m_Tape_add_3 x1 x2 M = if x2 < 0 then some (none, M) else (if (M 29 1) < (260 : Int) then (grd (0 ≤ (M 29 1) ∧ (M 29 1) < 260) (bM (pz_wr M 30 (((M 29 1)).toNat) (ian (iuh x1 x2) 255)) fun M1 => bM (pz_wr M1 29 1 (ia (M1 29 1) 1)) fun M2 => m_Tape_add_3 x1 (ia x2 (-8)) M2)) else (m_Tape_add_3 x1 (ia x2 (-8)) M)) := by
  show pzr 3 62 (3, [pzR 29, pzI x1, pzI x2], [], M) = _
  refine (pz_goes tq_62 1 (σ' := (4, [pzR 29, pzI x1, pzI x2], [pzI x2], M)) rfl).trans ?_
  refine (e_if_lt tq_62 rfl).trans (e_ite ?_ ?_)
  · exact e_ret tq_62 rfl
  · refine (pz_goes tq_62 3 (σ' := (14, [pzR 29, pzI x1, pzI x2], [pzI 260, pzI (M 29 1)], M)) rfl).trans ?_
    refine (e_icmp_ge tq_62 rfl).trans (e_ite ?_ ?_)
    · refine (pz_goes tq_62 9 (σ' := (32, [pzR 29, pzI x1, pzI x2], [pzI (ian (iuh x1 x2) 255), pzI (M 29 1), pzR 30], M)) rfl).trans ?_
      refine (e_iast (n := 260) rfl rfl tq_62 rfl).trans (e_grd ?_)
      refine e_bM (m := pz_wr M 30 (((M 29 1)).toNat) (ian (iuh x1 x2) 255)) (f := fun M1 => pzr 3 62 (33, [pzR 29, pzI x1, pzI x2], [], M1)) (fun M1 => ?_)
      refine (pz_goes tq_62 5 (σ' := (40, [pzR 29, pzI x1, pzI x2], [pzI (ia (M1 29 1) 1), pzR 29], M1)) rfl).trans ?_
      refine (e_putI rfl tq_62 rfl).trans ?_
      refine e_bM (f := fun M2 => pzr 3 62 (43, [pzR 29, pzI x1, pzI x2], [], M2)) (fun M2 => ?_)
      refine (pz_goes tq_62 2 (σ' := (3, [pzR 29, pzI x1, pzI (ia x2 (-8))], [], M2)) rfl).trans ?_
      rfl
    · refine (pz_goes tq_62 2 (σ' := (3, [pzR 29, pzI x1, pzI (ia x2 (-8))], [], M)) rfl).trans ?_
      rfl
/-! PeacockDesk$Tape.take(III)Z -/
set_option maxRecDepth 20000 in
theorem m_Tape_take_eq (x1 : Int) (x2 : Int) (x3 : Int) (M : pz_M) : m_Tape_take x1 x2 x3 M = if x1 < x2 then some (some (pzI 0), M) else (if x3 < x1 then some (some (pzI 0), M) else (if (M 29 1) < x1 then some (some (pzI 0), M) else (bM (pz_wr M 29 1 0) fun M1 => bM (pz_wr M1 29 2 0) fun M2 => bM (pz_wr M2 29 3 x1) fun M3 => bM (pz_wr M3 29 4 0) fun M4 => some (some (pzI 1), M4)))) := by
  show pzr 3 63 (0, [pzR 29, pzI x1, pzI x2, pzI x3], [], M) = _
  refine (pz_goes tq_63 2 (σ' := (2, [pzR 29, pzI x1, pzI x2, pzI x3], [pzI x2, pzI x1], M)) rfl).trans ?_
  refine (e_icmp_lt tq_63 rfl).trans (e_ite ?_ ?_)
  · refine (pz_goes tq_63 1 (σ' := (19, [pzR 29, pzI x1, pzI x2, pzI x3], [pzI 0], M)) rfl).trans ?_
    exact (e_zret tq_63 rfl).trans (grd_pos (by decide))
  · refine (pz_goes tq_63 2 (σ' := (7, [pzR 29, pzI x1, pzI x2, pzI x3], [pzI x3, pzI x1], M)) rfl).trans ?_
    refine (e_icmp_gt tq_63 rfl).trans (e_ite ?_ ?_)
    · refine (pz_goes tq_63 1 (σ' := (19, [pzR 29, pzI x1, pzI x2, pzI x3], [pzI 0], M)) rfl).trans ?_
      exact (e_zret tq_63 rfl).trans (grd_pos (by decide))
    · refine (pz_goes tq_63 3 (σ' := (15, [pzR 29, pzI x1, pzI x2, pzI x3], [pzI (M 29 1), pzI x1], M)) rfl).trans ?_
      refine (e_icmp_le tq_63 rfl).trans (e_ite ?_ ?_)
      · refine (pz_goes tq_63 1 (σ' := (19, [pzR 29, pzI x1, pzI x2, pzI x3], [pzI 0], M)) rfl).trans ?_
        exact (e_zret tq_63 rfl).trans (grd_pos (by decide))
      · refine (pz_goes tq_63 2 (σ' := (22, [pzR 29, pzI x1, pzI x2, pzI x3], [pzI 0, pzR 29], M)) rfl).trans ?_
        refine (e_putI rfl tq_63 rfl).trans ?_
        refine e_bM (f := fun M1 => pzr 3 63 (25, [pzR 29, pzI x1, pzI x2, pzI x3], [], M1)) (fun M1 => ?_)
        refine (pz_goes tq_63 2 (σ' := (27, [pzR 29, pzI x1, pzI x2, pzI x3], [pzI 0, pzR 29], M1)) rfl).trans ?_
        refine (e_putI rfl tq_63 rfl).trans ?_
        refine e_bM (f := fun M2 => pzr 3 63 (30, [pzR 29, pzI x1, pzI x2, pzI x3], [], M2)) (fun M2 => ?_)
        refine (pz_goes tq_63 2 (σ' := (32, [pzR 29, pzI x1, pzI x2, pzI x3], [pzI x1, pzR 29], M2)) rfl).trans ?_
        refine (e_putI rfl tq_63 rfl).trans ?_
        refine e_bM (f := fun M3 => pzr 3 63 (35, [pzR 29, pzI x1, pzI x2, pzI x3], [], M3)) (fun M3 => ?_)
        refine (pz_goes tq_63 2 (σ' := (37, [pzR 29, pzI x1, pzI x2, pzI x3], [pzI 0, pzR 29], M3)) rfl).trans ?_
        refine (e_putI rfl tq_63 rfl).trans ?_
        refine e_bM (f := fun M4 => pzr 3 63 (40, [pzR 29, pzI x1, pzI x2, pzI x3], [], M4)) (fun M4 => ?_)
        refine (pz_goes tq_63 1 (σ' := (41, [pzR 29, pzI x1, pzI x2, pzI x3], [pzI 1], M4)) rfl).trans ?_
        exact (e_zret tq_63 rfl).trans (grd_pos (by decide))
/-! PeacockDesk$Tape.byteAt(I)I -/
set_option maxRecDepth 20000 in
theorem m_Tape_byteAt_eq (x1 : Int) (M : pz_M) : m_Tape_byteAt x1 M = if x1 < 0 then some (some (pzI 0), M) else (if x1 < (M 29 3) then (if x1 < (260 : Int) then (grd (0 ≤ x1 ∧ x1 < 260) (some (some (pzI (M 30 ((x1).toNat))), M))) else (some (some (pzI 0), M))) else (some (some (pzI 0), M))) := by
  show pzr 3 64 (0, [pzR 29, pzI x1], [], M) = _
  refine (pz_goes tq_64 1 (σ' := (1, [pzR 29, pzI x1], [pzI x1], M)) rfl).trans ?_
  refine (e_if_lt tq_64 rfl).trans (e_ite ?_ ?_)
  · refine (pz_goes tq_64 1 (σ' := (29, [pzR 29, pzI x1], [pzI 0], M)) rfl).trans ?_
    exact e_iret tq_64 rfl
  · refine (pz_goes tq_64 3 (σ' := (9, [pzR 29, pzI x1], [pzI (M 29 3), pzI x1], M)) rfl).trans ?_
    refine (e_icmp_ge tq_64 rfl).trans (e_ite ?_ ?_)
    · refine (pz_goes tq_64 2 (σ' := (16, [pzR 29, pzI x1], [pzI 260, pzI x1], M)) rfl).trans ?_
      refine (e_icmp_ge tq_64 rfl).trans (e_ite ?_ ?_)
      · refine (pz_goes tq_64 3 (σ' := (24, [pzR 29, pzI x1], [pzI x1, pzR 30], M)) rfl).trans ?_
        refine (e_iald (n := 260) rfl rfl tq_64 rfl).trans (e_grd ?_)
        refine (pz_goes tq_64 1 (σ' := (29, [pzR 29, pzI x1], [pzI (M 30 ((x1).toNat))], M)) rfl).trans ?_
        exact e_iret tq_64 rfl
      · refine (pz_goes tq_64 1 (σ' := (29, [pzR 29, pzI x1], [pzI 0], M)) rfl).trans ?_
        exact e_iret tq_64 rfl
    · refine (pz_goes tq_64 1 (σ' := (29, [pzR 29, pzI x1], [pzI 0], M)) rfl).trans ?_
      exact e_iret tq_64 rfl
/-! PeacockDesk$Tape.atEnd()Z -/
set_option maxRecDepth 20000 in
theorem m_Tape_atEnd_eq (M : pz_M) : m_Tape_atEnd M = if (M 29 2) < (M 29 3) then some (some (pzI 0), M) else (some (some (pzI 1), M)) := by
  show pzr 3 65 (0, [pzR 29], [], M) = _
  refine (pz_goes tq_65 4 (σ' := (8, [pzR 29], [pzI (M 29 3), pzI (M 29 2)], M)) rfl).trans ?_
  refine (e_icmp_lt tq_65 rfl).trans (e_ite ?_ ?_)
  · refine (pz_goes tq_65 1 (σ' := (16, [pzR 29], [pzI 0], M)) rfl).trans ?_
    exact (e_zret tq_65 rfl).trans (grd_pos (by decide))
  · refine (pz_goes tq_65 2 (σ' := (16, [pzR 29], [pzI 1], M)) rfl).trans ?_
    exact (e_zret tq_65 rfl).trans (grd_pos (by decide))
/-! PeacockDesk$Tape.peek()I -/
set_option maxRecDepth 20000 in
theorem m_Tape_peek_eq (M : pz_M) : m_Tape_peek M = if (M 29 2) < 0 then some (some (pzI (-1)), M) else (if (M 29 2) < (M 29 3) then (if (M 29 2) < (260 : Int) then (grd (0 ≤ (M 29 2) ∧ (M 29 2) < 260) (some (some (pzI (M 30 (((M 29 2)).toNat))), M))) else (some (some (pzI (-1)), M))) else (some (some (pzI (-1)), M))) := by
  show pzr 3 66 (0, [pzR 29], [], M) = _
  refine (pz_goes tq_66 2 (σ' := (4, [pzR 29], [pzI (M 29 2)], M)) rfl).trans ?_
  refine (e_if_lt tq_66 rfl).trans (e_ite ?_ ?_)
  · refine (pz_goes tq_66 1 (σ' := (41, [pzR 29], [pzI (-1)], M)) rfl).trans ?_
    exact e_iret tq_66 rfl
  · refine (pz_goes tq_66 4 (σ' := (15, [pzR 29], [pzI (M 29 3), pzI (M 29 2)], M)) rfl).trans ?_
    refine (e_icmp_ge tq_66 rfl).trans (e_ite ?_ ?_)
    · refine (pz_goes tq_66 3 (σ' := (25, [pzR 29], [pzI 260, pzI (M 29 2)], M)) rfl).trans ?_
      refine (e_icmp_ge tq_66 rfl).trans (e_ite ?_ ?_)
      · refine (pz_goes tq_66 4 (σ' := (36, [pzR 29], [pzI (M 29 2), pzR 30], M)) rfl).trans ?_
        refine (e_iald (n := 260) rfl rfl tq_66 rfl).trans (e_grd ?_)
        refine (pz_goes tq_66 1 (σ' := (41, [pzR 29], [pzI (M 30 (((M 29 2)).toNat))], M)) rfl).trans ?_
        exact e_iret tq_66 rfl
      · refine (pz_goes tq_66 1 (σ' := (41, [pzR 29], [pzI (-1)], M)) rfl).trans ?_
        exact e_iret tq_66 rfl
    · refine (pz_goes tq_66 1 (σ' := (41, [pzR 29], [pzI (-1)], M)) rfl).trans ?_
      exact e_iret tq_66 rfl
/-! PeacockDesk$Tape.step()V -/
set_option maxRecDepth 20000 in
theorem m_Tape_step_eq (M : pz_M) : m_Tape_step M = bM (pz_wr M 29 2 (ia (M 29 2) 1)) fun M1 => some (none, M1) := by
  show pzr 3 67 (0, [pzR 29], [], M) = _
  refine (pz_goes tq_67 5 (σ' := (7, [pzR 29], [pzI (ia (M 29 2) 1), pzR 29], M)) rfl).trans ?_
  refine (e_putI rfl tq_67 rfl).trans ?_
  refine e_bM (f := fun M1 => pzr 3 67 (10, [pzR 29], [], M1)) (fun M1 => ?_)
  exact e_ret tq_67 rfl
/-! PeacockDesk$Tape.pass(C)Z -/
set_option maxRecDepth 20000 in
theorem m_Tape_pass_eq (x1 : Int) (M : pz_M) : m_Tape_pass x1 M = bI (m_Tape_peek M) fun r2 M1 => if r2 = x1 then (bV (m_Tape_step M1) fun M3 => some (some (pzI 1), M3)) else (bI (m_Tape_fail 1 M1) fun r5 M4 => grd (r5 = 0 ∨ r5 = 1) (some (some (pzI r5), M4))) := by
  show pzr 4 68 (0, [pzR 29, pzI x1], [], M) = _
  refine (pz_goes tq_68 1 (σ' := (1, [pzR 29, pzI x1], [pzR 29], M)) rfl).trans ?_
  refine (e_callI (as := [pzR 29]) (rest := []) (d' := 3) tq_66 rfl rfl rfl rfl rfl tq_68 rfl).trans (e_bI rfl fun r2 M1 => ?_)
  refine (pz_goes tq_68 1 (σ' := (5, [pzR 29, pzI x1], [pzI x1, pzI r2], M1)) rfl).trans ?_
  refine (e_icmp_eq tq_68 rfl).trans (e_ite ?_ ?_)
  · refine (pz_goes tq_68 1 (σ' := (15, [pzR 29, pzI x1], [pzR 29], M1)) rfl).trans ?_
    refine (e_callV (as := [pzR 29]) (rest := []) (d' := 3) tq_67 rfl rfl rfl rfl rfl tq_68 rfl).trans (e_bV rfl fun M3 => ?_)
    refine (pz_goes tq_68 1 (σ' := (19, [pzR 29, pzI x1], [pzI 1], M3)) rfl).trans ?_
    exact (e_zret tq_68 rfl).trans (grd_pos (by decide))
  · refine (pz_goes tq_68 2 (σ' := (10, [pzR 29, pzI x1], [pzI 1, pzR 29], M1)) rfl).trans ?_
    refine (e_callI (as := [pzR 29, pzI 1]) (rest := []) (d' := 3) tq_72 rfl rfl rfl rfl rfl tq_68 rfl).trans (e_bI rfl fun r5 M4 => ?_)
    exact e_zret tq_68 rfl
/-! PeacockDesk$Tape.placeIn(Ljava/lang/String;)I -/
set_option maxRecDepth 20000 in
theorem m_Tape_placeIn_eq (k1 : Nat) (M : pz_M) (h1 : pz_cls k1 = 24) : m_Tape_placeIn k1 M = bI (m_Tape_peek M) fun r2 M1 => m_Tape_placeIn_7 k1 r2 0 M1 := by
  show pzr 5 69 (0, [pzR 29, pzR k1, pzN, pzN], [], M) = _
  refine (pz_goes tq_69 1 (σ' := (1, [pzR 29, pzR k1, pzN, pzN], [pzR 29], M)) rfl).trans ?_
  refine (e_callI (as := [pzR 29]) (rest := []) (d' := 3) tq_66 rfl rfl rfl rfl rfl tq_69 rfl).trans (e_bI rfl fun r2 M1 => ?_)
  refine (pz_goes tq_69 3 (σ' := (7, [pzR 29, pzR k1, pzI r2, pzI 0], [], M1)) rfl).trans ?_
  rfl
set_option maxRecDepth 20000 in
theorem m_Tape_placeIn_7_eq (k1 : Nat) (x2 : Int) (x3 : Int) (M : pz_M) (h1 : pz_cls k1 = 24) : m_Tape_placeIn_7 k1 x2 x3 M = bI (m_String_length k1 M) fun r2 M1 => if x3 < r2 then (bI (m_String_charAt k1 x3 M1) fun r4 M3 => if r4 = x2 then some (some (pzI x3), M3) else (m_Tape_placeIn_7 k1 x2 (ia x3 (1)) M3)) else (some (some (pzI (-1)), M1)) := by
  show pzr 5 69 (7, [pzR 29, pzR k1, pzI x2, pzI x3], [], M) = _
  refine (pz_goes tq_69 2 (σ' := (9, [pzR 29, pzR k1, pzI x2, pzI x3], [pzR k1, pzI x3], M)) rfl).trans ?_
  refine (e_callI (as := [pzR k1]) (rest := [pzI x3]) (d' := 4) tq_133 rfl (e_cokS rfl rfl h1) rfl rfl rfl tq_69 rfl).trans (e_bI rfl fun r2 M1 => ?_)
  refine (e_icmp_ge tq_69 rfl).trans (e_ite ?_ ?_)
  · refine (pz_goes tq_69 2 (σ' := (17, [pzR 29, pzR k1, pzI x2, pzI x3], [pzI x3, pzR k1], M1)) rfl).trans ?_
    refine (e_callI (as := [pzR k1, pzI x3]) (rest := []) (d' := 4) tq_134 rfl (e_cokS rfl rfl h1) rfl rfl rfl tq_69 rfl).trans (e_bI rfl fun r4 M3 => ?_)
    refine (pz_goes tq_69 1 (σ' := (21, [pzR 29, pzR k1, pzI x2, pzI x3], [pzI x2, pzI r4], M3)) rfl).trans ?_
    refine (e_icmp_ne tq_69 rfl).trans (e_ite ?_ ?_)
    · refine (pz_goes tq_69 1 (σ' := (25, [pzR 29, pzR k1, pzI x2, pzI x3], [pzI x3], M3)) rfl).trans ?_
      exact e_iret tq_69 rfl
    · refine (pz_goes tq_69 2 (σ' := (7, [pzR 29, pzR k1, pzI x2, pzI (ia x3 (1))], [], M3)) rfl).trans ?_
      rfl
  · refine (pz_goes tq_69 1 (σ' := (33, [pzR 29, pzR k1, pzI x2, pzI x3], [pzI (-1)], M1)) rfl).trans ?_
    exact e_iret tq_69 rfl
/-! PeacockDesk$Tape.isDigit()Z -/
set_option maxRecDepth 20000 in
theorem m_Tape_isDigit_eq (M : pz_M) : m_Tape_isDigit M = bI (m_Tape_peek M) fun r2 M1 => if r2 < (48 : Int) then some (some (pzI 0), M1) else (if (57 : Int) < r2 then some (some (pzI 0), M1) else (some (some (pzI 1), M1))) := by
  show pzr 4 70 (0, [pzR 29, pzN], [], M) = _
  refine (pz_goes tq_70 1 (σ' := (1, [pzR 29, pzN], [pzR 29], M)) rfl).trans ?_
  refine (e_callI (as := [pzR 29]) (rest := []) (d' := 3) tq_66 rfl rfl rfl rfl rfl tq_70 rfl).trans (e_bI rfl fun r2 M1 => ?_)
  refine (pz_goes tq_70 3 (σ' := (8, [pzR 29, pzI r2], [pzI 48, pzI r2], M1)) rfl).trans ?_
  refine (e_icmp_lt tq_70 rfl).trans (e_ite ?_ ?_)
  · refine (pz_goes tq_70 1 (σ' := (22, [pzR 29, pzI r2], [pzI 0], M1)) rfl).trans ?_
    exact (e_zret tq_70 rfl).trans (grd_pos (by decide))
  · refine (pz_goes tq_70 2 (σ' := (14, [pzR 29, pzI r2], [pzI 57, pzI r2], M1)) rfl).trans ?_
    refine (e_icmp_gt tq_70 rfl).trans (e_ite ?_ ?_)
    · refine (pz_goes tq_70 1 (σ' := (22, [pzR 29, pzI r2], [pzI 0], M1)) rfl).trans ?_
      exact (e_zret tq_70 rfl).trans (grd_pos (by decide))
    · refine (pz_goes tq_70 2 (σ' := (22, [pzR 29, pzI r2], [pzI 1], M1)) rfl).trans ?_
      exact (e_zret tq_70 rfl).trans (grd_pos (by decide))
/-! PeacockDesk$Tape.readNumber(I)I -/
set_option maxRecDepth 20000 in
theorem m_Tape_readNumber_eq (x1 : Int) (M : pz_M) : m_Tape_readNumber x1 M = m_Tape_readNumber_4 x1 0 0 pzN M := by
  show pzr 4 71 (0, [pzR 29, pzI x1, pzN, pzN, pzN], [], M) = _
  refine (pz_goes tq_71 4 (σ' := (4, [pzR 29, pzI x1, pzI 0, pzI 0, pzN], [], M)) rfl).trans ?_
  rfl
set_option maxRecDepth 20000 in
theorem m_Tape_readNumber_4_eq (x1 : Int) (x2 : Int) (x3 : Int) (w4 : pz_V) (M : pz_M) : m_Tape_readNumber_4 x1 x2 x3 w4 M = if x3 < x1 then (bI (m_Tape_peek M) fun r2 M1 => if r2 < (48 : Int) then (m_Tape_readNumber_29 (pzI x1) x2 x3 (pzI r2) M1) else (if (57 : Int) < r2 then (m_Tape_readNumber_29 (pzI x1) x2 x3 (pzI r2) M1) else (bV (m_Tape_step M1) fun M3 => m_Tape_readNumber_4 x1 (isb (ia (imu x2 10) r2) 48) (ia x3 (1)) (pzI r2) M3))) else (bI (m_Tape_peek M) fun r5 M4 => if r5 < (48 : Int) then some (some (pzI x2), M4) else (bI (m_Tape_peek M4) fun r7 M6 => if (57 : Int) < r7 then some (some (pzI x2), M6) else (bI (m_Tape_fail 2 M6) fun r9 M8 => some (some (pzI (-1)), M8)))) := by
  show pzr 4 71 (4, [pzR 29, pzI x1, pzI x2, pzI x3, w4], [], M) = _
  refine (pz_goes tq_71 2 (σ' := (6, [pzR 29, pzI x1, pzI x2, pzI x3, w4], [pzI x1, pzI x3], M)) rfl).trans ?_
  refine (e_icmp_ge tq_71 rfl).trans (e_ite ?_ ?_)
  · refine (pz_goes tq_71 1 (σ' := (10, [pzR 29, pzI x1, pzI x2, pzI x3, w4], [pzR 29], M)) rfl).trans ?_
    refine (e_callI (as := [pzR 29]) (rest := []) (d' := 3) tq_66 rfl rfl rfl rfl rfl tq_71 rfl).trans (e_bI rfl fun r2 M1 => ?_)
    refine (pz_goes tq_71 3 (σ' := (19, [pzR 29, pzI x1, pzI x2, pzI x3, pzI r2], [pzI 48, pzI r2], M1)) rfl).trans ?_
    refine (e_icmp_lt tq_71 rfl).trans (e_ite ?_ ?_)
    · rfl
    · refine (pz_goes tq_71 2 (σ' := (26, [pzR 29, pzI x1, pzI x2, pzI x3, pzI r2], [pzI 57, pzI r2], M1)) rfl).trans ?_
      refine (e_icmp_le tq_71 rfl).trans (e_ite ?_ ?_)
      · rfl
      · refine (pz_goes tq_71 9 (σ' := (55, [pzR 29, pzI x1, pzI (isb (ia (imu x2 10) r2) 48), pzI x3, pzI r2], [pzR 29], M1)) rfl).trans ?_
        refine (e_callV (as := [pzR 29]) (rest := []) (d' := 3) tq_67 rfl rfl rfl rfl rfl tq_71 rfl).trans (e_bV rfl fun M3 => ?_)
        refine (pz_goes tq_71 2 (σ' := (4, [pzR 29, pzI x1, pzI (isb (ia (imu x2 10) r2) 48), pzI (ia x3 (1)), pzI r2], [], M3)) rfl).trans ?_
        rfl
  · refine (pz_goes tq_71 1 (σ' := (65, [pzR 29, pzI x1, pzI x2, pzI x3, w4], [pzR 29], M)) rfl).trans ?_
    refine (e_callI (as := [pzR 29]) (rest := []) (d' := 3) tq_66 rfl rfl rfl rfl rfl tq_71 rfl).trans (e_bI rfl fun r5 M4 => ?_)
    refine (pz_goes tq_71 1 (σ' := (70, [pzR 29, pzI x1, pzI x2, pzI x3, w4], [pzI 48, pzI r5], M4)) rfl).trans ?_
    refine (e_icmp_lt tq_71 rfl).trans (e_ite ?_ ?_)
    · refine (pz_goes tq_71 1 (σ' := (83, [pzR 29, pzI x1, pzI x2, pzI x3, w4], [pzI x2], M4)) rfl).trans ?_
      exact e_iret tq_71 rfl
    · refine (pz_goes tq_71 1 (σ' := (74, [pzR 29, pzI x1, pzI x2, pzI x3, w4], [pzR 29], M4)) rfl).trans ?_
      refine (e_callI (as := [pzR 29]) (rest := []) (d' := 3) tq_66 rfl rfl rfl rfl rfl tq_71 rfl).trans (e_bI rfl fun r7 M6 => ?_)
      refine (pz_goes tq_71 1 (σ' := (79, [pzR 29, pzI x1, pzI x2, pzI x3, w4], [pzI 57, pzI r7], M6)) rfl).trans ?_
      refine (e_icmp_le tq_71 rfl).trans (e_ite ?_ ?_)
      · refine (pz_goes tq_71 1 (σ' := (83, [pzR 29, pzI x1, pzI x2, pzI x3, w4], [pzI x2], M6)) rfl).trans ?_
        exact e_iret tq_71 rfl
      · refine (pz_goes tq_71 2 (σ' := (86, [pzR 29, pzI x1, pzI x2, pzI x3, w4], [pzI 2, pzR 29], M6)) rfl).trans ?_
        refine (e_callI (as := [pzR 29, pzI 2]) (rest := []) (d' := 3) tq_72 rfl rfl rfl rfl rfl tq_71 rfl).trans (e_bI rfl fun r9 M8 => ?_)
        refine (pz_goes tq_71 2 (σ' := (91, [pzR 29, pzI x1, pzI x2, pzI x3, w4], [pzI (-1)], M8)) rfl).trans ?_
        exact e_iret tq_71 rfl
set_option maxRecDepth 20000 in
theorem m_Tape_readNumber_29_eq (w1 : pz_V) (x2 : Int) (x3 : Int) (w4 : pz_V) (M : pz_M) : m_Tape_readNumber_29 w1 x2 x3 w4 M = if 0 < x3 then some (some (pzI x2), M) else (bI (m_Tape_fail 1 M) fun r2 M1 => some (some (pzI (-1)), M1)) := by
  show pzr 4 71 (29, [pzR 29, w1, pzI x2, pzI x3, w4], [], M) = _
  refine (pz_goes tq_71 1 (σ' := (30, [pzR 29, w1, pzI x2, pzI x3, w4], [pzI x3], M)) rfl).trans ?_
  refine (e_if_le tq_71 rfl).trans (e_ite ?_ ?_)
  · refine (pz_goes tq_71 1 (σ' := (34, [pzR 29, w1, pzI x2, pzI x3, w4], [pzI x2], M)) rfl).trans ?_
    exact e_iret tq_71 rfl
  · refine (pz_goes tq_71 2 (σ' := (37, [pzR 29, w1, pzI x2, pzI x3, w4], [pzI 1, pzR 29], M)) rfl).trans ?_
    refine (e_callI (as := [pzR 29, pzI 1]) (rest := []) (d' := 3) tq_72 rfl rfl rfl rfl rfl tq_71 rfl).trans (e_bI rfl fun r2 M1 => ?_)
    refine (pz_goes tq_71 2 (σ' := (42, [pzR 29, w1, pzI x2, pzI x3, w4], [pzI (-1)], M1)) rfl).trans ?_
    exact e_iret tq_71 rfl
/-! PeacockDesk$Tape.fail(I)Z -/
set_option maxRecDepth 20000 in
theorem m_Tape_fail_eq (x1 : Int) (M : pz_M) : m_Tape_fail x1 M = bM (pz_wr M 29 4 (isb (imu (-1000) x1) (M 29 2))) fun M1 => some (some (pzI 0), M1) := by
  show pzr 3 72 (0, [pzR 29, pzI x1], [], M) = _
  refine (pz_goes tq_72 7 (σ' := (11, [pzR 29, pzI x1], [pzI (isb (imu (-1000) x1) (M 29 2)), pzR 29], M)) rfl).trans ?_
  refine (e_putI rfl tq_72 rfl).trans ?_
  refine e_bM (f := fun M1 => pzr 3 72 (14, [pzR 29, pzI x1], [], M1)) (fun M1 => ?_)
  refine (pz_goes tq_72 1 (σ' := (15, [pzR 29, pzI x1], [pzI 0], M1)) rfl).trans ?_
  exact (e_zret tq_72 rfl).trans (grd_pos (by decide))
/-! PeacockDesk$Tape.failAt(II)Z -/
set_option maxRecDepth 20000 in
theorem m_Tape_failAt_eq (x1 : Int) (x2 : Int) (M : pz_M) : m_Tape_failAt x1 x2 M = bM (pz_wr M 29 4 (isb (imu (-1000) x1) x2)) fun M1 => some (some (pzI 0), M1) := by
  show pzr 3 73 (0, [pzR 29, pzI x1, pzI x2], [], M) = _
  refine (pz_goes tq_73 6 (σ' := (8, [pzR 29, pzI x1, pzI x2], [pzI (isb (imu (-1000) x1) x2), pzR 29], M)) rfl).trans ?_
  refine (e_putI rfl tq_73 rfl).trans ?_
  refine e_bM (f := fun M1 => pzr 3 73 (11, [pzR 29, pzI x1, pzI x2], [], M1)) (fun M1 => ?_)
  refine (pz_goes tq_73 1 (σ' := (12, [pzR 29, pzI x1, pzI x2], [pzI 0], M1)) rfl).trans ?_
  exact (e_zret tq_73 rfl).trans (grd_pos (by decide))
/-! PeacockDesk$Terrace.begin(LPeacockDesk$Docket;)V -/
set_option maxRecDepth 20000 in
theorem m_Terrace_begin_eq (k0 : Nat) (k1 : Nat) (M : pz_M) (h0 : pz_cls k0 = 9) (h1 : pz_cls k1 = 1) : m_Terrace_begin k0 k1 M = bM (pz_wr M k0 4 (M k1 5)) fun M1 => grd (0 ≤ (0 : Int) ∧ 0 ≤ (0 : Int) ∧ 0 ≤ (24 : Int) ∧ (0 : Int) + (24 : Int) ≤ 24 ∧ (0 : Int) + (24 : Int) ≤ 24) (bM (pz_cpy M1 (k1 + 4) (k0 + 1) 0 0 24) fun M2 => bV (m_Arrays_fill (k0 + 2) 0 M2) fun M3 => bV (m_Arrays_fill (k0 + 3) 0 M3) fun M4 => bV (m_Terrace_countLoads k0 M4) fun M5 => some (none, M5)) := by
  show pzr 5 74 (0, [pzR k0, pzR k1], [], M) = _
  refine (pz_goes tq_74 2 (σ' := (2, [pzR k0, pzR k1], [pzR k1, pzR k0], M)) rfl).trans ?_
  refine (e_getI h1 tq_74 rfl).trans ?_
  refine (e_putI h0 tq_74 rfl).trans ?_
  refine e_bM (f := fun M1 => pzr 5 74 (8, [pzR k0, pzR k1], [], M1)) (fun M1 => ?_)
  refine (pz_goes tq_74 1 (σ' := (9, [pzR k0, pzR k1], [pzR k1], M1)) rfl).trans ?_
  refine (e_getR h1 (ar_1_3 h1) tq_74 rfl).trans ?_
  refine (pz_goes tq_74 2 (σ' := (14, [pzR k0, pzR k1], [pzR k0, pzI 0, pzR (k1 + 4)], M1)) rfl).trans ?_
  refine (e_getR h0 (ar_9_0 h0) tq_74 rfl).trans ?_
  refine (pz_goes tq_74 2 (σ' := (20, [pzR k0, pzR k1], [pzI 24, pzI 0, pzR (k0 + 1), pzI 0, pzR (k1 + 4)], M1)) rfl).trans ?_
  refine (e_copy (n0 := 24) (n1 := 24) (ac_1_3 h1) (ac_9_0 h0) (al_1_3 h1) (al_9_0 h0) rfl tq_74 rfl).trans (e_grd ?_)
  refine e_bM (m := pz_cpy M1 (k1 + 4) (k0 + 1) 0 0 24) (f := fun M2 => pzr 5 74 (23, [pzR k0, pzR k1], [], M2)) (fun M2 => ?_)
  refine (pz_goes tq_74 1 (σ' := (24, [pzR k0, pzR k1], [pzR k0], M2)) rfl).trans ?_
  refine (e_getR h0 (ar_9_1 h0) tq_74 rfl).trans ?_
  refine (pz_goes tq_74 1 (σ' := (28, [pzR k0, pzR k1], [pzI 0, pzR (k0 + 2)], M2)) rfl).trans ?_
  refine (e_callV (as := [pzR (k0 + 2), pzI 0, pzN, pzN]) (rest := []) (d' := 3) tq_132 rfl rfl rfl rfl rfl tq_74 rfl).trans (e_bV rfl fun M3 => ?_)
  refine (pz_goes tq_74 1 (σ' := (32, [pzR k0, pzR k1], [pzR k0], M3)) rfl).trans ?_
  refine (e_getR h0 (ar_9_2 h0) tq_74 rfl).trans ?_
  refine (pz_goes tq_74 1 (σ' := (36, [pzR k0, pzR k1], [pzI 0, pzR (k0 + 3)], M3)) rfl).trans ?_
  refine (e_callV (as := [pzR (k0 + 3), pzI 0, pzN, pzN]) (rest := []) (d' := 3) tq_132 rfl rfl rfl rfl rfl tq_74 rfl).trans (e_bV rfl fun M4 => ?_)
  refine (pz_goes tq_74 1 (σ' := (40, [pzR k0, pzR k1], [pzR k0], M4)) rfl).trans ?_
  refine (e_callV (as := [pzR k0, pzN]) (rest := []) (d' := 4) tq_77 rfl (e_cokS rfl rfl h0) rfl rfl rfl tq_74 rfl).trans (e_bV rfl fun M5 => ?_)
  exact e_ret tq_74 rfl
/-! PeacockDesk$Terrace.copy(LPeacockDesk$Terrace;)V -/
set_option maxRecDepth 20000 in
theorem m_Terrace_copy_eq (k0 : Nat) (k1 : Nat) (M : pz_M) (h0 : pz_cls k0 = 9) (h1 : pz_cls k1 = 9) : m_Terrace_copy k0 k1 M = bM (pz_wr M k0 4 (M k1 4)) fun M1 => bV (m_Terrace_goBackTo k0 k1 M1) fun M2 => some (none, M2) := by
  show pzr 6 75 (0, [pzR k0, pzR k1], [], M) = _
  refine (pz_goes tq_75 2 (σ' := (2, [pzR k0, pzR k1], [pzR k1, pzR k0], M)) rfl).trans ?_
  refine (e_getI h1 tq_75 rfl).trans ?_
  refine (e_putI h0 tq_75 rfl).trans ?_
  refine e_bM (f := fun M1 => pzr 6 75 (8, [pzR k0, pzR k1], [], M1)) (fun M1 => ?_)
  refine (pz_goes tq_75 2 (σ' := (10, [pzR k0, pzR k1], [pzR k1, pzR k0], M1)) rfl).trans ?_
  refine (e_callV (as := [pzR k0, pzR k1, pzN]) (rest := []) (d' := 5) tq_76 rfl (e_cokS rfl rfl h0) rfl rfl rfl tq_75 rfl).trans (e_bV rfl fun M2 => ?_)
  exact e_ret tq_75 rfl
/-! PeacockDesk$Terrace.goBackTo(LPeacockDesk$Terrace;)V -/
set_option maxRecDepth 20000 in
theorem m_Terrace_goBackTo_eq (k0 : Nat) (k1 : Nat) (M : pz_M) (h0 : pz_cls k0 = 9) (h1 : pz_cls k1 = 9) : m_Terrace_goBackTo k0 k1 M = bI (m_Math_min (M k0 4) (M k1 4) M) fun r2 M1 => grd (0 ≤ (0 : Int) ∧ 0 ≤ (0 : Int) ∧ 0 ≤ r2 ∧ (0 : Int) + r2 ≤ 24 ∧ (0 : Int) + r2 ≤ 24) (bM (pz_cpy M1 (k1 + 1) (k0 + 1) 0 0 ((r2).toNat)) fun M3 => grd (0 ≤ (0 : Int) ∧ 0 ≤ (0 : Int) ∧ 0 ≤ r2 ∧ (0 : Int) + r2 ≤ 24 ∧ (0 : Int) + r2 ≤ 24) (bM (pz_cpy M3 (k1 + 2) (k0 + 2) 0 0 ((r2).toNat)) fun M4 => grd (0 ≤ (0 : Int) ∧ 0 ≤ (0 : Int) ∧ 0 ≤ (9 : Int) ∧ (0 : Int) + (9 : Int) ≤ 9 ∧ (0 : Int) + (9 : Int) ≤ 9) (bM (pz_cpy M4 (k1 + 3) (k0 + 3) 0 0 9) fun M5 => bM (pz_wr M5 k0 5 (M5 k1 5)) fun M6 => bM (pz_wr M6 k0 6 (M6 k1 6)) fun M7 => bV (m_Terrace_countLoads k0 M7) fun M8 => some (none, M8)))) := by
  show pzr 5 76 (0, [pzR k0, pzR k1, pzN], [], M) = _
  refine (pz_goes tq_76 1 (σ' := (1, [pzR k0, pzR k1, pzN], [pzR k0], M)) rfl).trans ?_
  refine (e_getI h0 tq_76 rfl).trans ?_
  refine (pz_goes tq_76 1 (σ' := (5, [pzR k0, pzR k1, pzN], [pzR k1, pzI (M k0 4)], M)) rfl).trans ?_
  refine (e_getI h1 tq_76 rfl).trans ?_
  refine (e_callI (as := [pzI (M k0 4), pzI (M k1 4)]) (rest := []) (d' := 3) tq_128 rfl rfl rfl rfl rfl tq_76 rfl).trans (e_bI rfl fun r2 M1 => ?_)
  refine (pz_goes tq_76 2 (σ' := (13, [pzR k0, pzR k1, pzI r2], [pzR k1], M1)) rfl).trans ?_
  refine (e_getR h1 (ar_9_0 h1) tq_76 rfl).trans ?_
  refine (pz_goes tq_76 2 (σ' := (18, [pzR k0, pzR k1, pzI r2], [pzR k0, pzI 0, pzR (k1 + 1)], M1)) rfl).trans ?_
  refine (e_getR h0 (ar_9_0 h0) tq_76 rfl).trans ?_
  refine (pz_goes tq_76 2 (σ' := (23, [pzR k0, pzR k1, pzI r2], [pzI r2, pzI 0, pzR (k0 + 1), pzI 0, pzR (k1 + 1)], M1)) rfl).trans ?_
  refine (e_copy (n0 := 24) (n1 := 24) (ac_9_0 h1) (ac_9_0 h0) (al_9_0 h1) (al_9_0 h0) rfl tq_76 rfl).trans (e_grd ?_)
  refine e_bM (m := pz_cpy M1 (k1 + 1) (k0 + 1) 0 0 ((r2).toNat)) (f := fun M3 => pzr 5 76 (26, [pzR k0, pzR k1, pzI r2], [], M3)) (fun M3 => ?_)
  refine (pz_goes tq_76 1 (σ' := (27, [pzR k0, pzR k1, pzI r2], [pzR k1], M3)) rfl).trans ?_
  refine (e_getR h1 (ar_9_1 h1) tq_76 rfl).trans ?_
  refine (pz_goes tq_76 2 (σ' := (32, [pzR k0, pzR k1, pzI r2], [pzR k0, pzI 0, pzR (k1 + 2)], M3)) rfl).trans ?_
  refine (e_getR h0 (ar_9_1 h0) tq_76 rfl).trans ?_
  refine (pz_goes tq_76 2 (σ' := (37, [pzR k0, pzR k1, pzI r2], [pzI r2, pzI 0, pzR (k0 + 2), pzI 0, pzR (k1 + 2)], M3)) rfl).trans ?_
  refine (e_copy (n0 := 24) (n1 := 24) (ac_9_1 h1) (ac_9_1 h0) (al_9_1 h1) (al_9_1 h0) rfl tq_76 rfl).trans (e_grd ?_)
  refine e_bM (m := pz_cpy M3 (k1 + 2) (k0 + 2) 0 0 ((r2).toNat)) (f := fun M4 => pzr 5 76 (40, [pzR k0, pzR k1, pzI r2], [], M4)) (fun M4 => ?_)
  refine (pz_goes tq_76 1 (σ' := (41, [pzR k0, pzR k1, pzI r2], [pzR k1], M4)) rfl).trans ?_
  refine (e_getR h1 (ar_9_2 h1) tq_76 rfl).trans ?_
  refine (pz_goes tq_76 2 (σ' := (46, [pzR k0, pzR k1, pzI r2], [pzR k0, pzI 0, pzR (k1 + 3)], M4)) rfl).trans ?_
  refine (e_getR h0 (ar_9_2 h0) tq_76 rfl).trans ?_
  refine (pz_goes tq_76 2 (σ' := (52, [pzR k0, pzR k1, pzI r2], [pzI 9, pzI 0, pzR (k0 + 3), pzI 0, pzR (k1 + 3)], M4)) rfl).trans ?_
  refine (e_copy (n0 := 9) (n1 := 9) (ac_9_2 h1) (ac_9_2 h0) (al_9_2 h1) (al_9_2 h0) rfl tq_76 rfl).trans (e_grd ?_)
  refine e_bM (m := pz_cpy M4 (k1 + 3) (k0 + 3) 0 0 9) (f := fun M5 => pzr 5 76 (55, [pzR k0, pzR k1, pzI r2], [], M5)) (fun M5 => ?_)
  refine (pz_goes tq_76 2 (σ' := (57, [pzR k0, pzR k1, pzI r2], [pzR k1, pzR k0], M5)) rfl).trans ?_
  refine (e_getI h1 tq_76 rfl).trans ?_
  refine (e_putI h0 tq_76 rfl).trans ?_
  refine e_bM (f := fun M6 => pzr 5 76 (63, [pzR k0, pzR k1, pzI r2], [], M6)) (fun M6 => ?_)
  refine (pz_goes tq_76 2 (σ' := (65, [pzR k0, pzR k1, pzI r2], [pzR k1, pzR k0], M6)) rfl).trans ?_
  refine (e_getI h1 tq_76 rfl).trans ?_
  refine (e_putI h0 tq_76 rfl).trans ?_
  refine e_bM (f := fun M7 => pzr 5 76 (71, [pzR k0, pzR k1, pzI r2], [], M7)) (fun M7 => ?_)
  refine (pz_goes tq_76 1 (σ' := (72, [pzR k0, pzR k1, pzI r2], [pzR k0], M7)) rfl).trans ?_
  refine (e_callV (as := [pzR k0, pzN]) (rest := []) (d' := 4) tq_77 rfl (e_cokS rfl rfl h0) rfl rfl rfl tq_76 rfl).trans (e_bV rfl fun M8 => ?_)
  exact e_ret tq_76 rfl
/-! PeacockDesk$Terrace.countLoads()V -/
set_option maxRecDepth 20000 in
theorem m_Terrace_countLoads_eq (k0 : Nat) (M : pz_M) (h0 : pz_cls k0 = 9) : m_Terrace_countLoads k0 M = bV (m_Arrays_fill (k0 + 4) 0 M) fun M1 => m_Terrace_countLoads_10 k0 0 M1 := by
  show pzr 4 77 (0, [pzR k0, pzN], [], M) = _
  refine (pz_goes tq_77 1 (σ' := (1, [pzR k0, pzN], [pzR k0], M)) rfl).trans ?_
  refine (e_getR h0 (ar_9_3 h0) tq_77 rfl).trans ?_
  refine (pz_goes tq_77 1 (σ' := (5, [pzR k0, pzN], [pzI 0, pzR (k0 + 4)], M)) rfl).trans ?_
  refine (e_callV (as := [pzR (k0 + 4), pzI 0, pzN, pzN]) (rest := []) (d' := 3) tq_132 rfl rfl rfl rfl rfl tq_77 rfl).trans (e_bV rfl fun M1 => ?_)
  refine (pz_goes tq_77 2 (σ' := (10, [pzR k0, pzI 0], [], M1)) rfl).trans ?_
  rfl
set_option maxRecDepth 20000 in
theorem m_Terrace_countLoads_10_eq (k0 : Nat) (x1 : Int) (M : pz_M) (h0 : pz_cls k0 = 9) : m_Terrace_countLoads_10 k0 x1 M = if x1 < (M k0 4) then (grd (0 ≤ x1 ∧ x1 < 24) (grd (0 ≤ (M (k0 + 1) ((x1).toNat)) ∧ (M (k0 + 1) ((x1).toNat)) < 11) (grd (0 ≤ (M (k0 + 1) ((x1).toNat)) ∧ (M (k0 + 1) ((x1).toNat)) < 11) (bM (pz_wr M (k0 + 4) (((M (k0 + 1) ((x1).toNat))).toNat) (ia (M (k0 + 4) (((M (k0 + 1) ((x1).toNat))).toNat)) 1)) fun M1 => m_Terrace_countLoads_10 k0 (ia x1 (1)) M1)))) else (some (none, M)) := by
  show pzr 4 77 (10, [pzR k0, pzI x1], [], M) = _
  refine (pz_goes tq_77 2 (σ' := (12, [pzR k0, pzI x1], [pzR k0, pzI x1], M)) rfl).trans ?_
  refine (e_getI h0 tq_77 rfl).trans ?_
  refine (e_icmp_ge tq_77 rfl).trans (e_ite ?_ ?_)
  · refine (pz_goes tq_77 1 (σ' := (19, [pzR k0, pzI x1], [pzR k0], M)) rfl).trans ?_
    refine (e_getR h0 (ar_9_3 h0) tq_77 rfl).trans ?_
    refine (pz_goes tq_77 1 (σ' := (23, [pzR k0, pzI x1], [pzR k0, pzR (k0 + 4)], M)) rfl).trans ?_
    refine (e_getR h0 (ar_9_0 h0) tq_77 rfl).trans ?_
    refine (pz_goes tq_77 1 (σ' := (27, [pzR k0, pzI x1], [pzI x1, pzR (k0 + 1), pzR (k0 + 4)], M)) rfl).trans ?_
    refine (e_iald (n := 24) (ac_9_0 h0) (al_9_0 h0) tq_77 rfl).trans (e_grd ?_)
    refine (pz_goes tq_77 1 (σ' := (29, [pzR k0, pzI x1], [pzI (M (k0 + 1) ((x1).toNat)), pzR (k0 + 4), pzI (M (k0 + 1) ((x1).toNat)), pzR (k0 + 4)], M)) rfl).trans ?_
    refine (e_iald (n := 11) (ac_9_3 h0) (al_9_3 h0) tq_77 rfl).trans (e_grd ?_)
    refine (pz_goes tq_77 2 (σ' := (32, [pzR k0, pzI x1], [pzI (ia (M (k0 + 4) (((M (k0 + 1) ((x1).toNat))).toNat)) 1), pzI (M (k0 + 1) ((x1).toNat)), pzR (k0 + 4)], M)) rfl).trans ?_
    refine (e_iast (n := 11) (ac_9_3 h0) (al_9_3 h0) tq_77 rfl).trans (e_grd ?_)
    refine e_bM (m := pz_wr M (k0 + 4) (((M (k0 + 1) ((x1).toNat))).toNat) (ia (M (k0 + 4) (((M (k0 + 1) ((x1).toNat))).toNat)) 1)) (f := fun M1 => pzr 4 77 (33, [pzR k0, pzI x1], [], M1)) (fun M1 => ?_)
    refine (pz_goes tq_77 2 (σ' := (10, [pzR k0, pzI (ia x1 (1))], [], M1)) rfl).trans ?_
    rfl
  · exact e_ret tq_77 rfl
/-! PeacockDesk$Terrace.hasEye(I)Z -/
set_option maxRecDepth 20000 in
theorem m_Terrace_hasEye_eq (k0 : Nat) (x1 : Int) (M : pz_M) (h0 : pz_cls k0 = 9) : m_Terrace_hasEye k0 x1 M = grd (0 ≤ x1 ∧ x1 < 11) (if (M (k0 + 4) ((x1).toNat)) < (12 : Int) then some (some (pzI 1), M) else (some (some (pzI 0), M))) := by
  show pzr 3 78 (0, [pzR k0, pzI x1], [], M) = _
  refine (pz_goes tq_78 1 (σ' := (1, [pzR k0, pzI x1], [pzR k0], M)) rfl).trans ?_
  refine (e_getR h0 (ar_9_3 h0) tq_78 rfl).trans ?_
  refine (pz_goes tq_78 1 (σ' := (5, [pzR k0, pzI x1], [pzI x1, pzR (k0 + 4)], M)) rfl).trans ?_
  refine (e_iald (n := 11) (ac_9_3 h0) (al_9_3 h0) tq_78 rfl).trans (e_grd ?_)
  refine (pz_goes tq_78 1 (σ' := (8, [pzR k0, pzI x1], [pzI 12, pzI (M (k0 + 4) ((x1).toNat))], M)) rfl).trans ?_
  refine (e_icmp_ge tq_78 rfl).trans (e_ite ?_ ?_)
  · refine (pz_goes tq_78 2 (σ' := (16, [pzR k0, pzI x1], [pzI 1], M)) rfl).trans ?_
    exact (e_zret tq_78 rfl).trans (grd_pos (by decide))
  · refine (pz_goes tq_78 1 (σ' := (16, [pzR k0, pzI x1], [pzI 0], M)) rfl).trans ?_
    exact (e_zret tq_78 rfl).trans (grd_pos (by decide))
/-! PeacockDesk$Terrace.give(II)V -/
set_option maxRecDepth 20000 in
theorem m_Terrace_give_eq (k0 : Nat) (x1 : Int) (x2 : Int) (M : pz_M) (h0 : pz_cls k0 = 9) : m_Terrace_give k0 x1 x2 M = grd (0 ≤ x1 ∧ x1 < 24) (grd (0 ≤ (M (k0 + 1) ((x1).toNat)) ∧ (M (k0 + 1) ((x1).toNat)) < 11) (grd (0 ≤ (M (k0 + 1) ((x1).toNat)) ∧ (M (k0 + 1) ((x1).toNat)) < 11) (bM (pz_wr M (k0 + 4) (((M (k0 + 1) ((x1).toNat))).toNat) (isb (M (k0 + 4) (((M (k0 + 1) ((x1).toNat))).toNat)) 1)) fun M1 => grd (0 ≤ x2 ∧ x2 < 11) (grd (0 ≤ x2 ∧ x2 < 11) (bM (pz_wr M1 (k0 + 4) ((x2).toNat) (ia (M1 (k0 + 4) ((x2).toNat)) 1)) fun M2 => grd (0 ≤ x1 ∧ x1 < 24) (bM (pz_wr M2 (k0 + 1) ((x1).toNat) x2) fun M3 => some (none, M3))))))) := by
  show pzr 3 79 (0, [pzR k0, pzI x1, pzI x2], [], M) = _
  refine (pz_goes tq_79 1 (σ' := (1, [pzR k0, pzI x1, pzI x2], [pzR k0], M)) rfl).trans ?_
  refine (e_getR h0 (ar_9_3 h0) tq_79 rfl).trans ?_
  refine (pz_goes tq_79 1 (σ' := (5, [pzR k0, pzI x1, pzI x2], [pzR k0, pzR (k0 + 4)], M)) rfl).trans ?_
  refine (e_getR h0 (ar_9_0 h0) tq_79 rfl).trans ?_
  refine (pz_goes tq_79 1 (σ' := (9, [pzR k0, pzI x1, pzI x2], [pzI x1, pzR (k0 + 1), pzR (k0 + 4)], M)) rfl).trans ?_
  refine (e_iald (n := 24) (ac_9_0 h0) (al_9_0 h0) tq_79 rfl).trans (e_grd ?_)
  refine (pz_goes tq_79 1 (σ' := (11, [pzR k0, pzI x1, pzI x2], [pzI (M (k0 + 1) ((x1).toNat)), pzR (k0 + 4), pzI (M (k0 + 1) ((x1).toNat)), pzR (k0 + 4)], M)) rfl).trans ?_
  refine (e_iald (n := 11) (ac_9_3 h0) (al_9_3 h0) tq_79 rfl).trans (e_grd ?_)
  refine (pz_goes tq_79 2 (σ' := (14, [pzR k0, pzI x1, pzI x2], [pzI (isb (M (k0 + 4) (((M (k0 + 1) ((x1).toNat))).toNat)) 1), pzI (M (k0 + 1) ((x1).toNat)), pzR (k0 + 4)], M)) rfl).trans ?_
  refine (e_iast (n := 11) (ac_9_3 h0) (al_9_3 h0) tq_79 rfl).trans (e_grd ?_)
  refine e_bM (m := pz_wr M (k0 + 4) (((M (k0 + 1) ((x1).toNat))).toNat) (isb (M (k0 + 4) (((M (k0 + 1) ((x1).toNat))).toNat)) 1)) (f := fun M1 => pzr 3 79 (15, [pzR k0, pzI x1, pzI x2], [], M1)) (fun M1 => ?_)
  refine (pz_goes tq_79 1 (σ' := (16, [pzR k0, pzI x1, pzI x2], [pzR k0], M1)) rfl).trans ?_
  refine (e_getR h0 (ar_9_3 h0) tq_79 rfl).trans ?_
  refine (pz_goes tq_79 2 (σ' := (21, [pzR k0, pzI x1, pzI x2], [pzI x2, pzR (k0 + 4), pzI x2, pzR (k0 + 4)], M1)) rfl).trans ?_
  refine (e_iald (n := 11) (ac_9_3 h0) (al_9_3 h0) tq_79 rfl).trans (e_grd ?_)
  refine (pz_goes tq_79 2 (σ' := (24, [pzR k0, pzI x1, pzI x2], [pzI (ia (M1 (k0 + 4) ((x2).toNat)) 1), pzI x2, pzR (k0 + 4)], M1)) rfl).trans ?_
  refine (e_iast (n := 11) (ac_9_3 h0) (al_9_3 h0) tq_79 rfl).trans (e_grd ?_)
  refine e_bM (m := pz_wr M1 (k0 + 4) ((x2).toNat) (ia (M1 (k0 + 4) ((x2).toNat)) 1)) (f := fun M2 => pzr 3 79 (25, [pzR k0, pzI x1, pzI x2], [], M2)) (fun M2 => ?_)
  refine (pz_goes tq_79 1 (σ' := (26, [pzR k0, pzI x1, pzI x2], [pzR k0], M2)) rfl).trans ?_
  refine (e_getR h0 (ar_9_0 h0) tq_79 rfl).trans ?_
  refine (pz_goes tq_79 2 (σ' := (31, [pzR k0, pzI x1, pzI x2], [pzI x2, pzI x1, pzR (k0 + 1)], M2)) rfl).trans ?_
  refine (e_iast (n := 24) (ac_9_0 h0) (al_9_0 h0) tq_79 rfl).trans (e_grd ?_)
  refine e_bM (m := pz_wr M2 (k0 + 1) ((x1).toNat) x2) (f := fun M3 => pzr 3 79 (32, [pzR k0, pzI x1, pzI x2], [], M3)) (fun M3 => ?_)
  exact e_ret tq_79 rfl
/-! PeacockDesk$Terrace.bitsAt(I)I -/
set_option maxRecDepth 20000 in
theorem m_Terrace_bitsAt_eq (k0 : Nat) (x1 : Int) (M : pz_M) (h0 : pz_cls k0 = 9) : m_Terrace_bitsAt k0 x1 M = m_Terrace_bitsAt_4 k0 x1 0 0 M := by
  show pzr 3 80 (0, [pzR k0, pzI x1, pzN, pzN], [], M) = _
  refine (pz_goes tq_80 4 (σ' := (4, [pzR k0, pzI x1, pzI 0, pzI 0], [], M)) rfl).trans ?_
  rfl
set_option maxRecDepth 20000 in
theorem m_Terrace_bitsAt_4_eq (k0 : Nat) (x1 : Int) (x2 : Int) (x3 : Int) (M : pz_M) (h0 : pz_cls k0 = 9) : m_Terrace_bitsAt_4 k0 x1 x2 x3 M = if x3 < (M k0 4) then (grd (0 ≤ x3 ∧ x3 < 24) (if (M (k0 + 1) ((x3).toNat)) = x1 then (m_Terrace_bitsAt_4 k0 x1 (iro x2 (ihl 1 x3)) (ia x3 (1)) M) else (m_Terrace_bitsAt_4 k0 x1 x2 (ia x3 (1)) M))) else (some (some (pzI x2), M)) := by
  show pzr 3 80 (4, [pzR k0, pzI x1, pzI x2, pzI x3], [], M) = _
  refine (pz_goes tq_80 2 (σ' := (6, [pzR k0, pzI x1, pzI x2, pzI x3], [pzR k0, pzI x3], M)) rfl).trans ?_
  refine (e_getI h0 tq_80 rfl).trans ?_
  refine (e_icmp_ge tq_80 rfl).trans (e_ite ?_ ?_)
  · refine (pz_goes tq_80 1 (σ' := (13, [pzR k0, pzI x1, pzI x2, pzI x3], [pzR k0], M)) rfl).trans ?_
    refine (e_getR h0 (ar_9_0 h0) tq_80 rfl).trans ?_
    refine (pz_goes tq_80 1 (σ' := (17, [pzR k0, pzI x1, pzI x2, pzI x3], [pzI x3, pzR (k0 + 1)], M)) rfl).trans ?_
    refine (e_iald (n := 24) (ac_9_0 h0) (al_9_0 h0) tq_80 rfl).trans (e_grd ?_)
    refine (pz_goes tq_80 1 (σ' := (19, [pzR k0, pzI x1, pzI x2, pzI x3], [pzI x1, pzI (M (k0 + 1) ((x3).toNat))], M)) rfl).trans ?_
    refine (e_icmp_ne tq_80 rfl).trans (e_ite ?_ ?_)
    · refine (pz_goes tq_80 8 (σ' := (4, [pzR k0, pzI x1, pzI (iro x2 (ihl 1 x3)), pzI (ia x3 (1))], [], M)) rfl).trans ?_
      rfl
    · refine (pz_goes tq_80 2 (σ' := (4, [pzR k0, pzI x1, pzI x2, pzI (ia x3 (1))], [], M)) rfl).trans ?_
      rfl
  · refine (pz_goes tq_80 1 (σ' := (35, [pzR k0, pzI x1, pzI x2, pzI x3], [pzI x2], M)) rfl).trans ?_
    exact e_iret tq_80 rfl
/-! PeacockDesk$Terrace.weightsAt(ILPeacockDesk$Docket;)I -/
set_option maxRecDepth 20000 in
theorem m_Terrace_weightsAt_eq (k0 : Nat) (x1 : Int) (k2 : Nat) (M : pz_M) (h0 : pz_cls k0 = 9) (h2 : pz_cls k2 = 1) : m_Terrace_weightsAt k0 x1 k2 M = m_Terrace_weightsAt_5 k0 x1 k2 0 0 M := by
  show pzr 3 81 (0, [pzR k0, pzI x1, pzR k2, pzN, pzN], [], M) = _
  refine (pz_goes tq_81 4 (σ' := (5, [pzR k0, pzI x1, pzR k2, pzI 0, pzI 0], [], M)) rfl).trans ?_
  rfl
set_option maxRecDepth 20000 in
theorem m_Terrace_weightsAt_5_eq (k0 : Nat) (x1 : Int) (k2 : Nat) (x3 : Int) (x4 : Int) (M : pz_M) (h0 : pz_cls k0 = 9) (h2 : pz_cls k2 = 1) : m_Terrace_weightsAt_5 k0 x1 k2 x3 x4 M = if x4 < (M k0 4) then (grd (0 ≤ x4 ∧ x4 < 24) (if (M (k0 + 1) ((x4).toNat)) = x1 then (grd (0 ≤ x4 ∧ x4 < 24) (m_Terrace_weightsAt_5 k0 x1 k2 (ia x3 (M (k2 + 2) ((x4).toNat))) (ia x4 (1)) M)) else (m_Terrace_weightsAt_5 k0 x1 k2 x3 (ia x4 (1)) M))) else (some (some (pzI x3), M)) := by
  show pzr 3 81 (5, [pzR k0, pzI x1, pzR k2, pzI x3, pzI x4], [], M) = _
  refine (pz_goes tq_81 2 (σ' := (8, [pzR k0, pzI x1, pzR k2, pzI x3, pzI x4], [pzR k0, pzI x4], M)) rfl).trans ?_
  refine (e_getI h0 tq_81 rfl).trans ?_
  refine (e_icmp_ge tq_81 rfl).trans (e_ite ?_ ?_)
  · refine (pz_goes tq_81 1 (σ' := (15, [pzR k0, pzI x1, pzR k2, pzI x3, pzI x4], [pzR k0], M)) rfl).trans ?_
    refine (e_getR h0 (ar_9_0 h0) tq_81 rfl).trans ?_
    refine (pz_goes tq_81 1 (σ' := (20, [pzR k0, pzI x1, pzR k2, pzI x3, pzI x4], [pzI x4, pzR (k0 + 1)], M)) rfl).trans ?_
    refine (e_iald (n := 24) (ac_9_0 h0) (al_9_0 h0) tq_81 rfl).trans (e_grd ?_)
    refine (pz_goes tq_81 1 (σ' := (22, [pzR k0, pzI x1, pzR k2, pzI x3, pzI x4], [pzI x1, pzI (M (k0 + 1) ((x4).toNat))], M)) rfl).trans ?_
    refine (e_icmp_ne tq_81 rfl).trans (e_ite ?_ ?_)
    · refine (pz_goes tq_81 2 (σ' := (27, [pzR k0, pzI x1, pzR k2, pzI x3, pzI x4], [pzR k2, pzI x3], M)) rfl).trans ?_
      refine (e_getR h2 (ar_1_1 h2) tq_81 rfl).trans ?_
      refine (pz_goes tq_81 1 (σ' := (32, [pzR k0, pzI x1, pzR k2, pzI x3, pzI x4], [pzI x4, pzR (k2 + 2), pzI x3], M)) rfl).trans ?_
      refine (e_iald (n := 24) (ac_1_1 h2) (al_1_1 h2) tq_81 rfl).trans (e_grd ?_)
      refine (pz_goes tq_81 4 (σ' := (5, [pzR k0, pzI x1, pzR k2, pzI (ia x3 (M (k2 + 2) ((x4).toNat))), pzI (ia x4 (1))], [], M)) rfl).trans ?_
      rfl
    · refine (pz_goes tq_81 2 (σ' := (5, [pzR k0, pzI x1, pzR k2, pzI x3, pzI (ia x4 (1))], [], M)) rfl).trans ?_
      rfl
  · refine (pz_goes tq_81 1 (σ' := (42, [pzR k0, pzI x1, pzR k2, pzI x3, pzI x4], [pzI x3], M)) rfl).trans ?_
    exact e_iret tq_81 rfl
/-! PeacockDesk$Terrace.openWeight(ILPeacockDesk$Docket;)I -/
set_option maxRecDepth 20000 in
theorem m_Terrace_openWeight_eq (k0 : Nat) (x1 : Int) (k2 : Nat) (M : pz_M) (h0 : pz_cls k0 = 9) (h2 : pz_cls k2 = 1) : m_Terrace_openWeight k0 x1 k2 M = grd (0 ≤ x1 ∧ x1 < 24) (if (M (k0 + 1) ((x1).toNat)) = (10 : Int) then some (some (pzI 0), M) else (grd (0 ≤ x1 ∧ x1 < 24) (some (some (pzI (M (k2 + 2) ((x1).toNat))), M)))) := by
  show pzr 3 82 (0, [pzR k0, pzI x1, pzR k2], [], M) = _
  refine (pz_goes tq_82 1 (σ' := (1, [pzR k0, pzI x1, pzR k2], [pzR k0], M)) rfl).trans ?_
  refine (e_getR h0 (ar_9_0 h0) tq_82 rfl).trans ?_
  refine (pz_goes tq_82 1 (σ' := (5, [pzR k0, pzI x1, pzR k2], [pzI x1, pzR (k0 + 1)], M)) rfl).trans ?_
  refine (e_iald (n := 24) (ac_9_0 h0) (al_9_0 h0) tq_82 rfl).trans (e_grd ?_)
  refine (pz_goes tq_82 1 (σ' := (8, [pzR k0, pzI x1, pzR k2], [pzI 10, pzI (M (k0 + 1) ((x1).toNat))], M)) rfl).trans ?_
  refine (e_icmp_ne tq_82 rfl).trans (e_ite ?_ ?_)
  · refine (pz_goes tq_82 2 (σ' := (21, [pzR k0, pzI x1, pzR k2], [pzI 0], M)) rfl).trans ?_
    exact e_iret tq_82 rfl
  · refine (pz_goes tq_82 1 (σ' := (16, [pzR k0, pzI x1, pzR k2], [pzR k2], M)) rfl).trans ?_
    refine (e_getR h2 (ar_1_1 h2) tq_82 rfl).trans ?_
    refine (pz_goes tq_82 1 (σ' := (20, [pzR k0, pzI x1, pzR k2], [pzI x1, pzR (k2 + 2)], M)) rfl).trans ?_
    refine (e_iald (n := 24) (ac_1_1 h2) (al_1_1 h2) tq_82 rfl).trans (e_grd ?_)
    exact e_iret tq_82 rfl
/-! PeacockDesk$Terrace.criesOfAll()I -/
set_option maxRecDepth 20000 in
theorem m_Terrace_criesOfAll_eq (k0 : Nat) (M : pz_M) (h0 : pz_cls k0 = 9) : m_Terrace_criesOfAll k0 M = m_Terrace_criesOfAll_4 k0 0 0 M := by
  show pzr 3 83 (0, [pzR k0, pzN, pzN], [], M) = _
  refine (pz_goes tq_83 4 (σ' := (4, [pzR k0, pzI 0, pzI 0], [], M)) rfl).trans ?_
  rfl
set_option maxRecDepth 20000 in
theorem m_Terrace_criesOfAll_4_eq (k0 : Nat) (x1 : Int) (x2 : Int) (M : pz_M) (h0 : pz_cls k0 = 9) : m_Terrace_criesOfAll_4 k0 x1 x2 M = if x2 < (9 : Int) then (grd (0 ≤ x2 ∧ x2 < 9) (m_Terrace_criesOfAll_4 k0 (ia x1 (M (k0 + 3) ((x2).toNat))) (ia x2 (1)) M)) else (some (some (pzI x1), M)) := by
  show pzr 3 83 (4, [pzR k0, pzI x1, pzI x2], [], M) = _
  refine (pz_goes tq_83 2 (σ' := (7, [pzR k0, pzI x1, pzI x2], [pzI 9, pzI x2], M)) rfl).trans ?_
  refine (e_icmp_ge tq_83 rfl).trans (e_ite ?_ ?_)
  · refine (pz_goes tq_83 2 (σ' := (12, [pzR k0, pzI x1, pzI x2], [pzR k0, pzI x1], M)) rfl).trans ?_
    refine (e_getR h0 (ar_9_2 h0) tq_83 rfl).trans ?_
    refine (pz_goes tq_83 1 (σ' := (16, [pzR k0, pzI x1, pzI x2], [pzI x2, pzR (k0 + 3), pzI x1], M)) rfl).trans ?_
    refine (e_iald (n := 9) (ac_9_2 h0) (al_9_2 h0) tq_83 rfl).trans (e_grd ?_)
    refine (pz_goes tq_83 4 (σ' := (4, [pzR k0, pzI (ia x1 (M (k0 + 3) ((x2).toNat))), pzI (ia x2 (1))], [], M)) rfl).trans ?_
    rfl
  · refine (pz_goes tq_83 1 (σ' := (26, [pzR k0, pzI x1, pzI x2], [pzI x1], M)) rfl).trans ?_
    exact e_iret tq_83 rfl
/-! PeacockDesk$Terrace.spread()I -/
set_option maxRecDepth 20000 in
theorem m_Terrace_spread_eq (k0 : Nat) (M : pz_M) (h0 : pz_cls k0 = 9) : m_Terrace_spread k0 M = m_Terrace_spread_16 k0 (M (k0 + 4) 0) (M (k0 + 4) 0) 1 M := by
  show pzr 4 84 (0, [pzR k0, pzN, pzN, pzN], [], M) = _
  refine (pz_goes tq_84 1 (σ' := (1, [pzR k0, pzN, pzN, pzN], [pzR k0], M)) rfl).trans ?_
  refine (e_getR h0 (ar_9_3 h0) tq_84 rfl).trans ?_
  refine (pz_goes tq_84 1 (σ' := (5, [pzR k0, pzN, pzN, pzN], [pzI 0, pzR (k0 + 4)], M)) rfl).trans ?_
  refine ((e_iald (n := 11) (ac_9_3 h0) (al_9_3 h0) tq_84 rfl).trans (grd_pos (by decide))).trans ?_
  show pzr 4 84 (6, [pzR k0, pzN, pzN, pzN], [pzI (M (k0 + 4) 0)], M) = _
  refine (pz_goes tq_84 2 (σ' := (8, [pzR k0, pzI (M (k0 + 4) 0), pzN, pzN], [pzR k0], M)) rfl).trans ?_
  refine (e_getR h0 (ar_9_3 h0) tq_84 rfl).trans ?_
  refine (pz_goes tq_84 1 (σ' := (12, [pzR k0, pzI (M (k0 + 4) 0), pzN, pzN], [pzI 0, pzR (k0 + 4)], M)) rfl).trans ?_
  refine ((e_iald (n := 11) (ac_9_3 h0) (al_9_3 h0) tq_84 rfl).trans (grd_pos (by decide))).trans ?_
  show pzr 4 84 (13, [pzR k0, pzI (M (k0 + 4) 0), pzN, pzN], [pzI (M (k0 + 4) 0)], M) = _
  refine (pz_goes tq_84 3 (σ' := (16, [pzR k0, pzI (M (k0 + 4) 0), pzI (M (k0 + 4) 0), pzI 1], [], M)) rfl).trans ?_
  rfl
set_option maxRecDepth 20000 in
theorem m_Terrace_spread_16_eq (k0 : Nat) (x1 : Int) (x2 : Int) (x3 : Int) (M : pz_M) (h0 : pz_cls k0 = 9) : m_Terrace_spread_16 k0 x1 x2 x3 M = if x3 < (9 : Int) then (grd (0 ≤ x3 ∧ x3 < 11) (bI (m_Math_max x1 (M (k0 + 4) ((x3).toNat)) M) fun r2 M1 => grd (0 ≤ x3 ∧ x3 < 11) (bI (m_Math_min x2 (M1 (k0 + 4) ((x3).toNat)) M1) fun r4 M3 => m_Terrace_spread_16 k0 r2 r4 (ia x3 (1)) M3))) else (some (some (pzI (isb x1 x2)), M)) := by
  show pzr 4 84 (16, [pzR k0, pzI x1, pzI x2, pzI x3], [], M) = _
  refine (pz_goes tq_84 2 (σ' := (19, [pzR k0, pzI x1, pzI x2, pzI x3], [pzI 9, pzI x3], M)) rfl).trans ?_
  refine (e_icmp_ge tq_84 rfl).trans (e_ite ?_ ?_)
  · refine (pz_goes tq_84 2 (σ' := (24, [pzR k0, pzI x1, pzI x2, pzI x3], [pzR k0, pzI x1], M)) rfl).trans ?_
    refine (e_getR h0 (ar_9_3 h0) tq_84 rfl).trans ?_
    refine (pz_goes tq_84 1 (σ' := (28, [pzR k0, pzI x1, pzI x2, pzI x3], [pzI x3, pzR (k0 + 4), pzI x1], M)) rfl).trans ?_
    refine (e_iald (n := 11) (ac_9_3 h0) (al_9_3 h0) tq_84 rfl).trans (e_grd ?_)
    refine (e_callI (as := [pzI x1, pzI (M (k0 + 4) ((x3).toNat))]) (rest := []) (d' := 3) tq_127 rfl rfl rfl rfl rfl tq_84 rfl).trans (e_bI rfl fun r2 M1 => ?_)
    refine (pz_goes tq_84 3 (σ' := (35, [pzR k0, pzI r2, pzI x2, pzI x3], [pzR k0, pzI x2], M1)) rfl).trans ?_
    refine (e_getR h0 (ar_9_3 h0) tq_84 rfl).trans ?_
    refine (pz_goes tq_84 1 (σ' := (39, [pzR k0, pzI r2, pzI x2, pzI x3], [pzI x3, pzR (k0 + 4), pzI x2], M1)) rfl).trans ?_
    refine (e_iald (n := 11) (ac_9_3 h0) (al_9_3 h0) tq_84 rfl).trans (e_grd ?_)
    refine (e_callI (as := [pzI x2, pzI (M1 (k0 + 4) ((x3).toNat))]) (rest := []) (d' := 3) tq_128 rfl rfl rfl rfl rfl tq_84 rfl).trans (e_bI rfl fun r4 M3 => ?_)
    refine (pz_goes tq_84 3 (σ' := (16, [pzR k0, pzI r2, pzI r4, pzI (ia x3 (1))], [], M3)) rfl).trans ?_
    rfl
  · refine (pz_goes tq_84 3 (σ' := (53, [pzR k0, pzI x1, pzI x2, pzI x3], [pzI (isb x1 x2)], M)) rfl).trans ?_
    exact e_iret tq_84 rfl
/-! PeacockDesk$Terrace.dayGoesBy(LPeacockDesk$Law;LPeacockDesk$Docket;)V -/
set_option maxRecDepth 20000 in
theorem m_Terrace_dayGoesBy_eq (k0 : Nat) (k1 : Nat) (k2 : Nat) (M : pz_M) (h0 : pz_cls k0 = 9) (h1 : pz_cls k1 = 2) (h2 : pz_cls k2 = 1) : m_Terrace_dayGoesBy k0 k1 k2 M = if (M k0 5) < (9999 : Int) then (m_Terrace_dayGoesBy_13 k0 k1 k2 0 M) else (some (none, M)) := by
  show pzr 8 85 (0, [pzR k0, pzR k1, pzR k2, pzN], [], M) = _
  refine (pz_goes tq_85 1 (σ' := (1, [pzR k0, pzR k1, pzR k2, pzN], [pzR k0], M)) rfl).trans ?_
  refine (e_getI h0 tq_85 rfl).trans ?_
  refine (pz_goes tq_85 1 (σ' := (7, [pzR k0, pzR k1, pzR k2, pzN], [pzI 9999, pzI (M k0 5)], M)) rfl).trans ?_
  refine (e_icmp_lt tq_85 rfl).trans (e_ite ?_ ?_)
  · refine (pz_goes tq_85 2 (σ' := (13, [pzR k0, pzR k1, pzR k2, pzI 0], [], M)) rfl).trans ?_
    rfl
  · exact e_ret tq_85 rfl
set_option maxRecDepth 20000 in
theorem m_Terrace_dayGoesBy_13_eq (k0 : Nat) (k1 : Nat) (k2 : Nat) (x3 : Int) (M : pz_M) (h0 : pz_cls k0 = 9) (h1 : pz_cls k1 = 2) (h2 : pz_cls k2 = 1) : m_Terrace_dayGoesBy_13 k0 k1 k2 x3 M = if x3 < (M k0 4) then (grd (0 ≤ x3 ∧ x3 < 24) (if (M (k0 + 1) ((x3).toNat)) = (9 : Int) then (bI (m_Terrace_takerOf k0 x3 k1 k2 M) fun r2 M1 => bV (m_Terrace_give k0 x3 r2 M1) fun M3 => m_Terrace_dayGoesBy_13 k0 k1 k2 (ia x3 (1)) M3) else (m_Terrace_dayGoesBy_13 k0 k1 k2 (ia x3 (1)) M))) else (m_Terrace_dayGoesBy_52 k0 k1 k2 0 M) := by
  show pzr 8 85 (13, [pzR k0, pzR k1, pzR k2, pzI x3], [], M) = _
  refine (pz_goes tq_85 2 (σ' := (15, [pzR k0, pzR k1, pzR k2, pzI x3], [pzR k0, pzI x3], M)) rfl).trans ?_
  refine (e_getI h0 tq_85 rfl).trans ?_
  refine (e_icmp_ge tq_85 rfl).trans (e_ite ?_ ?_)
  · refine (pz_goes tq_85 1 (σ' := (22, [pzR k0, pzR k1, pzR k2, pzI x3], [pzR k0], M)) rfl).trans ?_
    refine (e_getR h0 (ar_9_0 h0) tq_85 rfl).trans ?_
    refine (pz_goes tq_85 1 (σ' := (26, [pzR k0, pzR k1, pzR k2, pzI x3], [pzI x3, pzR (k0 + 1)], M)) rfl).trans ?_
    refine (e_iald (n := 24) (ac_9_0 h0) (al_9_0 h0) tq_85 rfl).trans (e_grd ?_)
    refine (pz_goes tq_85 1 (σ' := (29, [pzR k0, pzR k1, pzR k2, pzI x3], [pzI 9, pzI (M (k0 + 1) ((x3).toNat))], M)) rfl).trans ?_
    refine (e_icmp_ne tq_85 rfl).trans (e_ite ?_ ?_)
    · refine (pz_goes tq_85 6 (σ' := (38, [pzR k0, pzR k1, pzR k2, pzI x3], [pzR k2, pzR k1, pzI x3, pzR k0, pzI x3, pzR k0], M)) rfl).trans ?_
      refine (e_callI (as := [pzR k0, pzI x3, pzR k1, pzR k2, pzN, pzN, pzN, pzN]) (rest := [pzI x3, pzR k0]) (d' := 6) tq_86 rfl (e_cokS rfl rfl h0) rfl rfl rfl tq_85 rfl).trans (e_bI rfl fun r2 M1 => ?_)
      refine (e_callV (as := [pzR k0, pzI x3, pzI r2]) (rest := []) (d' := 3) tq_79 rfl (e_cokS rfl rfl h0) rfl rfl rfl tq_85 rfl).trans (e_bV rfl fun M3 => ?_)
      refine (pz_goes tq_85 2 (σ' := (13, [pzR k0, pzR k1, pzR k2, pzI (ia x3 (1))], [], M3)) rfl).trans ?_
      rfl
    · refine (pz_goes tq_85 2 (σ' := (13, [pzR k0, pzR k1, pzR k2, pzI (ia x3 (1))], [], M)) rfl).trans ?_
      rfl
  · refine (pz_goes tq_85 2 (σ' := (52, [pzR k0, pzR k1, pzR k2, pzI 0], [], M)) rfl).trans ?_
    rfl
set_option maxRecDepth 20000 in
theorem m_Terrace_dayGoesBy_52_eq (k0 : Nat) (k1 : Nat) (k2 : Nat) (x3 : Int) (M : pz_M) (h0 : pz_cls k0 = 9) (h1 : pz_cls k1 = 2) (h2 : pz_cls k2 = 1) : m_Terrace_dayGoesBy_52 k0 k1 k2 x3 M = if x3 < (8 : Int) then (bV (m_Terrace_turnOf k0 x3 k1 k2 M) fun M1 => m_Terrace_dayGoesBy_52 k0 k1 k2 (ia x3 (1)) M1) else (m_Terrace_dayGoesBy_73 k0 k1 k2 0 M) := by
  show pzr 8 85 (52, [pzR k0, pzR k1, pzR k2, pzI x3], [], M) = _
  refine (pz_goes tq_85 2 (σ' := (55, [pzR k0, pzR k1, pzR k2, pzI x3], [pzI 8, pzI x3], M)) rfl).trans ?_
  refine (e_icmp_ge tq_85 rfl).trans (e_ite ?_ ?_)
  · refine (pz_goes tq_85 4 (σ' := (62, [pzR k0, pzR k1, pzR k2, pzI x3], [pzR k2, pzR k1, pzI x3, pzR k0], M)) rfl).trans ?_
    refine (e_callV (as := [pzR k0, pzI x3, pzR k1, pzR k2, pzN, pzN]) (rest := []) (d' := 7) tq_87 rfl (e_cokS rfl rfl h0) rfl rfl rfl tq_85 rfl).trans (e_bV rfl fun M1 => ?_)
    refine (pz_goes tq_85 2 (σ' := (52, [pzR k0, pzR k1, pzR k2, pzI (ia x3 (1))], [], M1)) rfl).trans ?_
    rfl
  · refine (pz_goes tq_85 2 (σ' := (73, [pzR k0, pzR k1, pzR k2, pzI 0], [], M)) rfl).trans ?_
    rfl
set_option maxRecDepth 20000 in
theorem m_Terrace_dayGoesBy_73_eq (k0 : Nat) (k1 : Nat) (k2 : Nat) (x3 : Int) (M : pz_M) (h0 : pz_cls k0 = 9) (h1 : pz_cls k1 = 2) (h2 : pz_cls k2 = 1) : m_Terrace_dayGoesBy_73 k0 k1 k2 x3 M = if x3 < (M k0 4) then (grd (0 ≤ x3 ∧ x3 < 24) (if (M (k0 + 1) ((x3).toNat)) = (8 : Int) then (grd (0 ≤ x3 ∧ x3 < 24) (if (M (k0 + 2) ((x3).toNat)) < (7 : Int) then (m_Terrace_dayGoesBy_110 k0 k1 k2 x3 M) else (bV (m_Terrace_give k0 x3 10 M) fun M1 => m_Terrace_dayGoesBy_110 k0 k1 k2 x3 M1))) else (m_Terrace_dayGoesBy_110 k0 k1 k2 x3 M))) else (bM (pz_wr M k0 5 (ia (M k0 5) 1)) fun M2 => some (none, M2)) := by
  show pzr 8 85 (73, [pzR k0, pzR k1, pzR k2, pzI x3], [], M) = _
  refine (pz_goes tq_85 2 (σ' := (75, [pzR k0, pzR k1, pzR k2, pzI x3], [pzR k0, pzI x3], M)) rfl).trans ?_
  refine (e_getI h0 tq_85 rfl).trans ?_
  refine (e_icmp_ge tq_85 rfl).trans (e_ite ?_ ?_)
  · refine (pz_goes tq_85 1 (σ' := (82, [pzR k0, pzR k1, pzR k2, pzI x3], [pzR k0], M)) rfl).trans ?_
    refine (e_getR h0 (ar_9_0 h0) tq_85 rfl).trans ?_
    refine (pz_goes tq_85 1 (σ' := (86, [pzR k0, pzR k1, pzR k2, pzI x3], [pzI x3, pzR (k0 + 1)], M)) rfl).trans ?_
    refine (e_iald (n := 24) (ac_9_0 h0) (al_9_0 h0) tq_85 rfl).trans (e_grd ?_)
    refine (pz_goes tq_85 1 (σ' := (89, [pzR k0, pzR k1, pzR k2, pzI x3], [pzI 8, pzI (M (k0 + 1) ((x3).toNat))], M)) rfl).trans ?_
    refine (e_icmp_ne tq_85 rfl).trans (e_ite ?_ ?_)
    · refine (pz_goes tq_85 1 (σ' := (93, [pzR k0, pzR k1, pzR k2, pzI x3], [pzR k0], M)) rfl).trans ?_
      refine (e_getR h0 (ar_9_1 h0) tq_85 rfl).trans ?_
      refine (pz_goes tq_85 1 (σ' := (97, [pzR k0, pzR k1, pzR k2, pzI x3], [pzI x3, pzR (k0 + 2)], M)) rfl).trans ?_
      refine (e_iald (n := 24) (ac_9_1 h0) (al_9_1 h0) tq_85 rfl).trans (e_grd ?_)
      refine (pz_goes tq_85 1 (σ' := (100, [pzR k0, pzR k1, pzR k2, pzI x3], [pzI 7, pzI (M (k0 + 2) ((x3).toNat))], M)) rfl).trans ?_
      refine (e_icmp_lt tq_85 rfl).trans (e_ite ?_ ?_)
      · rfl
      · refine (pz_goes tq_85 3 (σ' := (107, [pzR k0, pzR k1, pzR k2, pzI x3], [pzI 10, pzI x3, pzR k0], M)) rfl).trans ?_
        refine (e_callV (as := [pzR k0, pzI x3, pzI 10]) (rest := []) (d' := 3) tq_79 rfl (e_cokS rfl rfl h0) rfl rfl rfl tq_85 rfl).trans (e_bV rfl fun M1 => ?_)
        rfl
    · rfl
  · refine (pz_goes tq_85 2 (σ' := (149, [pzR k0, pzR k1, pzR k2, pzI x3], [pzR k0, pzR k0], M)) rfl).trans ?_
    refine (e_getI h0 tq_85 rfl).trans ?_
    refine (pz_goes tq_85 2 (σ' := (154, [pzR k0, pzR k1, pzR k2, pzI x3], [pzI (ia (M k0 5) 1), pzR k0], M)) rfl).trans ?_
    refine (e_putI h0 tq_85 rfl).trans ?_
    refine e_bM (f := fun M2 => pzr 8 85 (157, [pzR k0, pzR k1, pzR k2, pzI x3], [], M2)) (fun M2 => ?_)
    exact e_ret tq_85 rfl
set_option maxRecDepth 20000 in
theorem m_Terrace_dayGoesBy_110_eq (k0 : Nat) (k1 : Nat) (k2 : Nat) (x3 : Int) (M : pz_M) (h0 : pz_cls k0 = 9) (h1 : pz_cls k1 = 2) (h2 : pz_cls k2 = 1) : m_Terrace_dayGoesBy_110 k0 k1 k2 x3 M = grd (0 ≤ x3 ∧ x3 < 24) (if (M (k0 + 1) ((x3).toNat)) = (10 : Int) then (m_Terrace_dayGoesBy_73 k0 k1 k2 (ia x3 (1)) M) else (grd (0 ≤ x3 ∧ x3 < 24) (bI (m_Math_min 9999 (ia (M (k0 + 2) ((x3).toNat)) 1) M) fun r2 M1 => grd (0 ≤ x3 ∧ x3 < 24) (bM (pz_wr M1 (k0 + 2) ((x3).toNat) r2) fun M3 => m_Terrace_dayGoesBy_73 k0 k1 k2 (ia x3 (1)) M3)))) := by
  show pzr 8 85 (110, [pzR k0, pzR k1, pzR k2, pzI x3], [], M) = _
  refine (pz_goes tq_85 1 (σ' := (111, [pzR k0, pzR k1, pzR k2, pzI x3], [pzR k0], M)) rfl).trans ?_
  refine (e_getR h0 (ar_9_0 h0) tq_85 rfl).trans ?_
  refine (pz_goes tq_85 1 (σ' := (115, [pzR k0, pzR k1, pzR k2, pzI x3], [pzI x3, pzR (k0 + 1)], M)) rfl).trans ?_
  refine (e_iald (n := 24) (ac_9_0 h0) (al_9_0 h0) tq_85 rfl).trans (e_grd ?_)
  refine (pz_goes tq_85 1 (σ' := (118, [pzR k0, pzR k1, pzR k2, pzI x3], [pzI 10, pzI (M (k0 + 1) ((x3).toNat))], M)) rfl).trans ?_
  refine (e_icmp_eq tq_85 rfl).trans (e_ite ?_ ?_)
  · refine (pz_goes tq_85 2 (σ' := (73, [pzR k0, pzR k1, pzR k2, pzI (ia x3 (1))], [], M)) rfl).trans ?_
    rfl
  · refine (pz_goes tq_85 1 (σ' := (122, [pzR k0, pzR k1, pzR k2, pzI x3], [pzR k0], M)) rfl).trans ?_
    refine (e_getR h0 (ar_9_1 h0) tq_85 rfl).trans ?_
    refine (pz_goes tq_85 3 (σ' := (130, [pzR k0, pzR k1, pzR k2, pzI x3], [pzR k0, pzI 9999, pzI x3, pzR (k0 + 2)], M)) rfl).trans ?_
    refine (e_getR h0 (ar_9_1 h0) tq_85 rfl).trans ?_
    refine (pz_goes tq_85 1 (σ' := (134, [pzR k0, pzR k1, pzR k2, pzI x3], [pzI x3, pzR (k0 + 2), pzI 9999, pzI x3, pzR (k0 + 2)], M)) rfl).trans ?_
    refine (e_iald (n := 24) (ac_9_1 h0) (al_9_1 h0) tq_85 rfl).trans (e_grd ?_)
    refine (pz_goes tq_85 2 (σ' := (137, [pzR k0, pzR k1, pzR k2, pzI x3], [pzI (ia (M (k0 + 2) ((x3).toNat)) 1), pzI 9999, pzI x3, pzR (k0 + 2)], M)) rfl).trans ?_
    refine (e_callI (as := [pzI 9999, pzI (ia (M (k0 + 2) ((x3).toNat)) 1)]) (rest := [pzI x3, pzR (k0 + 2)]) (d' := 3) tq_128 rfl rfl rfl rfl rfl tq_85 rfl).trans (e_bI rfl fun r2 M1 => ?_)
    refine (e_iast (n := 24) (ac_9_1 h0) (al_9_1 h0) tq_85 rfl).trans (e_grd ?_)
    refine e_bM (m := pz_wr M1 (k0 + 2) ((x3).toNat) r2) (f := fun M3 => pzr 8 85 (141, [pzR k0, pzR k1, pzR k2, pzI x3], [], M3)) (fun M3 => ?_)
    refine (pz_goes tq_85 2 (σ' := (73, [pzR k0, pzR k1, pzR k2, pzI (ia x3 (1))], [], M3)) rfl).trans ?_
    rfl
/-! PeacockDesk$Terrace.takerOf(ILPeacockDesk$Law;LPeacockDesk$Docket;)I -/
set_option maxRecDepth 20000 in
theorem m_Terrace_takerOf_eq (k0 : Nat) (x1 : Int) (k2 : Nat) (k3 : Nat) (M : pz_M) (h0 : pz_cls k0 = 9) (h2 : pz_cls k2 = 2) (h3 : pz_cls k3 = 1) : m_Terrace_takerOf k0 x1 k2 k3 M = m_Terrace_takerOf_10 k0 x1 k2 k3 9 0 0 pzN M := by
  show pzr 6 86 (0, [pzR k0, pzI x1, pzR k2, pzR k3, pzN, pzN, pzN, pzN], [], M) = _
  refine (pz_goes tq_86 6 (σ' := (10, [pzR k0, pzI x1, pzR k2, pzR k3, pzI 9, pzI 0, pzI 0, pzN], [], M)) rfl).trans ?_
  rfl
set_option maxRecDepth 20000 in
theorem m_Terrace_takerOf_10_eq (k0 : Nat) (x1 : Int) (k2 : Nat) (k3 : Nat) (x4 : Int) (x5 : Int) (x6 : Int) (w7 : pz_V) (M : pz_M) (h0 : pz_cls k0 = 9) (h2 : pz_cls k2 = 2) (h3 : pz_cls k3 = 1) : m_Terrace_takerOf_10 k0 x1 k2 k3 x4 x5 x6 w7 M = if x6 < (9 : Int) then (bI (m_Terrace_hasEye k0 x6 M) fun r2 M1 => if r2 = 0 then (m_Terrace_takerOf_10 k0 x1 k2 k3 x4 x5 (ia x6 (1)) w7 M1) else (bV (m_Terrace_tellPeacock k0 x6 0 (k2 + 6) M1) fun M3 => bV (m_Terrace_tellCase k0 x1 k3 (k2 + 6) M3) fun M4 => bI (m_Law_worth k2 0 9999 0 M4) fun r6 M5 => if x5 < r6 then (m_Terrace_takerOf_10 k0 x1 k2 k3 x6 r6 (ia x6 (1)) (pzI r6) M5) else (m_Terrace_takerOf_10 k0 x1 k2 k3 x4 x5 (ia x6 (1)) (pzI r6) M5))) else (some (some (pzI x4), M)) := by
  show pzr 6 86 (10, [pzR k0, pzI x1, pzR k2, pzR k3, pzI x4, pzI x5, pzI x6, w7], [], M) = _
  refine (pz_goes tq_86 2 (σ' := (14, [pzR k0, pzI x1, pzR k2, pzR k3, pzI x4, pzI x5, pzI x6, w7], [pzI 9, pzI x6], M)) rfl).trans ?_
  refine (e_icmp_ge tq_86 rfl).trans (e_ite ?_ ?_)
  · refine (pz_goes tq_86 2 (σ' := (20, [pzR k0, pzI x1, pzR k2, pzR k3, pzI x4, pzI x5, pzI x6, w7], [pzI x6, pzR k0], M)) rfl).trans ?_
    refine (e_callI (as := [pzR k0, pzI x6]) (rest := []) (d' := 3) tq_78 rfl (e_cokS rfl rfl h0) rfl rfl rfl tq_86 rfl).trans (e_bI rfl fun r2 M1 => ?_)
    refine (e_if_eq tq_86 rfl).trans (e_ite ?_ ?_)
    · refine (pz_goes tq_86 2 (σ' := (10, [pzR k0, pzI x1, pzR k2, pzR k3, pzI x4, pzI x5, pzI (ia x6 (1)), w7], [], M1)) rfl).trans ?_
      rfl
    · refine (pz_goes tq_86 4 (σ' := (31, [pzR k0, pzI x1, pzR k2, pzR k3, pzI x4, pzI x5, pzI x6, w7], [pzR k2, pzI 0, pzI x6, pzR k0], M1)) rfl).trans ?_
      refine (e_getR h2 (ar_2_7 h2) tq_86 rfl).trans ?_
      refine (e_callV (as := [pzR k0, pzI x6, pzI 0, pzR (k2 + 6)]) (rest := []) (d' := 3) tq_91 rfl (e_cokS rfl rfl h0) rfl rfl rfl tq_86 rfl).trans (e_bV rfl fun M3 => ?_)
      refine (pz_goes tq_86 4 (σ' := (41, [pzR k0, pzI x1, pzR k2, pzR k3, pzI x4, pzI x5, pzI x6, w7], [pzR k2, pzR k3, pzI x1, pzR k0], M3)) rfl).trans ?_
      refine (e_getR h2 (ar_2_7 h2) tq_86 rfl).trans ?_
      refine (e_callV (as := [pzR k0, pzI x1, pzR k3, pzR (k2 + 6)]) (rest := []) (d' := 3) tq_92 rfl (e_cokS rfl rfl h0) rfl rfl rfl tq_86 rfl).trans (e_bV rfl fun M4 => ?_)
      refine (pz_goes tq_86 4 (σ' := (53, [pzR k0, pzI x1, pzR k2, pzR k3, pzI x4, pzI x5, pzI x6, w7], [pzI 0, pzI 9999, pzI 0, pzR k2], M4)) rfl).trans ?_
      refine (e_callI (as := [pzR k2, pzI 0, pzI 9999, pzI 0, pzN]) (rest := []) (d' := 5) tq_22 rfl (e_cokS rfl rfl h2) rfl rfl rfl tq_86 rfl).trans (e_bI rfl fun r6 M5 => ?_)
      refine (pz_goes tq_86 3 (σ' := (62, [pzR k0, pzI x1, pzR k2, pzR k3, pzI x4, pzI x5, pzI x6, pzI r6], [pzI x5, pzI r6], M5)) rfl).trans ?_
      refine (e_icmp_le tq_86 rfl).trans (e_ite ?_ ?_)
      · refine (pz_goes tq_86 6 (σ' := (10, [pzR k0, pzI x1, pzR k2, pzR k3, pzI x6, pzI r6, pzI (ia x6 (1)), pzI r6], [], M5)) rfl).trans ?_
        rfl
      · refine (pz_goes tq_86 2 (σ' := (10, [pzR k0, pzI x1, pzR k2, pzR k3, pzI x4, pzI x5, pzI (ia x6 (1)), pzI r6], [], M5)) rfl).trans ?_
        rfl
  · refine (pz_goes tq_86 1 (σ' := (81, [pzR k0, pzI x1, pzR k2, pzR k3, pzI x4, pzI x5, pzI x6, w7], [pzI x4], M)) rfl).trans ?_
    exact e_iret tq_86 rfl
/-! PeacockDesk$Terrace.turnOf(ILPeacockDesk$Law;LPeacockDesk$Docket;)V -/
set_option maxRecDepth 20000 in
theorem m_Terrace_turnOf_eq (k0 : Nat) (x1 : Int) (k2 : Nat) (k3 : Nat) (M : pz_M) (h0 : pz_cls k0 = 9) (h2 : pz_cls k2 = 2) (h3 : pz_cls k3 = 1) : m_Terrace_turnOf k0 x1 k2 k3 M = bI (m_Terrace_draw k0 M) fun r2 M1 => bV (m_Terrace_tellPeacock k0 x1 r2 (k2 + 6) M1) fun M3 => bV (m_Terrace_tellNoCase k0 (k2 + 6) M3) fun M4 => bI (m_Law_moults k2 M4) fun r6 M5 => if r6 = 0 then (bI (m_Terrace_firstCried k0 x1 k2 k3 M5) fun r8 M7 => if r8 < 0 then some (none, M7) else (bV (m_Terrace_tellCase k0 r8 k3 (k2 + 6) M7) fun M9 => bI (m_Law_worth k2 2 10 10 M9) fun r11 M10 => grd (0 ≤ x1 ∧ x1 < 9) (bI (m_Math_min 9999 (ia (M10 (k0 + 3) ((x1).toNat)) 1) M10) fun r13 M12 => grd (0 ≤ x1 ∧ x1 < 9) (bM (pz_wr M12 (k0 + 3) ((x1).toNat) r13) fun M14 => bI (m_Terrace_draw k0 M14) fun r16 M15 => if r16 < r11 then (bV (m_Terrace_give k0 r8 10 M15) fun M17 => some (none, M17)) else (some (none, M15)))))) else (bV (m_Terrace_giveAllBack k0 x1 M5) fun M18 => some (none, M18)) := by
  show pzr 7 87 (0, [pzR k0, pzI x1, pzR k2, pzR k3, pzN, pzN], [], M) = _
  refine (pz_goes tq_87 3 (σ' := (3, [pzR k0, pzI x1, pzR k2, pzR k3, pzN, pzN], [pzR k0, pzI x1, pzR k0], M)) rfl).trans ?_
  refine (e_callI (as := [pzR k0]) (rest := [pzI x1, pzR k0]) (d' := 3) tq_90 rfl (e_cokS rfl rfl h0) rfl rfl rfl tq_87 rfl).trans (e_bI rfl fun r2 M1 => ?_)
  refine (pz_goes tq_87 1 (σ' := (7, [pzR k0, pzI x1, pzR k2, pzR k3, pzN, pzN], [pzR k2, pzI r2, pzI x1, pzR k0], M1)) rfl).trans ?_
  refine (e_getR h2 (ar_2_7 h2) tq_87 rfl).trans ?_
  refine (e_callV (as := [pzR k0, pzI x1, pzI r2, pzR (k2 + 6)]) (rest := []) (d' := 3) tq_91 rfl (e_cokS rfl rfl h0) rfl rfl rfl tq_87 rfl).trans (e_bV rfl fun M3 => ?_)
  refine (pz_goes tq_87 2 (σ' := (15, [pzR k0, pzI x1, pzR k2, pzR k3, pzN, pzN], [pzR k2, pzR k0], M3)) rfl).trans ?_
  refine (e_getR h2 (ar_2_7 h2) tq_87 rfl).trans ?_
  refine (e_callV (as := [pzR k0, pzR (k2 + 6)]) (rest := []) (d' := 3) tq_93 rfl (e_cokS rfl rfl h0) rfl rfl rfl tq_87 rfl).trans (e_bV rfl fun M4 => ?_)
  refine (pz_goes tq_87 1 (σ' := (22, [pzR k0, pzI x1, pzR k2, pzR k3, pzN, pzN], [pzR k2], M4)) rfl).trans ?_
  refine (e_callI (as := [pzR k2, pzN]) (rest := []) (d' := 5) tq_23 rfl (e_cokS rfl rfl h2) rfl rfl rfl tq_87 rfl).trans (e_bI rfl fun r6 M5 => ?_)
  refine (e_if_eq tq_87 rfl).trans (e_ite ?_ ?_)
  · refine (pz_goes tq_87 4 (σ' := (38, [pzR k0, pzI x1, pzR k2, pzR k3, pzN, pzN], [pzR k3, pzR k2, pzI x1, pzR k0], M5)) rfl).trans ?_
    refine (e_callI (as := [pzR k0, pzI x1, pzR k2, pzR k3, pzN, pzN, pzN, pzN]) (rest := []) (d' := 6) tq_89 rfl (e_cokS rfl rfl h0) rfl rfl rfl tq_87 rfl).trans (e_bI rfl fun r8 M7 => ?_)
    refine (pz_goes tq_87 2 (σ' := (45, [pzR k0, pzI x1, pzR k2, pzR k3, pzI r8, pzN], [pzI r8], M7)) rfl).trans ?_
    refine (e_if_ge tq_87 rfl).trans (e_ite ?_ ?_)
    · exact e_ret tq_87 rfl
    · refine (pz_goes tq_87 4 (σ' := (54, [pzR k0, pzI x1, pzR k2, pzR k3, pzI r8, pzN], [pzR k2, pzR k3, pzI r8, pzR k0], M7)) rfl).trans ?_
      refine (e_getR h2 (ar_2_7 h2) tq_87 rfl).trans ?_
      refine (e_callV (as := [pzR k0, pzI r8, pzR k3, pzR (k2 + 6)]) (rest := []) (d' := 3) tq_92 rfl (e_cokS rfl rfl h0) rfl rfl rfl tq_87 rfl).trans (e_bV rfl fun M9 => ?_)
      refine (pz_goes tq_87 4 (σ' := (66, [pzR k0, pzI x1, pzR k2, pzR k3, pzI r8, pzN], [pzI 10, pzI 10, pzI 2, pzR k2], M9)) rfl).trans ?_
      refine (e_callI (as := [pzR k2, pzI 2, pzI 10, pzI 10, pzN]) (rest := []) (d' := 5) tq_22 rfl (e_cokS rfl rfl h2) rfl rfl rfl tq_87 rfl).trans (e_bI rfl fun r11 M10 => ?_)
      refine (pz_goes tq_87 2 (σ' := (72, [pzR k0, pzI x1, pzR k2, pzR k3, pzI r8, pzI r11], [pzR k0], M10)) rfl).trans ?_
      refine (e_getR h0 (ar_9_2 h0) tq_87 rfl).trans ?_
      refine (pz_goes tq_87 3 (σ' := (80, [pzR k0, pzI x1, pzR k2, pzR k3, pzI r8, pzI r11], [pzR k0, pzI 9999, pzI x1, pzR (k0 + 3)], M10)) rfl).trans ?_
      refine (e_getR h0 (ar_9_2 h0) tq_87 rfl).trans ?_
      refine (pz_goes tq_87 1 (σ' := (84, [pzR k0, pzI x1, pzR k2, pzR k3, pzI r8, pzI r11], [pzI x1, pzR (k0 + 3), pzI 9999, pzI x1, pzR (k0 + 3)], M10)) rfl).trans ?_
      refine (e_iald (n := 9) (ac_9_2 h0) (al_9_2 h0) tq_87 rfl).trans (e_grd ?_)
      refine (pz_goes tq_87 2 (σ' := (87, [pzR k0, pzI x1, pzR k2, pzR k3, pzI r8, pzI r11], [pzI (ia (M10 (k0 + 3) ((x1).toNat)) 1), pzI 9999, pzI x1, pzR (k0 + 3)], M10)) rfl).trans ?_
      refine (e_callI (as := [pzI 9999, pzI (ia (M10 (k0 + 3) ((x1).toNat)) 1)]) (rest := [pzI x1, pzR (k0 + 3)]) (d' := 3) tq_128 rfl rfl rfl rfl rfl tq_87 rfl).trans (e_bI rfl fun r13 M12 => ?_)
      refine (e_iast (n := 9) (ac_9_2 h0) (al_9_2 h0) tq_87 rfl).trans (e_grd ?_)
      refine e_bM (m := pz_wr M12 (k0 + 3) ((x1).toNat) r13) (f := fun M14 => pzr 7 87 (91, [pzR k0, pzI x1, pzR k2, pzR k3, pzI r8, pzI r11], [], M14)) (fun M14 => ?_)
      refine (pz_goes tq_87 1 (σ' := (92, [pzR k0, pzI x1, pzR k2, pzR k3, pzI r8, pzI r11], [pzR k0], M14)) rfl).trans ?_
      refine (e_callI (as := [pzR k0]) (rest := []) (d' := 3) tq_90 rfl (e_cokS rfl rfl h0) rfl rfl rfl tq_87 rfl).trans (e_bI rfl fun r16 M15 => ?_)
      refine (pz_goes tq_87 1 (σ' := (97, [pzR k0, pzI x1, pzR k2, pzR k3, pzI r8, pzI r11], [pzI r11, pzI r16], M15)) rfl).trans ?_
      refine (e_icmp_ge tq_87 rfl).trans (e_ite ?_ ?_)
      · refine (pz_goes tq_87 3 (σ' := (105, [pzR k0, pzI x1, pzR k2, pzR k3, pzI r8, pzI r11], [pzI 10, pzI r8, pzR k0], M15)) rfl).trans ?_
        refine (e_callV (as := [pzR k0, pzI r8, pzI 10]) (rest := []) (d' := 3) tq_79 rfl (e_cokS rfl rfl h0) rfl rfl rfl tq_87 rfl).trans (e_bV rfl fun M17 => ?_)
        exact e_ret tq_87 rfl
      · exact e_ret tq_87 rfl
  · refine (pz_goes tq_87 2 (σ' := (30, [pzR k0, pzI x1, pzR k2, pzR k3, pzN, pzN], [pzI x1, pzR k0], M5)) rfl).trans ?_
    refine (e_callV (as := [pzR k0, pzI x1, pzN]) (rest := []) (d' := 4) tq_88 rfl (e_cokS rfl rfl h0) rfl rfl rfl tq_87 rfl).trans (e_bV rfl fun M18 => ?_)
    exact e_ret tq_87 rfl
/-! PeacockDesk$Terrace.giveAllBack(I)V -/
set_option maxRecDepth 20000 in
theorem m_Terrace_giveAllBack_eq (k0 : Nat) (x1 : Int) (M : pz_M) (h0 : pz_cls k0 = 9) : m_Terrace_giveAllBack k0 x1 M = m_Terrace_giveAllBack_2 k0 x1 0 M := by
  show pzr 4 88 (0, [pzR k0, pzI x1, pzN], [], M) = _
  refine (pz_goes tq_88 2 (σ' := (2, [pzR k0, pzI x1, pzI 0], [], M)) rfl).trans ?_
  rfl
set_option maxRecDepth 20000 in
theorem m_Terrace_giveAllBack_2_eq (k0 : Nat) (x1 : Int) (x2 : Int) (M : pz_M) (h0 : pz_cls k0 = 9) : m_Terrace_giveAllBack_2 k0 x1 x2 M = if x2 < (M k0 4) then (grd (0 ≤ x2 ∧ x2 < 24) (if (M (k0 + 1) ((x2).toNat)) = x1 then (bV (m_Terrace_give k0 x2 9 M) fun M1 => m_Terrace_giveAllBack_2 k0 x1 (ia x2 (1)) M1) else (m_Terrace_giveAllBack_2 k0 x1 (ia x2 (1)) M))) else (some (none, M)) := by
  show pzr 4 88 (2, [pzR k0, pzI x1, pzI x2], [], M) = _
  refine (pz_goes tq_88 2 (σ' := (4, [pzR k0, pzI x1, pzI x2], [pzR k0, pzI x2], M)) rfl).trans ?_
  refine (e_getI h0 tq_88 rfl).trans ?_
  refine (e_icmp_ge tq_88 rfl).trans (e_ite ?_ ?_)
  · refine (pz_goes tq_88 1 (σ' := (11, [pzR k0, pzI x1, pzI x2], [pzR k0], M)) rfl).trans ?_
    refine (e_getR h0 (ar_9_0 h0) tq_88 rfl).trans ?_
    refine (pz_goes tq_88 1 (σ' := (15, [pzR k0, pzI x1, pzI x2], [pzI x2, pzR (k0 + 1)], M)) rfl).trans ?_
    refine (e_iald (n := 24) (ac_9_0 h0) (al_9_0 h0) tq_88 rfl).trans (e_grd ?_)
    refine (pz_goes tq_88 1 (σ' := (17, [pzR k0, pzI x1, pzI x2], [pzI x1, pzI (M (k0 + 1) ((x2).toNat))], M)) rfl).trans ?_
    refine (e_icmp_ne tq_88 rfl).trans (e_ite ?_ ?_)
    · refine (pz_goes tq_88 3 (σ' := (24, [pzR k0, pzI x1, pzI x2], [pzI 9, pzI x2, pzR k0], M)) rfl).trans ?_
      refine (e_callV (as := [pzR k0, pzI x2, pzI 9]) (rest := []) (d' := 3) tq_79 rfl (e_cokS rfl rfl h0) rfl rfl rfl tq_88 rfl).trans (e_bV rfl fun M1 => ?_)
      refine (pz_goes tq_88 2 (σ' := (2, [pzR k0, pzI x1, pzI (ia x2 (1))], [], M1)) rfl).trans ?_
      rfl
    · refine (pz_goes tq_88 2 (σ' := (2, [pzR k0, pzI x1, pzI (ia x2 (1))], [], M)) rfl).trans ?_
      rfl
  · exact e_ret tq_88 rfl
/-! PeacockDesk$Terrace.firstCried(ILPeacockDesk$Law;LPeacockDesk$Docket;)I -/
set_option maxRecDepth 20000 in
theorem m_Terrace_firstCried_eq (k0 : Nat) (x1 : Int) (k2 : Nat) (k3 : Nat) (M : pz_M) (h0 : pz_cls k0 = 9) (h2 : pz_cls k2 = 2) (h3 : pz_cls k3 = 1) : m_Terrace_firstCried k0 x1 k2 k3 M = m_Terrace_firstCried_9 k0 x1 k2 k3 (-1) 0 0 pzN M := by
  show pzr 6 89 (0, [pzR k0, pzI x1, pzR k2, pzR k3, pzN, pzN, pzN, pzN], [], M) = _
  refine (pz_goes tq_89 6 (σ' := (9, [pzR k0, pzI x1, pzR k2, pzR k3, pzI (-1), pzI 0, pzI 0, pzN], [], M)) rfl).trans ?_
  rfl
set_option maxRecDepth 20000 in
theorem m_Terrace_firstCried_9_eq (k0 : Nat) (x1 : Int) (k2 : Nat) (k3 : Nat) (x4 : Int) (x5 : Int) (x6 : Int) (w7 : pz_V) (M : pz_M) (h0 : pz_cls k0 = 9) (h2 : pz_cls k2 = 2) (h3 : pz_cls k3 = 1) : m_Terrace_firstCried_9 k0 x1 k2 k3 x4 x5 x6 w7 M = if x6 < (M k0 4) then (grd (0 ≤ x6 ∧ x6 < 24) (if (M (k0 + 1) ((x6).toNat)) = x1 then (bV (m_Terrace_tellCase k0 x6 k3 (k2 + 6) M) fun M1 => bI (m_Law_worth k2 1 9999 1 M1) fun r3 M2 => if x5 < r3 then (m_Terrace_firstCried_9 k0 x1 k2 k3 x6 r3 (ia x6 (1)) (pzI r3) M2) else (m_Terrace_firstCried_9 k0 x1 k2 k3 x4 x5 (ia x6 (1)) (pzI r3) M2)) else (m_Terrace_firstCried_9 k0 x1 k2 k3 x4 x5 (ia x6 (1)) w7 M))) else (some (some (pzI x4), M)) := by
  show pzr 6 89 (9, [pzR k0, pzI x1, pzR k2, pzR k3, pzI x4, pzI x5, pzI x6, w7], [], M) = _
  refine (pz_goes tq_89 2 (σ' := (12, [pzR k0, pzI x1, pzR k2, pzR k3, pzI x4, pzI x5, pzI x6, w7], [pzR k0, pzI x6], M)) rfl).trans ?_
  refine (e_getI h0 tq_89 rfl).trans ?_
  refine (e_icmp_ge tq_89 rfl).trans (e_ite ?_ ?_)
  · refine (pz_goes tq_89 1 (σ' := (19, [pzR k0, pzI x1, pzR k2, pzR k3, pzI x4, pzI x5, pzI x6, w7], [pzR k0], M)) rfl).trans ?_
    refine (e_getR h0 (ar_9_0 h0) tq_89 rfl).trans ?_
    refine (pz_goes tq_89 1 (σ' := (24, [pzR k0, pzI x1, pzR k2, pzR k3, pzI x4, pzI x5, pzI x6, w7], [pzI x6, pzR (k0 + 1)], M)) rfl).trans ?_
    refine (e_iald (n := 24) (ac_9_0 h0) (al_9_0 h0) tq_89 rfl).trans (e_grd ?_)
    refine (pz_goes tq_89 1 (σ' := (26, [pzR k0, pzI x1, pzR k2, pzR k3, pzI x4, pzI x5, pzI x6, w7], [pzI x1, pzI (M (k0 + 1) ((x6).toNat))], M)) rfl).trans ?_
    refine (e_icmp_ne tq_89 rfl).trans (e_ite ?_ ?_)
    · refine (pz_goes tq_89 4 (σ' := (34, [pzR k0, pzI x1, pzR k2, pzR k3, pzI x4, pzI x5, pzI x6, w7], [pzR k2, pzR k3, pzI x6, pzR k0], M)) rfl).trans ?_
      refine (e_getR h2 (ar_2_7 h2) tq_89 rfl).trans ?_
      refine (e_callV (as := [pzR k0, pzI x6, pzR k3, pzR (k2 + 6)]) (rest := []) (d' := 3) tq_92 rfl (e_cokS rfl rfl h0) rfl rfl rfl tq_89 rfl).trans (e_bV rfl fun M1 => ?_)
      refine (pz_goes tq_89 4 (σ' := (46, [pzR k0, pzI x1, pzR k2, pzR k3, pzI x4, pzI x5, pzI x6, w7], [pzI 1, pzI 9999, pzI 1, pzR k2], M1)) rfl).trans ?_
      refine (e_callI (as := [pzR k2, pzI 1, pzI 9999, pzI 1, pzN]) (rest := []) (d' := 5) tq_22 rfl (e_cokS rfl rfl h2) rfl rfl rfl tq_89 rfl).trans (e_bI rfl fun r3 M2 => ?_)
      refine (pz_goes tq_89 3 (σ' := (55, [pzR k0, pzI x1, pzR k2, pzR k3, pzI x4, pzI x5, pzI x6, pzI r3], [pzI x5, pzI r3], M2)) rfl).trans ?_
      refine (e_icmp_le tq_89 rfl).trans (e_ite ?_ ?_)
      · refine (pz_goes tq_89 6 (σ' := (9, [pzR k0, pzI x1, pzR k2, pzR k3, pzI x6, pzI r3, pzI (ia x6 (1)), pzI r3], [], M2)) rfl).trans ?_
        rfl
      · refine (pz_goes tq_89 2 (σ' := (9, [pzR k0, pzI x1, pzR k2, pzR k3, pzI x4, pzI x5, pzI (ia x6 (1)), pzI r3], [], M2)) rfl).trans ?_
        rfl
    · refine (pz_goes tq_89 2 (σ' := (9, [pzR k0, pzI x1, pzR k2, pzR k3, pzI x4, pzI x5, pzI (ia x6 (1)), w7], [], M)) rfl).trans ?_
      rfl
  · refine (pz_goes tq_89 1 (σ' := (74, [pzR k0, pzI x1, pzR k2, pzR k3, pzI x4, pzI x5, pzI x6, w7], [pzI x4], M)) rfl).trans ?_
    exact e_iret tq_89 rfl
/-! PeacockDesk$Terrace.draw()I -/
set_option maxRecDepth 20000 in
theorem m_Terrace_draw_eq (k0 : Nat) (M : pz_M) (h0 : pz_cls k0 = 9) : m_Terrace_draw k0 M = bM (pz_wr M k0 6 (ian (ia (imu 25173 (M k0 6)) 13849) 65535)) fun M1 => some (some (pzI (irm (M1 k0 6) 10)), M1) := by
  show pzr 3 90 (0, [pzR k0], [], M) = _
  refine (pz_goes tq_90 3 (σ' := (5, [pzR k0], [pzR k0, pzI 25173, pzR k0], M)) rfl).trans ?_
  refine (e_getI h0 tq_90 rfl).trans ?_
  refine (pz_goes tq_90 5 (σ' := (16, [pzR k0], [pzI (ian (ia (imu 25173 (M k0 6)) 13849) 65535), pzR k0], M)) rfl).trans ?_
  refine (e_putI h0 tq_90 rfl).trans ?_
  refine e_bM (f := fun M1 => pzr 3 90 (19, [pzR k0], [], M1)) (fun M1 => ?_)
  refine (pz_goes tq_90 1 (σ' := (20, [pzR k0], [pzR k0], M1)) rfl).trans ?_
  refine (e_getI h0 tq_90 rfl).trans ?_
  refine (pz_goes tq_90 1 (σ' := (25, [pzR k0], [pzI 10, pzI (M1 k0 6)], M1)) rfl).trans ?_
  refine ((e_div tq_90 rfl).trans (grd_pos (by decide))).trans ?_
  show pzr 3 90 (26, [pzR k0], [pzI (irm (M1 k0 6) 10)], M1) = _
  exact e_iret tq_90 rfl
/-! PeacockDesk$Terrace.tellPeacock(II[I)V -/
set_option maxRecDepth 20000 in
theorem m_Terrace_tellPeacock_eq (k0 : Nat) (x1 : Int) (x2 : Int) (k3 : Nat) (M : pz_M) (h0 : pz_cls k0 = 9) (h3 : pz_cls k3 = 20) : m_Terrace_tellPeacock k0 x1 x2 k3 M = grd (0 ≤ (0 : Int) ∧ (0 : Int) < (pz_len k3)) (bM (pz_wr M k3 0 x1) fun M1 => grd (0 ≤ x1 ∧ x1 < 11) (grd (0 ≤ (6 : Int) ∧ (6 : Int) < (pz_len k3)) (bM (pz_wr M1 k3 6 (M1 (k0 + 4) ((x1).toNat))) fun M2 => grd (0 ≤ x1 ∧ x1 < 9) (grd (0 ≤ (7 : Int) ∧ (7 : Int) < (pz_len k3)) (bM (pz_wr M2 k3 7 (M2 (k0 + 3) ((x1).toNat))) fun M3 => grd (0 ≤ (8 : Int) ∧ (8 : Int) < (pz_len k3)) (bM (pz_wr M3 k3 8 (irm (M3 k0 5) 100)) fun M4 => grd (0 ≤ (9 : Int) ∧ (9 : Int) < (pz_len k3)) (bM (pz_wr M4 k3 9 x2) fun M5 => some (none, M5)))))))) := by
  show pzr 3 91 (0, [pzR k0, pzI x1, pzI x2, pzR k3], [], M) = _
  refine (pz_goes tq_91 3 (σ' := (3, [pzR k0, pzI x1, pzI x2, pzR k3], [pzI x1, pzI 0, pzR k3], M)) rfl).trans ?_
  refine (e_iast (n := (pz_len k3)) h3 rfl tq_91 rfl).trans (e_grd ?_)
  refine e_bM (m := pz_wr M k3 0 x1) (f := fun M1 => pzr 3 91 (4, [pzR k0, pzI x1, pzI x2, pzR k3], [], M1)) (fun M1 => ?_)
  refine (pz_goes tq_91 3 (σ' := (8, [pzR k0, pzI x1, pzI x2, pzR k3], [pzR k0, pzI 6, pzR k3], M1)) rfl).trans ?_
  refine (e_getR h0 (ar_9_3 h0) tq_91 rfl).trans ?_
  refine (pz_goes tq_91 1 (σ' := (12, [pzR k0, pzI x1, pzI x2, pzR k3], [pzI x1, pzR (k0 + 4), pzI 6, pzR k3], M1)) rfl).trans ?_
  refine (e_iald (n := 11) (ac_9_3 h0) (al_9_3 h0) tq_91 rfl).trans (e_grd ?_)
  refine (e_iast (n := (pz_len k3)) h3 rfl tq_91 rfl).trans (e_grd ?_)
  refine e_bM (m := pz_wr M1 k3 6 (M1 (k0 + 4) ((x1).toNat))) (f := fun M2 => pzr 3 91 (14, [pzR k0, pzI x1, pzI x2, pzR k3], [], M2)) (fun M2 => ?_)
  refine (pz_goes tq_91 3 (σ' := (18, [pzR k0, pzI x1, pzI x2, pzR k3], [pzR k0, pzI 7, pzR k3], M2)) rfl).trans ?_
  refine (e_getR h0 (ar_9_2 h0) tq_91 rfl).trans ?_
  refine (pz_goes tq_91 1 (σ' := (22, [pzR k0, pzI x1, pzI x2, pzR k3], [pzI x1, pzR (k0 + 3), pzI 7, pzR k3], M2)) rfl).trans ?_
  refine (e_iald (n := 9) (ac_9_2 h0) (al_9_2 h0) tq_91 rfl).trans (e_grd ?_)
  refine (e_iast (n := (pz_len k3)) h3 rfl tq_91 rfl).trans (e_grd ?_)
  refine e_bM (m := pz_wr M2 k3 7 (M2 (k0 + 3) ((x1).toNat))) (f := fun M3 => pzr 3 91 (24, [pzR k0, pzI x1, pzI x2, pzR k3], [], M3)) (fun M3 => ?_)
  refine (pz_goes tq_91 3 (σ' := (28, [pzR k0, pzI x1, pzI x2, pzR k3], [pzR k0, pzI 8, pzR k3], M3)) rfl).trans ?_
  refine (e_getI h0 tq_91 rfl).trans ?_
  refine (pz_goes tq_91 1 (σ' := (33, [pzR k0, pzI x1, pzI x2, pzR k3], [pzI 100, pzI (M3 k0 5), pzI 8, pzR k3], M3)) rfl).trans ?_
  refine ((e_div tq_91 rfl).trans (grd_pos (by decide))).trans ?_
  show pzr 3 91 (34, [pzR k0, pzI x1, pzI x2, pzR k3], [pzI (irm (M3 k0 5) 100), pzI 8, pzR k3], M3) = _
  refine (e_iast (n := (pz_len k3)) h3 rfl tq_91 rfl).trans (e_grd ?_)
  refine e_bM (m := pz_wr M3 k3 8 (irm (M3 k0 5) 100)) (f := fun M4 => pzr 3 91 (35, [pzR k0, pzI x1, pzI x2, pzR k3], [], M4)) (fun M4 => ?_)
  refine (pz_goes tq_91 3 (σ' := (39, [pzR k0, pzI x1, pzI x2, pzR k3], [pzI x2, pzI 9, pzR k3], M4)) rfl).trans ?_
  refine (e_iast (n := (pz_len k3)) h3 rfl tq_91 rfl).trans (e_grd ?_)
  refine e_bM (m := pz_wr M4 k3 9 x2) (f := fun M5 => pzr 3 91 (40, [pzR k0, pzI x1, pzI x2, pzR k3], [], M5)) (fun M5 => ?_)
  exact e_ret tq_91 rfl
/-! PeacockDesk$Terrace.tellCase(ILPeacockDesk$Docket;[I)V -/
set_option maxRecDepth 20000 in
theorem m_Terrace_tellCase_eq (k0 : Nat) (x1 : Int) (k2 : Nat) (k3 : Nat) (M : pz_M) (h0 : pz_cls k0 = 9) (h2 : pz_cls k2 = 1) (h3 : pz_cls k3 = 20) : m_Terrace_tellCase k0 x1 k2 k3 M = grd (0 ≤ (1 : Int) ∧ (1 : Int) < (pz_len k3)) (bM (pz_wr M k3 1 x1) fun M1 => grd (0 ≤ x1 ∧ x1 < 24) (grd (0 ≤ (2 : Int) ∧ (2 : Int) < (pz_len k3)) (bM (pz_wr M1 k3 2 (M1 (k2 + 1) ((x1).toNat))) fun M2 => grd (0 ≤ x1 ∧ x1 < 24) (grd (0 ≤ (3 : Int) ∧ (3 : Int) < (pz_len k3)) (bM (pz_wr M2 k3 3 (M2 (k2 + 2) ((x1).toNat))) fun M3 => grd (0 ≤ x1 ∧ x1 < 24) (grd (0 ≤ (4 : Int) ∧ (4 : Int) < (pz_len k3)) (bM (pz_wr M3 k3 4 (M3 (k2 + 3) ((x1).toNat))) fun M4 => grd (0 ≤ x1 ∧ x1 < 24) (grd (0 ≤ (5 : Int) ∧ (5 : Int) < (pz_len k3)) (bM (pz_wr M4 k3 5 (M4 (k0 + 2) ((x1).toNat))) fun M5 => some (none, M5)))))))))) := by
  show pzr 3 92 (0, [pzR k0, pzI x1, pzR k2, pzR k3], [], M) = _
  refine (pz_goes tq_92 3 (σ' := (3, [pzR k0, pzI x1, pzR k2, pzR k3], [pzI x1, pzI 1, pzR k3], M)) rfl).trans ?_
  refine (e_iast (n := (pz_len k3)) h3 rfl tq_92 rfl).trans (e_grd ?_)
  refine e_bM (m := pz_wr M k3 1 x1) (f := fun M1 => pzr 3 92 (4, [pzR k0, pzI x1, pzR k2, pzR k3], [], M1)) (fun M1 => ?_)
  refine (pz_goes tq_92 3 (σ' := (7, [pzR k0, pzI x1, pzR k2, pzR k3], [pzR k2, pzI 2, pzR k3], M1)) rfl).trans ?_
  refine (e_getR h2 (ar_1_0 h2) tq_92 rfl).trans ?_
  refine (pz_goes tq_92 1 (σ' := (11, [pzR k0, pzI x1, pzR k2, pzR k3], [pzI x1, pzR (k2 + 1), pzI 2, pzR k3], M1)) rfl).trans ?_
  refine (e_iald (n := 24) (ac_1_0 h2) (al_1_0 h2) tq_92 rfl).trans (e_grd ?_)
  refine (e_iast (n := (pz_len k3)) h3 rfl tq_92 rfl).trans (e_grd ?_)
  refine e_bM (m := pz_wr M1 k3 2 (M1 (k2 + 1) ((x1).toNat))) (f := fun M2 => pzr 3 92 (13, [pzR k0, pzI x1, pzR k2, pzR k3], [], M2)) (fun M2 => ?_)
  refine (pz_goes tq_92 3 (σ' := (16, [pzR k0, pzI x1, pzR k2, pzR k3], [pzR k2, pzI 3, pzR k3], M2)) rfl).trans ?_
  refine (e_getR h2 (ar_1_1 h2) tq_92 rfl).trans ?_
  refine (pz_goes tq_92 1 (σ' := (20, [pzR k0, pzI x1, pzR k2, pzR k3], [pzI x1, pzR (k2 + 2), pzI 3, pzR k3], M2)) rfl).trans ?_
  refine (e_iald (n := 24) (ac_1_1 h2) (al_1_1 h2) tq_92 rfl).trans (e_grd ?_)
  refine (e_iast (n := (pz_len k3)) h3 rfl tq_92 rfl).trans (e_grd ?_)
  refine e_bM (m := pz_wr M2 k3 3 (M2 (k2 + 2) ((x1).toNat))) (f := fun M3 => pzr 3 92 (22, [pzR k0, pzI x1, pzR k2, pzR k3], [], M3)) (fun M3 => ?_)
  refine (pz_goes tq_92 3 (σ' := (25, [pzR k0, pzI x1, pzR k2, pzR k3], [pzR k2, pzI 4, pzR k3], M3)) rfl).trans ?_
  refine (e_getR h2 (ar_1_2 h2) tq_92 rfl).trans ?_
  refine (pz_goes tq_92 1 (σ' := (29, [pzR k0, pzI x1, pzR k2, pzR k3], [pzI x1, pzR (k2 + 3), pzI 4, pzR k3], M3)) rfl).trans ?_
  refine (e_iald (n := 24) (ac_1_2 h2) (al_1_2 h2) tq_92 rfl).trans (e_grd ?_)
  refine (e_iast (n := (pz_len k3)) h3 rfl tq_92 rfl).trans (e_grd ?_)
  refine e_bM (m := pz_wr M3 k3 4 (M3 (k2 + 3) ((x1).toNat))) (f := fun M4 => pzr 3 92 (31, [pzR k0, pzI x1, pzR k2, pzR k3], [], M4)) (fun M4 => ?_)
  refine (pz_goes tq_92 3 (σ' := (34, [pzR k0, pzI x1, pzR k2, pzR k3], [pzR k0, pzI 5, pzR k3], M4)) rfl).trans ?_
  refine (e_getR h0 (ar_9_1 h0) tq_92 rfl).trans ?_
  refine (pz_goes tq_92 1 (σ' := (38, [pzR k0, pzI x1, pzR k2, pzR k3], [pzI x1, pzR (k0 + 2), pzI 5, pzR k3], M4)) rfl).trans ?_
  refine (e_iald (n := 24) (ac_9_1 h0) (al_9_1 h0) tq_92 rfl).trans (e_grd ?_)
  refine (e_iast (n := (pz_len k3)) h3 rfl tq_92 rfl).trans (e_grd ?_)
  refine e_bM (m := pz_wr M4 k3 5 (M4 (k0 + 2) ((x1).toNat))) (f := fun M5 => pzr 3 92 (40, [pzR k0, pzI x1, pzR k2, pzR k3], [], M5)) (fun M5 => ?_)
  exact e_ret tq_92 rfl
/-! PeacockDesk$Terrace.tellNoCase([I)V -/
set_option maxRecDepth 20000 in
theorem m_Terrace_tellNoCase_eq (k0 : Nat) (k1 : Nat) (M : pz_M) (h0 : pz_cls k0 = 9) (h1 : pz_cls k1 = 20) : m_Terrace_tellNoCase k0 k1 M = grd (0 ≤ (1 : Int) ∧ (1 : Int) < (pz_len k1)) (bM (pz_wr M k1 1 24) fun M1 => grd (0 ≤ (2 : Int) ∧ (2 : Int) < (pz_len k1)) (bM (pz_wr M1 k1 2 16) fun M2 => grd (0 ≤ (3 : Int) ∧ (3 : Int) < (pz_len k1)) (bM (pz_wr M2 k1 3 0) fun M3 => grd (0 ≤ (4 : Int) ∧ (4 : Int) < (pz_len k1)) (bM (pz_wr M3 k1 4 0) fun M4 => grd (0 ≤ (5 : Int) ∧ (5 : Int) < (pz_len k1)) (bM (pz_wr M4 k1 5 0) fun M5 => some (none, M5)))))) := by
  show pzr 3 93 (0, [pzR k0, pzR k1], [], M) = _
  refine (pz_goes tq_93 3 (σ' := (4, [pzR k0, pzR k1], [pzI 24, pzI 1, pzR k1], M)) rfl).trans ?_
  refine (e_iast (n := (pz_len k1)) h1 rfl tq_93 rfl).trans (e_grd ?_)
  refine e_bM (m := pz_wr M k1 1 24) (f := fun M1 => pzr 3 93 (5, [pzR k0, pzR k1], [], M1)) (fun M1 => ?_)
  refine (pz_goes tq_93 3 (σ' := (9, [pzR k0, pzR k1], [pzI 16, pzI 2, pzR k1], M1)) rfl).trans ?_
  refine (e_iast (n := (pz_len k1)) h1 rfl tq_93 rfl).trans (e_grd ?_)
  refine e_bM (m := pz_wr M1 k1 2 16) (f := fun M2 => pzr 3 93 (10, [pzR k0, pzR k1], [], M2)) (fun M2 => ?_)
  refine (pz_goes tq_93 3 (σ' := (13, [pzR k0, pzR k1], [pzI 0, pzI 3, pzR k1], M2)) rfl).trans ?_
  refine (e_iast (n := (pz_len k1)) h1 rfl tq_93 rfl).trans (e_grd ?_)
  refine e_bM (m := pz_wr M2 k1 3 0) (f := fun M3 => pzr 3 93 (14, [pzR k0, pzR k1], [], M3)) (fun M3 => ?_)
  refine (pz_goes tq_93 3 (σ' := (17, [pzR k0, pzR k1], [pzI 0, pzI 4, pzR k1], M3)) rfl).trans ?_
  refine (e_iast (n := (pz_len k1)) h1 rfl tq_93 rfl).trans (e_grd ?_)
  refine e_bM (m := pz_wr M3 k1 4 0) (f := fun M4 => pzr 3 93 (18, [pzR k0, pzR k1], [], M4)) (fun M4 => ?_)
  refine (pz_goes tq_93 3 (σ' := (21, [pzR k0, pzR k1], [pzI 0, pzI 5, pzR k1], M4)) rfl).trans ?_
  refine (e_iast (n := (pz_len k1)) h1 rfl tq_93 rfl).trans (e_grd ?_)
  refine e_bM (m := pz_wr M4 k1 5 0) (f := fun M5 => pzr 3 93 (22, [pzR k0, pzR k1], [], M5)) (fun M5 => ?_)
  exact e_ret tq_93 rfl
/-! PeacockDesk.say(II)Z -/
set_option maxRecDepth 20000 in
theorem m_Desk_say_eq (x1 : Int) (x2 : Int) (M : pz_M) : m_Desk_say x1 x2 M = bI (m_Desk_isCase x1 M) fun r2 M1 => if r2 = 0 then some (some (pzI 0), M1) else (bI (m_Desk_isPeacock x2 M1) fun r4 M3 => if r4 = 0 then some (some (pzI 0), M3) else (bI (m_Terrace_hasEye 49 x2 M3) fun r6 M5 => if r6 = 0 then some (some (pzI 0), M5) else (bV (m_Terrace_give 49 x1 x2 M5) fun M7 => some (some (pzI 1), M7)))) := by
  show pzr 4 94 (0, [pzR 0, pzI x1, pzI x2], [], M) = _
  refine (pz_goes tq_94 2 (σ' := (2, [pzR 0, pzI x1, pzI x2], [pzI x1, pzR 0], M)) rfl).trans ?_
  refine (e_callI (as := [pzR 0, pzI x1]) (rest := []) (d' := 3) tq_123 rfl rfl rfl rfl rfl tq_94 rfl).trans (e_bI rfl fun r2 M1 => ?_)
  refine (e_if_eq tq_94 rfl).trans (e_ite ?_ ?_)
  · refine (pz_goes tq_94 1 (σ' := (27, [pzR 0, pzI x1, pzI x2], [pzI 0], M1)) rfl).trans ?_
    exact (e_zret tq_94 rfl).trans (grd_pos (by decide))
  · refine (pz_goes tq_94 1 (σ' := (9, [pzR 0, pzI x1, pzI x2], [pzI x2], M1)) rfl).trans ?_
    refine (e_callI (as := [pzI x2]) (rest := []) (d' := 3) tq_124 rfl rfl rfl rfl rfl tq_94 rfl).trans (e_bI rfl fun r4 M3 => ?_)
    refine (e_if_eq tq_94 rfl).trans (e_ite ?_ ?_)
    · refine (pz_goes tq_94 1 (σ' := (27, [pzR 0, pzI x1, pzI x2], [pzI 0], M3)) rfl).trans ?_
      exact (e_zret tq_94 rfl).trans (grd_pos (by decide))
    · refine (pz_goes tq_94 3 (σ' := (20, [pzR 0, pzI x1, pzI x2], [pzI x2, pzR 49], M3)) rfl).trans ?_
      refine (e_callI (as := [pzR 49, pzI x2]) (rest := []) (d' := 3) tq_78 rfl rfl rfl rfl rfl tq_94 rfl).trans (e_bI rfl fun r6 M5 => ?_)
      refine (e_if_ne tq_94 rfl).trans (e_ite ?_ ?_)
      · refine (pz_goes tq_94 1 (σ' := (27, [pzR 0, pzI x1, pzI x2], [pzI 0], M5)) rfl).trans ?_
        exact (e_zret tq_94 rfl).trans (grd_pos (by decide))
      · refine (pz_goes tq_94 4 (σ' := (34, [pzR 0, pzI x1, pzI x2], [pzI x2, pzI x1, pzR 49], M5)) rfl).trans ?_
        refine (e_callV (as := [pzR 49, pzI x1, pzI x2]) (rest := []) (d' := 3) tq_79 rfl rfl rfl rfl rfl tq_94 rfl).trans (e_bV rfl fun M7 => ?_)
        refine (pz_goes tq_94 1 (σ' := (38, [pzR 0, pzI x1, pzI x2], [pzI 1], M7)) rfl).trans ?_
        exact (e_zret tq_94 rfl).trans (grd_pos (by decide))
