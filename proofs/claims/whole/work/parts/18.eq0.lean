/-! PeacockDesk$Cabinet.readFrom(LPeacockDesk$Tape;I)Z -/
set_option maxRecDepth 20000 in
theorem m_Cabinet_readFrom_eq (x2 : Int) (M : pz_M) : m_Cabinet_readFrom x2 M = bM (pz_wr M 32 3 x2) fun M1 => bM (pz_wr M1 32 2 0) fun M2 => bV (m_Arrays_fill 34 (-1) M2) fun M3 => m_Cabinet_readFrom_20 (pzI x2) 0 M3 := by
  show pzr 6 0 (0, [pzR 32, pzR 29, pzI x2, pzN], [], M) = _
  refine (pz_goes tq_0 2 (σ' := (2, [pzR 32, pzR 29, pzI x2, pzN], [pzI x2, pzR 32], M)) rfl).trans ?_
  refine (e_putI rfl tq_0 rfl).trans ?_
  refine e_bM (f := fun M1 => pzr 6 0 (5, [pzR 32, pzR 29, pzI x2, pzN], [], M1)) (fun M1 => ?_)
  refine (pz_goes tq_0 2 (σ' := (7, [pzR 32, pzR 29, pzI x2, pzN], [pzI 0, pzR 32], M1)) rfl).trans ?_
  refine (e_putI rfl tq_0 rfl).trans ?_
  refine e_bM (f := fun M2 => pzr 6 0 (10, [pzR 32, pzR 29, pzI x2, pzN], [], M2)) (fun M2 => ?_)
  refine (pz_goes tq_0 3 (σ' := (15, [pzR 32, pzR 29, pzI x2, pzN], [pzI (-1), pzR 34], M2)) rfl).trans ?_
  refine (e_callV (as := [pzR 34, pzI (-1), pzN, pzN]) (rest := []) (d' := 3) tq_132 rfl rfl rfl rfl rfl tq_0 rfl).trans (e_bV rfl fun M3 => ?_)
  refine (pz_goes tq_0 2 (σ' := (20, [pzR 32, pzR 29, pzI x2, pzI 0], [], M3)) rfl).trans ?_
  rfl
set_option maxRecDepth 20000 in
theorem m_Cabinet_readFrom_20_eq (w2 : pz_V) (x3 : Int) (M : pz_M) : m_Cabinet_readFrom_20 w2 x3 M = if (12 : Int) < x3 then some (some (pzI 0), M) else (bI (m_Cabinet_readLine M) fun r2 M1 => if r2 = 0 then some (some (pzI 0), M1) else (bI (m_Tape_atEnd M1) fun r4 M3 => if r4 = 0 then (bI (m_Tape_pass 59 M3) fun r6 M5 => if r6 = 0 then some (some (pzI 0), M5) else (m_Cabinet_readFrom_20 w2 (ia x3 (1)) M5)) else (some (some (pzI 1), M3)))) := by
  show pzr 6 0 (20, [pzR 32, pzR 29, w2, pzI x3], [], M) = _
  refine (pz_goes tq_0 2 (σ' := (23, [pzR 32, pzR 29, w2, pzI x3], [pzI 12, pzI x3], M)) rfl).trans ?_
  refine (e_icmp_gt tq_0 rfl).trans (e_ite ?_ ?_)
  · refine (pz_goes tq_0 1 (σ' := (63, [pzR 32, pzR 29, w2, pzI x3], [pzI 0], M)) rfl).trans ?_
    exact (e_zret tq_0 rfl).trans (grd_pos (by decide))
  · refine (pz_goes tq_0 2 (σ' := (28, [pzR 32, pzR 29, w2, pzI x3], [pzR 29, pzR 32], M)) rfl).trans ?_
    refine (e_callI (as := [pzR 32, pzR 29, pzN, pzN]) (rest := []) (d' := 5) tq_1 rfl rfl rfl rfl rfl tq_0 rfl).trans (e_bI rfl fun r2 M1 => ?_)
    refine (e_if_ne tq_0 rfl).trans (e_ite ?_ ?_)
    · refine (pz_goes tq_0 1 (σ' := (35, [pzR 32, pzR 29, w2, pzI x3], [pzI 0], M1)) rfl).trans ?_
      exact (e_zret tq_0 rfl).trans (grd_pos (by decide))
    · refine (pz_goes tq_0 1 (σ' := (37, [pzR 32, pzR 29, w2, pzI x3], [pzR 29], M1)) rfl).trans ?_
      refine (e_callI (as := [pzR 29]) (rest := []) (d' := 3) tq_65 rfl rfl rfl rfl rfl tq_0 rfl).trans (e_bI rfl fun r4 M3 => ?_)
      refine (e_if_eq tq_0 rfl).trans (e_ite ?_ ?_)
      · refine (pz_goes tq_0 2 (σ' := (48, [pzR 32, pzR 29, w2, pzI x3], [pzI 59, pzR 29], M3)) rfl).trans ?_
        refine (e_callI (as := [pzR 29, pzI 59]) (rest := []) (d' := 4) tq_68 rfl rfl rfl rfl rfl tq_0 rfl).trans (e_bI rfl fun r6 M5 => ?_)
        refine (e_if_ne tq_0 rfl).trans (e_ite ?_ ?_)
        · refine (pz_goes tq_0 1 (σ' := (55, [pzR 32, pzR 29, w2, pzI x3], [pzI 0], M5)) rfl).trans ?_
          exact (e_zret tq_0 rfl).trans (grd_pos (by decide))
        · refine (pz_goes tq_0 2 (σ' := (20, [pzR 32, pzR 29, w2, pzI (ia x3 (1))], [], M5)) rfl).trans ?_
          rfl
      · refine (pz_goes tq_0 1 (σ' := (44, [pzR 32, pzR 29, w2, pzI x3], [pzI 1], M3)) rfl).trans ?_
        exact (e_zret tq_0 rfl).trans (grd_pos (by decide))
/-! PeacockDesk$Cabinet.readLine(LPeacockDesk$Tape;)Z -/
set_option maxRecDepth 20000 in
theorem m_Cabinet_readLine_eq (M : pz_M) : m_Cabinet_readLine M = bI (m_Tape_isDigit M) fun r2 M1 => if r2 = 0 then (bI (m_Tape_peek M1) fun r4 M3 => bI (m_Cabinet_isMinister (isb r4 97) M3) fun r6 M5 => if r6 = 0 then (bI (m_Tape_fail 1 M5) fun r8 M7 => grd (r8 = 0 ∨ r8 = 1) (some (some (pzI r8), M7))) else (m_Cabinet_readLine_27 pzN pzN M5)) else (m_Cabinet_readLine_27 pzN pzN M1) := by
  show pzr 5 1 (0, [pzR 32, pzR 29, pzN, pzN], [], M) = _
  refine (pz_goes tq_1 1 (σ' := (1, [pzR 32, pzR 29, pzN, pzN], [pzR 29], M)) rfl).trans ?_
  refine (e_callI (as := [pzR 29, pzN]) (rest := []) (d' := 4) tq_70 rfl rfl rfl rfl rfl tq_1 rfl).trans (e_bI rfl fun r2 M1 => ?_)
  refine (e_if_ne tq_1 rfl).trans (e_ite ?_ ?_)
  · refine (pz_goes tq_1 2 (σ' := (9, [pzR 32, pzR 29, pzN, pzN], [pzR 29, pzR 32], M1)) rfl).trans ?_
    refine (e_callI (as := [pzR 29]) (rest := [pzR 32]) (d' := 3) tq_66 rfl rfl rfl rfl rfl tq_1 rfl).trans (e_bI rfl fun r4 M3 => ?_)
    refine (pz_goes tq_1 2 (σ' := (15, [pzR 32, pzR 29, pzN, pzN], [pzI (isb r4 97), pzR 32], M3)) rfl).trans ?_
    refine (e_callI (as := [pzR 32, pzI (isb r4 97)]) (rest := []) (d' := 3) tq_3 rfl rfl rfl rfl rfl tq_1 rfl).trans (e_bI rfl fun r6 M5 => ?_)
    refine (e_if_ne tq_1 rfl).trans (e_ite ?_ ?_)
    · refine (pz_goes tq_1 2 (σ' := (23, [pzR 32, pzR 29, pzN, pzN], [pzI 1, pzR 29], M5)) rfl).trans ?_
      refine (e_callI (as := [pzR 29, pzI 1]) (rest := []) (d' := 3) tq_72 rfl rfl rfl rfl rfl tq_1 rfl).trans (e_bI rfl fun r8 M7 => ?_)
      exact e_zret tq_1 rfl
    · rfl
  · rfl
set_option maxRecDepth 20000 in
theorem m_Cabinet_readLine_27_eq (w2 : pz_V) (w3 : pz_V) (M : pz_M) : m_Cabinet_readLine_27 w2 w3 M = if (M 32 2) < (12 : Int) then (bI (m_Tape_isDigit M) fun r2 M1 => if r2 = 0 then (m_Cabinet_readLine_79 1 w3 M1) else (bI (m_Tape_readNumber 2 M1) fun r4 M3 => if r4 < 0 then some (some (pzI 0), M3) else (if r4 = 0 then (bI (m_Tape_failAt 3 (M1 29 2) M3) fun r6 M5 => grd (r6 = 0 ∨ r6 = 1) (some (some (pzI r6), M5))) else (m_Cabinet_readLine_79 r4 (pzI (M1 29 2)) M3)))) else (bI (m_Tape_fail 4 M) fun r8 M7 => grd (r8 = 0 ∨ r8 = 1) (some (some (pzI r8), M7))) := by
  show pzr 5 1 (27, [pzR 32, pzR 29, w2, w3], [], M) = _
  refine (pz_goes tq_1 3 (σ' := (33, [pzR 32, pzR 29, w2, w3], [pzI 12, pzI (M 32 2)], M)) rfl).trans ?_
  refine (e_icmp_lt tq_1 rfl).trans (e_ite ?_ ?_)
  · refine (pz_goes tq_1 3 (σ' := (45, [pzR 32, pzR 29, pzI 1, w3], [pzR 29], M)) rfl).trans ?_
    refine (e_callI (as := [pzR 29, pzN]) (rest := []) (d' := 4) tq_70 rfl rfl rfl rfl rfl tq_1 rfl).trans (e_bI rfl fun r2 M1 => ?_)
    refine (e_if_eq tq_1 rfl).trans (e_ite ?_ ?_)
    · rfl
    · refine (pz_goes tq_1 5 (σ' := (58, [pzR 32, pzR 29, pzI 1, pzI (M1 29 2)], [pzI 2, pzR 29], M1)) rfl).trans ?_
      refine (e_callI (as := [pzR 29, pzI 2, pzN, pzN, pzN]) (rest := []) (d' := 4) tq_71 rfl rfl rfl rfl rfl tq_1 rfl).trans (e_bI rfl fun r4 M3 => ?_)
      refine (pz_goes tq_1 2 (σ' := (63, [pzR 32, pzR 29, pzI r4, pzI (M1 29 2)], [pzI r4], M3)) rfl).trans ?_
      refine (e_if_ge tq_1 rfl).trans (e_ite ?_ ?_)
      · refine (pz_goes tq_1 1 (σ' := (67, [pzR 32, pzR 29, pzI r4, pzI (M1 29 2)], [pzI 0], M3)) rfl).trans ?_
        exact (e_zret tq_1 rfl).trans (grd_pos (by decide))
      · refine (pz_goes tq_1 1 (σ' := (69, [pzR 32, pzR 29, pzI r4, pzI (M1 29 2)], [pzI r4], M3)) rfl).trans ?_
        refine (e_if_ne tq_1 rfl).trans (e_ite ?_ ?_)
        · refine (pz_goes tq_1 3 (σ' := (75, [pzR 32, pzR 29, pzI r4, pzI (M1 29 2)], [pzI (M1 29 2), pzI 3, pzR 29], M3)) rfl).trans ?_
          refine (e_callI (as := [pzR 29, pzI 3, pzI (M1 29 2)]) (rest := []) (d' := 3) tq_73 rfl rfl rfl rfl rfl tq_1 rfl).trans (e_bI rfl fun r6 M5 => ?_)
          exact e_zret tq_1 rfl
        · rfl
  · refine (pz_goes tq_1 2 (σ' := (38, [pzR 32, pzR 29, w2, w3], [pzI 4, pzR 29], M)) rfl).trans ?_
    refine (e_callI (as := [pzR 29, pzI 4]) (rest := []) (d' := 3) tq_72 rfl rfl rfl rfl rfl tq_1 rfl).trans (e_bI rfl fun r8 M7 => ?_)
    exact e_zret tq_1 rfl
set_option maxRecDepth 20000 in
theorem m_Cabinet_readLine_79_eq (x2 : Int) (w3 : pz_V) (M : pz_M) : m_Cabinet_readLine_79 x2 w3 M = grd (0 ≤ (M 32 2) ∧ (M 32 2) < 12) (bM (pz_wr M 33 (((M 32 2)).toNat) x2) fun M1 => m_Cabinet_readLine_91 (pzI x2) 0 M1) := by
  show pzr 5 1 (79, [pzR 32, pzR 29, pzI x2, w3], [], M) = _
  refine (pz_goes tq_1 5 (σ' := (88, [pzR 32, pzR 29, pzI x2, w3], [pzI x2, pzI (M 32 2), pzR 33], M)) rfl).trans ?_
  refine (e_iast (n := 12) rfl rfl tq_1 rfl).trans (e_grd ?_)
  refine e_bM (m := pz_wr M 33 (((M 32 2)).toNat) x2) (f := fun M1 => pzr 5 1 (89, [pzR 32, pzR 29, pzI x2, w3], [], M1)) (fun M1 => ?_)
  refine (pz_goes tq_1 2 (σ' := (91, [pzR 32, pzR 29, pzI x2, pzI 0], [], M1)) rfl).trans ?_
  rfl
set_option maxRecDepth 20000 in
theorem m_Cabinet_readLine_91_eq (w2 : pz_V) (x3 : Int) (M : pz_M) : m_Cabinet_readLine_91 w2 x3 M = if x3 < (M 32 3) then (bI (m_Cabinet_readMinister x3 M) fun r2 M1 => if r2 = 0 then some (some (pzI 0), M1) else (m_Cabinet_readLine_91 w2 (ia x3 (1)) M1)) else (bM (pz_wr M 32 2 (ia (M 32 2) 1)) fun M3 => some (some (pzI 1), M3)) := by
  show pzr 5 1 (91, [pzR 32, pzR 29, w2, pzI x3], [], M) = _
  refine (pz_goes tq_1 3 (σ' := (96, [pzR 32, pzR 29, w2, pzI x3], [pzI (M 32 3), pzI x3], M)) rfl).trans ?_
  refine (e_icmp_ge tq_1 rfl).trans (e_ite ?_ ?_)
  · refine (pz_goes tq_1 3 (σ' := (102, [pzR 32, pzR 29, w2, pzI x3], [pzI x3, pzR 29, pzR 32], M)) rfl).trans ?_
    refine (e_callI (as := [pzR 32, pzR 29, pzI x3, pzN]) (rest := []) (d' := 4) tq_2 rfl rfl rfl rfl rfl tq_1 rfl).trans (e_bI rfl fun r2 M1 => ?_)
    refine (e_if_ne tq_1 rfl).trans (e_ite ?_ ?_)
    · refine (pz_goes tq_1 1 (σ' := (109, [pzR 32, pzR 29, w2, pzI x3], [pzI 0], M1)) rfl).trans ?_
      exact (e_zret tq_1 rfl).trans (grd_pos (by decide))
    · refine (pz_goes tq_1 2 (σ' := (91, [pzR 32, pzR 29, w2, pzI (ia x3 (1))], [], M1)) rfl).trans ?_
      rfl
  · refine (pz_goes tq_1 5 (σ' := (123, [pzR 32, pzR 29, w2, pzI x3], [pzI (ia (M 32 2) 1), pzR 32], M)) rfl).trans ?_
    refine (e_putI rfl tq_1 rfl).trans ?_
    refine e_bM (f := fun M3 => pzr 5 1 (126, [pzR 32, pzR 29, w2, pzI x3], [], M3)) (fun M3 => ?_)
    refine (pz_goes tq_1 1 (σ' := (127, [pzR 32, pzR 29, w2, pzI x3], [pzI 1], M3)) rfl).trans ?_
    exact (e_zret tq_1 rfl).trans (grd_pos (by decide))
/-! PeacockDesk$Cabinet.readMinister(LPeacockDesk$Tape;I)Z -/
set_option maxRecDepth 20000 in
theorem m_Cabinet_readMinister_eq (x2 : Int) (M : pz_M) : m_Cabinet_readMinister x2 M = bI (m_Tape_peek M) fun r2 M1 => bI (m_Cabinet_isMinister (isb r2 97) M1) fun r4 M3 => if r4 = 0 then (bI (m_Tape_fail 1 M3) fun r6 M5 => grd (r6 = 0 ∨ r6 = 1) (some (some (pzI r6), M5))) else (bI (m_Cabinet_rankOf (M3 32 2) (isb r2 97) M3) fun r8 M7 => if r8 < 0 then (grd (0 ≤ (ia (imu (M7 32 2) 6) (isb r2 97)) ∧ (ia (imu (M7 32 2) 6) (isb r2 97)) < 72) (bM (pz_wr M7 34 (((ia (imu (M7 32 2) 6) (isb r2 97))).toNat) x2) fun M9 => bV (m_Tape_step M9) fun M10 => some (some (pzI 1), M10))) else (bI (m_Tape_fail 6 M7) fun r12 M11 => grd (r12 = 0 ∨ r12 = 1) (some (some (pzI r12), M11)))) := by
  show pzr 4 2 (0, [pzR 32, pzR 29, pzI x2, pzN], [], M) = _
  refine (pz_goes tq_2 1 (σ' := (1, [pzR 32, pzR 29, pzI x2, pzN], [pzR 29], M)) rfl).trans ?_
  refine (e_callI (as := [pzR 29]) (rest := []) (d' := 3) tq_66 rfl rfl rfl rfl rfl tq_2 rfl).trans (e_bI rfl fun r2 M1 => ?_)
  refine (pz_goes tq_2 5 (σ' := (10, [pzR 32, pzR 29, pzI x2, pzI (isb r2 97)], [pzI (isb r2 97), pzR 32], M1)) rfl).trans ?_
  refine (e_callI (as := [pzR 32, pzI (isb r2 97)]) (rest := []) (d' := 3) tq_3 rfl rfl rfl rfl rfl tq_2 rfl).trans (e_bI rfl fun r4 M3 => ?_)
  refine (e_if_ne tq_2 rfl).trans (e_ite ?_ ?_)
  · refine (pz_goes tq_2 2 (σ' := (18, [pzR 32, pzR 29, pzI x2, pzI (isb r2 97)], [pzI 1, pzR 29], M3)) rfl).trans ?_
    refine (e_callI (as := [pzR 29, pzI 1]) (rest := []) (d' := 3) tq_72 rfl rfl rfl rfl rfl tq_2 rfl).trans (e_bI rfl fun r6 M5 => ?_)
    exact e_zret tq_2 rfl
  · refine (pz_goes tq_2 4 (σ' := (28, [pzR 32, pzR 29, pzI x2, pzI (isb r2 97)], [pzI (isb r2 97), pzI (M3 32 2), pzR 32], M3)) rfl).trans ?_
    refine (e_callI (as := [pzR 32, pzI (M3 32 2), pzI (isb r2 97)]) (rest := []) (d' := 3) tq_4 rfl rfl rfl rfl rfl tq_2 rfl).trans (e_bI rfl fun r8 M7 => ?_)
    refine (e_if_lt tq_2 rfl).trans (e_ite ?_ ?_)
    · refine (pz_goes tq_2 9 (σ' := (55, [pzR 32, pzR 29, pzI x2, pzI (isb r2 97)], [pzI x2, pzI (ia (imu (M7 32 2) 6) (isb r2 97)), pzR 34], M7)) rfl).trans ?_
      refine (e_iast (n := 72) rfl rfl tq_2 rfl).trans (e_grd ?_)
      refine e_bM (m := pz_wr M7 34 (((ia (imu (M7 32 2) 6) (isb r2 97))).toNat) x2) (f := fun M9 => pzr 4 2 (56, [pzR 32, pzR 29, pzI x2, pzI (isb r2 97)], [], M9)) (fun M9 => ?_)
      refine (pz_goes tq_2 1 (σ' := (57, [pzR 32, pzR 29, pzI x2, pzI (isb r2 97)], [pzR 29], M9)) rfl).trans ?_
      refine (e_callV (as := [pzR 29]) (rest := []) (d' := 3) tq_67 rfl rfl rfl rfl rfl tq_2 rfl).trans (e_bV rfl fun M10 => ?_)
      refine (pz_goes tq_2 1 (σ' := (61, [pzR 32, pzR 29, pzI x2, pzI (isb r2 97)], [pzI 1], M10)) rfl).trans ?_
      exact (e_zret tq_2 rfl).trans (grd_pos (by decide))
    · refine (pz_goes tq_2 2 (σ' := (37, [pzR 32, pzR 29, pzI x2, pzI (isb r2 97)], [pzI 6, pzR 29], M7)) rfl).trans ?_
      refine (e_callI (as := [pzR 29, pzI 6]) (rest := []) (d' := 3) tq_72 rfl rfl rfl rfl rfl tq_2 rfl).trans (e_bI rfl fun r12 M11 => ?_)
      exact e_zret tq_2 rfl
/-! PeacockDesk$Cabinet.isMinister(I)Z -/
set_option maxRecDepth 20000 in
theorem m_Cabinet_isMinister_eq (x1 : Int) (M : pz_M) : m_Cabinet_isMinister x1 M = if x1 < 0 then some (some (pzI 0), M) else (if x1 < (M 32 3) then (if x1 < (6 : Int) then some (some (pzI 1), M) else (some (some (pzI 0), M))) else (some (some (pzI 0), M))) := by
  show pzr 3 3 (0, [pzR 32, pzI x1], [], M) = _
  refine (pz_goes tq_3 1 (σ' := (1, [pzR 32, pzI x1], [pzI x1], M)) rfl).trans ?_
  refine (e_if_lt tq_3 rfl).trans (e_ite ?_ ?_)
  · refine (pz_goes tq_3 1 (σ' := (23, [pzR 32, pzI x1], [pzI 0], M)) rfl).trans ?_
    exact (e_zret tq_3 rfl).trans (grd_pos (by decide))
  · refine (pz_goes tq_3 3 (σ' := (9, [pzR 32, pzI x1], [pzI (M 32 3), pzI x1], M)) rfl).trans ?_
    refine (e_icmp_ge tq_3 rfl).trans (e_ite ?_ ?_)
    · refine (pz_goes tq_3 2 (σ' := (15, [pzR 32, pzI x1], [pzI 6, pzI x1], M)) rfl).trans ?_
      refine (e_icmp_ge tq_3 rfl).trans (e_ite ?_ ?_)
      · refine (pz_goes tq_3 2 (σ' := (23, [pzR 32, pzI x1], [pzI 1], M)) rfl).trans ?_
        exact (e_zret tq_3 rfl).trans (grd_pos (by decide))
      · refine (pz_goes tq_3 1 (σ' := (23, [pzR 32, pzI x1], [pzI 0], M)) rfl).trans ?_
        exact (e_zret tq_3 rfl).trans (grd_pos (by decide))
    · refine (pz_goes tq_3 1 (σ' := (23, [pzR 32, pzI x1], [pzI 0], M)) rfl).trans ?_
      exact (e_zret tq_3 rfl).trans (grd_pos (by decide))
/-! PeacockDesk$Cabinet.rankOf(II)I -/
set_option maxRecDepth 20000 in
theorem m_Cabinet_rankOf_eq (x1 : Int) (x2 : Int) (M : pz_M) : m_Cabinet_rankOf x1 x2 M = grd (0 ≤ (ia (imu x1 6) x2) ∧ (ia (imu x1 6) x2) < 72) (some (some (pzI (M 34 (((ia (imu x1 6) x2)).toNat))), M)) := by
  show pzr 3 4 (0, [pzR 32, pzI x1, pzI x2], [], M) = _
  refine (pz_goes tq_4 7 (σ' := (10, [pzR 32, pzI x1, pzI x2], [pzI (ia (imu x1 6) x2), pzR 34], M)) rfl).trans ?_
  refine (e_iald (n := 72) rfl rfl tq_4 rfl).trans (e_grd ?_)
  exact e_iret tq_4 rfl
/-! PeacockDesk$Cabinet.answer(I)I -/
set_option maxRecDepth 20000 in
theorem m_Cabinet_answer_eq (x1 : Int) (M : pz_M) : m_Cabinet_answer x1 M = if x1 = 100 then (bI (m_Cabinet_allBallots M) fun r2 M1 => some (some (pzI r2), M1)) else (if x1 = 101 then (bI (m_Cabinet_byFirstPlaces M) fun r4 M3 => some (some (pzI r4), M3)) else (if x1 = 102 then (bI (m_Cabinet_byPoints M) fun r6 M5 => some (some (pzI r6), M5)) else (if x1 = 103 then (bI (m_Cabinet_byTwos M) fun r8 M7 => some (some (pzI r8), M7)) else (if x1 = 104 then (bI (m_Cabinet_byRounds M) fun r10 M9 => some (some (pzI r10), M9)) else (bI (m_Cabinet_isMinister x1 M) fun r12 M11 => if r12 = 0 then some (some (pzI (-1)), M11) else (bI (m_Cabinet_pointsOf x1 M11) fun r14 M13 => some (some (pzI r14), M13))))))) := by
  show pzr 7 5 (0, [pzR 32, pzI x1], [], M) = _
  refine (pz_goes tq_5 1 (σ' := (1, [pzR 32, pzI x1], [pzI x1], M)) rfl).trans ?_
  refine (e_sw tq_5 rfl).trans ?_
  refine e_sel.trans (e_ite ?_ ?_)
  · refine (pz_goes tq_5 1 (σ' := (37, [pzR 32, pzI x1], [pzR 32], M)) rfl).trans ?_
    refine (e_callI (as := [pzR 32, pzN, pzN]) (rest := []) (d' := 3) tq_6 rfl rfl rfl rfl rfl tq_5 rfl).trans (e_bI rfl fun r2 M1 => ?_)
    exact e_iret tq_5 rfl
  refine e_sel.trans (e_ite ?_ ?_)
  · refine (pz_goes tq_5 1 (σ' := (42, [pzR 32, pzI x1], [pzR 32], M)) rfl).trans ?_
    refine (e_callI (as := [pzR 32, pzN, pzN, pzN]) (rest := []) (d' := 5) tq_9 rfl rfl rfl rfl rfl tq_5 rfl).trans (e_bI rfl fun r4 M3 => ?_)
    exact e_iret tq_5 rfl
  refine e_sel.trans (e_ite ?_ ?_)
  · refine (pz_goes tq_5 1 (σ' := (47, [pzR 32, pzI x1], [pzR 32], M)) rfl).trans ?_
    refine (e_callI (as := [pzR 32, pzN, pzN]) (rest := []) (d' := 5) tq_8 rfl rfl rfl rfl rfl tq_5 rfl).trans (e_bI rfl fun r6 M5 => ?_)
    exact e_iret tq_5 rfl
  refine e_sel.trans (e_ite ?_ ?_)
  · refine (pz_goes tq_5 1 (σ' := (52, [pzR 32, pzI x1], [pzR 32], M)) rfl).trans ?_
    refine (e_callI (as := [pzR 32, pzN, pzN, pzN, pzN]) (rest := []) (d' := 5) tq_11 rfl rfl rfl rfl rfl tq_5 rfl).trans (e_bI rfl fun r8 M7 => ?_)
    exact e_iret tq_5 rfl
  refine e_sel.trans (e_ite ?_ ?_)
  · refine (pz_goes tq_5 1 (σ' := (57, [pzR 32, pzI x1], [pzR 32], M)) rfl).trans ?_
    refine (e_callI (as := [pzR 32, pzN, pzN]) (rest := []) (d' := 6) tq_12 rfl rfl rfl rfl rfl tq_5 rfl).trans (e_bI rfl fun r10 M9 => ?_)
    exact e_iret tq_5 rfl
  refine (show pzr 7 5 (pz_sel [] 61 x1, [pzR 32, pzI x1], [], M) = pzr 7 5 (61, [pzR 32, pzI x1], [], M) from rfl).trans ?_
  refine (pz_goes tq_5 2 (σ' := (63, [pzR 32, pzI x1], [pzI x1, pzR 32], M)) rfl).trans ?_
  refine (e_callI (as := [pzR 32, pzI x1]) (rest := []) (d' := 3) tq_3 rfl rfl rfl rfl rfl tq_5 rfl).trans (e_bI rfl fun r12 M11 => ?_)
  refine (e_if_eq tq_5 rfl).trans (e_ite ?_ ?_)
  · refine (pz_goes tq_5 1 (σ' := (78, [pzR 32, pzI x1], [pzI (-1)], M11)) rfl).trans ?_
    exact e_iret tq_5 rfl
  · refine (pz_goes tq_5 2 (σ' := (71, [pzR 32, pzI x1], [pzI x1, pzR 32], M11)) rfl).trans ?_
    refine (e_callI (as := [pzR 32, pzI x1, pzN, pzN]) (rest := []) (d' := 4) tq_7 rfl rfl rfl rfl rfl tq_5 rfl).trans (e_bI rfl fun r14 M13 => ?_)
    refine (pz_goes tq_5 1 (σ' := (78, [pzR 32, pzI x1], [pzI r14], M13)) rfl).trans ?_
    exact e_iret tq_5 rfl
/-! PeacockDesk$Cabinet.allBallots()I -/
set_option maxRecDepth 20000 in
theorem m_Cabinet_allBallots_eq (M : pz_M) : m_Cabinet_allBallots M = m_Cabinet_allBallots_4 0 0 M := by
  show pzr 3 6 (0, [pzR 32, pzN, pzN], [], M) = _
  refine (pz_goes tq_6 4 (σ' := (4, [pzR 32, pzI 0, pzI 0], [], M)) rfl).trans ?_
  rfl
set_option maxRecDepth 20000 in
theorem m_Cabinet_allBallots_4_eq (x1 : Int) (x2 : Int) (M : pz_M) : m_Cabinet_allBallots_4 x1 x2 M = if x2 < (M 32 2) then (grd (0 ≤ x2 ∧ x2 < 12) (m_Cabinet_allBallots_4 (ia x1 (M 33 ((x2).toNat))) (ia x2 (1)) M)) else (some (some (pzI x1), M)) := by
  show pzr 3 6 (4, [pzR 32, pzI x1, pzI x2], [], M) = _
  refine (pz_goes tq_6 3 (σ' := (9, [pzR 32, pzI x1, pzI x2], [pzI (M 32 2), pzI x2], M)) rfl).trans ?_
  refine (e_icmp_ge tq_6 rfl).trans (e_ite ?_ ?_)
  · refine (pz_goes tq_6 4 (σ' := (18, [pzR 32, pzI x1, pzI x2], [pzI x2, pzR 33, pzI x1], M)) rfl).trans ?_
    refine (e_iald (n := 12) rfl rfl tq_6 rfl).trans (e_grd ?_)
    refine (pz_goes tq_6 4 (σ' := (4, [pzR 32, pzI (ia x1 (M 33 ((x2).toNat))), pzI (ia x2 (1))], [], M)) rfl).trans ?_
    rfl
  · refine (pz_goes tq_6 1 (σ' := (28, [pzR 32, pzI x1, pzI x2], [pzI x1], M)) rfl).trans ?_
    exact e_iret tq_6 rfl
/-! PeacockDesk$Cabinet.pointsOf(I)I -/
set_option maxRecDepth 20000 in
theorem m_Cabinet_pointsOf_eq (x1 : Int) (M : pz_M) : m_Cabinet_pointsOf x1 M = m_Cabinet_pointsOf_4 x1 0 0 M := by
  show pzr 4 7 (0, [pzR 32, pzI x1, pzN, pzN], [], M) = _
  refine (pz_goes tq_7 4 (σ' := (4, [pzR 32, pzI x1, pzI 0, pzI 0], [], M)) rfl).trans ?_
  rfl
set_option maxRecDepth 20000 in
theorem m_Cabinet_pointsOf_4_eq (x1 : Int) (x2 : Int) (x3 : Int) (M : pz_M) : m_Cabinet_pointsOf_4 x1 x2 x3 M = if x3 < (M 32 2) then (grd (0 ≤ x3 ∧ x3 < 12) (bI (m_Cabinet_rankOf x3 x1 M) fun r2 M1 => m_Cabinet_pointsOf_4 x1 (ia x2 (imu (M 33 ((x3).toNat)) (isb (isb (M 32 3) 1) r2))) (ia x3 (1)) M1)) else (some (some (pzI x2), M)) := by
  show pzr 4 7 (4, [pzR 32, pzI x1, pzI x2, pzI x3], [], M) = _
  refine (pz_goes tq_7 3 (σ' := (9, [pzR 32, pzI x1, pzI x2, pzI x3], [pzI (M 32 2), pzI x3], M)) rfl).trans ?_
  refine (e_icmp_ge tq_7 rfl).trans (e_ite ?_ ?_)
  · refine (pz_goes tq_7 4 (σ' := (18, [pzR 32, pzI x1, pzI x2, pzI x3], [pzI x3, pzR 33, pzI x2], M)) rfl).trans ?_
    refine (e_iald (n := 12) rfl rfl tq_7 rfl).trans (e_grd ?_)
    refine (pz_goes tq_7 7 (σ' := (28, [pzR 32, pzI x1, pzI x2, pzI x3], [pzI x1, pzI x3, pzR 32, pzI (isb (M 32 3) 1), pzI (M 33 ((x3).toNat)), pzI x2], M)) rfl).trans ?_
    refine (e_callI (as := [pzR 32, pzI x3, pzI x1]) (rest := [pzI (isb (M 32 3) 1), pzI (M 33 ((x3).toNat)), pzI x2]) (d' := 3) tq_4 rfl rfl rfl rfl rfl tq_7 rfl).trans (e_bI rfl fun r2 M1 => ?_)
    refine (pz_goes tq_7 6 (σ' := (4, [pzR 32, pzI x1, pzI (ia x2 (imu (M 33 ((x3).toNat)) (isb (isb (M 32 3) 1) r2))), pzI (ia x3 (1))], [], M1)) rfl).trans ?_
    rfl
  · refine (pz_goes tq_7 1 (σ' := (42, [pzR 32, pzI x1, pzI x2, pzI x3], [pzI x2], M)) rfl).trans ?_
    exact e_iret tq_7 rfl
/-! PeacockDesk$Cabinet.byPoints()I -/
set_option maxRecDepth 20000 in
theorem m_Cabinet_byPoints_eq (M : pz_M) : m_Cabinet_byPoints M = m_Cabinet_byPoints_4 0 1 M := by
  show pzr 5 8 (0, [pzR 32, pzN, pzN], [], M) = _
  refine (pz_goes tq_8 4 (σ' := (4, [pzR 32, pzI 0, pzI 1], [], M)) rfl).trans ?_
  rfl
set_option maxRecDepth 20000 in
theorem m_Cabinet_byPoints_4_eq (x1 : Int) (x2 : Int) (M : pz_M) : m_Cabinet_byPoints_4 x1 x2 M = if x2 < (M 32 3) then (bI (m_Cabinet_pointsOf x2 M) fun r2 M1 => bI (m_Cabinet_pointsOf x1 M1) fun r4 M3 => if r4 < r2 then (m_Cabinet_byPoints_4 x2 (ia x2 (1)) M3) else (m_Cabinet_byPoints_4 x1 (ia x2 (1)) M3)) else (some (some (pzI x1), M)) := by
  show pzr 5 8 (4, [pzR 32, pzI x1, pzI x2], [], M) = _
  refine (pz_goes tq_8 3 (σ' := (9, [pzR 32, pzI x1, pzI x2], [pzI (M 32 3), pzI x2], M)) rfl).trans ?_
  refine (e_icmp_ge tq_8 rfl).trans (e_ite ?_ ?_)
  · refine (pz_goes tq_8 2 (σ' := (14, [pzR 32, pzI x1, pzI x2], [pzI x2, pzR 32], M)) rfl).trans ?_
    refine (e_callI (as := [pzR 32, pzI x2, pzN, pzN]) (rest := []) (d' := 4) tq_7 rfl rfl rfl rfl rfl tq_8 rfl).trans (e_bI rfl fun r2 M1 => ?_)
    refine (pz_goes tq_8 2 (σ' := (19, [pzR 32, pzI x1, pzI x2], [pzI x1, pzR 32, pzI r2], M1)) rfl).trans ?_
    refine (e_callI (as := [pzR 32, pzI x1, pzN, pzN]) (rest := [pzI r2]) (d' := 4) tq_7 rfl rfl rfl rfl rfl tq_8 rfl).trans (e_bI rfl fun r4 M3 => ?_)
    refine (e_icmp_le tq_8 rfl).trans (e_ite ?_ ?_)
    · refine (pz_goes tq_8 4 (σ' := (4, [pzR 32, pzI x2, pzI (ia x2 (1))], [], M3)) rfl).trans ?_
      rfl
    · refine (pz_goes tq_8 2 (σ' := (4, [pzR 32, pzI x1, pzI (ia x2 (1))], [], M3)) rfl).trans ?_
      rfl
  · refine (pz_goes tq_8 1 (σ' := (34, [pzR 32, pzI x1, pzI x2], [pzI x1], M)) rfl).trans ?_
    exact e_iret tq_8 rfl
/-! PeacockDesk$Cabinet.byFirstPlaces()I -/
set_option maxRecDepth 20000 in
theorem m_Cabinet_byFirstPlaces_eq (M : pz_M) : m_Cabinet_byFirstPlaces M = m_Cabinet_byFirstPlaces_13 (isb (ihl 1 (M 32 3)) 1) 0 1 M := by
  show pzr 5 9 (0, [pzR 32, pzN, pzN, pzN], [], M) = _
  refine (pz_goes tq_9 11 (σ' := (13, [pzR 32, pzI (isb (ihl 1 (M 32 3)) 1), pzI 0, pzI 1], [], M)) rfl).trans ?_
  rfl
set_option maxRecDepth 20000 in
theorem m_Cabinet_byFirstPlaces_13_eq (x1 : Int) (x2 : Int) (x3 : Int) (M : pz_M) : m_Cabinet_byFirstPlaces_13 x1 x2 x3 M = if x3 < (M 32 3) then (bI (m_Cabinet_firstsOf x3 x1 M) fun r2 M1 => bI (m_Cabinet_firstsOf x2 x1 M1) fun r4 M3 => if r4 < r2 then (m_Cabinet_byFirstPlaces_13 x1 x3 (ia x3 (1)) M3) else (m_Cabinet_byFirstPlaces_13 x1 x2 (ia x3 (1)) M3)) else (some (some (pzI x2), M)) := by
  show pzr 5 9 (13, [pzR 32, pzI x1, pzI x2, pzI x3], [], M) = _
  refine (pz_goes tq_9 3 (σ' := (18, [pzR 32, pzI x1, pzI x2, pzI x3], [pzI (M 32 3), pzI x3], M)) rfl).trans ?_
  refine (e_icmp_ge tq_9 rfl).trans (e_ite ?_ ?_)
  · refine (pz_goes tq_9 3 (σ' := (24, [pzR 32, pzI x1, pzI x2, pzI x3], [pzI x1, pzI x3, pzR 32], M)) rfl).trans ?_
    refine (e_callI (as := [pzR 32, pzI x3, pzI x1, pzN, pzN, pzN, pzN, pzN]) (rest := []) (d' := 4) tq_10 rfl rfl rfl rfl rfl tq_9 rfl).trans (e_bI rfl fun r2 M1 => ?_)
    refine (pz_goes tq_9 3 (σ' := (30, [pzR 32, pzI x1, pzI x2, pzI x3], [pzI x1, pzI x2, pzR 32, pzI r2], M1)) rfl).trans ?_
    refine (e_callI (as := [pzR 32, pzI x2, pzI x1, pzN, pzN, pzN, pzN, pzN]) (rest := [pzI r2]) (d' := 4) tq_10 rfl rfl rfl rfl rfl tq_9 rfl).trans (e_bI rfl fun r4 M3 => ?_)
    refine (e_icmp_le tq_9 rfl).trans (e_ite ?_ ?_)
    · refine (pz_goes tq_9 4 (σ' := (13, [pzR 32, pzI x1, pzI x3, pzI (ia x3 (1))], [], M3)) rfl).trans ?_
      rfl
    · refine (pz_goes tq_9 2 (σ' := (13, [pzR 32, pzI x1, pzI x2, pzI (ia x3 (1))], [], M3)) rfl).trans ?_
      rfl
  · refine (pz_goes tq_9 1 (σ' := (45, [pzR 32, pzI x1, pzI x2, pzI x3], [pzI x2], M)) rfl).trans ?_
    exact e_iret tq_9 rfl
/-! PeacockDesk$Cabinet.firstsOf(II)I -/
set_option maxRecDepth 20000 in
theorem m_Cabinet_firstsOf_eq (x1 : Int) (x2 : Int) (M : pz_M) : m_Cabinet_firstsOf x1 x2 M = m_Cabinet_firstsOf_5 x1 x2 0 0 pzN pzN pzN M := by
  show pzr 4 10 (0, [pzR 32, pzI x1, pzI x2, pzN, pzN, pzN, pzN, pzN], [], M) = _
  refine (pz_goes tq_10 4 (σ' := (5, [pzR 32, pzI x1, pzI x2, pzI 0, pzI 0, pzN, pzN, pzN], [], M)) rfl).trans ?_
  rfl
set_option maxRecDepth 20000 in
theorem m_Cabinet_firstsOf_5_eq (x1 : Int) (x2 : Int) (x3 : Int) (x4 : Int) (w5 : pz_V) (w6 : pz_V) (w7 : pz_V) (M : pz_M) : m_Cabinet_firstsOf_5 x1 x2 x3 x4 w5 w6 w7 M = if x4 < (M 32 2) then (m_Cabinet_firstsOf_20 x1 x2 x3 x4 1 0 w7 M) else (some (some (pzI x3), M)) := by
  show pzr 4 10 (5, [pzR 32, pzI x1, pzI x2, pzI x3, pzI x4, w5, w6, w7], [], M) = _
  refine (pz_goes tq_10 3 (σ' := (11, [pzR 32, pzI x1, pzI x2, pzI x3, pzI x4, w5, w6, w7], [pzI (M 32 2), pzI x4], M)) rfl).trans ?_
  refine (e_icmp_ge tq_10 rfl).trans (e_ite ?_ ?_)
  · refine (pz_goes tq_10 4 (σ' := (20, [pzR 32, pzI x1, pzI x2, pzI x3, pzI x4, pzI 1, pzI 0, w7], [], M)) rfl).trans ?_
    rfl
  · refine (pz_goes tq_10 1 (σ' := (113, [pzR 32, pzI x1, pzI x2, pzI x3, pzI x4, w5, w6, w7], [pzI x3], M)) rfl).trans ?_
    exact e_iret tq_10 rfl
set_option maxRecDepth 20000 in
theorem m_Cabinet_firstsOf_20_eq (x1 : Int) (x2 : Int) (x3 : Int) (x4 : Int) (x5 : Int) (x6 : Int) (w7 : pz_V) (M : pz_M) : m_Cabinet_firstsOf_20 x1 x2 x3 x4 x5 x6 w7 M = if x6 < (M 32 3) then (if (ian (ihr x2 x6) 1) = (1 : Int) then (m_Cabinet_firstsOf_44 x1 x2 x3 x4 x5 x6 w7 1 M) else (m_Cabinet_firstsOf_44 x1 x2 x3 x4 x5 x6 w7 0 M)) else (if x5 = 0 then (m_Cabinet_firstsOf_5 x1 x2 (ia x3 0) (ia x4 (1)) (pzI x5) (pzI x6) w7 M) else (grd (0 ≤ x4 ∧ x4 < 12) (m_Cabinet_firstsOf_5 x1 x2 (ia x3 (M 33 ((x4).toNat))) (ia x4 (1)) (pzI x5) (pzI x6) w7 M))) := by
  show pzr 4 10 (20, [pzR 32, pzI x1, pzI x2, pzI x3, pzI x4, pzI x5, pzI x6, w7], [], M) = _
  refine (pz_goes tq_10 3 (σ' := (26, [pzR 32, pzI x1, pzI x2, pzI x3, pzI x4, pzI x5, pzI x6, w7], [pzI (M 32 3), pzI x6], M)) rfl).trans ?_
  refine (e_icmp_ge tq_10 rfl).trans (e_ite ?_ ?_)
  · refine (pz_goes tq_10 6 (σ' := (36, [pzR 32, pzI x1, pzI x2, pzI x3, pzI x4, pzI x5, pzI x6, w7], [pzI 1, pzI (ian (ihr x2 x6) 1)], M)) rfl).trans ?_
    refine (e_icmp_ne tq_10 rfl).trans (e_ite ?_ ?_)
    · refine (pz_goes tq_10 2 (σ' := (44, [pzR 32, pzI x1, pzI x2, pzI x3, pzI x4, pzI x5, pzI x6, w7], [pzI 1], M)) rfl).trans ?_
      rfl
    · refine (pz_goes tq_10 1 (σ' := (44, [pzR 32, pzI x1, pzI x2, pzI x3, pzI x4, pzI x5, pzI x6, w7], [pzI 0], M)) rfl).trans ?_
      rfl
  · refine (pz_goes tq_10 2 (σ' := (90, [pzR 32, pzI x1, pzI x2, pzI x3, pzI x4, pzI x5, pzI x6, w7], [pzI x5, pzI x3], M)) rfl).trans ?_
    refine (e_if_eq tq_10 rfl).trans (e_ite ?_ ?_)
    · refine (pz_goes tq_10 5 (σ' := (5, [pzR 32, pzI x1, pzI x2, pzI (ia x3 0), pzI (ia x4 (1)), pzI x5, pzI x6, w7], [], M)) rfl).trans ?_
      rfl
    · refine (pz_goes tq_10 3 (σ' := (99, [pzR 32, pzI x1, pzI x2, pzI x3, pzI x4, pzI x5, pzI x6, w7], [pzI x4, pzR 33, pzI x3], M)) rfl).trans ?_
      refine (e_iald (n := 12) rfl rfl tq_10 rfl).trans (e_grd ?_)
      refine (pz_goes tq_10 5 (σ' := (5, [pzR 32, pzI x1, pzI x2, pzI (ia x3 (M 33 ((x4).toNat))), pzI (ia x4 (1)), pzI x5, pzI x6, w7], [], M)) rfl).trans ?_
      rfl
set_option maxRecDepth 20000 in
theorem m_Cabinet_firstsOf_44_eq (x1 : Int) (x2 : Int) (x3 : Int) (x4 : Int) (x5 : Int) (x6 : Int) (w7 : pz_V) (s0 : Int) (M : pz_M) : m_Cabinet_firstsOf_44 x1 x2 x3 x4 x5 x6 w7 s0 M = if x5 = 0 then (m_Cabinet_firstsOf_20 x1 x2 x3 x4 0 (ia x6 (1)) (pzI s0) M) else (if s0 = 0 then (m_Cabinet_firstsOf_20 x1 x2 x3 x4 1 (ia x6 (1)) (pzI s0) M) else (bI (m_Cabinet_rankOf x4 x6 M) fun r2 M1 => bI (m_Cabinet_rankOf x4 x1 M1) fun r4 M3 => if r2 < r4 then (m_Cabinet_firstsOf_20 x1 x2 x3 x4 0 (ia x6 (1)) (pzI s0) M3) else (m_Cabinet_firstsOf_20 x1 x2 x3 x4 1 (ia x6 (1)) (pzI s0) M3))) := by
  show pzr 4 10 (44, [pzR 32, pzI x1, pzI x2, pzI x3, pzI x4, pzI x5, pzI x6, w7], [pzI s0], M) = _
  refine (pz_goes tq_10 2 (σ' := (48, [pzR 32, pzI x1, pzI x2, pzI x3, pzI x4, pzI x5, pzI x6, pzI s0], [pzI x5], M)) rfl).trans ?_
  refine (e_if_eq tq_10 rfl).trans (e_ite ?_ ?_)
  · refine (pz_goes tq_10 4 (σ' := (20, [pzR 32, pzI x1, pzI x2, pzI x3, pzI x4, pzI 0, pzI (ia x6 (1)), pzI s0], [], M)) rfl).trans ?_
    rfl
  · refine (pz_goes tq_10 1 (σ' := (53, [pzR 32, pzI x1, pzI x2, pzI x3, pzI x4, pzI x5, pzI x6, pzI s0], [pzI s0], M)) rfl).trans ?_
    refine (e_if_eq tq_10 rfl).trans (e_ite ?_ ?_)
    · refine (pz_goes tq_10 5 (σ' := (20, [pzR 32, pzI x1, pzI x2, pzI x3, pzI x4, pzI 1, pzI (ia x6 (1)), pzI s0], [], M)) rfl).trans ?_
      rfl
    · refine (pz_goes tq_10 3 (σ' := (61, [pzR 32, pzI x1, pzI x2, pzI x3, pzI x4, pzI x5, pzI x6, pzI s0], [pzI x6, pzI x4, pzR 32], M)) rfl).trans ?_
      refine (e_callI (as := [pzR 32, pzI x4, pzI x6]) (rest := []) (d' := 3) tq_4 rfl rfl rfl rfl rfl tq_10 rfl).trans (e_bI rfl fun r2 M1 => ?_)
      refine (pz_goes tq_10 3 (σ' := (68, [pzR 32, pzI x1, pzI x2, pzI x3, pzI x4, pzI x5, pzI x6, pzI s0], [pzI x1, pzI x4, pzR 32, pzI r2], M1)) rfl).trans ?_
      refine (e_callI (as := [pzR 32, pzI x4, pzI x1]) (rest := [pzI r2]) (d' := 3) tq_4 rfl rfl rfl rfl rfl tq_10 rfl).trans (e_bI rfl fun r4 M3 => ?_)
      refine (e_icmp_lt tq_10 rfl).trans (e_ite ?_ ?_)
      · refine (pz_goes tq_10 4 (σ' := (20, [pzR 32, pzI x1, pzI x2, pzI x3, pzI x4, pzI 0, pzI (ia x6 (1)), pzI s0], [], M3)) rfl).trans ?_
        rfl
      · refine (pz_goes tq_10 5 (σ' := (20, [pzR 32, pzI x1, pzI x2, pzI x3, pzI x4, pzI 1, pzI (ia x6 (1)), pzI s0], [], M3)) rfl).trans ?_
        rfl
/-! PeacockDesk$Cabinet.byTwos()I -/
set_option maxRecDepth 20000 in
theorem m_Cabinet_byTwos_eq (M : pz_M) : m_Cabinet_byTwos M = bI (m_Cabinet_allBallots M) fun r2 M1 => m_Cabinet_byTwos_7 r2 0 pzN pzN M1 := by
  show pzr 5 11 (0, [pzR 32, pzN, pzN, pzN, pzN], [], M) = _
  refine (pz_goes tq_11 1 (σ' := (1, [pzR 32, pzN, pzN, pzN, pzN], [pzR 32], M)) rfl).trans ?_
  refine (e_callI (as := [pzR 32, pzN, pzN]) (rest := []) (d' := 3) tq_6 rfl rfl rfl rfl rfl tq_11 rfl).trans (e_bI rfl fun r2 M1 => ?_)
  refine (pz_goes tq_11 3 (σ' := (7, [pzR 32, pzI r2, pzI 0, pzN, pzN], [], M1)) rfl).trans ?_
  rfl
set_option maxRecDepth 20000 in
theorem m_Cabinet_byTwos_7_eq (x1 : Int) (x2 : Int) (w3 : pz_V) (w4 : pz_V) (M : pz_M) : m_Cabinet_byTwos_7 x1 x2 w3 w4 M = if x2 < (M 32 3) then (m_Cabinet_byTwos_20 x1 x2 1 0 M) else (some (some (pzI (-2)), M)) := by
  show pzr 5 11 (7, [pzR 32, pzI x1, pzI x2, w3, w4], [], M) = _
  refine (pz_goes tq_11 3 (σ' := (12, [pzR 32, pzI x1, pzI x2, w3, w4], [pzI (M 32 3), pzI x2], M)) rfl).trans ?_
  refine (e_icmp_ge tq_11 rfl).trans (e_ite ?_ ?_)
  · refine (pz_goes tq_11 4 (σ' := (20, [pzR 32, pzI x1, pzI x2, pzI 1, pzI 0], [], M)) rfl).trans ?_
    rfl
  · refine (pz_goes tq_11 1 (σ' := (80, [pzR 32, pzI x1, pzI x2, w3, w4], [pzI (-2)], M)) rfl).trans ?_
    exact e_iret tq_11 rfl
set_option maxRecDepth 20000 in
theorem m_Cabinet_byTwos_20_eq (x1 : Int) (x2 : Int) (x3 : Int) (x4 : Int) (M : pz_M) : m_Cabinet_byTwos_20 x1 x2 x3 x4 M = if x4 < (M 32 3) then (if x3 = 0 then (m_Cabinet_byTwos_20 x1 x2 0 (ia x4 (1)) M) else (if x4 = x2 then (m_Cabinet_byTwos_20 x1 x2 1 (ia x4 (1)) M) else (bI (m_Cabinet_firstsOf x2 (ihl 1 x4) M) fun r2 M1 => if x1 < (imu 2 r2) then (m_Cabinet_byTwos_20 x1 x2 1 (ia x4 (1)) M1) else (m_Cabinet_byTwos_20 x1 x2 0 (ia x4 (1)) M1)))) else (if x3 = 0 then (m_Cabinet_byTwos_7 x1 (ia x2 (1)) (pzI x3) (pzI x4) M) else (some (some (pzI x2), M))) := by
  show pzr 5 11 (20, [pzR 32, pzI x1, pzI x2, pzI x3, pzI x4], [], M) = _
  refine (pz_goes tq_11 3 (σ' := (26, [pzR 32, pzI x1, pzI x2, pzI x3, pzI x4], [pzI (M 32 3), pzI x4], M)) rfl).trans ?_
  refine (e_icmp_ge tq_11 rfl).trans (e_ite ?_ ?_)
  · refine (pz_goes tq_11 1 (σ' := (30, [pzR 32, pzI x1, pzI x2, pzI x3, pzI x4], [pzI x3], M)) rfl).trans ?_
    refine (e_if_eq tq_11 rfl).trans (e_ite ?_ ?_)
    · refine (pz_goes tq_11 4 (σ' := (20, [pzR 32, pzI x1, pzI x2, pzI 0, pzI (ia x4 (1))], [], M)) rfl).trans ?_
      rfl
    · refine (pz_goes tq_11 2 (σ' := (36, [pzR 32, pzI x1, pzI x2, pzI x3, pzI x4], [pzI x2, pzI x4], M)) rfl).trans ?_
      refine (e_icmp_eq tq_11 rfl).trans (e_ite ?_ ?_)
      · refine (pz_goes tq_11 5 (σ' := (20, [pzR 32, pzI x1, pzI x2, pzI 1, pzI (ia x4 (1))], [], M)) rfl).trans ?_
        rfl
      · refine (pz_goes tq_11 6 (σ' := (46, [pzR 32, pzI x1, pzI x2, pzI x3, pzI x4], [pzI (ihl 1 x4), pzI x2, pzR 32, pzI 2], M)) rfl).trans ?_
        refine (e_callI (as := [pzR 32, pzI x2, pzI (ihl 1 x4), pzN, pzN, pzN, pzN, pzN]) (rest := [pzI 2]) (d' := 4) tq_10 rfl rfl rfl rfl rfl tq_11 rfl).trans (e_bI rfl fun r2 M1 => ?_)
        refine (pz_goes tq_11 2 (σ' := (51, [pzR 32, pzI x1, pzI x2, pzI x3, pzI x4], [pzI x1, pzI (imu 2 r2)], M1)) rfl).trans ?_
        refine (e_icmp_le tq_11 rfl).trans (e_ite ?_ ?_)
        · refine (pz_goes tq_11 5 (σ' := (20, [pzR 32, pzI x1, pzI x2, pzI 1, pzI (ia x4 (1))], [], M1)) rfl).trans ?_
          rfl
        · refine (pz_goes tq_11 4 (σ' := (20, [pzR 32, pzI x1, pzI x2, pzI 0, pzI (ia x4 (1))], [], M1)) rfl).trans ?_
          rfl
  · refine (pz_goes tq_11 1 (σ' := (67, [pzR 32, pzI x1, pzI x2, pzI x3, pzI x4], [pzI x3], M)) rfl).trans ?_
    refine (e_if_eq tq_11 rfl).trans (e_ite ?_ ?_)
    · refine (pz_goes tq_11 2 (σ' := (7, [pzR 32, pzI x1, pzI (ia x2 (1)), pzI x3, pzI x4], [], M)) rfl).trans ?_
      rfl
    · refine (pz_goes tq_11 1 (σ' := (71, [pzR 32, pzI x1, pzI x2, pzI x3, pzI x4], [pzI x2], M)) rfl).trans ?_
      exact e_iret tq_11 rfl
/-! PeacockDesk$Cabinet.byRounds()I -/
set_option maxRecDepth 20000 in
theorem m_Cabinet_byRounds_eq (M : pz_M) : m_Cabinet_byRounds M = m_Cabinet_byRounds_11 (isb (ihl 1 (M 32 3)) 1) 1 M := by
  show pzr 6 12 (0, [pzR 32, pzN, pzN], [], M) = _
  refine (pz_goes tq_12 9 (σ' := (11, [pzR 32, pzI (isb (ihl 1 (M 32 3)) 1), pzI 1], [], M)) rfl).trans ?_
  rfl
set_option maxRecDepth 20000 in
theorem m_Cabinet_byRounds_11_eq (x1 : Int) (x2 : Int) (M : pz_M) : m_Cabinet_byRounds_11 x1 x2 M = if x2 < (M 32 3) then (bI (m_Cabinet_fewestOf x1 M) fun r2 M1 => m_Cabinet_byRounds_11 (ian x1 (ixo (ihl 1 r2) (-1))) (ia x2 (1)) M1) else (bI (m_Integer_numberOfTrailingZeros x1 M) fun r4 M3 => some (some (pzI r4), M3)) := by
  show pzr 6 12 (11, [pzR 32, pzI x1, pzI x2], [], M) = _
  refine (pz_goes tq_12 3 (σ' := (16, [pzR 32, pzI x1, pzI x2], [pzI (M 32 3), pzI x2], M)) rfl).trans ?_
  refine (e_icmp_ge tq_12 rfl).trans (e_ite ?_ ?_)
  · refine (pz_goes tq_12 4 (σ' := (23, [pzR 32, pzI x1, pzI x2], [pzI x1, pzR 32, pzI 1, pzI x1], M)) rfl).trans ?_
    refine (e_callI (as := [pzR 32, pzI x1, pzN, pzN, pzN]) (rest := [pzI 1, pzI x1]) (d' := 5) tq_13 rfl rfl rfl rfl rfl tq_12 rfl).trans (e_bI rfl fun r2 M1 => ?_)
    refine (pz_goes tq_12 7 (σ' := (11, [pzR 32, pzI (ian x1 (ixo (ihl 1 r2) (-1))), pzI (ia x2 (1))], [], M1)) rfl).trans ?_
    rfl
  · refine (pz_goes tq_12 1 (σ' := (38, [pzR 32, pzI x1, pzI x2], [pzI x1], M)) rfl).trans ?_
    refine (e_callI (as := [pzI x1, pzN]) (rest := []) (d' := 3) tq_131 rfl rfl rfl rfl rfl tq_12 rfl).trans (e_bI rfl fun r4 M3 => ?_)
    exact e_iret tq_12 rfl
/-! PeacockDesk$Cabinet.fewestOf(I)I -/
set_option maxRecDepth 20000 in
theorem m_Cabinet_fewestOf_eq (x1 : Int) (M : pz_M) : m_Cabinet_fewestOf x1 M = bI (m_Cabinet_allBallots M) fun r2 M1 => m_Cabinet_fewestOf_10 x1 0 r2 0 M1 := by
  show pzr 5 13 (0, [pzR 32, pzI x1, pzN, pzN, pzN], [], M) = _
  refine (pz_goes tq_13 3 (σ' := (3, [pzR 32, pzI x1, pzI 0, pzN, pzN], [pzR 32], M)) rfl).trans ?_
  refine (e_callI (as := [pzR 32, pzN, pzN]) (rest := []) (d' := 3) tq_6 rfl rfl rfl rfl rfl tq_13 rfl).trans (e_bI rfl fun r2 M1 => ?_)
  refine (pz_goes tq_13 3 (σ' := (10, [pzR 32, pzI x1, pzI 0, pzI r2, pzI 0], [], M1)) rfl).trans ?_
  rfl
set_option maxRecDepth 20000 in
theorem m_Cabinet_fewestOf_10_eq (x1 : Int) (x2 : Int) (x3 : Int) (x4 : Int) (M : pz_M) : m_Cabinet_fewestOf_10 x1 x2 x3 x4 M = if x4 < (M 32 3) then (if (ian (ihr x1 x4) 1) = (1 : Int) then (bI (m_Cabinet_firstsOf x4 x1 M) fun r2 M1 => if x3 < r2 then (m_Cabinet_fewestOf_10 x1 x2 x3 (ia x4 (1)) M1) else (bI (m_Cabinet_firstsOf x4 x1 M1) fun r4 M3 => m_Cabinet_fewestOf_10 x1 x4 r4 (ia x4 (1)) M3)) else (m_Cabinet_fewestOf_10 x1 x2 x3 (ia x4 (1)) M)) else (some (some (pzI x2), M)) := by
  show pzr 5 13 (10, [pzR 32, pzI x1, pzI x2, pzI x3, pzI x4], [], M) = _
  refine (pz_goes tq_13 3 (σ' := (16, [pzR 32, pzI x1, pzI x2, pzI x3, pzI x4], [pzI (M 32 3), pzI x4], M)) rfl).trans ?_
  refine (e_icmp_ge tq_13 rfl).trans (e_ite ?_ ?_)
  · refine (pz_goes tq_13 6 (σ' := (26, [pzR 32, pzI x1, pzI x2, pzI x3, pzI x4], [pzI 1, pzI (ian (ihr x1 x4) 1)], M)) rfl).trans ?_
    refine (e_icmp_ne tq_13 rfl).trans (e_ite ?_ ?_)
    · refine (pz_goes tq_13 3 (σ' := (33, [pzR 32, pzI x1, pzI x2, pzI x3, pzI x4], [pzI x1, pzI x4, pzR 32], M)) rfl).trans ?_
      refine (e_callI (as := [pzR 32, pzI x4, pzI x1, pzN, pzN, pzN, pzN, pzN]) (rest := []) (d' := 4) tq_10 rfl rfl rfl rfl rfl tq_13 rfl).trans (e_bI rfl fun r2 M1 => ?_)
      refine (pz_goes tq_13 1 (σ' := (37, [pzR 32, pzI x1, pzI x2, pzI x3, pzI x4], [pzI x3, pzI r2], M1)) rfl).trans ?_
      refine (e_icmp_gt tq_13 rfl).trans (e_ite ?_ ?_)
      · refine (pz_goes tq_13 2 (σ' := (10, [pzR 32, pzI x1, pzI x2, pzI x3, pzI (ia x4 (1))], [], M1)) rfl).trans ?_
        rfl
      · refine (pz_goes tq_13 5 (σ' := (47, [pzR 32, pzI x1, pzI x4, pzI x3, pzI x4], [pzI x1, pzI x4, pzR 32], M1)) rfl).trans ?_
        refine (e_callI (as := [pzR 32, pzI x4, pzI x1, pzN, pzN, pzN, pzN, pzN]) (rest := []) (d' := 4) tq_10 rfl rfl rfl rfl rfl tq_13 rfl).trans (e_bI rfl fun r4 M3 => ?_)
        refine (pz_goes tq_13 3 (σ' := (10, [pzR 32, pzI x1, pzI x4, pzI r4, pzI (ia x4 (1))], [], M3)) rfl).trans ?_
        rfl
    · refine (pz_goes tq_13 2 (σ' := (10, [pzR 32, pzI x1, pzI x2, pzI x3, pzI (ia x4 (1))], [], M)) rfl).trans ?_
      rfl
  · refine (pz_goes tq_13 1 (σ' := (58, [pzR 32, pzI x1, pzI x2, pzI x3, pzI x4], [pzI x2], M)) rfl).trans ?_
    exact e_iret tq_13 rfl
/-! PeacockDesk$Docket.readFrom(LPeacockDesk$Tape;)Z -/
set_option maxRecDepth 20000 in
theorem m_Docket_readFrom_eq (k0 : Nat) (M : pz_M) (h0 : pz_cls k0 = 1) : m_Docket_readFrom k0 M = bM (pz_wr M k0 5 0) fun M1 => bV (m_Arrays_fill (k0 + 5) 12 M1) fun M2 => m_Docket_readFrom_16 k0 0 M2 := by
  show pzr 6 14 (0, [pzR k0, pzR 29, pzN], [], M) = _
  refine (pz_goes tq_14 2 (σ' := (2, [pzR k0, pzR 29, pzN], [pzI 0, pzR k0], M)) rfl).trans ?_
  refine (e_putI h0 tq_14 rfl).trans ?_
  refine e_bM (f := fun M1 => pzr 6 14 (5, [pzR k0, pzR 29, pzN], [], M1)) (fun M1 => ?_)
  refine (pz_goes tq_14 1 (σ' := (6, [pzR k0, pzR 29, pzN], [pzR k0], M1)) rfl).trans ?_
  refine (e_getR h0 (ar_1_4 h0) tq_14 rfl).trans ?_
  refine (pz_goes tq_14 1 (σ' := (11, [pzR k0, pzR 29, pzN], [pzI 12, pzR (k0 + 5)], M1)) rfl).trans ?_
  refine (e_callV (as := [pzR (k0 + 5), pzI 12, pzN, pzN]) (rest := []) (d' := 3) tq_132 rfl rfl rfl rfl rfl tq_14 rfl).trans (e_bV rfl fun M2 => ?_)
  refine (pz_goes tq_14 2 (σ' := (16, [pzR k0, pzR 29, pzI 0], [], M2)) rfl).trans ?_
  rfl
set_option maxRecDepth 20000 in
theorem m_Docket_readFrom_16_eq (k0 : Nat) (x2 : Int) (M : pz_M) (h0 : pz_cls k0 = 1) : m_Docket_readFrom_16 k0 x2 M = if (24 : Int) < x2 then some (some (pzI 0), M) else (bI (m_Docket_readLine k0 M) fun r2 M1 => if r2 = 0 then some (some (pzI 0), M1) else (bI (m_Tape_atEnd M1) fun r4 M3 => if r4 = 0 then (bI (m_Tape_pass 59 M3) fun r6 M5 => if r6 = 0 then some (some (pzI 0), M5) else (m_Docket_readFrom_16 k0 (ia x2 (1)) M5)) else (some (some (pzI 1), M3)))) := by
  show pzr 6 14 (16, [pzR k0, pzR 29, pzI x2], [], M) = _
  refine (pz_goes tq_14 2 (σ' := (19, [pzR k0, pzR 29, pzI x2], [pzI 24, pzI x2], M)) rfl).trans ?_
  refine (e_icmp_gt tq_14 rfl).trans (e_ite ?_ ?_)
  · refine (pz_goes tq_14 1 (σ' := (59, [pzR k0, pzR 29, pzI x2], [pzI 0], M)) rfl).trans ?_
    exact (e_zret tq_14 rfl).trans (grd_pos (by decide))
  · refine (pz_goes tq_14 2 (σ' := (24, [pzR k0, pzR 29, pzI x2], [pzR 29, pzR k0], M)) rfl).trans ?_
    refine (e_callI (as := [pzR k0, pzR 29, pzN, pzN]) (rest := []) (d' := 5) tq_15 rfl (e_cokS rfl rfl h0) rfl rfl rfl tq_14 rfl).trans (e_bI rfl fun r2 M1 => ?_)
    refine (e_if_ne tq_14 rfl).trans (e_ite ?_ ?_)
    · refine (pz_goes tq_14 1 (σ' := (31, [pzR k0, pzR 29, pzI x2], [pzI 0], M1)) rfl).trans ?_
      exact (e_zret tq_14 rfl).trans (grd_pos (by decide))
    · refine (pz_goes tq_14 1 (σ' := (33, [pzR k0, pzR 29, pzI x2], [pzR 29], M1)) rfl).trans ?_
      refine (e_callI (as := [pzR 29]) (rest := []) (d' := 3) tq_65 rfl rfl rfl rfl rfl tq_14 rfl).trans (e_bI rfl fun r4 M3 => ?_)
      refine (e_if_eq tq_14 rfl).trans (e_ite ?_ ?_)
      · refine (pz_goes tq_14 2 (σ' := (44, [pzR k0, pzR 29, pzI x2], [pzI 59, pzR 29], M3)) rfl).trans ?_
        refine (e_callI (as := [pzR 29, pzI 59]) (rest := []) (d' := 4) tq_68 rfl rfl rfl rfl rfl tq_14 rfl).trans (e_bI rfl fun r6 M5 => ?_)
        refine (e_if_ne tq_14 rfl).trans (e_ite ?_ ?_)
        · refine (pz_goes tq_14 1 (σ' := (51, [pzR k0, pzR 29, pzI x2], [pzI 0], M5)) rfl).trans ?_
          exact (e_zret tq_14 rfl).trans (grd_pos (by decide))
        · refine (pz_goes tq_14 2 (σ' := (16, [pzR k0, pzR 29, pzI (ia x2 (1))], [], M5)) rfl).trans ?_
          rfl
      · refine (pz_goes tq_14 1 (σ' := (40, [pzR k0, pzR 29, pzI x2], [pzI 1], M3)) rfl).trans ?_
        exact (e_zret tq_14 rfl).trans (grd_pos (by decide))
/-! PeacockDesk$Docket.readLine(LPeacockDesk$Tape;)Z -/
set_option maxRecDepth 20000 in
theorem m_Docket_readLine_eq (k0 : Nat) (M : pz_M) (h0 : pz_cls k0 = 1) : m_Docket_readLine k0 M = bI (m_Tape_peek M) fun r2 M1 => if r2 < (97 : Int) then (m_Docket_readLine_17 k0 (pzI r2) pzN M1) else (if (112 : Int) < r2 then (m_Docket_readLine_17 k0 (pzI r2) pzN M1) else (if (M1 k0 5) < (24 : Int) then (bV (m_Tape_step M1) fun M3 => bI (m_Tape_readNumber 2 M3) fun r5 M4 => if r5 < 0 then some (some (pzI 0), M4) else (grd (0 ≤ (M4 k0 5) ∧ (M4 k0 5) < 24) (bM (pz_wr M4 (k0 + 1) (((M4 k0 5)).toNat) (isb r2 97)) fun M6 => grd (0 ≤ (M6 k0 5) ∧ (M6 k0 5) < 24) (bM (pz_wr M6 (k0 + 2) (((M6 k0 5)).toNat) r5) fun M7 => grd (0 ≤ (M7 k0 5) ∧ (M7 k0 5) < 24) (bM (pz_wr M7 (k0 + 3) (((M7 k0 5)).toNat) 0) fun M8 => grd (0 ≤ (M8 k0 5) ∧ (M8 k0 5) < 24) (bM (pz_wr M8 (k0 + 4) (((M8 k0 5)).toNat) 9) fun M9 => bI (m_Tape_peek M9) fun r11 M10 => if r11 = (33 : Int) then (bV (m_Tape_step M10) fun M12 => grd (0 ≤ (M12 k0 5) ∧ (M12 k0 5) < 24) (bM (pz_wr M12 (k0 + 3) (((M12 k0 5)).toNat) 1) fun M13 => m_Docket_readLine_121 k0 (pzI r2) (pzI r5) M13)) else (m_Docket_readLine_121 k0 (pzI r2) (pzI r5) M10))))))) else (bI (m_Tape_fail 4 M1) fun r15 M14 => grd (r15 = 0 ∨ r15 = 1) (some (some (pzI r15), M14))))) := by
  show pzr 5 15 (0, [pzR k0, pzR 29, pzN, pzN], [], M) = _
  refine (pz_goes tq_15 1 (σ' := (1, [pzR k0, pzR 29, pzN, pzN], [pzR 29], M)) rfl).trans ?_
  refine (e_callI (as := [pzR 29]) (rest := []) (d' := 3) tq_66 rfl rfl rfl rfl rfl tq_15 rfl).trans (e_bI rfl fun r2 M1 => ?_)
  refine (pz_goes tq_15 3 (σ' := (8, [pzR k0, pzR 29, pzI r2, pzN], [pzI 97, pzI r2], M1)) rfl).trans ?_
  refine (e_icmp_lt tq_15 rfl).trans (e_ite ?_ ?_)
  · rfl
  · refine (pz_goes tq_15 2 (σ' := (14, [pzR k0, pzR 29, pzI r2, pzN], [pzI 112, pzI r2], M1)) rfl).trans ?_
    refine (e_icmp_le tq_15 rfl).trans (e_ite ?_ ?_)
    · rfl
    · refine (pz_goes tq_15 1 (σ' := (24, [pzR k0, pzR 29, pzI r2, pzN], [pzR k0], M1)) rfl).trans ?_
      refine (e_getI h0 tq_15 rfl).trans ?_
      refine (pz_goes tq_15 1 (σ' := (29, [pzR k0, pzR 29, pzI r2, pzN], [pzI 24, pzI (M1 k0 5)], M1)) rfl).trans ?_
      refine (e_icmp_lt tq_15 rfl).trans (e_ite ?_ ?_)
      · refine (pz_goes tq_15 1 (σ' := (39, [pzR k0, pzR 29, pzI r2, pzN], [pzR 29], M1)) rfl).trans ?_
        refine (e_callV (as := [pzR 29]) (rest := []) (d' := 3) tq_67 rfl rfl rfl rfl rfl tq_15 rfl).trans (e_bV rfl fun M3 => ?_)
        refine (pz_goes tq_15 2 (σ' := (44, [pzR k0, pzR 29, pzI r2, pzN], [pzI 2, pzR 29], M3)) rfl).trans ?_
        refine (e_callI (as := [pzR 29, pzI 2, pzN, pzN, pzN]) (rest := []) (d' := 4) tq_71 rfl rfl rfl rfl rfl tq_15 rfl).trans (e_bI rfl fun r5 M4 => ?_)
        refine (pz_goes tq_15 2 (σ' := (49, [pzR k0, pzR 29, pzI r2, pzI r5], [pzI r5], M4)) rfl).trans ?_
        refine (e_if_ge tq_15 rfl).trans (e_ite ?_ ?_)
        · refine (pz_goes tq_15 1 (σ' := (53, [pzR k0, pzR 29, pzI r2, pzI r5], [pzI 0], M4)) rfl).trans ?_
          exact (e_zret tq_15 rfl).trans (grd_pos (by decide))
        · refine (pz_goes tq_15 1 (σ' := (55, [pzR k0, pzR 29, pzI r2, pzI r5], [pzR k0], M4)) rfl).trans ?_
          refine (e_getR h0 (ar_1_0 h0) tq_15 rfl).trans ?_
          refine (pz_goes tq_15 1 (σ' := (59, [pzR k0, pzR 29, pzI r2, pzI r5], [pzR k0, pzR (k0 + 1)], M4)) rfl).trans ?_
          refine (e_getI h0 tq_15 rfl).trans ?_
          refine (pz_goes tq_15 3 (σ' := (66, [pzR k0, pzR 29, pzI r2, pzI r5], [pzI (isb r2 97), pzI (M4 k0 5), pzR (k0 + 1)], M4)) rfl).trans ?_
          refine (e_iast (n := 24) (ac_1_0 h0) (al_1_0 h0) tq_15 rfl).trans (e_grd ?_)
          refine e_bM (m := pz_wr M4 (k0 + 1) (((M4 k0 5)).toNat) (isb r2 97)) (f := fun M6 => pzr 5 15 (67, [pzR k0, pzR 29, pzI r2, pzI r5], [], M6)) (fun M6 => ?_)
          refine (pz_goes tq_15 1 (σ' := (68, [pzR k0, pzR 29, pzI r2, pzI r5], [pzR k0], M6)) rfl).trans ?_
          refine (e_getR h0 (ar_1_1 h0) tq_15 rfl).trans ?_
          refine (pz_goes tq_15 1 (σ' := (72, [pzR k0, pzR 29, pzI r2, pzI r5], [pzR k0, pzR (k0 + 2)], M6)) rfl).trans ?_
          refine (e_getI h0 tq_15 rfl).trans ?_
          refine (pz_goes tq_15 1 (σ' := (76, [pzR k0, pzR 29, pzI r2, pzI r5], [pzI r5, pzI (M6 k0 5), pzR (k0 + 2)], M6)) rfl).trans ?_
          refine (e_iast (n := 24) (ac_1_1 h0) (al_1_1 h0) tq_15 rfl).trans (e_grd ?_)
          refine e_bM (m := pz_wr M6 (k0 + 2) (((M6 k0 5)).toNat) r5) (f := fun M7 => pzr 5 15 (77, [pzR k0, pzR 29, pzI r2, pzI r5], [], M7)) (fun M7 => ?_)
          refine (pz_goes tq_15 1 (σ' := (78, [pzR k0, pzR 29, pzI r2, pzI r5], [pzR k0], M7)) rfl).trans ?_
          refine (e_getR h0 (ar_1_2 h0) tq_15 rfl).trans ?_
          refine (pz_goes tq_15 1 (σ' := (82, [pzR k0, pzR 29, pzI r2, pzI r5], [pzR k0, pzR (k0 + 3)], M7)) rfl).trans ?_
          refine (e_getI h0 tq_15 rfl).trans ?_
          refine (pz_goes tq_15 1 (σ' := (86, [pzR k0, pzR 29, pzI r2, pzI r5], [pzI 0, pzI (M7 k0 5), pzR (k0 + 3)], M7)) rfl).trans ?_
          refine (e_iast (n := 24) (ac_1_2 h0) (al_1_2 h0) tq_15 rfl).trans (e_grd ?_)
          refine e_bM (m := pz_wr M7 (k0 + 3) (((M7 k0 5)).toNat) 0) (f := fun M8 => pzr 5 15 (87, [pzR k0, pzR 29, pzI r2, pzI r5], [], M8)) (fun M8 => ?_)
          refine (pz_goes tq_15 1 (σ' := (88, [pzR k0, pzR 29, pzI r2, pzI r5], [pzR k0], M8)) rfl).trans ?_
          refine (e_getR h0 (ar_1_3 h0) tq_15 rfl).trans ?_
          refine (pz_goes tq_15 1 (σ' := (92, [pzR k0, pzR 29, pzI r2, pzI r5], [pzR k0, pzR (k0 + 4)], M8)) rfl).trans ?_
          refine (e_getI h0 tq_15 rfl).trans ?_
          refine (pz_goes tq_15 1 (σ' := (97, [pzR k0, pzR 29, pzI r2, pzI r5], [pzI 9, pzI (M8 k0 5), pzR (k0 + 4)], M8)) rfl).trans ?_
          refine (e_iast (n := 24) (ac_1_3 h0) (al_1_3 h0) tq_15 rfl).trans (e_grd ?_)
          refine e_bM (m := pz_wr M8 (k0 + 4) (((M8 k0 5)).toNat) 9) (f := fun M9 => pzr 5 15 (98, [pzR k0, pzR 29, pzI r2, pzI r5], [], M9)) (fun M9 => ?_)
          refine (pz_goes tq_15 1 (σ' := (99, [pzR k0, pzR 29, pzI r2, pzI r5], [pzR 29], M9)) rfl).trans ?_
          refine (e_callI (as := [pzR 29]) (rest := []) (d' := 3) tq_66 rfl rfl rfl rfl rfl tq_15 rfl).trans (e_bI rfl fun r11 M10 => ?_)
          refine (pz_goes tq_15 1 (σ' := (104, [pzR k0, pzR 29, pzI r2, pzI r5], [pzI 33, pzI r11], M10)) rfl).trans ?_
          refine (e_icmp_ne tq_15 rfl).trans (e_ite ?_ ?_)
          · refine (pz_goes tq_15 1 (σ' := (108, [pzR k0, pzR 29, pzI r2, pzI r5], [pzR 29], M10)) rfl).trans ?_
            refine (e_callV (as := [pzR 29]) (rest := []) (d' := 3) tq_67 rfl rfl rfl rfl rfl tq_15 rfl).trans (e_bV rfl fun M12 => ?_)
            refine (pz_goes tq_15 1 (σ' := (112, [pzR k0, pzR 29, pzI r2, pzI r5], [pzR k0], M12)) rfl).trans ?_
            refine (e_getR h0 (ar_1_2 h0) tq_15 rfl).trans ?_
            refine (pz_goes tq_15 1 (σ' := (116, [pzR k0, pzR 29, pzI r2, pzI r5], [pzR k0, pzR (k0 + 3)], M12)) rfl).trans ?_
            refine (e_getI h0 tq_15 rfl).trans ?_
            refine (pz_goes tq_15 1 (σ' := (120, [pzR k0, pzR 29, pzI r2, pzI r5], [pzI 1, pzI (M12 k0 5), pzR (k0 + 3)], M12)) rfl).trans ?_
            refine (e_iast (n := 24) (ac_1_2 h0) (al_1_2 h0) tq_15 rfl).trans (e_grd ?_)
            refine e_bM (m := pz_wr M12 (k0 + 3) (((M12 k0 5)).toNat) 1) (f := fun M13 => pzr 5 15 (121, [pzR k0, pzR 29, pzI r2, pzI r5], [], M13)) (fun M13 => ?_)
            rfl
          · rfl
      · refine (pz_goes tq_15 2 (σ' := (34, [pzR k0, pzR 29, pzI r2, pzN], [pzI 4, pzR 29], M1)) rfl).trans ?_
        refine (e_callI (as := [pzR 29, pzI 4]) (rest := []) (d' := 3) tq_72 rfl rfl rfl rfl rfl tq_15 rfl).trans (e_bI rfl fun r15 M14 => ?_)
        exact e_zret tq_15 rfl
set_option maxRecDepth 20000 in
theorem m_Docket_readLine_17_eq (k0 : Nat) (w2 : pz_V) (w3 : pz_V) (M : pz_M) (h0 : pz_cls k0 = 1) : m_Docket_readLine_17 k0 w2 w3 M = bI (m_Tape_fail 1 M) fun r2 M1 => grd (r2 = 0 ∨ r2 = 1) (some (some (pzI r2), M1)) := by
  show pzr 5 15 (17, [pzR k0, pzR 29, w2, w3], [], M) = _
  refine (pz_goes tq_15 2 (σ' := (19, [pzR k0, pzR 29, w2, w3], [pzI 1, pzR 29], M)) rfl).trans ?_
  refine (e_callI (as := [pzR 29, pzI 1]) (rest := []) (d' := 3) tq_72 rfl rfl rfl rfl rfl tq_15 rfl).trans (e_bI rfl fun r2 M1 => ?_)
  exact e_zret tq_15 rfl
set_option maxRecDepth 20000 in
theorem m_Docket_readLine_121_eq (k0 : Nat) (w2 : pz_V) (w3 : pz_V) (M : pz_M) (h0 : pz_cls k0 = 1) : m_Docket_readLine_121 k0 w2 w3 M = bI (m_Tape_peek M) fun r2 M1 => if r2 = (62 : Int) then (bI (m_Docket_readTaker k0 M1) fun r4 M3 => if r4 = 0 then some (some (pzI 0), M3) else (m_Docket_readLine_140 k0 w2 w3 M3)) else (m_Docket_readLine_140 k0 w2 w3 M1) := by
  show pzr 5 15 (121, [pzR k0, pzR 29, w2, w3], [], M) = _
  refine (pz_goes tq_15 1 (σ' := (122, [pzR k0, pzR 29, w2, w3], [pzR 29], M)) rfl).trans ?_
  refine (e_callI (as := [pzR 29]) (rest := []) (d' := 3) tq_66 rfl rfl rfl rfl rfl tq_15 rfl).trans (e_bI rfl fun r2 M1 => ?_)
  refine (pz_goes tq_15 1 (σ' := (127, [pzR k0, pzR 29, w2, w3], [pzI 62, pzI r2], M1)) rfl).trans ?_
  refine (e_icmp_ne tq_15 rfl).trans (e_ite ?_ ?_)
  · refine (pz_goes tq_15 2 (σ' := (132, [pzR k0, pzR 29, w2, w3], [pzR 29, pzR k0], M1)) rfl).trans ?_
    refine (e_callI (as := [pzR k0, pzR 29, pzN]) (rest := []) (d' := 4) tq_16 rfl (e_cokS rfl rfl h0) rfl rfl rfl tq_15 rfl).trans (e_bI rfl fun r4 M3 => ?_)
    refine (e_if_ne tq_15 rfl).trans (e_ite ?_ ?_)
    · refine (pz_goes tq_15 1 (σ' := (139, [pzR k0, pzR 29, w2, w3], [pzI 0], M3)) rfl).trans ?_
      exact (e_zret tq_15 rfl).trans (grd_pos (by decide))
    · rfl
  · rfl
set_option maxRecDepth 20000 in
theorem m_Docket_readLine_140_eq (k0 : Nat) (w2 : pz_V) (w3 : pz_V) (M : pz_M) (h0 : pz_cls k0 = 1) : m_Docket_readLine_140 k0 w2 w3 M = bM (pz_wr M k0 5 (ia (M k0 5) 1)) fun M1 => some (some (pzI 1), M1) := by
  show pzr 5 15 (140, [pzR k0, pzR 29, w2, w3], [], M) = _
  refine (pz_goes tq_15 2 (σ' := (142, [pzR k0, pzR 29, w2, w3], [pzR k0, pzR k0], M)) rfl).trans ?_
  refine (e_getI h0 tq_15 rfl).trans ?_
  refine (pz_goes tq_15 2 (σ' := (147, [pzR k0, pzR 29, w2, w3], [pzI (ia (M k0 5) 1), pzR k0], M)) rfl).trans ?_
  refine (e_putI h0 tq_15 rfl).trans ?_
  refine e_bM (f := fun M1 => pzr 5 15 (150, [pzR k0, pzR 29, w2, w3], [], M1)) (fun M1 => ?_)
  refine (pz_goes tq_15 1 (σ' := (151, [pzR k0, pzR 29, w2, w3], [pzI 1], M1)) rfl).trans ?_
  exact (e_zret tq_15 rfl).trans (grd_pos (by decide))
/-! PeacockDesk$Docket.readTaker(LPeacockDesk$Tape;)Z -/
set_option maxRecDepth 20000 in
theorem m_Docket_readTaker_eq (k0 : Nat) (M : pz_M) (h0 : pz_cls k0 = 1) : m_Docket_readTaker k0 M = bV (m_Tape_step M) fun M1 => bI (m_Tape_peek M1) fun r3 M2 => bI (m_Desk_isPeacock (isb r3 48) M2) fun r5 M4 => if r5 = 0 then (bI (m_Tape_fail 1 M4) fun r7 M6 => grd (r7 = 0 ∨ r7 = 1) (some (some (pzI r7), M6))) else (grd (0 ≤ (isb r3 48) ∧ (isb r3 48) < 9) (if 0 < (M4 (k0 + 5) (((isb r3 48)).toNat)) then (bV (m_Tape_step M4) fun M8 => grd (0 ≤ (isb r3 48) ∧ (isb r3 48) < 9) (grd (0 ≤ (isb r3 48) ∧ (isb r3 48) < 9) (bM (pz_wr M8 (k0 + 5) (((isb r3 48)).toNat) (isb (M8 (k0 + 5) (((isb r3 48)).toNat)) 1)) fun M9 => grd (0 ≤ (M9 k0 5) ∧ (M9 k0 5) < 24) (bM (pz_wr M9 (k0 + 4) (((M9 k0 5)).toNat) (isb r3 48)) fun M10 => some (some (pzI 1), M10))))) else (bI (m_Tape_fail 6 M4) fun r12 M11 => grd (r12 = 0 ∨ r12 = 1) (some (some (pzI r12), M11))))) := by
  show pzr 4 16 (0, [pzR k0, pzR 29, pzN], [], M) = _
  refine (pz_goes tq_16 1 (σ' := (1, [pzR k0, pzR 29, pzN], [pzR 29], M)) rfl).trans ?_
  refine (e_callV (as := [pzR 29]) (rest := []) (d' := 3) tq_67 rfl rfl rfl rfl rfl tq_16 rfl).trans (e_bV rfl fun M1 => ?_)
  refine (pz_goes tq_16 1 (σ' := (5, [pzR k0, pzR 29, pzN], [pzR 29], M1)) rfl).trans ?_
  refine (e_callI (as := [pzR 29]) (rest := []) (d' := 3) tq_66 rfl rfl rfl rfl rfl tq_16 rfl).trans (e_bI rfl fun r3 M2 => ?_)
  refine (pz_goes tq_16 4 (σ' := (13, [pzR k0, pzR 29, pzI (isb r3 48)], [pzI (isb r3 48)], M2)) rfl).trans ?_
  refine (e_callI (as := [pzI (isb r3 48)]) (rest := []) (d' := 3) tq_124 rfl rfl rfl rfl rfl tq_16 rfl).trans (e_bI rfl fun r5 M4 => ?_)
  refine (e_if_ne tq_16 rfl).trans (e_ite ?_ ?_)
  · refine (pz_goes tq_16 2 (σ' := (21, [pzR k0, pzR 29, pzI (isb r3 48)], [pzI 1, pzR 29], M4)) rfl).trans ?_
    refine (e_callI (as := [pzR 29, pzI 1]) (rest := []) (d' := 3) tq_72 rfl rfl rfl rfl rfl tq_16 rfl).trans (e_bI rfl fun r7 M6 => ?_)
    exact e_zret tq_16 rfl
  · refine (pz_goes tq_16 1 (σ' := (26, [pzR k0, pzR 29, pzI (isb r3 48)], [pzR k0], M4)) rfl).trans ?_
    refine (e_getR h0 (ar_1_4 h0) tq_16 rfl).trans ?_
    refine (pz_goes tq_16 1 (σ' := (30, [pzR k0, pzR 29, pzI (isb r3 48)], [pzI (isb r3 48), pzR (k0 + 5)], M4)) rfl).trans ?_
    refine (e_iald (n := 9) (ac_1_4 h0) (al_1_4 h0) tq_16 rfl).trans (e_grd ?_)
    refine (e_if_gt tq_16 rfl).trans (e_ite ?_ ?_)
    · refine (pz_goes tq_16 1 (σ' := (42, [pzR k0, pzR 29, pzI (isb r3 48)], [pzR 29], M4)) rfl).trans ?_
      refine (e_callV (as := [pzR 29]) (rest := []) (d' := 3) tq_67 rfl rfl rfl rfl rfl tq_16 rfl).trans (e_bV rfl fun M8 => ?_)
      refine (pz_goes tq_16 1 (σ' := (46, [pzR k0, pzR 29, pzI (isb r3 48)], [pzR k0], M8)) rfl).trans ?_
      refine (e_getR h0 (ar_1_4 h0) tq_16 rfl).trans ?_
      refine (pz_goes tq_16 2 (σ' := (51, [pzR k0, pzR 29, pzI (isb r3 48)], [pzI (isb r3 48), pzR (k0 + 5), pzI (isb r3 48), pzR (k0 + 5)], M8)) rfl).trans ?_
      refine (e_iald (n := 9) (ac_1_4 h0) (al_1_4 h0) tq_16 rfl).trans (e_grd ?_)
      refine (pz_goes tq_16 2 (σ' := (54, [pzR k0, pzR 29, pzI (isb r3 48)], [pzI (isb (M8 (k0 + 5) (((isb r3 48)).toNat)) 1), pzI (isb r3 48), pzR (k0 + 5)], M8)) rfl).trans ?_
      refine (e_iast (n := 9) (ac_1_4 h0) (al_1_4 h0) tq_16 rfl).trans (e_grd ?_)
      refine e_bM (m := pz_wr M8 (k0 + 5) (((isb r3 48)).toNat) (isb (M8 (k0 + 5) (((isb r3 48)).toNat)) 1)) (f := fun M9 => pzr 4 16 (55, [pzR k0, pzR 29, pzI (isb r3 48)], [], M9)) (fun M9 => ?_)
      refine (pz_goes tq_16 1 (σ' := (56, [pzR k0, pzR 29, pzI (isb r3 48)], [pzR k0], M9)) rfl).trans ?_
      refine (e_getR h0 (ar_1_3 h0) tq_16 rfl).trans ?_
      refine (pz_goes tq_16 1 (σ' := (60, [pzR k0, pzR 29, pzI (isb r3 48)], [pzR k0, pzR (k0 + 4)], M9)) rfl).trans ?_
      refine (e_getI h0 tq_16 rfl).trans ?_
      refine (pz_goes tq_16 1 (σ' := (64, [pzR k0, pzR 29, pzI (isb r3 48)], [pzI (isb r3 48), pzI (M9 k0 5), pzR (k0 + 4)], M9)) rfl).trans ?_
      refine (e_iast (n := 24) (ac_1_3 h0) (al_1_3 h0) tq_16 rfl).trans (e_grd ?_)
      refine e_bM (m := pz_wr M9 (k0 + 4) (((M9 k0 5)).toNat) (isb r3 48)) (f := fun M10 => pzr 4 16 (65, [pzR k0, pzR 29, pzI (isb r3 48)], [], M10)) (fun M10 => ?_)
      refine (pz_goes tq_16 1 (σ' := (66, [pzR k0, pzR 29, pzI (isb r3 48)], [pzI 1], M10)) rfl).trans ?_
      exact (e_zret tq_16 rfl).trans (grd_pos (by decide))
    · refine (pz_goes tq_16 2 (σ' := (37, [pzR k0, pzR 29, pzI (isb r3 48)], [pzI 6, pzR 29], M4)) rfl).trans ?_
      refine (e_callI (as := [pzR 29, pzI 6]) (rest := []) (d' := 3) tq_72 rfl rfl rfl rfl rfl tq_16 rfl).trans (e_bI rfl fun r12 M11 => ?_)
      exact e_zret tq_16 rfl
/-! PeacockDesk$Docket.alike()I -/
set_option maxRecDepth 20000 in
theorem m_Docket_alike_eq (k0 : Nat) (M : pz_M) (h0 : pz_cls k0 = 1) : m_Docket_alike k0 M = m_Docket_alike_4 k0 0 0 pzN M := by
  show pzr 3 17 (0, [pzR k0, pzN, pzN, pzN], [], M) = _
  refine (pz_goes tq_17 4 (σ' := (4, [pzR k0, pzI 0, pzI 0, pzN], [], M)) rfl).trans ?_
  rfl
set_option maxRecDepth 20000 in
theorem m_Docket_alike_4_eq (k0 : Nat) (x1 : Int) (x2 : Int) (w3 : pz_V) (M : pz_M) (h0 : pz_cls k0 = 1) : m_Docket_alike_4 k0 x1 x2 w3 M = if x2 < (M k0 5) then (m_Docket_alike_14 k0 x1 x2 0 M) else (some (some (pzI x1), M)) := by
  show pzr 3 17 (4, [pzR k0, pzI x1, pzI x2, w3], [], M) = _
  refine (pz_goes tq_17 2 (σ' := (6, [pzR k0, pzI x1, pzI x2, w3], [pzR k0, pzI x2], M)) rfl).trans ?_
  refine (e_getI h0 tq_17 rfl).trans ?_
  refine (e_icmp_ge tq_17 rfl).trans (e_ite ?_ ?_)
  · refine (pz_goes tq_17 2 (σ' := (14, [pzR k0, pzI x1, pzI x2, pzI 0], [], M)) rfl).trans ?_
    rfl
  · refine (pz_goes tq_17 1 (σ' := (50, [pzR k0, pzI x1, pzI x2, w3], [pzI x1], M)) rfl).trans ?_
    exact e_iret tq_17 rfl
set_option maxRecDepth 20000 in
theorem m_Docket_alike_14_eq (k0 : Nat) (x1 : Int) (x2 : Int) (x3 : Int) (M : pz_M) (h0 : pz_cls k0 = 1) : m_Docket_alike_14 k0 x1 x2 x3 M = if x3 < x2 then (grd (0 ≤ x2 ∧ x2 < 24) (grd (0 ≤ x3 ∧ x3 < 24) (if (M (k0 + 1) ((x2).toNat)) = (M (k0 + 1) ((x3).toNat)) then (m_Docket_alike_14 k0 (ia x1 (1)) x2 (ia x3 (1)) M) else (m_Docket_alike_14 k0 x1 x2 (ia x3 (1)) M)))) else (m_Docket_alike_4 k0 x1 (ia x2 (1)) (pzI x3) M) := by
  show pzr 3 17 (14, [pzR k0, pzI x1, pzI x2, pzI x3], [], M) = _
  refine (pz_goes tq_17 2 (σ' := (16, [pzR k0, pzI x1, pzI x2, pzI x3], [pzI x2, pzI x3], M)) rfl).trans ?_
  refine (e_icmp_ge tq_17 rfl).trans (e_ite ?_ ?_)
  · refine (pz_goes tq_17 1 (σ' := (20, [pzR k0, pzI x1, pzI x2, pzI x3], [pzR k0], M)) rfl).trans ?_
    refine (e_getR h0 (ar_1_0 h0) tq_17 rfl).trans ?_
    refine (pz_goes tq_17 1 (σ' := (24, [pzR k0, pzI x1, pzI x2, pzI x3], [pzI x2, pzR (k0 + 1)], M)) rfl).trans ?_
    refine (e_iald (n := 24) (ac_1_0 h0) (al_1_0 h0) tq_17 rfl).trans (e_grd ?_)
    refine (pz_goes tq_17 1 (σ' := (26, [pzR k0, pzI x1, pzI x2, pzI x3], [pzR k0, pzI (M (k0 + 1) ((x2).toNat))], M)) rfl).trans ?_
    refine (e_getR h0 (ar_1_0 h0) tq_17 rfl).trans ?_
    refine (pz_goes tq_17 1 (σ' := (30, [pzR k0, pzI x1, pzI x2, pzI x3], [pzI x3, pzR (k0 + 1), pzI (M (k0 + 1) ((x2).toNat))], M)) rfl).trans ?_
    refine (e_iald (n := 24) (ac_1_0 h0) (al_1_0 h0) tq_17 rfl).trans (e_grd ?_)
    refine (e_icmp_ne tq_17 rfl).trans (e_ite ?_ ?_)
    · refine (pz_goes tq_17 3 (σ' := (14, [pzR k0, pzI (ia x1 (1)), pzI x2, pzI (ia x3 (1))], [], M)) rfl).trans ?_
      rfl
    · refine (pz_goes tq_17 2 (σ' := (14, [pzR k0, pzI x1, pzI x2, pzI (ia x3 (1))], [], M)) rfl).trans ?_
      rfl
  · refine (pz_goes tq_17 2 (σ' := (4, [pzR k0, pzI x1, pzI (ia x2 (1)), pzI x3], [], M)) rfl).trans ?_
    rfl
/-! PeacockDesk$Law.clear()V -/
set_option maxRecDepth 20000 in
theorem m_Law_clear_eq (k0 : Nat) (M : pz_M) (h0 : pz_cls k0 = 2) : m_Law_clear k0 M = bM (pz_wr M k0 3 0) fun M1 => bM (pz_wr M1 k0 6 0) fun M2 => some (none, M2) := by
  show pzr 3 18 (0, [pzR k0], [], M) = _
  refine (pz_goes tq_18 2 (σ' := (2, [pzR k0], [pzI 0, pzR k0], M)) rfl).trans ?_
  refine (e_putI h0 tq_18 rfl).trans ?_
  refine e_bM (f := fun M1 => pzr 3 18 (5, [pzR k0], [], M1)) (fun M1 => ?_)
  refine (pz_goes tq_18 2 (σ' := (7, [pzR k0], [pzI 0, pzR k0], M1)) rfl).trans ?_
  refine (e_putI h0 tq_18 rfl).trans ?_
  refine e_bM (f := fun M2 => pzr 3 18 (10, [pzR k0], [], M2)) (fun M2 => ?_)
  exact e_ret tq_18 rfl
/-! PeacockDesk$Law.addRule(III)V -/
set_option maxRecDepth 20000 in
theorem m_Law_addRule_eq (k0 : Nat) (x1 : Int) (x2 : Int) (x3 : Int) (M : pz_M) (h0 : pz_cls k0 = 2) : m_Law_addRule k0 x1 x2 x3 M = if (M k0 3) < (16 : Int) then (grd (0 ≤ (M k0 3) ∧ (M k0 3) < 16) (bM (pz_wr M (k0 + 1) (((M k0 3)).toNat) x1) fun M1 => grd (0 ≤ (M1 k0 3) ∧ (M1 k0 3) < 16) (bM (pz_wr M1 (k0 + 2) (((M1 k0 3)).toNat) x2) fun M2 => grd (0 ≤ (M2 k0 3) ∧ (M2 k0 3) < 16) (bM (pz_wr M2 (k0 + 3) (((M2 k0 3)).toNat) x3) fun M3 => bM (pz_wr M3 k0 3 (ia (M3 k0 3) 1)) fun M4 => some (none, M4))))) else (some (none, M)) := by
  show pzr 3 19 (0, [pzR k0, pzI x1, pzI x2, pzI x3], [], M) = _
  refine (pz_goes tq_19 1 (σ' := (1, [pzR k0, pzI x1, pzI x2, pzI x3], [pzR k0], M)) rfl).trans ?_
  refine (e_getI h0 tq_19 rfl).trans ?_
  refine (pz_goes tq_19 1 (σ' := (6, [pzR k0, pzI x1, pzI x2, pzI x3], [pzI 16, pzI (M k0 3)], M)) rfl).trans ?_
  refine (e_icmp_ge tq_19 rfl).trans (e_ite ?_ ?_)
  · refine (pz_goes tq_19 1 (σ' := (10, [pzR k0, pzI x1, pzI x2, pzI x3], [pzR k0], M)) rfl).trans ?_
    refine (e_getR h0 (ar_2_0 h0) tq_19 rfl).trans ?_
    refine (pz_goes tq_19 1 (σ' := (14, [pzR k0, pzI x1, pzI x2, pzI x3], [pzR k0, pzR (k0 + 1)], M)) rfl).trans ?_
    refine (e_getI h0 tq_19 rfl).trans ?_
    refine (pz_goes tq_19 1 (σ' := (18, [pzR k0, pzI x1, pzI x2, pzI x3], [pzI x1, pzI (M k0 3), pzR (k0 + 1)], M)) rfl).trans ?_
    refine (e_iast (n := 16) (ac_2_0 h0) (al_2_0 h0) tq_19 rfl).trans (e_grd ?_)
    refine e_bM (m := pz_wr M (k0 + 1) (((M k0 3)).toNat) x1) (f := fun M1 => pzr 3 19 (19, [pzR k0, pzI x1, pzI x2, pzI x3], [], M1)) (fun M1 => ?_)
    refine (pz_goes tq_19 1 (σ' := (20, [pzR k0, pzI x1, pzI x2, pzI x3], [pzR k0], M1)) rfl).trans ?_
    refine (e_getR h0 (ar_2_1 h0) tq_19 rfl).trans ?_
    refine (pz_goes tq_19 1 (σ' := (24, [pzR k0, pzI x1, pzI x2, pzI x3], [pzR k0, pzR (k0 + 2)], M1)) rfl).trans ?_
    refine (e_getI h0 tq_19 rfl).trans ?_
    refine (pz_goes tq_19 1 (σ' := (28, [pzR k0, pzI x1, pzI x2, pzI x3], [pzI x2, pzI (M1 k0 3), pzR (k0 + 2)], M1)) rfl).trans ?_
    refine (e_iast (n := 16) (ac_2_1 h0) (al_2_1 h0) tq_19 rfl).trans (e_grd ?_)
    refine e_bM (m := pz_wr M1 (k0 + 2) (((M1 k0 3)).toNat) x2) (f := fun M2 => pzr 3 19 (29, [pzR k0, pzI x1, pzI x2, pzI x3], [], M2)) (fun M2 => ?_)
    refine (pz_goes tq_19 1 (σ' := (30, [pzR k0, pzI x1, pzI x2, pzI x3], [pzR k0], M2)) rfl).trans ?_
    refine (e_getR h0 (ar_2_2 h0) tq_19 rfl).trans ?_
    refine (pz_goes tq_19 1 (σ' := (34, [pzR k0, pzI x1, pzI x2, pzI x3], [pzR k0, pzR (k0 + 3)], M2)) rfl).trans ?_
    refine (e_getI h0 tq_19 rfl).trans ?_
    refine (pz_goes tq_19 1 (σ' := (38, [pzR k0, pzI x1, pzI x2, pzI x3], [pzI x3, pzI (M2 k0 3), pzR (k0 + 3)], M2)) rfl).trans ?_
    refine (e_iast (n := 16) (ac_2_2 h0) (al_2_2 h0) tq_19 rfl).trans (e_grd ?_)
    refine e_bM (m := pz_wr M2 (k0 + 3) (((M2 k0 3)).toNat) x3) (f := fun M3 => pzr 3 19 (39, [pzR k0, pzI x1, pzI x2, pzI x3], [], M3)) (fun M3 => ?_)
    refine (pz_goes tq_19 2 (σ' := (41, [pzR k0, pzI x1, pzI x2, pzI x3], [pzR k0, pzR k0], M3)) rfl).trans ?_
    refine (e_getI h0 tq_19 rfl).trans ?_
    refine (pz_goes tq_19 2 (σ' := (46, [pzR k0, pzI x1, pzI x2, pzI x3], [pzI (ia (M3 k0 3) 1), pzR k0], M3)) rfl).trans ?_
    refine (e_putI h0 tq_19 rfl).trans ?_
    refine e_bM (f := fun M4 => pzr 3 19 (49, [pzR k0, pzI x1, pzI x2, pzI x3], [], M4)) (fun M4 => ?_)
    exact e_ret tq_19 rfl
  · exact e_ret tq_19 rfl
/-! PeacockDesk$Law.addStep(II)I -/
set_option maxRecDepth 20000 in
theorem m_Law_addStep_eq (k0 : Nat) (x1 : Int) (x2 : Int) (M : pz_M) (h0 : pz_cls k0 = 2) : m_Law_addStep k0 x1 x2 M = if (M k0 6) < (256 : Int) then (grd (0 ≤ (M k0 6) ∧ (M k0 6) < 256) (bM (pz_wr M (k0 + 4) (((M k0 6)).toNat) x1) fun M1 => grd (0 ≤ (M1 k0 6) ∧ (M1 k0 6) < 256) (bM (pz_wr M1 (k0 + 5) (((M1 k0 6)).toNat) x2) fun M2 => bM (pz_wr M2 k0 6 (ia (M2 k0 6) 1)) fun M3 => some (some (pzI (isb (M3 k0 6) 1)), M3)))) else (some (some (pzI (isb (M k0 6) 1)), M)) := by
  show pzr 3 20 (0, [pzR k0, pzI x1, pzI x2], [], M) = _
  refine (pz_goes tq_20 1 (σ' := (1, [pzR k0, pzI x1, pzI x2], [pzR k0], M)) rfl).trans ?_
  refine (e_getI h0 tq_20 rfl).trans ?_
  refine (pz_goes tq_20 1 (σ' := (7, [pzR k0, pzI x1, pzI x2], [pzI 256, pzI (M k0 6)], M)) rfl).trans ?_
  refine (e_icmp_ge tq_20 rfl).trans (e_ite ?_ ?_)
  · refine (pz_goes tq_20 1 (σ' := (11, [pzR k0, pzI x1, pzI x2], [pzR k0], M)) rfl).trans ?_
    refine (e_getR h0 (ar_2_4 h0) tq_20 rfl).trans ?_
    refine (pz_goes tq_20 1 (σ' := (15, [pzR k0, pzI x1, pzI x2], [pzR k0, pzR (k0 + 4)], M)) rfl).trans ?_
    refine (e_getI h0 tq_20 rfl).trans ?_
    refine (pz_goes tq_20 1 (σ' := (19, [pzR k0, pzI x1, pzI x2], [pzI x1, pzI (M k0 6), pzR (k0 + 4)], M)) rfl).trans ?_
    refine (e_iast (n := 256) (ac_2_4 h0) (al_2_4 h0) tq_20 rfl).trans (e_grd ?_)
    refine e_bM (m := pz_wr M (k0 + 4) (((M k0 6)).toNat) x1) (f := fun M1 => pzr 3 20 (20, [pzR k0, pzI x1, pzI x2], [], M1)) (fun M1 => ?_)
    refine (pz_goes tq_20 1 (σ' := (21, [pzR k0, pzI x1, pzI x2], [pzR k0], M1)) rfl).trans ?_
    refine (e_getR h0 (ar_2_5 h0) tq_20 rfl).trans ?_
    refine (pz_goes tq_20 1 (σ' := (25, [pzR k0, pzI x1, pzI x2], [pzR k0, pzR (k0 + 5)], M1)) rfl).trans ?_
    refine (e_getI h0 tq_20 rfl).trans ?_
    refine (pz_goes tq_20 1 (σ' := (29, [pzR k0, pzI x1, pzI x2], [pzI x2, pzI (M1 k0 6), pzR (k0 + 5)], M1)) rfl).trans ?_
    refine (e_iast (n := 256) (ac_2_5 h0) (al_2_5 h0) tq_20 rfl).trans (e_grd ?_)
    refine e_bM (m := pz_wr M1 (k0 + 5) (((M1 k0 6)).toNat) x2) (f := fun M2 => pzr 3 20 (30, [pzR k0, pzI x1, pzI x2], [], M2)) (fun M2 => ?_)
    refine (pz_goes tq_20 2 (σ' := (32, [pzR k0, pzI x1, pzI x2], [pzR k0, pzR k0], M2)) rfl).trans ?_
    refine (e_getI h0 tq_20 rfl).trans ?_
    refine (pz_goes tq_20 2 (σ' := (37, [pzR k0, pzI x1, pzI x2], [pzI (ia (M2 k0 6) 1), pzR k0], M2)) rfl).trans ?_
    refine (e_putI h0 tq_20 rfl).trans ?_
    refine e_bM (f := fun M3 => pzr 3 20 (40, [pzR k0, pzI x1, pzI x2], [], M3)) (fun M3 => ?_)
    refine (pz_goes tq_20 1 (σ' := (41, [pzR k0, pzI x1, pzI x2], [pzR k0], M3)) rfl).trans ?_
    refine (e_getI h0 tq_20 rfl).trans ?_
    refine (pz_goes tq_20 2 (σ' := (46, [pzR k0, pzI x1, pzI x2], [pzI (isb (M3 k0 6) 1)], M3)) rfl).trans ?_
    exact e_iret tq_20 rfl
  · refine (pz_goes tq_20 1 (σ' := (41, [pzR k0, pzI x1, pzI x2], [pzR k0], M)) rfl).trans ?_
    refine (e_getI h0 tq_20 rfl).trans ?_
    refine (pz_goes tq_20 2 (σ' := (46, [pzR k0, pzI x1, pzI x2], [pzI (isb (M k0 6) 1)], M)) rfl).trans ?_
    exact e_iret tq_20 rfl
/-! PeacockDesk$Law.landHere(I)V -/
set_option maxRecDepth 20000 in
theorem m_Law_landHere_eq (k0 : Nat) (x1 : Int) (M : pz_M) (h0 : pz_cls k0 = 2) : m_Law_landHere k0 x1 M = if x1 < 0 then some (none, M) else (if x1 < (256 : Int) then (grd (0 ≤ x1 ∧ x1 < 256) (bM (pz_wr M (k0 + 5) ((x1).toNat) (M k0 6)) fun M1 => some (none, M1))) else (some (none, M))) := by
  show pzr 3 21 (0, [pzR k0, pzI x1], [], M) = _
  refine (pz_goes tq_21 1 (σ' := (1, [pzR k0, pzI x1], [pzI x1], M)) rfl).trans ?_
  refine (e_if_lt tq_21 rfl).trans (e_ite ?_ ?_)
  · exact e_ret tq_21 rfl
  · refine (pz_goes tq_21 2 (σ' := (8, [pzR k0, pzI x1], [pzI 256, pzI x1], M)) rfl).trans ?_
    refine (e_icmp_ge tq_21 rfl).trans (e_ite ?_ ?_)
    · refine (pz_goes tq_21 1 (σ' := (12, [pzR k0, pzI x1], [pzR k0], M)) rfl).trans ?_
      refine (e_getR h0 (ar_2_5 h0) tq_21 rfl).trans ?_
      refine (pz_goes tq_21 2 (σ' := (17, [pzR k0, pzI x1], [pzR k0, pzI x1, pzR (k0 + 5)], M)) rfl).trans ?_
      refine (e_getI h0 tq_21 rfl).trans ?_
      refine (e_iast (n := 256) (ac_2_5 h0) (al_2_5 h0) tq_21 rfl).trans (e_grd ?_)
      refine e_bM (m := pz_wr M (k0 + 5) ((x1).toNat) (M k0 6)) (f := fun M1 => pzr 3 21 (21, [pzR k0, pzI x1], [], M1)) (fun M1 => ?_)
      exact e_ret tq_21 rfl
    · exact e_ret tq_21 rfl
/-! PeacockDesk$Law.worth(III)I -/
set_option maxRecDepth 20000 in
theorem m_Law_worth_eq (k0 : Nat) (x1 : Int) (x2 : Int) (x3 : Int) (M : pz_M) (h0 : pz_cls k0 = 2) : m_Law_worth k0 x1 x2 x3 M = m_Law_worth_3 k0 x1 x2 x3 0 M := by
  show pzr 5 22 (0, [pzR k0, pzI x1, pzI x2, pzI x3, pzN], [], M) = _
  refine (pz_goes tq_22 2 (σ' := (3, [pzR k0, pzI x1, pzI x2, pzI x3, pzI 0], [], M)) rfl).trans ?_
  rfl
set_option maxRecDepth 20000 in
theorem m_Law_worth_3_eq (k0 : Nat) (x1 : Int) (x2 : Int) (x3 : Int) (x4 : Int) (M : pz_M) (h0 : pz_cls k0 = 2) : m_Law_worth_3 k0 x1 x2 x3 x4 M = if x4 < (M k0 3) then (grd (0 ≤ x4 ∧ x4 < 16) (if (M (k0 + 1) ((x4).toNat)) = x1 then (grd (0 ≤ x4 ∧ x4 < 16) (bI (m_Law_run k0 (M (k0 + 3) ((x4).toNat)) M) fun r2 M1 => if r2 = 0 then (m_Law_worth_3 k0 x1 x2 x3 (ia x4 (1)) M1) else (grd (0 ≤ x4 ∧ x4 < 16) (bI (m_Law_run k0 (M1 (k0 + 2) ((x4).toNat)) M1) fun r4 M3 => bI (m_Math_min x2 r4 M3) fun r6 M5 => bI (m_Math_max 0 r6 M5) fun r8 M7 => some (some (pzI r8), M7))))) else (m_Law_worth_3 k0 x1 x2 x3 (ia x4 (1)) M))) else (some (some (pzI x3), M)) := by
  show pzr 5 22 (3, [pzR k0, pzI x1, pzI x2, pzI x3, pzI x4], [], M) = _
  refine (pz_goes tq_22 2 (σ' := (6, [pzR k0, pzI x1, pzI x2, pzI x3, pzI x4], [pzR k0, pzI x4], M)) rfl).trans ?_
  refine (e_getI h0 tq_22 rfl).trans ?_
  refine (e_icmp_ge tq_22 rfl).trans (e_ite ?_ ?_)
  · refine (pz_goes tq_22 1 (σ' := (13, [pzR k0, pzI x1, pzI x2, pzI x3, pzI x4], [pzR k0], M)) rfl).trans ?_
    refine (e_getR h0 (ar_2_0 h0) tq_22 rfl).trans ?_
    refine (pz_goes tq_22 1 (σ' := (18, [pzR k0, pzI x1, pzI x2, pzI x3, pzI x4], [pzI x4, pzR (k0 + 1)], M)) rfl).trans ?_
    refine (e_iald (n := 16) (ac_2_0 h0) (al_2_0 h0) tq_22 rfl).trans (e_grd ?_)
    refine (pz_goes tq_22 1 (σ' := (20, [pzR k0, pzI x1, pzI x2, pzI x3, pzI x4], [pzI x1, pzI (M (k0 + 1) ((x4).toNat))], M)) rfl).trans ?_
    refine (e_icmp_ne tq_22 rfl).trans (e_ite ?_ ?_)
    · refine (pz_goes tq_22 2 (σ' := (25, [pzR k0, pzI x1, pzI x2, pzI x3, pzI x4], [pzR k0, pzR k0], M)) rfl).trans ?_
      refine (e_getR h0 (ar_2_2 h0) tq_22 rfl).trans ?_
      refine (pz_goes tq_22 1 (σ' := (30, [pzR k0, pzI x1, pzI x2, pzI x3, pzI x4], [pzI x4, pzR (k0 + 3), pzR k0], M)) rfl).trans ?_
      refine (e_iald (n := 16) (ac_2_2 h0) (al_2_2 h0) tq_22 rfl).trans (e_grd ?_)
      refine (e_callI (as := [pzR k0, pzI (M (k0 + 3) ((x4).toNat)), pzN, pzN, pzN, pzN, pzN, pzN]) (rest := []) (d' := 4) tq_24 rfl (e_cokS rfl rfl h0) rfl rfl rfl tq_22 rfl).trans (e_bI rfl fun r2 M1 => ?_)
      refine (e_if_eq tq_22 rfl).trans (e_ite ?_ ?_)
      · refine (pz_goes tq_22 2 (σ' := (3, [pzR k0, pzI x1, pzI x2, pzI x3, pzI (ia x4 (1))], [], M1)) rfl).trans ?_
        rfl
      · refine (pz_goes tq_22 4 (σ' := (41, [pzR k0, pzI x1, pzI x2, pzI x3, pzI x4], [pzR k0, pzR k0, pzI x2, pzI 0], M1)) rfl).trans ?_
        refine (e_getR h0 (ar_2_1 h0) tq_22 rfl).trans ?_
        refine (pz_goes tq_22 1 (σ' := (46, [pzR k0, pzI x1, pzI x2, pzI x3, pzI x4], [pzI x4, pzR (k0 + 2), pzR k0, pzI x2, pzI 0], M1)) rfl).trans ?_
        refine (e_iald (n := 16) (ac_2_1 h0) (al_2_1 h0) tq_22 rfl).trans (e_grd ?_)
        refine (e_callI (as := [pzR k0, pzI (M1 (k0 + 2) ((x4).toNat)), pzN, pzN, pzN, pzN, pzN, pzN]) (rest := [pzI x2, pzI 0]) (d' := 4) tq_24 rfl (e_cokS rfl rfl h0) rfl rfl rfl tq_22 rfl).trans (e_bI rfl fun r4 M3 => ?_)
        refine (e_callI (as := [pzI x2, pzI r4]) (rest := [pzI 0]) (d' := 3) tq_128 rfl rfl rfl rfl rfl tq_22 rfl).trans (e_bI rfl fun r6 M5 => ?_)
        refine (e_callI (as := [pzI 0, pzI r6]) (rest := []) (d' := 3) tq_127 rfl rfl rfl rfl rfl tq_22 rfl).trans (e_bI rfl fun r8 M7 => ?_)
        exact e_iret tq_22 rfl
    · refine (pz_goes tq_22 2 (σ' := (3, [pzR k0, pzI x1, pzI x2, pzI x3, pzI (ia x4 (1))], [], M)) rfl).trans ?_
      rfl
  · refine (pz_goes tq_22 1 (σ' := (64, [pzR k0, pzI x1, pzI x2, pzI x3, pzI x4], [pzI x3], M)) rfl).trans ?_
    exact e_iret tq_22 rfl
/-! PeacockDesk$Law.moults()Z -/
set_option maxRecDepth 20000 in
theorem m_Law_moults_eq (k0 : Nat) (M : pz_M) (h0 : pz_cls k0 = 2) : m_Law_moults k0 M = m_Law_moults_2 k0 0 M := by
  show pzr 5 23 (0, [pzR k0, pzN], [], M) = _
  refine (pz_goes tq_23 2 (σ' := (2, [pzR k0, pzI 0], [], M)) rfl).trans ?_
  rfl
set_option maxRecDepth 20000 in
theorem m_Law_moults_2_eq (k0 : Nat) (x1 : Int) (M : pz_M) (h0 : pz_cls k0 = 2) : m_Law_moults_2 k0 x1 M = if x1 < (M k0 3) then (grd (0 ≤ x1 ∧ x1 < 16) (if (M (k0 + 1) ((x1).toNat)) = (3 : Int) then (grd (0 ≤ x1 ∧ x1 < 16) (bI (m_Law_run k0 (M (k0 + 3) ((x1).toNat)) M) fun r2 M1 => if r2 = 0 then (m_Law_moults_2 k0 (ia x1 (1)) M1) else (some (some (pzI 1), M1)))) else (m_Law_moults_2 k0 (ia x1 (1)) M))) else (some (some (pzI 0), M)) := by
  show pzr 5 23 (2, [pzR k0, pzI x1], [], M) = _
  refine (pz_goes tq_23 2 (σ' := (4, [pzR k0, pzI x1], [pzR k0, pzI x1], M)) rfl).trans ?_
  refine (e_getI h0 tq_23 rfl).trans ?_
  refine (e_icmp_ge tq_23 rfl).trans (e_ite ?_ ?_)
  · refine (pz_goes tq_23 1 (σ' := (11, [pzR k0, pzI x1], [pzR k0], M)) rfl).trans ?_
    refine (e_getR h0 (ar_2_0 h0) tq_23 rfl).trans ?_
    refine (pz_goes tq_23 1 (σ' := (15, [pzR k0, pzI x1], [pzI x1, pzR (k0 + 1)], M)) rfl).trans ?_
    refine (e_iald (n := 16) (ac_2_0 h0) (al_2_0 h0) tq_23 rfl).trans (e_grd ?_)
    refine (pz_goes tq_23 1 (σ' := (17, [pzR k0, pzI x1], [pzI 3, pzI (M (k0 + 1) ((x1).toNat))], M)) rfl).trans ?_
    refine (e_icmp_ne tq_23 rfl).trans (e_ite ?_ ?_)
    · refine (pz_goes tq_23 2 (σ' := (22, [pzR k0, pzI x1], [pzR k0, pzR k0], M)) rfl).trans ?_
      refine (e_getR h0 (ar_2_2 h0) tq_23 rfl).trans ?_
      refine (pz_goes tq_23 1 (σ' := (26, [pzR k0, pzI x1], [pzI x1, pzR (k0 + 3), pzR k0], M)) rfl).trans ?_
      refine (e_iald (n := 16) (ac_2_2 h0) (al_2_2 h0) tq_23 rfl).trans (e_grd ?_)
      refine (e_callI (as := [pzR k0, pzI (M (k0 + 3) ((x1).toNat)), pzN, pzN, pzN, pzN, pzN, pzN]) (rest := []) (d' := 4) tq_24 rfl (e_cokS rfl rfl h0) rfl rfl rfl tq_23 rfl).trans (e_bI rfl fun r2 M1 => ?_)
      refine (e_if_eq tq_23 rfl).trans (e_ite ?_ ?_)
      · refine (pz_goes tq_23 2 (σ' := (2, [pzR k0, pzI (ia x1 (1))], [], M1)) rfl).trans ?_
        rfl
      · refine (pz_goes tq_23 1 (σ' := (34, [pzR k0, pzI x1], [pzI 1], M1)) rfl).trans ?_
        exact (e_zret tq_23 rfl).trans (grd_pos (by decide))
    · refine (pz_goes tq_23 2 (σ' := (2, [pzR k0, pzI (ia x1 (1))], [], M)) rfl).trans ?_
      rfl
  · refine (pz_goes tq_23 1 (σ' := (42, [pzR k0, pzI x1], [pzI 0], M)) rfl).trans ?_
    exact (e_zret tq_23 rfl).trans (grd_pos (by decide))
/-! PeacockDesk$Law.run(I)I -/
set_option maxRecDepth 20000 in
theorem m_Law_run_eq (k0 : Nat) (x1 : Int) (M : pz_M) (h0 : pz_cls k0 = 2) : m_Law_run k0 x1 M = bM (pz_wr M k0 9 0) fun M1 => m_Law_run_12 k0 (pzI x1) 0 x1 0 pzN pzN pzN M1 := by
  show pzr 4 24 (0, [pzR k0, pzI x1, pzN, pzN, pzN, pzN, pzN, pzN], [], M) = _
  refine (pz_goes tq_24 2 (σ' := (2, [pzR k0, pzI x1, pzN, pzN, pzN, pzN, pzN, pzN], [pzI 0, pzR k0], M)) rfl).trans ?_
  refine ((e_putZ h0 tq_24 rfl).trans (grd_pos (by decide))).trans ?_
  refine e_bM (f := fun M1 => pzr 4 24 (5, [pzR k0, pzI x1, pzN, pzN, pzN, pzN, pzN, pzN], [], M1)) (fun M1 => ?_)
  refine (pz_goes tq_24 6 (σ' := (12, [pzR k0, pzI x1, pzI 0, pzI x1, pzI 0, pzN, pzN, pzN], [], M1)) rfl).trans ?_
  rfl
set_option maxRecDepth 20000 in
theorem m_Law_run_12_eq (k0 : Nat) (w1 : pz_V) (x2 : Int) (x3 : Int) (x4 : Int) (w5 : pz_V) (w6 : pz_V) (w7 : pz_V) (M : pz_M) (h0 : pz_cls k0 = 2) : m_Law_run_12 k0 w1 x2 x3 x4 w5 w6 w7 M = if x4 < (256 : Int) then (if x3 < 0 then (m_Law_run_245 k0 w1 x2 (pzI x3) (pzI x4) w5 w6 w7 M) else (if x3 < (M k0 6) then (grd (0 ≤ x3 ∧ x3 < 256) (if (M (k0 + 4) ((x3).toNat)) = 0 then (m_Law_run_245 k0 w1 x2 (pzI x3) (pzI x4) w5 w6 w7 M) else (grd (0 ≤ x3 ∧ x3 < 256) (grd (0 ≤ x3 ∧ x3 < 256) (if (2 : Int) < (M (k0 + 4) ((x3).toNat)) then (if (5 : Int) < (M (k0 + 4) ((x3).toNat)) then (if x2 < (2 : Int) then some (some (pzI 0), M) else (grd (0 ≤ (isb (ia x2 (-1)) 1) ∧ (isb (ia x2 (-1)) 1) < 32) (grd (0 ≤ (ia x2 (-1)) ∧ (ia x2 (-1)) < 32) (bI (m_Law_join k0 (M (k0 + 4) ((x3).toNat)) (M (k0 + 7) (((isb (ia x2 (-1)) 1)).toNat)) (M (k0 + 7) (((ia x2 (-1))).toNat)) M) fun r2 M1 => grd (0 ≤ (isb (ia x2 (-1)) 1) ∧ (isb (ia x2 (-1)) 1) < 32) (bM (pz_wr M1 (k0 + 7) (((isb (ia x2 (-1)) 1)).toNat) r2) fun M3 => m_Law_run_230 k0 w1 (ia x2 (-1)) (ia x3 (1)) x4 (pzI (M (k0 + 4) ((x3).toNat))) (pzI (M (k0 + 5) ((x3).toNat))) w7 M3))))) else (if x2 < (1 : Int) then some (some (pzI 0), M) else (grd (0 ≤ (isb x2 1) ∧ (isb x2 1) < 32) (if (M (k0 + 7) (((isb x2 1)).toNat)) = 0 then (m_Law_run_135 k0 w1 x2 (ia x3 (1)) x4 (M (k0 + 4) ((x3).toNat)) (M (k0 + 5) ((x3).toNat)) w7 0 M) else (m_Law_run_135 k0 w1 x2 (ia x3 (1)) x4 (M (k0 + 4) ((x3).toNat)) (M (k0 + 5) ((x3).toNat)) w7 1 M))))) else (if x2 < (32 : Int) then (if (M (k0 + 4) ((x3).toNat)) = (1 : Int) then (m_Law_run_99 k0 w1 x2 (ia x3 (1)) x4 (pzI (M (k0 + 4) ((x3).toNat))) (pzI (M (k0 + 5) ((x3).toNat))) w7 (M (k0 + 5) ((x3).toNat)) x2 M) else (bI (m_Law_factOf k0 (M (k0 + 5) ((x3).toNat)) M) fun r5 M4 => m_Law_run_99 k0 w1 x2 (ia x3 (1)) x4 (pzI (M (k0 + 4) ((x3).toNat))) (pzI (M (k0 + 5) ((x3).toNat))) w7 r5 x2 M4)) else (some (some (pzI 0), M)))))))) else (m_Law_run_245 k0 w1 x2 (pzI x3) (pzI x4) w5 w6 w7 M))) else (m_Law_run_245 k0 w1 x2 (pzI x3) (pzI x4) w5 w6 w7 M) := by
  show pzr 4 24 (12, [pzR k0, w1, pzI x2, pzI x3, pzI x4, w5, w6, w7], [], M) = _
  refine (pz_goes tq_24 2 (σ' := (17, [pzR k0, w1, pzI x2, pzI x3, pzI x4, w5, w6, w7], [pzI 256, pzI x4], M)) rfl).trans ?_
  refine (e_icmp_ge tq_24 rfl).trans (e_ite ?_ ?_)
  · refine (pz_goes tq_24 1 (σ' := (21, [pzR k0, w1, pzI x2, pzI x3, pzI x4, w5, w6, w7], [pzI x3], M)) rfl).trans ?_
    refine (e_if_lt tq_24 rfl).trans (e_ite ?_ ?_)
    · rfl
    · refine (pz_goes tq_24 2 (σ' := (26, [pzR k0, w1, pzI x2, pzI x3, pzI x4, w5, w6, w7], [pzR k0, pzI x3], M)) rfl).trans ?_
      refine (e_getI h0 tq_24 rfl).trans ?_
      refine (e_icmp_ge tq_24 rfl).trans (e_ite ?_ ?_)
      · refine (pz_goes tq_24 1 (σ' := (33, [pzR k0, w1, pzI x2, pzI x3, pzI x4, w5, w6, w7], [pzR k0], M)) rfl).trans ?_
        refine (e_getR h0 (ar_2_4 h0) tq_24 rfl).trans ?_
        refine (pz_goes tq_24 1 (σ' := (37, [pzR k0, w1, pzI x2, pzI x3, pzI x4, w5, w6, w7], [pzI x3, pzR (k0 + 4)], M)) rfl).trans ?_
        refine (e_iald (n := 256) (ac_2_4 h0) (al_2_4 h0) tq_24 rfl).trans (e_grd ?_)
        refine (e_if_ne tq_24 rfl).trans (e_ite ?_ ?_)
        · refine (pz_goes tq_24 1 (σ' := (245, [pzR k0, w1, pzI x2, pzI x3, pzI x4, w5, w6, w7], [], M)) rfl).trans ?_
          rfl
        · refine (pz_goes tq_24 1 (σ' := (45, [pzR k0, w1, pzI x2, pzI x3, pzI x4, w5, w6, w7], [pzR k0], M)) rfl).trans ?_
          refine (e_getR h0 (ar_2_4 h0) tq_24 rfl).trans ?_
          refine (pz_goes tq_24 1 (σ' := (49, [pzR k0, w1, pzI x2, pzI x3, pzI x4, w5, w6, w7], [pzI x3, pzR (k0 + 4)], M)) rfl).trans ?_
          refine (e_iald (n := 256) (ac_2_4 h0) (al_2_4 h0) tq_24 rfl).trans (e_grd ?_)
          refine (pz_goes tq_24 2 (σ' := (53, [pzR k0, w1, pzI x2, pzI x3, pzI x4, pzI (M (k0 + 4) ((x3).toNat)), w6, w7], [pzR k0], M)) rfl).trans ?_
          refine (e_getR h0 (ar_2_5 h0) tq_24 rfl).trans ?_
          refine (pz_goes tq_24 1 (σ' := (57, [pzR k0, w1, pzI x2, pzI x3, pzI x4, pzI (M (k0 + 4) ((x3).toNat)), w6, w7], [pzI x3, pzR (k0 + 5)], M)) rfl).trans ?_
          refine (e_iald (n := 256) (ac_2_5 h0) (al_2_5 h0) tq_24 rfl).trans (e_grd ?_)
          refine (pz_goes tq_24 4 (σ' := (66, [pzR k0, w1, pzI x2, pzI (ia x3 (1)), pzI x4, pzI (M (k0 + 4) ((x3).toNat)), pzI (M (k0 + 5) ((x3).toNat)), w7], [pzI 2, pzI (M (k0 + 4) ((x3).toNat))], M)) rfl).trans ?_
          refine (e_icmp_gt tq_24 rfl).trans (e_ite ?_ ?_)
          · refine (pz_goes tq_24 2 (σ' := (109, [pzR k0, w1, pzI x2, pzI (ia x3 (1)), pzI x4, pzI (M (k0 + 4) ((x3).toNat)), pzI (M (k0 + 5) ((x3).toNat)), w7], [pzI 5, pzI (M (k0 + 4) ((x3).toNat))], M)) rfl).trans ?_
            refine (e_icmp_gt tq_24 rfl).trans (e_ite ?_ ?_)
            · refine (pz_goes tq_24 2 (σ' := (194, [pzR k0, w1, pzI x2, pzI (ia x3 (1)), pzI x4, pzI (M (k0 + 4) ((x3).toNat)), pzI (M (k0 + 5) ((x3).toNat)), w7], [pzI 2, pzI x2], M)) rfl).trans ?_
              refine (e_icmp_ge tq_24 rfl).trans (e_ite ?_ ?_)
              · refine (pz_goes tq_24 1 (σ' := (198, [pzR k0, w1, pzI x2, pzI (ia x3 (1)), pzI x4, pzI (M (k0 + 4) ((x3).toNat)), pzI (M (k0 + 5) ((x3).toNat)), w7], [pzI 0], M)) rfl).trans ?_
                exact e_iret tq_24 rfl
              · refine (pz_goes tq_24 2 (σ' := (203, [pzR k0, w1, pzI (ia x2 (-1)), pzI (ia x3 (1)), pzI x4, pzI (M (k0 + 4) ((x3).toNat)), pzI (M (k0 + 5) ((x3).toNat)), w7], [pzR k0], M)) rfl).trans ?_
                refine (e_getR h0 (ar_2_8 h0) tq_24 rfl).trans ?_
                refine (pz_goes tq_24 6 (σ' := (213, [pzR k0, w1, pzI (ia x2 (-1)), pzI (ia x3 (1)), pzI x4, pzI (M (k0 + 4) ((x3).toNat)), pzI (M (k0 + 5) ((x3).toNat)), w7], [pzR k0, pzI (M (k0 + 4) ((x3).toNat)), pzR k0, pzI (isb (ia x2 (-1)) 1), pzR (k0 + 7)], M)) rfl).trans ?_
                refine (e_getR h0 (ar_2_8 h0) tq_24 rfl).trans ?_
                refine (pz_goes tq_24 3 (σ' := (219, [pzR k0, w1, pzI (ia x2 (-1)), pzI (ia x3 (1)), pzI x4, pzI (M (k0 + 4) ((x3).toNat)), pzI (M (k0 + 5) ((x3).toNat)), w7], [pzI (isb (ia x2 (-1)) 1), pzR (k0 + 7), pzI (M (k0 + 4) ((x3).toNat)), pzR k0, pzI (isb (ia x2 (-1)) 1), pzR (k0 + 7)], M)) rfl).trans ?_
                refine (e_iald (n := 32) (ac_2_8 h0) (al_2_8 h0) tq_24 rfl).trans (e_grd ?_)
                refine (pz_goes tq_24 1 (σ' := (221, [pzR k0, w1, pzI (ia x2 (-1)), pzI (ia x3 (1)), pzI x4, pzI (M (k0 + 4) ((x3).toNat)), pzI (M (k0 + 5) ((x3).toNat)), w7], [pzR k0, pzI (M (k0 + 7) (((isb (ia x2 (-1)) 1)).toNat)), pzI (M (k0 + 4) ((x3).toNat)), pzR k0, pzI (isb (ia x2 (-1)) 1), pzR (k0 + 7)], M)) rfl).trans ?_
                refine (e_getR h0 (ar_2_8 h0) tq_24 rfl).trans ?_
                refine (pz_goes tq_24 1 (σ' := (225, [pzR k0, w1, pzI (ia x2 (-1)), pzI (ia x3 (1)), pzI x4, pzI (M (k0 + 4) ((x3).toNat)), pzI (M (k0 + 5) ((x3).toNat)), w7], [pzI (ia x2 (-1)), pzR (k0 + 7), pzI (M (k0 + 7) (((isb (ia x2 (-1)) 1)).toNat)), pzI (M (k0 + 4) ((x3).toNat)), pzR k0, pzI (isb (ia x2 (-1)) 1), pzR (k0 + 7)], M)) rfl).trans ?_
                refine (e_iald (n := 32) (ac_2_8 h0) (al_2_8 h0) tq_24 rfl).trans (e_grd ?_)
                refine (e_callI (as := [pzR k0, pzI (M (k0 + 4) ((x3).toNat)), pzI (M (k0 + 7) (((isb (ia x2 (-1)) 1)).toNat)), pzI (M (k0 + 7) (((ia x2 (-1))).toNat))]) (rest := [pzI (isb (ia x2 (-1)) 1), pzR (k0 + 7)]) (d' := 3) tq_26 rfl (e_cokS rfl rfl h0) rfl rfl rfl tq_24 rfl).trans (e_bI rfl fun r2 M1 => ?_)
                refine (e_iast (n := 32) (ac_2_8 h0) (al_2_8 h0) tq_24 rfl).trans (e_grd ?_)
                refine e_bM (m := pz_wr M1 (k0 + 7) (((isb (ia x2 (-1)) 1)).toNat) r2) (f := fun M3 => pzr 4 24 (230, [pzR k0, w1, pzI (ia x2 (-1)), pzI (ia x3 (1)), pzI x4, pzI (M (k0 + 4) ((x3).toNat)), pzI (M (k0 + 5) ((x3).toNat)), w7], [], M3)) (fun M3 => ?_)
                rfl
            · refine (pz_goes tq_24 2 (σ' := (114, [pzR k0, w1, pzI x2, pzI (ia x3 (1)), pzI x4, pzI (M (k0 + 4) ((x3).toNat)), pzI (M (k0 + 5) ((x3).toNat)), w7], [pzI 1, pzI x2], M)) rfl).trans ?_
              refine (e_icmp_ge tq_24 rfl).trans (e_ite ?_ ?_)
              · refine (pz_goes tq_24 1 (σ' := (118, [pzR k0, w1, pzI x2, pzI (ia x3 (1)), pzI x4, pzI (M (k0 + 4) ((x3).toNat)), pzI (M (k0 + 5) ((x3).toNat)), w7], [pzI 0], M)) rfl).trans ?_
                exact e_iret tq_24 rfl
              · refine (pz_goes tq_24 1 (σ' := (120, [pzR k0, w1, pzI x2, pzI (ia x3 (1)), pzI x4, pzI (M (k0 + 4) ((x3).toNat)), pzI (M (k0 + 5) ((x3).toNat)), w7], [pzR k0], M)) rfl).trans ?_
                refine (e_getR h0 (ar_2_8 h0) tq_24 rfl).trans ?_
                refine (pz_goes tq_24 3 (σ' := (126, [pzR k0, w1, pzI x2, pzI (ia x3 (1)), pzI x4, pzI (M (k0 + 4) ((x3).toNat)), pzI (M (k0 + 5) ((x3).toNat)), w7], [pzI (isb x2 1), pzR (k0 + 7)], M)) rfl).trans ?_
                refine (e_iald (n := 32) (ac_2_8 h0) (al_2_8 h0) tq_24 rfl).trans (e_grd ?_)
                refine (e_if_eq tq_24 rfl).trans (e_ite ?_ ?_)
                · refine (pz_goes tq_24 1 (σ' := (135, [pzR k0, w1, pzI x2, pzI (ia x3 (1)), pzI x4, pzI (M (k0 + 4) ((x3).toNat)), pzI (M (k0 + 5) ((x3).toNat)), w7], [pzI 0], M)) rfl).trans ?_
                  rfl
                · refine (pz_goes tq_24 2 (σ' := (135, [pzR k0, w1, pzI x2, pzI (ia x3 (1)), pzI x4, pzI (M (k0 + 4) ((x3).toNat)), pzI (M (k0 + 5) ((x3).toNat)), w7], [pzI 1], M)) rfl).trans ?_
                  rfl
          · refine (pz_goes tq_24 2 (σ' := (72, [pzR k0, w1, pzI x2, pzI (ia x3 (1)), pzI x4, pzI (M (k0 + 4) ((x3).toNat)), pzI (M (k0 + 5) ((x3).toNat)), w7], [pzI 32, pzI x2], M)) rfl).trans ?_
            refine (e_icmp_lt tq_24 rfl).trans (e_ite ?_ ?_)
            · refine (pz_goes tq_24 1 (σ' := (78, [pzR k0, w1, pzI x2, pzI (ia x3 (1)), pzI x4, pzI (M (k0 + 4) ((x3).toNat)), pzI (M (k0 + 5) ((x3).toNat)), w7], [pzR k0], M)) rfl).trans ?_
              refine (e_getR h0 (ar_2_8 h0) tq_24 rfl).trans ?_
              refine (pz_goes tq_24 3 (σ' := (85, [pzR k0, w1, pzI x2, pzI (ia x3 (1)), pzI x4, pzI (M (k0 + 4) ((x3).toNat)), pzI (M (k0 + 5) ((x3).toNat)), w7], [pzI 1, pzI (M (k0 + 4) ((x3).toNat)), pzI x2, pzR (k0 + 7)], M)) rfl).trans ?_
              refine (e_icmp_ne tq_24 rfl).trans (e_ite ?_ ?_)
              · refine (pz_goes tq_24 2 (σ' := (99, [pzR k0, w1, pzI x2, pzI (ia x3 (1)), pzI x4, pzI (M (k0 + 4) ((x3).toNat)), pzI (M (k0 + 5) ((x3).toNat)), w7], [pzI (M (k0 + 5) ((x3).toNat)), pzI x2, pzR (k0 + 7)], M)) rfl).trans ?_
                rfl
              · refine (pz_goes tq_24 2 (σ' := (96, [pzR k0, w1, pzI x2, pzI (ia x3 (1)), pzI x4, pzI (M (k0 + 4) ((x3).toNat)), pzI (M (k0 + 5) ((x3).toNat)), w7], [pzI (M (k0 + 5) ((x3).toNat)), pzR k0, pzI x2, pzR (k0 + 7)], M)) rfl).trans ?_
                refine (e_callI (as := [pzR k0, pzI (M (k0 + 5) ((x3).toNat))]) (rest := [pzI x2, pzR (k0 + 7)]) (d' := 3) tq_25 rfl (e_cokS rfl rfl h0) rfl rfl rfl tq_24 rfl).trans (e_bI rfl fun r5 M4 => ?_)
                rfl
            · refine (pz_goes tq_24 1 (σ' := (76, [pzR k0, w1, pzI x2, pzI (ia x3 (1)), pzI x4, pzI (M (k0 + 4) ((x3).toNat)), pzI (M (k0 + 5) ((x3).toNat)), w7], [pzI 0], M)) rfl).trans ?_
              exact e_iret tq_24 rfl
      · rfl
  · rfl
set_option maxRecDepth 20000 in
theorem m_Law_run_245_eq (k0 : Nat) (w1 : pz_V) (x2 : Int) (w3 : pz_V) (w4 : pz_V) (w5 : pz_V) (w6 : pz_V) (w7 : pz_V) (M : pz_M) (h0 : pz_cls k0 = 2) : m_Law_run_245 k0 w1 x2 w3 w4 w5 w6 w7 M = if 0 < x2 then (grd (0 ≤ (isb x2 1) ∧ (isb x2 1) < 32) (some (some (pzI (M (k0 + 7) (((isb x2 1)).toNat))), M))) else (some (some (pzI 0), M)) := by
  show pzr 4 24 (245, [pzR k0, w1, pzI x2, w3, w4, w5, w6, w7], [], M) = _
  refine (pz_goes tq_24 1 (σ' := (246, [pzR k0, w1, pzI x2, w3, w4, w5, w6, w7], [pzI x2], M)) rfl).trans ?_
  refine (e_if_le tq_24 rfl).trans (e_ite ?_ ?_)
  · refine (pz_goes tq_24 1 (σ' := (250, [pzR k0, w1, pzI x2, w3, w4, w5, w6, w7], [pzR k0], M)) rfl).trans ?_
    refine (e_getR h0 (ar_2_8 h0) tq_24 rfl).trans ?_
    refine (pz_goes tq_24 3 (σ' := (256, [pzR k0, w1, pzI x2, w3, w4, w5, w6, w7], [pzI (isb x2 1), pzR (k0 + 7)], M)) rfl).trans ?_
    refine (e_iald (n := 32) (ac_2_8 h0) (al_2_8 h0) tq_24 rfl).trans (e_grd ?_)
    refine (pz_goes tq_24 1 (σ' := (261, [pzR k0, w1, pzI x2, w3, w4, w5, w6, w7], [pzI (M (k0 + 7) (((isb x2 1)).toNat))], M)) rfl).trans ?_
    exact e_iret tq_24 rfl
  · refine (pz_goes tq_24 1 (σ' := (261, [pzR k0, w1, pzI x2, w3, w4, w5, w6, w7], [pzI 0], M)) rfl).trans ?_
    exact e_iret tq_24 rfl
set_option maxRecDepth 20000 in
theorem m_Law_run_230_eq (k0 : Nat) (w1 : pz_V) (x2 : Int) (x3 : Int) (x4 : Int) (w5 : pz_V) (w6 : pz_V) (w7 : pz_V) (M : pz_M) (h0 : pz_cls k0 = 2) : m_Law_run_230 k0 w1 x2 x3 x4 w5 w6 w7 M = if (M k0 9) = 0 then (m_Law_run_12 k0 w1 x2 x3 (ia x4 (1)) w5 w6 w7 M) else (some (some (pzI 0), M)) := by
  show pzr 4 24 (230, [pzR k0, w1, pzI x2, pzI x3, pzI x4, w5, w6, w7], [], M) = _
  refine (pz_goes tq_24 1 (σ' := (231, [pzR k0, w1, pzI x2, pzI x3, pzI x4, w5, w6, w7], [pzR k0], M)) rfl).trans ?_
  refine (e_getI h0 tq_24 rfl).trans ?_
  refine (e_if_eq tq_24 rfl).trans (e_ite ?_ ?_)
  · refine (pz_goes tq_24 2 (σ' := (12, [pzR k0, w1, pzI x2, pzI x3, pzI (ia x4 (1)), w5, w6, w7], [], M)) rfl).trans ?_
    rfl
  · refine (pz_goes tq_24 1 (σ' := (238, [pzR k0, w1, pzI x2, pzI x3, pzI x4, w5, w6, w7], [pzI 0], M)) rfl).trans ?_
    exact e_iret tq_24 rfl
set_option maxRecDepth 20000 in
theorem m_Law_run_135_eq (k0 : Nat) (w1 : pz_V) (x2 : Int) (x3 : Int) (x4 : Int) (x5 : Int) (x6 : Int) (w7 : pz_V) (s0 : Int) (M : pz_M) (h0 : pz_cls k0 = 2) : m_Law_run_135 k0 w1 x2 x3 x4 x5 x6 w7 s0 M = if x5 = (3 : Int) then (if s0 = 0 then (m_Law_run_160 k0 w1 x2 x3 x4 (pzI x5) (pzI x6) (pzI s0) 1 (isb x2 1) M) else (m_Law_run_160 k0 w1 x2 x3 x4 (pzI x5) (pzI x6) (pzI s0) 0 (isb x2 1) M)) else (if x5 = (5 : Int) then (m_Law_run_177 k0 w1 x2 x3 x4 (pzI x5) x6 (pzI s0) 1 s0 M) else (m_Law_run_177 k0 w1 x2 x3 x4 (pzI x5) x6 (pzI s0) 0 s0 M)) := by
  show pzr 4 24 (135, [pzR k0, w1, pzI x2, pzI x3, pzI x4, pzI x5, pzI x6, w7], [pzI s0], M) = _
  refine (pz_goes tq_24 3 (σ' := (140, [pzR k0, w1, pzI x2, pzI x3, pzI x4, pzI x5, pzI x6, pzI s0], [pzI 3, pzI x5], M)) rfl).trans ?_
  refine (e_icmp_ne tq_24 rfl).trans (e_ite ?_ ?_)
  · refine (pz_goes tq_24 1 (σ' := (144, [pzR k0, w1, pzI x2, pzI x3, pzI x4, pzI x5, pzI x6, pzI s0], [pzR k0], M)) rfl).trans ?_
    refine (e_getR h0 (ar_2_8 h0) tq_24 rfl).trans ?_
    refine (pz_goes tq_24 4 (σ' := (152, [pzR k0, w1, pzI x2, pzI x3, pzI x4, pzI x5, pzI x6, pzI s0], [pzI s0, pzI (isb x2 1), pzR (k0 + 7)], M)) rfl).trans ?_
    refine (e_if_eq tq_24 rfl).trans (e_ite ?_ ?_)
    · refine (pz_goes tq_24 1 (σ' := (160, [pzR k0, w1, pzI x2, pzI x3, pzI x4, pzI x5, pzI x6, pzI s0], [pzI 1, pzI (isb x2 1), pzR (k0 + 7)], M)) rfl).trans ?_
      rfl
    · refine (pz_goes tq_24 2 (σ' := (160, [pzR k0, w1, pzI x2, pzI x3, pzI x4, pzI x5, pzI x6, pzI s0], [pzI 0, pzI (isb x2 1), pzR (k0 + 7)], M)) rfl).trans ?_
      rfl
  · refine (pz_goes tq_24 3 (σ' := (169, [pzR k0, w1, pzI x2, pzI x3, pzI x4, pzI x5, pzI x6, pzI s0], [pzI 5, pzI x5, pzI s0], M)) rfl).trans ?_
    refine (e_icmp_ne tq_24 rfl).trans (e_ite ?_ ?_)
    · refine (pz_goes tq_24 2 (σ' := (177, [pzR k0, w1, pzI x2, pzI x3, pzI x4, pzI x5, pzI x6, pzI s0], [pzI 1, pzI s0], M)) rfl).trans ?_
      rfl
    · refine (pz_goes tq_24 1 (σ' := (177, [pzR k0, w1, pzI x2, pzI x3, pzI x4, pzI x5, pzI x6, pzI s0], [pzI 0, pzI s0], M)) rfl).trans ?_
      rfl
set_option maxRecDepth 20000 in
theorem m_Law_run_99_eq (k0 : Nat) (w1 : pz_V) (x2 : Int) (x3 : Int) (x4 : Int) (w5 : pz_V) (w6 : pz_V) (w7 : pz_V) (s0 : Int) (s1 : Int) (M : pz_M) (h0 : pz_cls k0 = 2) : m_Law_run_99 k0 w1 x2 x3 x4 w5 w6 w7 s0 s1 M = grd (0 ≤ s1 ∧ s1 < 32) (bM (pz_wr M (k0 + 7) ((s1).toNat) s0) fun M1 => m_Law_run_230 k0 w1 (ia x2 (1)) x3 x4 w5 w6 w7 M1) := by
  show pzr 4 24 (99, [pzR k0, w1, pzI x2, pzI x3, pzI x4, w5, w6, w7], [pzI s0, pzI s1, pzR (k0 + 7)], M) = _
  refine (e_iast (n := 32) (ac_2_8 h0) (al_2_8 h0) tq_24 rfl).trans (e_grd ?_)
  refine e_bM (m := pz_wr M (k0 + 7) ((s1).toNat) s0) (f := fun M1 => pzr 4 24 (100, [pzR k0, w1, pzI x2, pzI x3, pzI x4, w5, w6, w7], [], M1)) (fun M1 => ?_)
  refine (pz_goes tq_24 2 (σ' := (230, [pzR k0, w1, pzI (ia x2 (1)), pzI x3, pzI x4, w5, w6, w7], [], M1)) rfl).trans ?_
  rfl
set_option maxRecDepth 20000 in
theorem m_Law_run_160_eq (k0 : Nat) (w1 : pz_V) (x2 : Int) (x3 : Int) (x4 : Int) (w5 : pz_V) (w6 : pz_V) (w7 : pz_V) (s0 : Int) (s1 : Int) (M : pz_M) (h0 : pz_cls k0 = 2) : m_Law_run_160 k0 w1 x2 x3 x4 w5 w6 w7 s0 s1 M = grd (0 ≤ s1 ∧ s1 < 32) (bM (pz_wr M (k0 + 7) ((s1).toNat) s0) fun M1 => m_Law_run_189 k0 w1 x2 x3 x4 w5 w6 w7 M1) := by
  show pzr 4 24 (160, [pzR k0, w1, pzI x2, pzI x3, pzI x4, w5, w6, w7], [pzI s0, pzI s1, pzR (k0 + 7)], M) = _
  refine (e_iast (n := 32) (ac_2_8 h0) (al_2_8 h0) tq_24 rfl).trans (e_grd ?_)
  refine e_bM (m := pz_wr M (k0 + 7) ((s1).toNat) s0) (f := fun M1 => pzr 4 24 (161, [pzR k0, w1, pzI x2, pzI x3, pzI x4, w5, w6, w7], [], M1)) (fun M1 => ?_)
  refine (pz_goes tq_24 1 (σ' := (189, [pzR k0, w1, pzI x2, pzI x3, pzI x4, w5, w6, w7], [], M1)) rfl).trans ?_
  rfl
set_option maxRecDepth 20000 in
theorem m_Law_run_177_eq (k0 : Nat) (w1 : pz_V) (x2 : Int) (x3 : Int) (x4 : Int) (w5 : pz_V) (x6 : Int) (w7 : pz_V) (s0 : Int) (s1 : Int) (M : pz_M) (h0 : pz_cls k0 = 2) : m_Law_run_177 k0 w1 x2 x3 x4 w5 x6 w7 s0 s1 M = if s1 = s0 then (m_Law_run_189 k0 w1 x2 x6 x4 w5 (pzI x6) w7 M) else (m_Law_run_189 k0 w1 (ia x2 (-1)) x3 x4 w5 (pzI x6) w7 M) := by
  show pzr 4 24 (177, [pzR k0, w1, pzI x2, pzI x3, pzI x4, w5, pzI x6, w7], [pzI s0, pzI s1], M) = _
  refine (e_icmp_ne tq_24 rfl).trans (e_ite ?_ ?_)
  · refine (pz_goes tq_24 3 (σ' := (189, [pzR k0, w1, pzI x2, pzI x6, pzI x4, w5, pzI x6, w7], [], M)) rfl).trans ?_
    rfl
  · refine (pz_goes tq_24 1 (σ' := (189, [pzR k0, w1, pzI (ia x2 (-1)), pzI x3, pzI x4, w5, pzI x6, w7], [], M)) rfl).trans ?_
    rfl
set_option maxRecDepth 20000 in
theorem m_Law_run_189_eq (k0 : Nat) (w1 : pz_V) (x2 : Int) (x3 : Int) (x4 : Int) (w5 : pz_V) (w6 : pz_V) (w7 : pz_V) (M : pz_M) (h0 : pz_cls k0 = 2) : m_Law_run_189 k0 w1 x2 x3 x4 w5 w6 w7 M = m_Law_run_230 k0 w1 x2 x3 x4 w5 w6 w7 M := by
  show pzr 4 24 (189, [pzR k0, w1, pzI x2, pzI x3, pzI x4, w5, w6, w7], [], M) = _
  refine (pz_goes tq_24 1 (σ' := (230, [pzR k0, w1, pzI x2, pzI x3, pzI x4, w5, w6, w7], [], M)) rfl).trans ?_
  rfl
/-! PeacockDesk$Law.factOf(I)I -/
set_option maxRecDepth 20000 in
theorem m_Law_factOf_eq (k0 : Nat) (x1 : Int) (M : pz_M) (h0 : pz_cls k0 = 2) : m_Law_factOf k0 x1 M = if x1 < 0 then some (some (pzI 0), M) else (if x1 < (pz_len (k0 + 6)) then (grd (0 ≤ x1 ∧ x1 < 10) (some (some (pzI (M (k0 + 6) ((x1).toNat))), M))) else (some (some (pzI 0), M))) := by
  show pzr 3 25 (0, [pzR k0, pzI x1], [], M) = _
  refine (pz_goes tq_25 1 (σ' := (1, [pzR k0, pzI x1], [pzI x1], M)) rfl).trans ?_
  refine (e_if_lt tq_25 rfl).trans (e_ite ?_ ?_)
  · refine (pz_goes tq_25 1 (σ' := (23, [pzR k0, pzI x1], [pzI 0], M)) rfl).trans ?_
    exact e_iret tq_25 rfl
  · refine (pz_goes tq_25 2 (σ' := (6, [pzR k0, pzI x1], [pzR k0, pzI x1], M)) rfl).trans ?_
    refine (e_getR h0 (ar_2_7 h0) tq_25 rfl).trans ?_
    refine (e_alen (ac_2_7 h0) tq_25 rfl).trans ?_
    refine (e_icmp_ge tq_25 rfl).trans (e_ite ?_ ?_)
    · refine (pz_goes tq_25 1 (σ' := (14, [pzR k0, pzI x1], [pzR k0], M)) rfl).trans ?_
      refine (e_getR h0 (ar_2_7 h0) tq_25 rfl).trans ?_
      refine (pz_goes tq_25 1 (σ' := (18, [pzR k0, pzI x1], [pzI x1, pzR (k0 + 6)], M)) rfl).trans ?_
      refine (e_iald (n := 10) (ac_2_7 h0) (al_2_7 h0) tq_25 rfl).trans (e_grd ?_)
      refine (pz_goes tq_25 1 (σ' := (23, [pzR k0, pzI x1], [pzI (M (k0 + 6) ((x1).toNat))], M)) rfl).trans ?_
      exact e_iret tq_25 rfl
    · refine (pz_goes tq_25 1 (σ' := (23, [pzR k0, pzI x1], [pzI 0], M)) rfl).trans ?_
      exact e_iret tq_25 rfl
/-! PeacockDesk$Law.join(III)I -/
set_option maxRecDepth 20000 in
theorem m_Law_join_eq (k0 : Nat) (x1 : Int) (x2 : Int) (x3 : Int) (M : pz_M) (h0 : pz_cls k0 = 2) : m_Law_join k0 x1 x2 x3 M = if x1 = 6 then (some (some (pzI (ia x2 x3)), M)) else (if x1 = 7 then (some (some (pzI (isb x2 x3)), M)) else (if x1 = 8 then (some (some (pzI (imu x2 x3)), M)) else (if x1 = 9 then (if x3 = 0 then (bM (pz_wr M k0 9 1) fun M1 => some (some (pzI 0), M1)) else (if x1 = (9 : Int) then (grd (x3 ≠ 0) (some (some (pzI (idv x2 x3)), M))) else (grd (x3 ≠ 0) (some (some (pzI (irm x2 x3)), M))))) else (if x1 = 10 then (if x3 = 0 then (bM (pz_wr M k0 9 1) fun M2 => some (some (pzI 0), M2)) else (if x1 = (9 : Int) then (grd (x3 ≠ 0) (some (some (pzI (idv x2 x3)), M))) else (grd (x3 ≠ 0) (some (some (pzI (irm x2 x3)), M))))) else (if x1 = 11 then (if x2 < x3 then some (some (pzI 1), M) else (some (some (pzI 0), M))) else (if x1 = 12 then (if x3 < x2 then some (some (pzI 1), M) else (some (some (pzI 0), M))) else (if x1 = 13 then (if x2 = x3 then some (some (pzI 1), M) else (some (some (pzI 0), M))) else (if x3 = 0 then (bM (pz_wr M k0 9 1) fun M3 => some (some (pzI 0), M3)) else (if x1 = (9 : Int) then (grd (x3 ≠ 0) (some (some (pzI (idv x2 x3)), M))) else (grd (x3 ≠ 0) (some (some (pzI (irm x2 x3)), M)))))))))))) := by
  show pzr 3 26 (0, [pzR k0, pzI x1, pzI x2, pzI x3], [], M) = _
  refine (pz_goes tq_26 1 (σ' := (1, [pzR k0, pzI x1, pzI x2, pzI x3], [pzI x1], M)) rfl).trans ?_
  refine (e_sw tq_26 rfl).trans ?_
  refine e_sel.trans (e_ite ?_ ?_)
  · refine (pz_goes tq_26 3 (σ' := (51, [pzR k0, pzI x1, pzI x2, pzI x3], [pzI (ia x2 x3)], M)) rfl).trans ?_
    exact e_iret tq_26 rfl
  refine e_sel.trans (e_ite ?_ ?_)
  · refine (pz_goes tq_26 3 (σ' := (55, [pzR k0, pzI x1, pzI x2, pzI x3], [pzI (isb x2 x3)], M)) rfl).trans ?_
    exact e_iret tq_26 rfl
  refine e_sel.trans (e_ite ?_ ?_)
  · refine (pz_goes tq_26 3 (σ' := (59, [pzR k0, pzI x1, pzI x2, pzI x3], [pzI (imu x2 x3)], M)) rfl).trans ?_
    exact e_iret tq_26 rfl
  refine e_sel.trans (e_ite ?_ ?_)
  · refine (pz_goes tq_26 1 (σ' := (94, [pzR k0, pzI x1, pzI x2, pzI x3], [pzI x3], M)) rfl).trans ?_
    refine (e_if_ne tq_26 rfl).trans (e_ite ?_ ?_)
    · refine (pz_goes tq_26 2 (σ' := (99, [pzR k0, pzI x1, pzI x2, pzI x3], [pzI 1, pzR k0], M)) rfl).trans ?_
      refine ((e_putZ h0 tq_26 rfl).trans (grd_pos (by decide))).trans ?_
      refine e_bM (f := fun M1 => pzr 3 26 (102, [pzR k0, pzI x1, pzI x2, pzI x3], [], M1)) (fun M1 => ?_)
      refine (pz_goes tq_26 1 (σ' := (103, [pzR k0, pzI x1, pzI x2, pzI x3], [pzI 0], M1)) rfl).trans ?_
      exact e_iret tq_26 rfl
    · refine (pz_goes tq_26 2 (σ' := (107, [pzR k0, pzI x1, pzI x2, pzI x3], [pzI 9, pzI x1], M)) rfl).trans ?_
      refine (e_icmp_ne tq_26 rfl).trans (e_ite ?_ ?_)
      · refine (pz_goes tq_26 2 (σ' := (112, [pzR k0, pzI x1, pzI x2, pzI x3], [pzI x3, pzI x2], M)) rfl).trans ?_
        refine (e_div tq_26 rfl).trans (e_grd ?_)
        refine (pz_goes tq_26 1 (σ' := (119, [pzR k0, pzI x1, pzI x2, pzI x3], [pzI (idv x2 x3)], M)) rfl).trans ?_
        exact e_iret tq_26 rfl
      · refine (pz_goes tq_26 2 (σ' := (118, [pzR k0, pzI x1, pzI x2, pzI x3], [pzI x3, pzI x2], M)) rfl).trans ?_
        refine (e_div tq_26 rfl).trans (e_grd ?_)
        exact e_iret tq_26 rfl
  refine e_sel.trans (e_ite ?_ ?_)
  · refine (pz_goes tq_26 1 (σ' := (94, [pzR k0, pzI x1, pzI x2, pzI x3], [pzI x3], M)) rfl).trans ?_
    refine (e_if_ne tq_26 rfl).trans (e_ite ?_ ?_)
    · refine (pz_goes tq_26 2 (σ' := (99, [pzR k0, pzI x1, pzI x2, pzI x3], [pzI 1, pzR k0], M)) rfl).trans ?_
      refine ((e_putZ h0 tq_26 rfl).trans (grd_pos (by decide))).trans ?_
      refine e_bM (f := fun M2 => pzr 3 26 (102, [pzR k0, pzI x1, pzI x2, pzI x3], [], M2)) (fun M2 => ?_)
      refine (pz_goes tq_26 1 (σ' := (103, [pzR k0, pzI x1, pzI x2, pzI x3], [pzI 0], M2)) rfl).trans ?_
      exact e_iret tq_26 rfl
    · refine (pz_goes tq_26 2 (σ' := (107, [pzR k0, pzI x1, pzI x2, pzI x3], [pzI 9, pzI x1], M)) rfl).trans ?_
      refine (e_icmp_ne tq_26 rfl).trans (e_ite ?_ ?_)
      · refine (pz_goes tq_26 2 (σ' := (112, [pzR k0, pzI x1, pzI x2, pzI x3], [pzI x3, pzI x2], M)) rfl).trans ?_
        refine (e_div tq_26 rfl).trans (e_grd ?_)
        refine (pz_goes tq_26 1 (σ' := (119, [pzR k0, pzI x1, pzI x2, pzI x3], [pzI (idv x2 x3)], M)) rfl).trans ?_
        exact e_iret tq_26 rfl
      · refine (pz_goes tq_26 2 (σ' := (118, [pzR k0, pzI x1, pzI x2, pzI x3], [pzI x3, pzI x2], M)) rfl).trans ?_
        refine (e_div tq_26 rfl).trans (e_grd ?_)
        exact e_iret tq_26 rfl
  refine e_sel.trans (e_ite ?_ ?_)
  · refine (pz_goes tq_26 2 (σ' := (62, [pzR k0, pzI x1, pzI x2, pzI x3], [pzI x3, pzI x2], M)) rfl).trans ?_
    refine (e_icmp_ge tq_26 rfl).trans (e_ite ?_ ?_)
    · refine (pz_goes tq_26 2 (σ' := (70, [pzR k0, pzI x1, pzI x2, pzI x3], [pzI 1], M)) rfl).trans ?_
      exact e_iret tq_26 rfl
    · refine (pz_goes tq_26 1 (σ' := (70, [pzR k0, pzI x1, pzI x2, pzI x3], [pzI 0], M)) rfl).trans ?_
      exact e_iret tq_26 rfl
  refine e_sel.trans (e_ite ?_ ?_)
  · refine (pz_goes tq_26 2 (σ' := (73, [pzR k0, pzI x1, pzI x2, pzI x3], [pzI x3, pzI x2], M)) rfl).trans ?_
    refine (e_icmp_le tq_26 rfl).trans (e_ite ?_ ?_)
    · refine (pz_goes tq_26 2 (σ' := (81, [pzR k0, pzI x1, pzI x2, pzI x3], [pzI 1], M)) rfl).trans ?_
      exact e_iret tq_26 rfl
    · refine (pz_goes tq_26 1 (σ' := (81, [pzR k0, pzI x1, pzI x2, pzI x3], [pzI 0], M)) rfl).trans ?_
      exact e_iret tq_26 rfl
  refine e_sel.trans (e_ite ?_ ?_)
  · refine (pz_goes tq_26 2 (σ' := (84, [pzR k0, pzI x1, pzI x2, pzI x3], [pzI x3, pzI x2], M)) rfl).trans ?_
    refine (e_icmp_ne tq_26 rfl).trans (e_ite ?_ ?_)
    · refine (pz_goes tq_26 2 (σ' := (92, [pzR k0, pzI x1, pzI x2, pzI x3], [pzI 1], M)) rfl).trans ?_
      exact e_iret tq_26 rfl
    · refine (pz_goes tq_26 1 (σ' := (92, [pzR k0, pzI x1, pzI x2, pzI x3], [pzI 0], M)) rfl).trans ?_
      exact e_iret tq_26 rfl
  refine (show pzr 3 26 (pz_sel [] 93 x1, [pzR k0, pzI x1, pzI x2, pzI x3], [], M) = pzr 3 26 (93, [pzR k0, pzI x1, pzI x2, pzI x3], [], M) from rfl).trans ?_
  refine (pz_goes tq_26 1 (σ' := (94, [pzR k0, pzI x1, pzI x2, pzI x3], [pzI x3], M)) rfl).trans ?_
  refine (e_if_ne tq_26 rfl).trans (e_ite ?_ ?_)
  · refine (pz_goes tq_26 2 (σ' := (99, [pzR k0, pzI x1, pzI x2, pzI x3], [pzI 1, pzR k0], M)) rfl).trans ?_
    refine ((e_putZ h0 tq_26 rfl).trans (grd_pos (by decide))).trans ?_
    refine e_bM (f := fun M3 => pzr 3 26 (102, [pzR k0, pzI x1, pzI x2, pzI x3], [], M3)) (fun M3 => ?_)
    refine (pz_goes tq_26 1 (σ' := (103, [pzR k0, pzI x1, pzI x2, pzI x3], [pzI 0], M3)) rfl).trans ?_
    exact e_iret tq_26 rfl
  · refine (pz_goes tq_26 2 (σ' := (107, [pzR k0, pzI x1, pzI x2, pzI x3], [pzI 9, pzI x1], M)) rfl).trans ?_
    refine (e_icmp_ne tq_26 rfl).trans (e_ite ?_ ?_)
    · refine (pz_goes tq_26 2 (σ' := (112, [pzR k0, pzI x1, pzI x2, pzI x3], [pzI x3, pzI x2], M)) rfl).trans ?_
      refine (e_div tq_26 rfl).trans (e_grd ?_)
      refine (pz_goes tq_26 1 (σ' := (119, [pzR k0, pzI x1, pzI x2, pzI x3], [pzI (idv x2 x3)], M)) rfl).trans ?_
      exact e_iret tq_26 rfl
    · refine (pz_goes tq_26 2 (σ' := (118, [pzR k0, pzI x1, pzI x2, pzI x3], [pzI x3, pzI x2], M)) rfl).trans ?_
      refine (e_div tq_26 rfl).trans (e_grd ?_)
      exact e_iret tq_26 rfl
/-! PeacockDesk$LawReader.readInto(LPeacockDesk$Law;LPeacockDesk$Tape;)Z -/
set_option maxRecDepth 20000 in
theorem m_LawReader_readInto_eq (k0 : Nat) (M : pz_M) (h0 : pz_cls k0 = 2) : m_LawReader_readInto k0 M = bV (m_Law_clear k0 M) fun M1 => m_LawReader_readInto_6 k0 0 pzN pzN pzN M1 := by
  show pzr 60 27 (0, [pzR k0, pzR 29, pzN, pzN, pzN, pzN], [], M) = _
  refine (pz_goes tq_27 1 (σ' := (1, [pzR k0, pzR 29, pzN, pzN, pzN, pzN], [pzR k0], M)) rfl).trans ?_
  refine (e_callV (as := [pzR k0]) (rest := []) (d' := 3) tq_18 rfl (e_cokS rfl rfl h0) rfl rfl rfl tq_27 rfl).trans (e_bV rfl fun M1 => ?_)
  refine (pz_goes tq_27 2 (σ' := (6, [pzR k0, pzR 29, pzI 0, pzN, pzN, pzN], [], M1)) rfl).trans ?_
  rfl
set_option maxRecDepth 20000 in
theorem m_LawReader_readInto_6_eq (k0 : Nat) (x2 : Int) (w3 : pz_V) (w4 : pz_V) (w5 : pz_V) (M : pz_M) (h0 : pz_cls k0 = 2) : m_LawReader_readInto_6 k0 x2 w3 w4 w5 M = if (16 : Int) < x2 then some (some (pzI 0), M) else (bI (m_Tape_placeIn 81 M) fun r2 M1 => if r2 < 0 then (bI (m_Tape_fail 1 M1) fun r4 M3 => grd (r4 = 0 ∨ r4 = 1) (some (some (pzI r4), M3))) else (if x2 < (16 : Int) then (bV (m_Tape_step M1) fun M5 => if r2 = (3 : Int) then (m_LawReader_readInto_67 k0 x2 r2 (M5 k0 6) w5 M5) else (bI (m_LawReader_readSum (59) k0 0 M5) fun r7 M6 => if r7 = 0 then some (some (pzI 0), M6) else (m_LawReader_readInto_67 k0 x2 r2 (M5 k0 6) w5 M6))) else (bI (m_Tape_fail 4 M1) fun r9 M8 => grd (r9 = 0 ∨ r9 = 1) (some (some (pzI r9), M8))))) := by
  show pzr 60 27 (6, [pzR k0, pzR 29, pzI x2, w3, w4, w5], [], M) = _
  refine (pz_goes tq_27 2 (σ' := (9, [pzR k0, pzR 29, pzI x2, w3, w4, w5], [pzI 16, pzI x2], M)) rfl).trans ?_
  refine (e_icmp_gt tq_27 rfl).trans (e_ite ?_ ?_)
  · refine (pz_goes tq_27 1 (σ' := (152, [pzR k0, pzR 29, pzI x2, w3, w4, w5], [pzI 0], M)) rfl).trans ?_
    exact (e_zret tq_27 rfl).trans (grd_pos (by decide))
  · refine (pz_goes tq_27 2 (σ' := (15, [pzR k0, pzR 29, pzI x2, w3, w4, w5], [pzR 81, pzR 29], M)) rfl).trans ?_
    refine (e_callI (as := [pzR 29, pzR 81, pzN, pzN]) (rest := []) (d' := 5) tq_69 rfl rfl rfl rfl rfl tq_27 rfl).trans (e_bI rfl fun r2 M1 => ?_)
    refine (pz_goes tq_27 2 (σ' := (20, [pzR k0, pzR 29, pzI x2, pzI r2, w4, w5], [pzI r2], M1)) rfl).trans ?_
    refine (e_if_ge tq_27 rfl).trans (e_ite ?_ ?_)
    · refine (pz_goes tq_27 2 (σ' := (25, [pzR k0, pzR 29, pzI x2, pzI r2, w4, w5], [pzI 1, pzR 29], M1)) rfl).trans ?_
      refine (e_callI (as := [pzR 29, pzI 1]) (rest := []) (d' := 3) tq_72 rfl rfl rfl rfl rfl tq_27 rfl).trans (e_bI rfl fun r4 M3 => ?_)
      exact e_zret tq_27 rfl
    · refine (pz_goes tq_27 2 (σ' := (32, [pzR k0, pzR 29, pzI x2, pzI r2, w4, w5], [pzI 16, pzI x2], M1)) rfl).trans ?_
      refine (e_icmp_lt tq_27 rfl).trans (e_ite ?_ ?_)
      · refine (pz_goes tq_27 1 (σ' := (42, [pzR k0, pzR 29, pzI x2, pzI r2, w4, w5], [pzR 29], M1)) rfl).trans ?_
        refine (e_callV (as := [pzR 29]) (rest := []) (d' := 3) tq_67 rfl rfl rfl rfl rfl tq_27 rfl).trans (e_bV rfl fun M5 => ?_)
        refine (pz_goes tq_27 1 (σ' := (46, [pzR k0, pzR 29, pzI x2, pzI r2, w4, w5], [pzR k0], M5)) rfl).trans ?_
        refine (e_getI h0 tq_27 rfl).trans ?_
        refine (pz_goes tq_27 3 (σ' := (53, [pzR k0, pzR 29, pzI x2, pzI r2, pzI (M5 k0 6), w5], [pzI 3, pzI r2], M5)) rfl).trans ?_
        refine (e_icmp_eq tq_27 rfl).trans (e_ite ?_ ?_)
        · rfl
        · refine (pz_goes tq_27 3 (σ' := (59, [pzR k0, pzR 29, pzI x2, pzI r2, pzI (M5 k0 6), w5], [pzI 0, pzR 29, pzR k0], M5)) rfl).trans ?_
          refine (e_callI (as := [pzR k0, pzR 29, pzI 0, pzN, pzN, pzN]) (rest := []) (d' := 59) tq_30 rfl rfl rfl rfl rfl tq_27 rfl).trans (e_bI rfl fun r7 M6 => ?_)
          refine (e_if_ne tq_27 rfl).trans (e_ite ?_ ?_)
          · refine (pz_goes tq_27 1 (σ' := (66, [pzR k0, pzR 29, pzI x2, pzI r2, pzI (M5 k0 6), w5], [pzI 0], M6)) rfl).trans ?_
            exact (e_zret tq_27 rfl).trans (grd_pos (by decide))
          · rfl
      · refine (pz_goes tq_27 2 (σ' := (37, [pzR k0, pzR 29, pzI x2, pzI r2, w4, w5], [pzI 4, pzR 29], M1)) rfl).trans ?_
        refine (e_callI (as := [pzR 29, pzI 4]) (rest := []) (d' := 3) tq_72 rfl rfl rfl rfl rfl tq_27 rfl).trans (e_bI rfl fun r9 M8 => ?_)
        exact e_zret tq_27 rfl
set_option maxRecDepth 20000 in
theorem m_LawReader_readInto_67_eq (k0 : Nat) (x2 : Int) (x3 : Int) (x4 : Int) (w5 : pz_V) (M : pz_M) (h0 : pz_cls k0 = 2) : m_LawReader_readInto_67 k0 x2 x3 x4 w5 M = bI (m_Law_addStep k0 0 0 M) fun r2 M1 => bI (m_Tape_pass 40 M1) fun r4 M3 => if r4 = 0 then some (some (pzI 0), M3) else (bI (m_LawReader_readChoice (59) k0 1 M3) fun r6 M5 => if r6 = 0 then some (some (pzI 0), M5) else (bI (m_Tape_pass 41 M5) fun r8 M7 => if r8 = 0 then some (some (pzI 0), M7) else (bI (m_Law_addStep k0 0 0 M7) fun r10 M9 => bV (m_Law_addRule k0 x3 x4 (M1 k0 6) M9) fun M11 => bI (m_Tape_atEnd M11) fun r13 M12 => if r13 = 0 then (bI (m_Tape_pass 59 M12) fun r15 M14 => if r15 = 0 then some (some (pzI 0), M14) else (m_LawReader_readInto_6 k0 (ia x2 (1)) (pzI x3) (pzI x4) (pzI (M1 k0 6)) M14)) else (some (some (pzI 1), M12))))) := by
  show pzr 60 27 (67, [pzR k0, pzR 29, pzI x2, pzI x3, pzI x4, w5], [], M) = _
  refine (pz_goes tq_27 3 (σ' := (70, [pzR k0, pzR 29, pzI x2, pzI x3, pzI x4, w5], [pzI 0, pzI 0, pzR k0], M)) rfl).trans ?_
  refine (e_callI (as := [pzR k0, pzI 0, pzI 0]) (rest := []) (d' := 3) tq_20 rfl (e_cokS rfl rfl h0) rfl rfl rfl tq_27 rfl).trans (e_bI rfl fun r2 M1 => ?_)
  refine (pz_goes tq_27 2 (σ' := (75, [pzR k0, pzR 29, pzI x2, pzI x3, pzI x4, w5], [pzR k0], M1)) rfl).trans ?_
  refine (e_getI h0 tq_27 rfl).trans ?_
  refine (pz_goes tq_27 3 (σ' := (83, [pzR k0, pzR 29, pzI x2, pzI x3, pzI x4, pzI (M1 k0 6)], [pzI 40, pzR 29], M1)) rfl).trans ?_
  refine (e_callI (as := [pzR 29, pzI 40]) (rest := []) (d' := 4) tq_68 rfl rfl rfl rfl rfl tq_27 rfl).trans (e_bI rfl fun r4 M3 => ?_)
  refine (e_if_eq tq_27 rfl).trans (e_ite ?_ ?_)
  · refine (pz_goes tq_27 1 (σ' := (108, [pzR k0, pzR 29, pzI x2, pzI x3, pzI x4, pzI (M1 k0 6)], [pzI 0], M3)) rfl).trans ?_
    exact (e_zret tq_27 rfl).trans (grd_pos (by decide))
  · refine (pz_goes tq_27 3 (σ' := (92, [pzR k0, pzR 29, pzI x2, pzI x3, pzI x4, pzI (M1 k0 6)], [pzI 1, pzR 29, pzR k0], M3)) rfl).trans ?_
    refine (e_callI (as := [pzR k0, pzR 29, pzI 1, pzN, pzN, pzN]) (rest := []) (d' := 59) tq_28 rfl rfl rfl rfl rfl tq_27 rfl).trans (e_bI rfl fun r6 M5 => ?_)
    refine (e_if_eq tq_27 rfl).trans (e_ite ?_ ?_)
    · refine (pz_goes tq_27 1 (σ' := (108, [pzR k0, pzR 29, pzI x2, pzI x3, pzI x4, pzI (M1 k0 6)], [pzI 0], M5)) rfl).trans ?_
      exact (e_zret tq_27 rfl).trans (grd_pos (by decide))
    · refine (pz_goes tq_27 2 (σ' := (101, [pzR k0, pzR 29, pzI x2, pzI x3, pzI x4, pzI (M1 k0 6)], [pzI 41, pzR 29], M5)) rfl).trans ?_
      refine (e_callI (as := [pzR 29, pzI 41]) (rest := []) (d' := 4) tq_68 rfl rfl rfl rfl rfl tq_27 rfl).trans (e_bI rfl fun r8 M7 => ?_)
      refine (e_if_ne tq_27 rfl).trans (e_ite ?_ ?_)
      · refine (pz_goes tq_27 1 (σ' := (108, [pzR k0, pzR 29, pzI x2, pzI x3, pzI x4, pzI (M1 k0 6)], [pzI 0], M7)) rfl).trans ?_
        exact (e_zret tq_27 rfl).trans (grd_pos (by decide))
      · refine (pz_goes tq_27 3 (σ' := (112, [pzR k0, pzR 29, pzI x2, pzI x3, pzI x4, pzI (M1 k0 6)], [pzI 0, pzI 0, pzR k0], M7)) rfl).trans ?_
        refine (e_callI (as := [pzR k0, pzI 0, pzI 0]) (rest := []) (d' := 3) tq_20 rfl (e_cokS rfl rfl h0) rfl rfl rfl tq_27 rfl).trans (e_bI rfl fun r10 M9 => ?_)
        refine (pz_goes tq_27 5 (σ' := (122, [pzR k0, pzR 29, pzI x2, pzI x3, pzI x4, pzI (M1 k0 6)], [pzI (M1 k0 6), pzI x4, pzI x3, pzR k0], M9)) rfl).trans ?_
        refine (e_callV (as := [pzR k0, pzI x3, pzI x4, pzI (M1 k0 6)]) (rest := []) (d' := 3) tq_19 rfl (e_cokS rfl rfl h0) rfl rfl rfl tq_27 rfl).trans (e_bV rfl fun M11 => ?_)
        refine (pz_goes tq_27 1 (σ' := (126, [pzR k0, pzR 29, pzI x2, pzI x3, pzI x4, pzI (M1 k0 6)], [pzR 29], M11)) rfl).trans ?_
        refine (e_callI (as := [pzR 29]) (rest := []) (d' := 3) tq_65 rfl rfl rfl rfl rfl tq_27 rfl).trans (e_bI rfl fun r13 M12 => ?_)
        refine (e_if_eq tq_27 rfl).trans (e_ite ?_ ?_)
        · refine (pz_goes tq_27 2 (σ' := (137, [pzR k0, pzR 29, pzI x2, pzI x3, pzI x4, pzI (M1 k0 6)], [pzI 59, pzR 29], M12)) rfl).trans ?_
          refine (e_callI (as := [pzR 29, pzI 59]) (rest := []) (d' := 4) tq_68 rfl rfl rfl rfl rfl tq_27 rfl).trans (e_bI rfl fun r15 M14 => ?_)
          refine (e_if_ne tq_27 rfl).trans (e_ite ?_ ?_)
          · refine (pz_goes tq_27 1 (σ' := (144, [pzR k0, pzR 29, pzI x2, pzI x3, pzI x4, pzI (M1 k0 6)], [pzI 0], M14)) rfl).trans ?_
            exact (e_zret tq_27 rfl).trans (grd_pos (by decide))
          · refine (pz_goes tq_27 2 (σ' := (6, [pzR k0, pzR 29, pzI (ia x2 (1)), pzI x3, pzI x4, pzI (M1 k0 6)], [], M14)) rfl).trans ?_
            rfl
        · refine (pz_goes tq_27 1 (σ' := (133, [pzR k0, pzR 29, pzI x2, pzI x3, pzI x4, pzI (M1 k0 6)], [pzI 1], M12)) rfl).trans ?_
          exact (e_zret tq_27 rfl).trans (grd_pos (by decide))
/-! PeacockDesk$LawReader.readChoice(LPeacockDesk$Law;LPeacockDesk$Tape;I)Z -/
set_option maxRecDepth 20000 in
theorem m_LawReader_readChoice_eq (d : Nat) (k0 : Nat) (x2 : Int) (M : pz_M) (h0 : pz_cls k0 = 2) : m_LawReader_readChoice d k0 x2 M = m_LawReader_readChoice_8 d k0 x2 (-1) (-1) 0 M := by
  show pzr d 28 (0, [pzR k0, pzR 29, pzI x2, pzN, pzN, pzN], [], M) = _
  refine (pz_goes tq_28 6 (σ' := (8, [pzR k0, pzR 29, pzI x2, pzI (-1), pzI (-1), pzI 0], [], M)) rfl).trans ?_
  rfl
set_option maxRecDepth 20000 in
theorem m_LawReader_readChoice_8_eq (d : Nat) (k0 : Nat) (x2 : Int) (x3 : Int) (x4 : Int) (x5 : Int) (M : pz_M) (h0 : pz_cls k0 = 2) : m_LawReader_readChoice_8 d k0 x2 x3 x4 x5 M = if x5 < (256 : Int) then (grd (4 ≤ d) (bI (m_LawReader_readTest (d - 1) k0 x2 M) fun r2 M1 => if r2 = 0 then some (some (pzI 0), M1) else (grd (4 ≤ d) (bV (m_Law_landHere k0 x3 M1) fun M3 => grd (4 ≤ d) (bI (m_Tape_peek M3) fun r5 M4 => if r5 = (38 : Int) then (grd (4 ≤ d) (bI (m_Law_addStep k0 4 0 M4) fun r7 M6 => m_LawReader_readChoice_78 d k0 x2 r7 x4 x5 M6)) else (grd (4 ≤ d) (bV (m_Law_landHere k0 x4 M4) fun M8 => grd (4 ≤ d) (bI (m_Tape_peek M8) fun r10 M9 => if r10 = (124 : Int) then (grd (4 ≤ d) (bI (m_Law_addStep k0 5 0 M9) fun r12 M11 => m_LawReader_readChoice_78 d k0 x2 (-1) r12 x5 M11)) else (some (some (pzI 1), M9)))))))))) else (some (some (pzI 0), M)) := by
  show pzr d 28 (8, [pzR k0, pzR 29, pzI x2, pzI x3, pzI x4, pzI x5], [], M) = _
  refine (pz_goes tq_28 2 (σ' := (13, [pzR k0, pzR 29, pzI x2, pzI x3, pzI x4, pzI x5], [pzI 256, pzI x5], M)) rfl).trans ?_
  refine (e_icmp_ge tq_28 rfl).trans (e_ite ?_ ?_)
  · refine (pz_goes tq_28 3 (σ' := (19, [pzR k0, pzR 29, pzI x2, pzI x3, pzI x4, pzI x5], [pzI x2, pzR 29, pzR k0], M)) rfl).trans ?_
    refine e_gcall tq_29 (e_cokR0 rfl) tq_28 rfl (fun hc => ?_)
    refine (e_callI (as := [pzR k0, pzR 29, pzI x2, pzN, pzN, pzN]) (rest := []) (d' := d - 1) tq_29 rfl hc rfl rfl rfl tq_28 rfl).trans (e_bI rfl fun r2 M1 => ?_)
    refine (e_if_ne tq_28 rfl).trans (e_ite ?_ ?_)
    · refine (pz_goes tq_28 1 (σ' := (26, [pzR k0, pzR 29, pzI x2, pzI x3, pzI x4, pzI x5], [pzI 0], M1)) rfl).trans ?_
      exact (e_zret tq_28 rfl).trans (grd_pos (by decide))
    · refine (pz_goes tq_28 2 (σ' := (29, [pzR k0, pzR 29, pzI x2, pzI x3, pzI x4, pzI x5], [pzI x3, pzR k0], M1)) rfl).trans ?_
      refine e_gcall tq_21 (e_cokDS rfl rfl h0) tq_28 rfl (fun hc => ?_)
      refine (e_callV (as := [pzR k0, pzI x3]) (rest := []) (d' := 3) tq_21 rfl hc rfl rfl rfl tq_28 rfl).trans (e_bV rfl fun M3 => ?_)
      refine (pz_goes tq_28 3 (σ' := (35, [pzR k0, pzR 29, pzI x2, pzI (-1), pzI x4, pzI x5], [pzR 29], M3)) rfl).trans ?_
      refine e_gcall tq_66 (e_cokDC rfl rfl rfl) tq_28 rfl (fun hc => ?_)
      refine (e_callI (as := [pzR 29]) (rest := []) (d' := 3) tq_66 rfl hc rfl rfl rfl tq_28 rfl).trans (e_bI rfl fun r5 M4 => ?_)
      refine (pz_goes tq_28 1 (σ' := (40, [pzR k0, pzR 29, pzI x2, pzI (-1), pzI x4, pzI x5], [pzI 38, pzI r5], M4)) rfl).trans ?_
      refine (e_icmp_ne tq_28 rfl).trans (e_ite ?_ ?_)
      · refine (pz_goes tq_28 3 (σ' := (46, [pzR k0, pzR 29, pzI x2, pzI (-1), pzI x4, pzI x5], [pzI 0, pzI 4, pzR k0], M4)) rfl).trans ?_
        refine e_gcall tq_20 (e_cokDS rfl rfl h0) tq_28 rfl (fun hc => ?_)
        refine (e_callI (as := [pzR k0, pzI 4, pzI 0]) (rest := []) (d' := 3) tq_20 rfl hc rfl rfl rfl tq_28 rfl).trans (e_bI rfl fun r7 M6 => ?_)
        refine (pz_goes tq_28 2 (σ' := (78, [pzR k0, pzR 29, pzI x2, pzI r7, pzI x4, pzI x5], [], M6)) rfl).trans ?_
        rfl
      · refine (pz_goes tq_28 2 (σ' := (56, [pzR k0, pzR 29, pzI x2, pzI (-1), pzI x4, pzI x5], [pzI x4, pzR k0], M4)) rfl).trans ?_
        refine e_gcall tq_21 (e_cokDS rfl rfl h0) tq_28 rfl (fun hc => ?_)
        refine (e_callV (as := [pzR k0, pzI x4]) (rest := []) (d' := 3) tq_21 rfl hc rfl rfl rfl tq_28 rfl).trans (e_bV rfl fun M8 => ?_)
        refine (pz_goes tq_28 1 (σ' := (60, [pzR k0, pzR 29, pzI x2, pzI (-1), pzI x4, pzI x5], [pzR 29], M8)) rfl).trans ?_
        refine e_gcall tq_66 (e_cokDC rfl rfl rfl) tq_28 rfl (fun hc => ?_)
        refine (e_callI (as := [pzR 29]) (rest := []) (d' := 3) tq_66 rfl hc rfl rfl rfl tq_28 rfl).trans (e_bI rfl fun r10 M9 => ?_)
        refine (pz_goes tq_28 1 (σ' := (65, [pzR k0, pzR 29, pzI x2, pzI (-1), pzI x4, pzI x5], [pzI 124, pzI r10], M9)) rfl).trans ?_
        refine (e_icmp_eq tq_28 rfl).trans (e_ite ?_ ?_)
        · refine (pz_goes tq_28 3 (σ' := (73, [pzR k0, pzR 29, pzI x2, pzI (-1), pzI x4, pzI x5], [pzI 0, pzI 5, pzR k0], M9)) rfl).trans ?_
          refine e_gcall tq_20 (e_cokDS rfl rfl h0) tq_28 rfl (fun hc => ?_)
          refine (e_callI (as := [pzR k0, pzI 5, pzI 0]) (rest := []) (d' := 3) tq_20 rfl hc rfl rfl rfl tq_28 rfl).trans (e_bI rfl fun r12 M11 => ?_)
          refine (pz_goes tq_28 1 (σ' := (78, [pzR k0, pzR 29, pzI x2, pzI (-1), pzI r12, pzI x5], [], M11)) rfl).trans ?_
          rfl
        · refine (pz_goes tq_28 1 (σ' := (69, [pzR k0, pzR 29, pzI x2, pzI (-1), pzI x4, pzI x5], [pzI 1], M9)) rfl).trans ?_
          exact (e_zret tq_28 rfl).trans (grd_pos (by decide))
  · refine (pz_goes tq_28 1 (σ' := (89, [pzR k0, pzR 29, pzI x2, pzI x3, pzI x4, pzI x5], [pzI 0], M)) rfl).trans ?_
    exact (e_zret tq_28 rfl).trans (grd_pos (by decide))
set_option maxRecDepth 20000 in
theorem m_LawReader_readChoice_78_eq (d : Nat) (k0 : Nat) (x2 : Int) (x3 : Int) (x4 : Int) (x5 : Int) (M : pz_M) (h0 : pz_cls k0 = 2) : m_LawReader_readChoice_78 d k0 x2 x3 x4 x5 M = grd (4 ≤ d) (bV (m_Tape_step M) fun M1 => m_LawReader_readChoice_8 d k0 x2 x3 x4 (ia x5 (1)) M1) := by
  show pzr d 28 (78, [pzR k0, pzR 29, pzI x2, pzI x3, pzI x4, pzI x5], [], M) = _
  refine (pz_goes tq_28 1 (σ' := (79, [pzR k0, pzR 29, pzI x2, pzI x3, pzI x4, pzI x5], [pzR 29], M)) rfl).trans ?_
  refine e_gcall tq_67 (e_cokDC rfl rfl rfl) tq_28 rfl (fun hc => ?_)
  refine (e_callV (as := [pzR 29]) (rest := []) (d' := 3) tq_67 rfl hc rfl rfl rfl tq_28 rfl).trans (e_bV rfl fun M1 => ?_)
  refine (pz_goes tq_28 2 (σ' := (8, [pzR k0, pzR 29, pzI x2, pzI x3, pzI x4, pzI (ia x5 (1))], [], M1)) rfl).trans ?_
  rfl
/-! PeacockDesk$LawReader.readTest(LPeacockDesk$Law;LPeacockDesk$Tape;I)Z -/
set_option maxRecDepth 20000 in
theorem m_LawReader_readTest_eq (d : Nat) (k0 : Nat) (x2 : Int) (M : pz_M) (h0 : pz_cls k0 = 2) : m_LawReader_readTest d k0 x2 M = grd (4 ≤ d) (bI (m_Tape_peek M) fun r2 M1 => if r2 = (40 : Int) then (m_LawReader_readTest_17 d k0 x2 r2 pzN pzN M1) else (if r2 = (33 : Int) then (m_LawReader_readTest_17 d k0 x2 r2 pzN pzN M1) else (grd (4 ≤ d) (bI (m_LawReader_readSum (d - 1) k0 x2 M1) fun r4 M3 => if r4 = 0 then some (some (pzI 0), M3) else (grd (6 ≤ d) (bI (m_Tape_placeIn 83 M3) fun r6 M5 => if r6 < 0 then (grd (4 ≤ d) (bI (m_Tape_fail 1 M5) fun r8 M7 => grd (r8 = 0 ∨ r8 = 1) (some (some (pzI r8), M7)))) else (grd (4 ≤ d) (bV (m_Tape_step M5) fun M9 => grd (4 ≤ d) (bI (m_LawReader_readSum (d - 1) k0 x2 M9) fun r11 M10 => grd (4 ≤ d) (bI (m_Law_addStep k0 (ia 11 r6) 0 M10) fun r13 M12 => grd (r11 = 0 ∨ r11 = 1) (some (some (pzI r11), M12)))))))))))) := by
  show pzr d 29 (0, [pzR k0, pzR 29, pzI x2, pzN, pzN, pzN], [], M) = _
  refine (pz_goes tq_29 1 (σ' := (1, [pzR k0, pzR 29, pzI x2, pzN, pzN, pzN], [pzR 29], M)) rfl).trans ?_
  refine e_gcall tq_66 (e_cokDC rfl rfl rfl) tq_29 rfl (fun hc => ?_)
  refine (e_callI (as := [pzR 29]) (rest := []) (d' := 3) tq_66 rfl hc rfl rfl rfl tq_29 rfl).trans (e_bI rfl fun r2 M1 => ?_)
  refine (pz_goes tq_29 3 (σ' := (8, [pzR k0, pzR 29, pzI x2, pzI r2, pzN, pzN], [pzI 40, pzI r2], M1)) rfl).trans ?_
  refine (e_icmp_eq tq_29 rfl).trans (e_ite ?_ ?_)
  · rfl
  · refine (pz_goes tq_29 2 (σ' := (14, [pzR k0, pzR 29, pzI x2, pzI r2, pzN, pzN], [pzI 33, pzI r2], M1)) rfl).trans ?_
    refine (e_icmp_ne tq_29 rfl).trans (e_ite ?_ ?_)
    · rfl
    · refine (pz_goes tq_29 3 (σ' := (88, [pzR k0, pzR 29, pzI x2, pzI r2, pzN, pzN], [pzI x2, pzR 29, pzR k0], M1)) rfl).trans ?_
      refine e_gcall tq_30 (e_cokR0 rfl) tq_29 rfl (fun hc => ?_)
      refine (e_callI (as := [pzR k0, pzR 29, pzI x2, pzN, pzN, pzN]) (rest := []) (d' := d - 1) tq_30 rfl hc rfl rfl rfl tq_29 rfl).trans (e_bI rfl fun r4 M3 => ?_)
      refine (e_if_ne tq_29 rfl).trans (e_ite ?_ ?_)
      · refine (pz_goes tq_29 1 (σ' := (95, [pzR k0, pzR 29, pzI x2, pzI r2, pzN, pzN], [pzI 0], M3)) rfl).trans ?_
        exact (e_zret tq_29 rfl).trans (grd_pos (by decide))
      · refine (pz_goes tq_29 2 (σ' := (99, [pzR k0, pzR 29, pzI x2, pzI r2, pzN, pzN], [pzR 83, pzR 29], M3)) rfl).trans ?_
        refine e_gcall tq_69 (e_cokDC rfl rfl rfl) tq_29 rfl (fun hc => ?_)
        refine (e_callI (as := [pzR 29, pzR 83, pzN, pzN]) (rest := []) (d' := 5) tq_69 rfl hc rfl rfl rfl tq_29 rfl).trans (e_bI rfl fun r6 M5 => ?_)
        refine (pz_goes tq_29 2 (σ' := (106, [pzR k0, pzR 29, pzI x2, pzI r2, pzI r6, pzN], [pzI r6], M5)) rfl).trans ?_
        refine (e_if_ge tq_29 rfl).trans (e_ite ?_ ?_)
        · refine (pz_goes tq_29 2 (σ' := (111, [pzR k0, pzR 29, pzI x2, pzI r2, pzI r6, pzN], [pzI 1, pzR 29], M5)) rfl).trans ?_
          refine e_gcall tq_72 (e_cokDC rfl rfl rfl) tq_29 rfl (fun hc => ?_)
          refine (e_callI (as := [pzR 29, pzI 1]) (rest := []) (d' := 3) tq_72 rfl hc rfl rfl rfl tq_29 rfl).trans (e_bI rfl fun r8 M7 => ?_)
          exact e_zret tq_29 rfl
        · refine (pz_goes tq_29 1 (σ' := (116, [pzR k0, pzR 29, pzI x2, pzI r2, pzI r6, pzN], [pzR 29], M5)) rfl).trans ?_
          refine e_gcall tq_67 (e_cokDC rfl rfl rfl) tq_29 rfl (fun hc => ?_)
          refine (e_callV (as := [pzR 29]) (rest := []) (d' := 3) tq_67 rfl hc rfl rfl rfl tq_29 rfl).trans (e_bV rfl fun M9 => ?_)
          refine (pz_goes tq_29 3 (σ' := (122, [pzR k0, pzR 29, pzI x2, pzI r2, pzI r6, pzN], [pzI x2, pzR 29, pzR k0], M9)) rfl).trans ?_
          refine e_gcall tq_30 (e_cokR0 rfl) tq_29 rfl (fun hc => ?_)
          refine (e_callI (as := [pzR k0, pzR 29, pzI x2, pzN, pzN, pzN]) (rest := []) (d' := d - 1) tq_30 rfl hc rfl rfl rfl tq_29 rfl).trans (e_bI rfl fun r11 M10 => ?_)
          refine (pz_goes tq_29 6 (σ' := (134, [pzR k0, pzR 29, pzI x2, pzI r2, pzI r6, pzI r11], [pzI 0, pzI (ia 11 r6), pzR k0], M10)) rfl).trans ?_
          refine e_gcall tq_20 (e_cokDS rfl rfl h0) tq_29 rfl (fun hc => ?_)
          refine (e_callI (as := [pzR k0, pzI (ia 11 r6), pzI 0]) (rest := []) (d' := 3) tq_20 rfl hc rfl rfl rfl tq_29 rfl).trans (e_bI rfl fun r13 M12 => ?_)
          refine (pz_goes tq_29 2 (σ' := (140, [pzR k0, pzR 29, pzI x2, pzI r2, pzI r6, pzI r11], [pzI r11], M12)) rfl).trans ?_
          exact e_zret tq_29 rfl
set_option maxRecDepth 20000 in
theorem m_LawReader_readTest_17_eq (d : Nat) (k0 : Nat) (x2 : Int) (x3 : Int) (w4 : pz_V) (w5 : pz_V) (M : pz_M) (h0 : pz_cls k0 = 2) : m_LawReader_readTest_17 d k0 x2 x3 w4 w5 M = if x2 < (6 : Int) then (grd (4 ≤ d) (bV (m_Tape_step M) fun M1 => if x3 = (40 : Int) then (grd (4 ≤ d) (bI (m_LawReader_readChoice (d - 1) k0 (ia x2 1) M1) fun r3 M2 => if r3 = 0 then some (some (pzI 0), M2) else (grd (5 ≤ d) (bI (m_Tape_pass 41 M2) fun r5 M4 => if r5 = 0 then some (some (pzI 0), M4) else (some (some (pzI 1), M4)))))) else (grd (4 ≤ d) (bI (m_LawReader_readTest (d - 1) k0 (ia x2 1) M1) fun r7 M6 => grd (4 ≤ d) (bI (m_Law_addStep k0 3 0 M6) fun r9 M8 => grd (r7 = 0 ∨ r7 = 1) (some (some (pzI r7), M8))))))) else (grd (4 ≤ d) (bI (m_Tape_fail 5 M) fun r11 M10 => grd (r11 = 0 ∨ r11 = 1) (some (some (pzI r11), M10)))) := by
  show pzr d 29 (17, [pzR k0, pzR 29, pzI x2, pzI x3, w4, w5], [], M) = _
  refine (pz_goes tq_29 2 (σ' := (20, [pzR k0, pzR 29, pzI x2, pzI x3, w4, w5], [pzI 6, pzI x2], M)) rfl).trans ?_
  refine (e_icmp_lt tq_29 rfl).trans (e_ite ?_ ?_)
  · refine (pz_goes tq_29 1 (σ' := (30, [pzR k0, pzR 29, pzI x2, pzI x3, w4, w5], [pzR 29], M)) rfl).trans ?_
    refine e_gcall tq_67 (e_cokDC rfl rfl rfl) tq_29 rfl (fun hc => ?_)
    refine (e_callV (as := [pzR 29]) (rest := []) (d' := 3) tq_67 rfl hc rfl rfl rfl tq_29 rfl).trans (e_bV rfl fun M1 => ?_)
    refine (pz_goes tq_29 2 (σ' := (36, [pzR k0, pzR 29, pzI x2, pzI x3, w4, w5], [pzI 40, pzI x3], M1)) rfl).trans ?_
    refine (e_icmp_ne tq_29 rfl).trans (e_ite ?_ ?_)
    · refine (pz_goes tq_29 5 (σ' := (44, [pzR k0, pzR 29, pzI x2, pzI x3, w4, w5], [pzI (ia x2 1), pzR 29, pzR k0], M1)) rfl).trans ?_
      refine e_gcall tq_28 (e_cokR0 rfl) tq_29 rfl (fun hc => ?_)
      refine (e_callI (as := [pzR k0, pzR 29, pzI (ia x2 1), pzN, pzN, pzN]) (rest := []) (d' := d - 1) tq_28 rfl hc rfl rfl rfl tq_29 rfl).trans (e_bI rfl fun r3 M2 => ?_)
      refine (e_if_eq tq_29 rfl).trans (e_ite ?_ ?_)
      · refine (pz_goes tq_29 1 (σ' := (64, [pzR k0, pzR 29, pzI x2, pzI x3, w4, w5], [pzI 0], M2)) rfl).trans ?_
        exact (e_zret tq_29 rfl).trans (grd_pos (by decide))
      · refine (pz_goes tq_29 2 (σ' := (53, [pzR k0, pzR 29, pzI x2, pzI x3, w4, w5], [pzI 41, pzR 29], M2)) rfl).trans ?_
        refine e_gcall tq_68 (e_cokDC rfl rfl rfl) tq_29 rfl (fun hc => ?_)
        refine (e_callI (as := [pzR 29, pzI 41]) (rest := []) (d' := 4) tq_68 rfl hc rfl rfl rfl tq_29 rfl).trans (e_bI rfl fun r5 M4 => ?_)
        refine (e_if_eq tq_29 rfl).trans (e_ite ?_ ?_)
        · refine (pz_goes tq_29 1 (σ' := (64, [pzR k0, pzR 29, pzI x2, pzI x3, w4, w5], [pzI 0], M4)) rfl).trans ?_
          exact (e_zret tq_29 rfl).trans (grd_pos (by decide))
        · refine (pz_goes tq_29 2 (σ' := (64, [pzR k0, pzR 29, pzI x2, pzI x3, w4, w5], [pzI 1], M4)) rfl).trans ?_
          exact (e_zret tq_29 rfl).trans (grd_pos (by decide))
    · refine (pz_goes tq_29 5 (σ' := (70, [pzR k0, pzR 29, pzI x2, pzI x3, w4, w5], [pzI (ia x2 1), pzR 29, pzR k0], M1)) rfl).trans ?_
      refine e_gcall tq_29 (e_cokR0 rfl) tq_29 rfl (fun hc => ?_)
      refine (e_callI (as := [pzR k0, pzR 29, pzI (ia x2 1), pzN, pzN, pzN]) (rest := []) (d' := d - 1) tq_29 rfl hc rfl rfl rfl tq_29 rfl).trans (e_bI rfl fun r7 M6 => ?_)
      refine (pz_goes tq_29 4 (σ' := (78, [pzR k0, pzR 29, pzI x2, pzI x3, pzI r7, w5], [pzI 0, pzI 3, pzR k0], M6)) rfl).trans ?_
      refine e_gcall tq_20 (e_cokDS rfl rfl h0) tq_29 rfl (fun hc => ?_)
      refine (e_callI (as := [pzR k0, pzI 3, pzI 0]) (rest := []) (d' := 3) tq_20 rfl hc rfl rfl rfl tq_29 rfl).trans (e_bI rfl fun r9 M8 => ?_)
      refine (pz_goes tq_29 2 (σ' := (84, [pzR k0, pzR 29, pzI x2, pzI x3, pzI r7, w5], [pzI r7], M8)) rfl).trans ?_
      exact e_zret tq_29 rfl
  · refine (pz_goes tq_29 2 (σ' := (25, [pzR k0, pzR 29, pzI x2, pzI x3, w4, w5], [pzI 5, pzR 29], M)) rfl).trans ?_
    refine e_gcall tq_72 (e_cokDC rfl rfl rfl) tq_29 rfl (fun hc => ?_)
    refine (e_callI (as := [pzR 29, pzI 5]) (rest := []) (d' := 3) tq_72 rfl hc rfl rfl rfl tq_29 rfl).trans (e_bI rfl fun r11 M10 => ?_)
    exact e_zret tq_29 rfl
/-! PeacockDesk$LawReader.readSum(LPeacockDesk$Law;LPeacockDesk$Tape;I)Z -/
set_option maxRecDepth 20000 in
theorem m_LawReader_readSum_eq (d : Nat) (k0 : Nat) (x2 : Int) (M : pz_M) (h0 : pz_cls k0 = 2) : m_LawReader_readSum d k0 x2 M = m_LawReader_readSum_8 d k0 x2 (-1) (-1) 0 M := by
  show pzr d 30 (0, [pzR k0, pzR 29, pzI x2, pzN, pzN, pzN], [], M) = _
  refine (pz_goes tq_30 6 (σ' := (8, [pzR k0, pzR 29, pzI x2, pzI (-1), pzI (-1), pzI 0], [], M)) rfl).trans ?_
  rfl
set_option maxRecDepth 20000 in
theorem m_LawReader_readSum_8_eq (d : Nat) (k0 : Nat) (x2 : Int) (x3 : Int) (x4 : Int) (x5 : Int) (M : pz_M) (h0 : pz_cls k0 = 2) : m_LawReader_readSum_8 d k0 x2 x3 x4 x5 M = if x5 < (256 : Int) then (grd (4 ≤ d) (bI (m_LawReader_readFactor (d - 1) k0 x2 M) fun r2 M1 => if r2 = 0 then some (some (pzI 0), M1) else (if x3 < 0 then (m_LawReader_readSum_41 d k0 x2 (pzI x3) x4 x5 M1) else (grd (4 ≤ d) (bI (m_Law_addStep k0 (ia 8 x3) 0 M1) fun r4 M3 => m_LawReader_readSum_41 d k0 x2 (pzI x3) x4 x5 M3))))) else (some (some (pzI 0), M)) := by
  show pzr d 30 (8, [pzR k0, pzR 29, pzI x2, pzI x3, pzI x4, pzI x5], [], M) = _
  refine (pz_goes tq_30 2 (σ' := (13, [pzR k0, pzR 29, pzI x2, pzI x3, pzI x4, pzI x5], [pzI 256, pzI x5], M)) rfl).trans ?_
  refine (e_icmp_ge tq_30 rfl).trans (e_ite ?_ ?_)
  · refine (pz_goes tq_30 3 (σ' := (19, [pzR k0, pzR 29, pzI x2, pzI x3, pzI x4, pzI x5], [pzI x2, pzR 29, pzR k0], M)) rfl).trans ?_
    refine e_gcall tq_31 (e_cokR0 rfl) tq_30 rfl (fun hc => ?_)
    refine (e_callI (as := [pzR k0, pzR 29, pzI x2, pzN, pzN]) (rest := []) (d' := d - 1) tq_31 rfl hc rfl rfl rfl tq_30 rfl).trans (e_bI rfl fun r2 M1 => ?_)
    refine (e_if_ne tq_30 rfl).trans (e_ite ?_ ?_)
    · refine (pz_goes tq_30 1 (σ' := (26, [pzR k0, pzR 29, pzI x2, pzI x3, pzI x4, pzI x5], [pzI 0], M1)) rfl).trans ?_
      exact (e_zret tq_30 rfl).trans (grd_pos (by decide))
    · refine (pz_goes tq_30 1 (σ' := (28, [pzR k0, pzR 29, pzI x2, pzI x3, pzI x4, pzI x5], [pzI x3], M1)) rfl).trans ?_
      refine (e_if_lt tq_30 rfl).trans (e_ite ?_ ?_)
      · rfl
      · refine (pz_goes tq_30 5 (σ' := (37, [pzR k0, pzR 29, pzI x2, pzI x3, pzI x4, pzI x5], [pzI 0, pzI (ia 8 x3), pzR k0], M1)) rfl).trans ?_
        refine e_gcall tq_20 (e_cokDS rfl rfl h0) tq_30 rfl (fun hc => ?_)
        refine (e_callI (as := [pzR k0, pzI (ia 8 x3), pzI 0]) (rest := []) (d' := 3) tq_20 rfl hc rfl rfl rfl tq_30 rfl).trans (e_bI rfl fun r4 M3 => ?_)
        refine (pz_goes tq_30 1 (σ' := (41, [pzR k0, pzR 29, pzI x2, pzI x3, pzI x4, pzI x5], [], M3)) rfl).trans ?_
        rfl
  · refine (pz_goes tq_30 1 (σ' := (94, [pzR k0, pzR 29, pzI x2, pzI x3, pzI x4, pzI x5], [pzI 0], M)) rfl).trans ?_
    exact (e_zret tq_30 rfl).trans (grd_pos (by decide))
set_option maxRecDepth 20000 in
theorem m_LawReader_readSum_41_eq (d : Nat) (k0 : Nat) (x2 : Int) (w3 : pz_V) (x4 : Int) (x5 : Int) (M : pz_M) (h0 : pz_cls k0 = 2) : m_LawReader_readSum_41 d k0 x2 w3 x4 x5 M = grd (6 ≤ d) (bI (m_Tape_placeIn 84 M) fun r2 M1 => if r2 < 0 then (if x4 < 0 then (m_LawReader_readSum_68 d k0 x2 r2 (pzI x4) x5 M1) else (grd (4 ≤ d) (bI (m_Law_addStep k0 (ia 6 x4) 0 M1) fun r4 M3 => m_LawReader_readSum_68 d k0 x2 r2 (pzI x4) x5 M3))) else (m_LawReader_readSum_83 d k0 x2 r2 x4 x5 M1)) := by
  show pzr d 30 (41, [pzR k0, pzR 29, pzI x2, w3, pzI x4, pzI x5], [], M) = _
  refine (pz_goes tq_30 2 (σ' := (44, [pzR k0, pzR 29, pzI x2, w3, pzI x4, pzI x5], [pzR 84, pzR 29], M)) rfl).trans ?_
  refine e_gcall tq_69 (e_cokDC rfl rfl rfl) tq_30 rfl (fun hc => ?_)
  refine (e_callI (as := [pzR 29, pzR 84, pzN, pzN]) (rest := []) (d' := 5) tq_69 rfl hc rfl rfl rfl tq_30 rfl).trans (e_bI rfl fun r2 M1 => ?_)
  refine (pz_goes tq_30 2 (σ' := (49, [pzR k0, pzR 29, pzI x2, pzI r2, pzI x4, pzI x5], [pzI r2], M1)) rfl).trans ?_
  refine (e_if_ge tq_30 rfl).trans (e_ite ?_ ?_)
  · refine (pz_goes tq_30 1 (σ' := (54, [pzR k0, pzR 29, pzI x2, pzI r2, pzI x4, pzI x5], [pzI x4], M1)) rfl).trans ?_
    refine (e_if_lt tq_30 rfl).trans (e_ite ?_ ?_)
    · rfl
    · refine (pz_goes tq_30 5 (σ' := (64, [pzR k0, pzR 29, pzI x2, pzI r2, pzI x4, pzI x5], [pzI 0, pzI (ia 6 x4), pzR k0], M1)) rfl).trans ?_
      refine e_gcall tq_20 (e_cokDS rfl rfl h0) tq_30 rfl (fun hc => ?_)
      refine (e_callI (as := [pzR k0, pzI (ia 6 x4), pzI 0]) (rest := []) (d' := 3) tq_20 rfl hc rfl rfl rfl tq_30 rfl).trans (e_bI rfl fun r4 M3 => ?_)
      refine (pz_goes tq_30 1 (σ' := (68, [pzR k0, pzR 29, pzI x2, pzI r2, pzI x4, pzI x5], [], M3)) rfl).trans ?_
      rfl
  · rfl
set_option maxRecDepth 20000 in
theorem m_LawReader_readSum_68_eq (d : Nat) (k0 : Nat) (x2 : Int) (x3 : Int) (w4 : pz_V) (x5 : Int) (M : pz_M) (h0 : pz_cls k0 = 2) : m_LawReader_readSum_68 d k0 x2 x3 w4 x5 M = grd (6 ≤ d) (bI (m_Tape_placeIn 85 M) fun r2 M1 => if r2 < 0 then some (some (pzI 1), M1) else (m_LawReader_readSum_83 d k0 x2 x3 r2 x5 M1)) := by
  show pzr d 30 (68, [pzR k0, pzR 29, pzI x2, pzI x3, w4, pzI x5], [], M) = _
  refine (pz_goes tq_30 2 (σ' := (71, [pzR k0, pzR 29, pzI x2, pzI x3, w4, pzI x5], [pzR 85, pzR 29], M)) rfl).trans ?_
  refine e_gcall tq_69 (e_cokDC rfl rfl rfl) tq_30 rfl (fun hc => ?_)
  refine (e_callI (as := [pzR 29, pzR 85, pzN, pzN]) (rest := []) (d' := 5) tq_69 rfl hc rfl rfl rfl tq_30 rfl).trans (e_bI rfl fun r2 M1 => ?_)
  refine (pz_goes tq_30 2 (σ' := (78, [pzR k0, pzR 29, pzI x2, pzI x3, pzI r2, pzI x5], [pzI r2], M1)) rfl).trans ?_
  refine (e_if_ge tq_30 rfl).trans (e_ite ?_ ?_)
  · refine (pz_goes tq_30 1 (σ' := (82, [pzR k0, pzR 29, pzI x2, pzI x3, pzI r2, pzI x5], [pzI 1], M1)) rfl).trans ?_
    exact (e_zret tq_30 rfl).trans (grd_pos (by decide))
  · rfl
set_option maxRecDepth 20000 in
theorem m_LawReader_readSum_83_eq (d : Nat) (k0 : Nat) (x2 : Int) (x3 : Int) (x4 : Int) (x5 : Int) (M : pz_M) (h0 : pz_cls k0 = 2) : m_LawReader_readSum_83 d k0 x2 x3 x4 x5 M = grd (4 ≤ d) (bV (m_Tape_step M) fun M1 => m_LawReader_readSum_8 d k0 x2 x3 x4 (ia x5 (1)) M1) := by
  show pzr d 30 (83, [pzR k0, pzR 29, pzI x2, pzI x3, pzI x4, pzI x5], [], M) = _
  refine (pz_goes tq_30 1 (σ' := (84, [pzR k0, pzR 29, pzI x2, pzI x3, pzI x4, pzI x5], [pzR 29], M)) rfl).trans ?_
  refine e_gcall tq_67 (e_cokDC rfl rfl rfl) tq_30 rfl (fun hc => ?_)
  refine (e_callV (as := [pzR 29]) (rest := []) (d' := 3) tq_67 rfl hc rfl rfl rfl tq_30 rfl).trans (e_bV rfl fun M1 => ?_)
  refine (pz_goes tq_30 2 (σ' := (8, [pzR k0, pzR 29, pzI x2, pzI x3, pzI x4, pzI (ia x5 (1))], [], M1)) rfl).trans ?_
  rfl
/-! PeacockDesk$LawReader.readFactor(LPeacockDesk$Law;LPeacockDesk$Tape;I)Z -/
set_option maxRecDepth 20000 in
theorem m_LawReader_readFactor_eq (d : Nat) (k0 : Nat) (x2 : Int) (M : pz_M) (h0 : pz_cls k0 = 2) : m_LawReader_readFactor d k0 x2 M = grd (4 ≤ d) (bI (m_Tape_peek M) fun r2 M1 => if r2 = (91 : Int) then (if x2 < (6 : Int) then (grd (4 ≤ d) (bV (m_Tape_step M1) fun M3 => grd (4 ≤ d) (bI (m_LawReader_readSum (d - 1) k0 (ia x2 1) M3) fun r5 M4 => if r5 = 0 then some (some (pzI 0), M4) else (grd (5 ≤ d) (bI (m_Tape_pass 93 M4) fun r7 M6 => if r7 = 0 then some (some (pzI 0), M6) else (some (some (pzI 1), M6))))))) else (grd (4 ≤ d) (bI (m_Tape_fail 5 M1) fun r9 M8 => grd (r9 = 0 ∨ r9 = 1) (some (some (pzI r9), M8))))) else (grd (6 ≤ d) (bI (m_Tape_placeIn 82 M1) fun r11 M10 => if r11 < 0 then (grd (5 ≤ d) (bI (m_Tape_readNumber 5 M10) fun r13 M12 => grd (4 ≤ d) (bI (m_Law_addStep k0 1 r13 M12) fun r15 M14 => if r13 < 0 then some (some (pzI 0), M14) else (some (some (pzI 1), M14))))) else (grd (4 ≤ d) (bV (m_Tape_step M10) fun M16 => grd (4 ≤ d) (bI (m_Law_addStep k0 2 r11 M16) fun r18 M17 => some (some (pzI 1), M17))))))) := by
  show pzr d 31 (0, [pzR k0, pzR 29, pzI x2, pzN, pzN], [], M) = _
  refine (pz_goes tq_31 1 (σ' := (1, [pzR k0, pzR 29, pzI x2, pzN, pzN], [pzR 29], M)) rfl).trans ?_
  refine e_gcall tq_66 (e_cokDC rfl rfl rfl) tq_31 rfl (fun hc => ?_)
  refine (e_callI (as := [pzR 29]) (rest := []) (d' := 3) tq_66 rfl hc rfl rfl rfl tq_31 rfl).trans (e_bI rfl fun r2 M1 => ?_)
  refine (pz_goes tq_31 1 (σ' := (6, [pzR k0, pzR 29, pzI x2, pzN, pzN], [pzI 91, pzI r2], M1)) rfl).trans ?_
  refine (e_icmp_ne tq_31 rfl).trans (e_ite ?_ ?_)
  · refine (pz_goes tq_31 2 (σ' := (12, [pzR k0, pzR 29, pzI x2, pzN, pzN], [pzI 6, pzI x2], M1)) rfl).trans ?_
    refine (e_icmp_lt tq_31 rfl).trans (e_ite ?_ ?_)
    · refine (pz_goes tq_31 1 (σ' := (22, [pzR k0, pzR 29, pzI x2, pzN, pzN], [pzR 29], M1)) rfl).trans ?_
      refine e_gcall tq_67 (e_cokDC rfl rfl rfl) tq_31 rfl (fun hc => ?_)
      refine (e_callV (as := [pzR 29]) (rest := []) (d' := 3) tq_67 rfl hc rfl rfl rfl tq_31 rfl).trans (e_bV rfl fun M3 => ?_)
      refine (pz_goes tq_31 5 (σ' := (30, [pzR k0, pzR 29, pzI x2, pzN, pzN], [pzI (ia x2 1), pzR 29, pzR k0], M3)) rfl).trans ?_
      refine e_gcall tq_30 (e_cokR0 rfl) tq_31 rfl (fun hc => ?_)
      refine (e_callI (as := [pzR k0, pzR 29, pzI (ia x2 1), pzN, pzN, pzN]) (rest := []) (d' := d - 1) tq_30 rfl hc rfl rfl rfl tq_31 rfl).trans (e_bI rfl fun r5 M4 => ?_)
      refine (e_if_eq tq_31 rfl).trans (e_ite ?_ ?_)
      · refine (pz_goes tq_31 1 (σ' := (50, [pzR k0, pzR 29, pzI x2, pzN, pzN], [pzI 0], M4)) rfl).trans ?_
        exact (e_zret tq_31 rfl).trans (grd_pos (by decide))
      · refine (pz_goes tq_31 2 (σ' := (39, [pzR k0, pzR 29, pzI x2, pzN, pzN], [pzI 93, pzR 29], M4)) rfl).trans ?_
        refine e_gcall tq_68 (e_cokDC rfl rfl rfl) tq_31 rfl (fun hc => ?_)
        refine (e_callI (as := [pzR 29, pzI 93]) (rest := []) (d' := 4) tq_68 rfl hc rfl rfl rfl tq_31 rfl).trans (e_bI rfl fun r7 M6 => ?_)
        refine (e_if_eq tq_31 rfl).trans (e_ite ?_ ?_)
        · refine (pz_goes tq_31 1 (σ' := (50, [pzR k0, pzR 29, pzI x2, pzN, pzN], [pzI 0], M6)) rfl).trans ?_
          exact (e_zret tq_31 rfl).trans (grd_pos (by decide))
        · refine (pz_goes tq_31 2 (σ' := (50, [pzR k0, pzR 29, pzI x2, pzN, pzN], [pzI 1], M6)) rfl).trans ?_
          exact (e_zret tq_31 rfl).trans (grd_pos (by decide))
    · refine (pz_goes tq_31 2 (σ' := (17, [pzR k0, pzR 29, pzI x2, pzN, pzN], [pzI 5, pzR 29], M1)) rfl).trans ?_
      refine e_gcall tq_72 (e_cokDC rfl rfl rfl) tq_31 rfl (fun hc => ?_)
      refine (e_callI (as := [pzR 29, pzI 5]) (rest := []) (d' := 3) tq_72 rfl hc rfl rfl rfl tq_31 rfl).trans (e_bI rfl fun r9 M8 => ?_)
      exact e_zret tq_31 rfl
  · refine (pz_goes tq_31 2 (σ' := (54, [pzR k0, pzR 29, pzI x2, pzN, pzN], [pzR 82, pzR 29], M1)) rfl).trans ?_
    refine e_gcall tq_69 (e_cokDC rfl rfl rfl) tq_31 rfl (fun hc => ?_)
    refine (e_callI (as := [pzR 29, pzR 82, pzN, pzN]) (rest := []) (d' := 5) tq_69 rfl hc rfl rfl rfl tq_31 rfl).trans (e_bI rfl fun r11 M10 => ?_)
    refine (pz_goes tq_31 2 (σ' := (59, [pzR k0, pzR 29, pzI x2, pzI r11, pzN], [pzI r11], M10)) rfl).trans ?_
    refine (e_if_lt tq_31 rfl).trans (e_ite ?_ ?_)
    · refine (pz_goes tq_31 2 (σ' := (77, [pzR k0, pzR 29, pzI x2, pzI r11, pzN], [pzI 5, pzR 29], M10)) rfl).trans ?_
      refine e_gcall tq_71 (e_cokDC rfl rfl rfl) tq_31 rfl (fun hc => ?_)
      refine (e_callI (as := [pzR 29, pzI 5, pzN, pzN, pzN]) (rest := []) (d' := 4) tq_71 rfl hc rfl rfl rfl tq_31 rfl).trans (e_bI rfl fun r13 M12 => ?_)
      refine (pz_goes tq_31 4 (σ' := (86, [pzR k0, pzR 29, pzI x2, pzI r11, pzI r13], [pzI r13, pzI 1, pzR k0], M12)) rfl).trans ?_
      refine e_gcall tq_20 (e_cokDS rfl rfl h0) tq_31 rfl (fun hc => ?_)
      refine (e_callI (as := [pzR k0, pzI 1, pzI r13]) (rest := []) (d' := 3) tq_20 rfl hc rfl rfl rfl tq_31 rfl).trans (e_bI rfl fun r15 M14 => ?_)
      refine (pz_goes tq_31 2 (σ' := (92, [pzR k0, pzR 29, pzI x2, pzI r11, pzI r13], [pzI r13], M14)) rfl).trans ?_
      refine (e_if_lt tq_31 rfl).trans (e_ite ?_ ?_)
      · refine (pz_goes tq_31 1 (σ' := (100, [pzR k0, pzR 29, pzI x2, pzI r11, pzI r13], [pzI 0], M14)) rfl).trans ?_
        exact (e_zret tq_31 rfl).trans (grd_pos (by decide))
      · refine (pz_goes tq_31 2 (σ' := (100, [pzR k0, pzR 29, pzI x2, pzI r11, pzI r13], [pzI 1], M14)) rfl).trans ?_
        exact (e_zret tq_31 rfl).trans (grd_pos (by decide))
    · refine (pz_goes tq_31 1 (σ' := (63, [pzR k0, pzR 29, pzI x2, pzI r11, pzN], [pzR 29], M10)) rfl).trans ?_
      refine e_gcall tq_67 (e_cokDC rfl rfl rfl) tq_31 rfl (fun hc => ?_)
      refine (e_callV (as := [pzR 29]) (rest := []) (d' := 3) tq_67 rfl hc rfl rfl rfl tq_31 rfl).trans (e_bV rfl fun M16 => ?_)
      refine (pz_goes tq_31 3 (σ' := (69, [pzR k0, pzR 29, pzI x2, pzI r11, pzN], [pzI r11, pzI 2, pzR k0], M16)) rfl).trans ?_
      refine e_gcall tq_20 (e_cokDS rfl rfl h0) tq_31 rfl (fun hc => ?_)
      refine (e_callI (as := [pzR k0, pzI 2, pzI r11]) (rest := []) (d' := 3) tq_20 rfl hc rfl rfl rfl tq_31 rfl).trans (e_bI rfl fun r18 M17 => ?_)
      refine (pz_goes tq_31 2 (σ' := (74, [pzR k0, pzR 29, pzI x2, pzI r11, pzN], [pzI 1], M17)) rfl).trans ?_
      exact (e_zret tq_31 rfl).trans (grd_pos (by decide))
/-! PeacockDesk$Parties.load(LPeacockDesk$Tape;I)I -/
set_option maxRecDepth 20000 in
theorem m_Parties_load_eq (x2 : Int) (M : pz_M) : m_Parties_load x2 M = bI (m_Math_min x2 8 M) fun r2 M1 => bI (m_Math_max 0 r2 M1) fun r4 M3 => bM (pz_wr M3 38 3 r4) fun M5 => m_Parties_load_19 (pzI x2) 0 0 M5 := by
  show pzr 4 32 (0, [pzR 38, pzR 29, pzI x2, pzN, pzN], [], M) = _
  refine (pz_goes tq_32 4 (σ' := (5, [pzR 38, pzR 29, pzI x2, pzN, pzN], [pzI 8, pzI x2, pzI 0, pzR 38], M)) rfl).trans ?_
  refine (e_callI (as := [pzI x2, pzI 8]) (rest := [pzI 0, pzR 38]) (d' := 3) tq_128 rfl rfl rfl rfl rfl tq_32 rfl).trans (e_bI rfl fun r2 M1 => ?_)
  refine (e_callI (as := [pzI 0, pzI r2]) (rest := [pzR 38]) (d' := 3) tq_127 rfl rfl rfl rfl rfl tq_32 rfl).trans (e_bI rfl fun r4 M3 => ?_)
  refine (e_putI rfl tq_32 rfl).trans ?_
  refine e_bM (f := fun M5 => pzr 4 32 (14, [pzR 38, pzR 29, pzI x2, pzN, pzN], [], M5)) (fun M5 => ?_)
  refine (pz_goes tq_32 4 (σ' := (19, [pzR 38, pzR 29, pzI x2, pzI 0, pzI 0], [], M5)) rfl).trans ?_
  rfl
set_option maxRecDepth 20000 in
theorem m_Parties_load_19_eq (w2 : pz_V) (x3 : Int) (x4 : Int) (M : pz_M) : m_Parties_load_19 w2 x3 x4 M = if x4 < (M 38 3) then (bI (m_Tape_byteAt x4 M) fun r2 M1 => grd (0 ≤ x4 ∧ x4 < 8) (bM (pz_wr M1 39 ((x4).toNat) r2) fun M3 => grd (0 ≤ x4 ∧ x4 < 8) (bM (pz_wr M3 41 ((x4).toNat) 0) fun M4 => grd (0 ≤ x4 ∧ x4 < 8) (m_Parties_load_19 w2 (ia x3 (M4 39 ((x4).toNat))) (ia x4 (1)) M4)))) else (some (some (pzI x3), M)) := by
  show pzr 4 32 (19, [pzR 38, pzR 29, w2, pzI x3, pzI x4], [], M) = _
  refine (pz_goes tq_32 3 (σ' := (25, [pzR 38, pzR 29, w2, pzI x3, pzI x4], [pzI (M 38 3), pzI x4], M)) rfl).trans ?_
  refine (e_icmp_ge tq_32 rfl).trans (e_ite ?_ ?_)
  · refine (pz_goes tq_32 5 (σ' := (37, [pzR 38, pzR 29, w2, pzI x3, pzI x4], [pzI x4, pzR 29, pzI x4, pzR 39], M)) rfl).trans ?_
    refine (e_callI (as := [pzR 29, pzI x4]) (rest := [pzI x4, pzR 39]) (d' := 3) tq_64 rfl rfl rfl rfl rfl tq_32 rfl).trans (e_bI rfl fun r2 M1 => ?_)
    refine (e_iast (n := 8) rfl rfl tq_32 rfl).trans (e_grd ?_)
    refine e_bM (m := pz_wr M1 39 ((x4).toNat) r2) (f := fun M3 => pzr 4 32 (41, [pzR 38, pzR 29, w2, pzI x3, pzI x4], [], M3)) (fun M3 => ?_)
    refine (pz_goes tq_32 4 (σ' := (48, [pzR 38, pzR 29, w2, pzI x3, pzI x4], [pzI 0, pzI x4, pzR 41], M3)) rfl).trans ?_
    refine (e_iast (n := 8) rfl rfl tq_32 rfl).trans (e_grd ?_)
    refine e_bM (m := pz_wr M3 41 ((x4).toNat) 0) (f := fun M4 => pzr 4 32 (49, [pzR 38, pzR 29, w2, pzI x3, pzI x4], [], M4)) (fun M4 => ?_)
    refine (pz_goes tq_32 4 (σ' := (56, [pzR 38, pzR 29, w2, pzI x3, pzI x4], [pzI x4, pzR 39, pzI x3], M4)) rfl).trans ?_
    refine (e_iald (n := 8) rfl rfl tq_32 rfl).trans (e_grd ?_)
    refine (pz_goes tq_32 4 (σ' := (19, [pzR 38, pzR 29, w2, pzI (ia x3 (M4 39 ((x4).toNat))), pzI (ia x4 (1))], [], M4)) rfl).trans ?_
    rfl
  · refine (pz_goes tq_32 1 (σ' := (66, [pzR 38, pzR 29, w2, pzI x3, pzI x4], [pzI x3], M)) rfl).trans ?_
    exact e_iret tq_32 rfl
/-! PeacockDesk$Parties.shareByRests(II)V -/
set_option maxRecDepth 20000 in
theorem m_Parties_shareByRests_eq (x1 : Int) (x2 : Int) (M : pz_M) : m_Parties_shareByRests x1 x2 M = if 0 < x2 then (m_Parties_shareByRests_10 x1 x2 x1 0 pzN M) else (some (none, M)) := by
  show pzr 4 33 (0, [pzR 38, pzI x1, pzI x2, pzN, pzN, pzN], [], M) = _
  refine (pz_goes tq_33 1 (σ' := (1, [pzR 38, pzI x1, pzI x2, pzN, pzN, pzN], [pzI x2], M)) rfl).trans ?_
  refine (e_if_gt tq_33 rfl).trans (e_ite ?_ ?_)
  · refine (pz_goes tq_33 4 (σ' := (10, [pzR 38, pzI x1, pzI x2, pzI x1, pzI 0, pzN], [], M)) rfl).trans ?_
    rfl
  · exact e_ret tq_33 rfl
set_option maxRecDepth 20000 in
theorem m_Parties_shareByRests_10_eq (x1 : Int) (x2 : Int) (x3 : Int) (x4 : Int) (w5 : pz_V) (M : pz_M) : m_Parties_shareByRests_10 x1 x2 x3 x4 w5 M = if x4 < (M 38 3) then (grd (0 ≤ x4 ∧ x4 < 8) (grd (x2 ≠ 0) (grd (0 ≤ x4 ∧ x4 < 8) (bM (pz_wr M 41 ((x4).toNat) (idv (imu (M 39 ((x4).toNat)) x1) x2)) fun M1 => grd (0 ≤ x4 ∧ x4 < 8) (grd (x2 ≠ 0) (grd (0 ≤ x4 ∧ x4 < 8) (bM (pz_wr M1 40 ((x4).toNat) (irm (imu (M1 39 ((x4).toNat)) x1) x2)) fun M2 => grd (0 ≤ x4 ∧ x4 < 8) (m_Parties_shareByRests_10 x1 x2 (isb x3 (M2 41 ((x4).toNat))) (ia x4 (1)) w5 M2)))))))) else (m_Parties_shareByRests_74 (pzI x1) (pzI x2) x3 0 w5 M) := by
  show pzr 4 33 (10, [pzR 38, pzI x1, pzI x2, pzI x3, pzI x4, w5], [], M) = _
  refine (pz_goes tq_33 3 (σ' := (16, [pzR 38, pzI x1, pzI x2, pzI x3, pzI x4, w5], [pzI (M 38 3), pzI x4], M)) rfl).trans ?_
  refine (e_icmp_ge tq_33 rfl).trans (e_ite ?_ ?_)
  · refine (pz_goes tq_33 6 (σ' := (31, [pzR 38, pzI x1, pzI x2, pzI x3, pzI x4, w5], [pzI x4, pzR 39, pzI x4, pzR 41], M)) rfl).trans ?_
    refine (e_iald (n := 8) rfl rfl tq_33 rfl).trans (e_grd ?_)
    refine (pz_goes tq_33 3 (σ' := (35, [pzR 38, pzI x1, pzI x2, pzI x3, pzI x4, w5], [pzI x2, pzI (imu (M 39 ((x4).toNat)) x1), pzI x4, pzR 41], M)) rfl).trans ?_
    refine (e_div tq_33 rfl).trans (e_grd ?_)
    refine (e_iast (n := 8) rfl rfl tq_33 rfl).trans (e_grd ?_)
    refine e_bM (m := pz_wr M 41 ((x4).toNat) (idv (imu (M 39 ((x4).toNat)) x1) x2)) (f := fun M1 => pzr 4 33 (37, [pzR 38, pzI x1, pzI x2, pzI x3, pzI x4, w5], [], M1)) (fun M1 => ?_)
    refine (pz_goes tq_33 6 (σ' := (49, [pzR 38, pzI x1, pzI x2, pzI x3, pzI x4, w5], [pzI x4, pzR 39, pzI x4, pzR 40], M1)) rfl).trans ?_
    refine (e_iald (n := 8) rfl rfl tq_33 rfl).trans (e_grd ?_)
    refine (pz_goes tq_33 3 (σ' := (53, [pzR 38, pzI x1, pzI x2, pzI x3, pzI x4, w5], [pzI x2, pzI (imu (M1 39 ((x4).toNat)) x1), pzI x4, pzR 40], M1)) rfl).trans ?_
    refine (e_div tq_33 rfl).trans (e_grd ?_)
    refine (e_iast (n := 8) rfl rfl tq_33 rfl).trans (e_grd ?_)
    refine e_bM (m := pz_wr M1 40 ((x4).toNat) (irm (imu (M1 39 ((x4).toNat)) x1) x2)) (f := fun M2 => pzr 4 33 (55, [pzR 38, pzI x1, pzI x2, pzI x3, pzI x4, w5], [], M2)) (fun M2 => ?_)
    refine (pz_goes tq_33 4 (σ' := (62, [pzR 38, pzI x1, pzI x2, pzI x3, pzI x4, w5], [pzI x4, pzR 41, pzI x3], M2)) rfl).trans ?_
    refine (e_iald (n := 8) rfl rfl tq_33 rfl).trans (e_grd ?_)
    refine (pz_goes tq_33 4 (σ' := (10, [pzR 38, pzI x1, pzI x2, pzI (isb x3 (M2 41 ((x4).toNat))), pzI (ia x4 (1)), w5], [], M2)) rfl).trans ?_
    rfl
  · refine (pz_goes tq_33 2 (σ' := (74, [pzR 38, pzI x1, pzI x2, pzI x3, pzI 0, w5], [], M)) rfl).trans ?_
    rfl
set_option maxRecDepth 20000 in
theorem m_Parties_shareByRests_74_eq (w1 : pz_V) (w2 : pz_V) (x3 : Int) (x4 : Int) (w5 : pz_V) (M : pz_M) : m_Parties_shareByRests_74 w1 w2 x3 x4 w5 M = if x4 < x3 then (bI (m_Reckoner_firstOfMost 40 (M 38 3) M) fun r2 M1 => grd (0 ≤ r2 ∧ r2 < 8) (grd (0 ≤ r2 ∧ r2 < 8) (bM (pz_wr M1 41 ((r2).toNat) (ia (M1 41 ((r2).toNat)) 1)) fun M3 => grd (0 ≤ r2 ∧ r2 < 8) (bM (pz_wr M3 40 ((r2).toNat) (-1)) fun M4 => m_Parties_shareByRests_74 w1 w2 x3 (ia x4 (1)) (pzI r2) M4)))) else (some (none, M)) := by
  show pzr 4 33 (74, [pzR 38, w1, w2, pzI x3, pzI x4, w5], [], M) = _
  refine (pz_goes tq_33 2 (σ' := (77, [pzR 38, w1, w2, pzI x3, pzI x4, w5], [pzI x3, pzI x4], M)) rfl).trans ?_
  refine (e_icmp_ge tq_33 rfl).trans (e_ite ?_ ?_)
  · refine (pz_goes tq_33 4 (σ' := (88, [pzR 38, w1, w2, pzI x3, pzI x4, w5], [pzI (M 38 3), pzR 40], M)) rfl).trans ?_
    refine (e_callI (as := [pzR 40, pzI (M 38 3), pzN, pzN]) (rest := []) (d' := 3) tq_44 rfl rfl rfl rfl rfl tq_33 rfl).trans (e_bI rfl fun r2 M1 => ?_)
    refine (pz_goes tq_33 5 (σ' := (100, [pzR 38, w1, w2, pzI x3, pzI x4, pzI r2], [pzI r2, pzR 41, pzI r2, pzR 41], M1)) rfl).trans ?_
    refine (e_iald (n := 8) rfl rfl tq_33 rfl).trans (e_grd ?_)
    refine (pz_goes tq_33 2 (σ' := (103, [pzR 38, w1, w2, pzI x3, pzI x4, pzI r2], [pzI (ia (M1 41 ((r2).toNat)) 1), pzI r2, pzR 41], M1)) rfl).trans ?_
    refine (e_iast (n := 8) rfl rfl tq_33 rfl).trans (e_grd ?_)
    refine e_bM (m := pz_wr M1 41 ((r2).toNat) (ia (M1 41 ((r2).toNat)) 1)) (f := fun M3 => pzr 4 33 (104, [pzR 38, w1, w2, pzI x3, pzI x4, pzI r2], [], M3)) (fun M3 => ?_)
    refine (pz_goes tq_33 4 (σ' := (111, [pzR 38, w1, w2, pzI x3, pzI x4, pzI r2], [pzI (-1), pzI r2, pzR 40], M3)) rfl).trans ?_
    refine (e_iast (n := 8) rfl rfl tq_33 rfl).trans (e_grd ?_)
    refine e_bM (m := pz_wr M3 40 ((r2).toNat) (-1)) (f := fun M4 => pzr 4 33 (112, [pzR 38, w1, w2, pzI x3, pzI x4, pzI r2], [], M4)) (fun M4 => ?_)
    refine (pz_goes tq_33 2 (σ' := (74, [pzR 38, w1, w2, pzI x3, pzI (ia x4 (1)), pzI r2], [], M4)) rfl).trans ?_
    rfl
  · exact e_ret tq_33 rfl
/-! PeacockDesk$Parties.shareByHighest(I)V -/
set_option maxRecDepth 20000 in
theorem m_Parties_shareByHighest_eq (x1 : Int) (M : pz_M) : m_Parties_shareByHighest x1 M = m_Parties_shareByHighest_2 x1 0 pzN pzN M := by
  show pzr 3 34 (0, [pzR 38, pzI x1, pzN, pzN, pzN], [], M) = _
  refine (pz_goes tq_34 2 (σ' := (2, [pzR 38, pzI x1, pzI 0, pzN, pzN], [], M)) rfl).trans ?_
  rfl
set_option maxRecDepth 20000 in
theorem m_Parties_shareByHighest_2_eq (x1 : Int) (x2 : Int) (w3 : pz_V) (w4 : pz_V) (M : pz_M) : m_Parties_shareByHighest_2 x1 x2 w3 w4 M = if x2 < x1 then (m_Parties_shareByHighest_12 x1 x2 0 1 M) else (some (none, M)) := by
  show pzr 3 34 (2, [pzR 38, pzI x1, pzI x2, w3, w4], [], M) = _
  refine (pz_goes tq_34 2 (σ' := (4, [pzR 38, pzI x1, pzI x2, w3, w4], [pzI x1, pzI x2], M)) rfl).trans ?_
  refine (e_icmp_ge tq_34 rfl).trans (e_ite ?_ ?_)
  · refine (pz_goes tq_34 4 (σ' := (12, [pzR 38, pzI x1, pzI x2, pzI 0, pzI 1], [], M)) rfl).trans ?_
    rfl
  · exact e_ret tq_34 rfl
set_option maxRecDepth 20000 in
theorem m_Parties_shareByHighest_12_eq (x1 : Int) (x2 : Int) (x3 : Int) (x4 : Int) (M : pz_M) : m_Parties_shareByHighest_12 x1 x2 x3 x4 M = if x4 < (M 38 3) then (grd (0 ≤ x4 ∧ x4 < 8) (grd (0 ≤ x3 ∧ x3 < 8) (grd (0 ≤ x3 ∧ x3 < 8) (grd (0 ≤ x4 ∧ x4 < 8) (if (imu (M 39 ((x3).toNat)) (ia (M 41 ((x4).toNat)) 1)) < (imu (M 39 ((x4).toNat)) (ia (M 41 ((x3).toNat)) 1)) then (m_Parties_shareByHighest_12 x1 x2 x4 (ia x4 (1)) M) else (m_Parties_shareByHighest_12 x1 x2 x3 (ia x4 (1)) M)))))) else (grd (0 ≤ x3 ∧ x3 < 8) (grd (0 ≤ x3 ∧ x3 < 8) (bM (pz_wr M 41 ((x3).toNat) (ia (M 41 ((x3).toNat)) 1)) fun M1 => m_Parties_shareByHighest_2 x1 (ia x2 (1)) (pzI x3) (pzI x4) M1))) := by
  show pzr 3 34 (12, [pzR 38, pzI x1, pzI x2, pzI x3, pzI x4], [], M) = _
  refine (pz_goes tq_34 3 (σ' := (18, [pzR 38, pzI x1, pzI x2, pzI x3, pzI x4], [pzI (M 38 3), pzI x4], M)) rfl).trans ?_
  refine (e_icmp_ge tq_34 rfl).trans (e_ite ?_ ?_)
  · refine (pz_goes tq_34 3 (σ' := (27, [pzR 38, pzI x1, pzI x2, pzI x3, pzI x4], [pzI x4, pzR 39], M)) rfl).trans ?_
    refine (e_iald (n := 8) rfl rfl tq_34 rfl).trans (e_grd ?_)
    refine (pz_goes tq_34 3 (σ' := (33, [pzR 38, pzI x1, pzI x2, pzI x3, pzI x4], [pzI x3, pzR 41, pzI (M 39 ((x4).toNat))], M)) rfl).trans ?_
    refine (e_iald (n := 8) rfl rfl tq_34 rfl).trans (e_grd ?_)
    refine (pz_goes tq_34 6 (σ' := (42, [pzR 38, pzI x1, pzI x2, pzI x3, pzI x4], [pzI x3, pzR 39, pzI (imu (M 39 ((x4).toNat)) (ia (M 41 ((x3).toNat)) 1))], M)) rfl).trans ?_
    refine (e_iald (n := 8) rfl rfl tq_34 rfl).trans (e_grd ?_)
    refine (pz_goes tq_34 3 (σ' := (49, [pzR 38, pzI x1, pzI x2, pzI x3, pzI x4], [pzI x4, pzR 41, pzI (M 39 ((x3).toNat)), pzI (imu (M 39 ((x4).toNat)) (ia (M 41 ((x3).toNat)) 1))], M)) rfl).trans ?_
    refine (e_iald (n := 8) rfl rfl tq_34 rfl).trans (e_grd ?_)
    refine (pz_goes tq_34 3 (σ' := (53, [pzR 38, pzI x1, pzI x2, pzI x3, pzI x4], [pzI (imu (M 39 ((x3).toNat)) (ia (M 41 ((x4).toNat)) 1)), pzI (imu (M 39 ((x4).toNat)) (ia (M 41 ((x3).toNat)) 1))], M)) rfl).trans ?_
    refine (e_icmp_le tq_34 rfl).trans (e_ite ?_ ?_)
    · refine (pz_goes tq_34 4 (σ' := (12, [pzR 38, pzI x1, pzI x2, pzI x4, pzI (ia x4 (1))], [], M)) rfl).trans ?_
      rfl
    · refine (pz_goes tq_34 2 (σ' := (12, [pzR 38, pzI x1, pzI x2, pzI x3, pzI (ia x4 (1))], [], M)) rfl).trans ?_
      rfl
  · refine (pz_goes tq_34 4 (σ' := (71, [pzR 38, pzI x1, pzI x2, pzI x3, pzI x4], [pzI x3, pzR 41, pzI x3, pzR 41], M)) rfl).trans ?_
    refine (e_iald (n := 8) rfl rfl tq_34 rfl).trans (e_grd ?_)
    refine (pz_goes tq_34 2 (σ' := (74, [pzR 38, pzI x1, pzI x2, pzI x3, pzI x4], [pzI (ia (M 41 ((x3).toNat)) 1), pzI x3, pzR 41], M)) rfl).trans ?_
    refine (e_iast (n := 8) rfl rfl tq_34 rfl).trans (e_grd ?_)
    refine e_bM (m := pz_wr M 41 ((x3).toNat) (ia (M 41 ((x3).toNat)) 1)) (f := fun M1 => pzr 3 34 (75, [pzR 38, pzI x1, pzI x2, pzI x3, pzI x4], [], M1)) (fun M1 => ?_)
    refine (pz_goes tq_34 2 (σ' := (2, [pzR 38, pzI x1, pzI (ia x2 (1)), pzI x3, pzI x4], [], M1)) rfl).trans ?_
    rfl
