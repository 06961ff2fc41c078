/-! PeacockDeskModel.cry(III)I -/
set_option maxRecDepth 20000 in
theorem m_Mod_cry_eq (x1 : Int) (x2 : Int) (x3 : Int) (M : pz_M) : m_Mod_cry x1 x2 x3 M = bI (m_Mod_in x1 0 99 M) fun r2 M1 => if r2 = 0 then some (some (pzI (-1)), M1) else (bI (m_Mod_in x2 0 99 M1) fun r4 M3 => if r4 = 0 then some (some (pzI (-1)), M3) else (bI (m_Mod_in x3 1 99 M3) fun r6 M5 => if r6 = 0 then some (some (pzI (-1)), M5) else (m_Mod_cry_46 (pzI x1) (pzI x2) x3 (imu 4 (ia (imu x1 x1) (imu x2 x2))) 0 M5))) := by
  show pzr 4 236 (0, [pzR 100, pzI x1, pzI x2, pzI x3, pzN, pzN], [], M) = _
  refine (pz_goes tq_236 3 (σ' := (4, [pzR 100, pzI x1, pzI x2, pzI x3, pzN, pzN], [pzI 99, pzI 0, pzI x1], M)) rfl).trans ?_
  refine (e_callI (as := [pzI x1, pzI 0, pzI 99]) (rest := []) (d' := 3) tq_138 rfl rfl rfl rfl rfl tq_236 rfl).trans (e_bI rfl fun r2 M1 => ?_)
  refine (e_if_eq tq_236 rfl).trans (e_ite ?_ ?_)
  · refine (pz_goes tq_236 1 (σ' := (31, [pzR 100, pzI x1, pzI x2, pzI x3, pzN, pzN], [pzI (-1)], M1)) rfl).trans ?_
    exact e_iret tq_236 rfl
  · refine (pz_goes tq_236 3 (σ' := (14, [pzR 100, pzI x1, pzI x2, pzI x3, pzN, pzN], [pzI 99, pzI 0, pzI x2], M1)) rfl).trans ?_
    refine (e_callI (as := [pzI x2, pzI 0, pzI 99]) (rest := []) (d' := 3) tq_138 rfl rfl rfl rfl rfl tq_236 rfl).trans (e_bI rfl fun r4 M3 => ?_)
    refine (e_if_eq tq_236 rfl).trans (e_ite ?_ ?_)
    · refine (pz_goes tq_236 1 (σ' := (31, [pzR 100, pzI x1, pzI x2, pzI x3, pzN, pzN], [pzI (-1)], M3)) rfl).trans ?_
      exact e_iret tq_236 rfl
    · refine (pz_goes tq_236 3 (σ' := (24, [pzR 100, pzI x1, pzI x2, pzI x3, pzN, pzN], [pzI 99, pzI 1, pzI x3], M3)) rfl).trans ?_
      refine (e_callI (as := [pzI x3, pzI 1, pzI 99]) (rest := []) (d' := 3) tq_138 rfl rfl rfl rfl rfl tq_236 rfl).trans (e_bI rfl fun r6 M5 => ?_)
      refine (e_if_ne tq_236 rfl).trans (e_ite ?_ ?_)
      · refine (pz_goes tq_236 1 (σ' := (31, [pzR 100, pzI x1, pzI x2, pzI x3, pzN, pzN], [pzI (-1)], M5)) rfl).trans ?_
        exact e_iret tq_236 rfl
      · refine (pz_goes tq_236 12 (σ' := (46, [pzR 100, pzI x1, pzI x2, pzI x3, pzI (imu 4 (ia (imu x1 x1) (imu x2 x2))), pzI 0], [], M5)) rfl).trans ?_
        rfl
set_option maxRecDepth 20000 in
theorem m_Mod_cry_46_eq (w1 : pz_V) (w2 : pz_V) (x3 : Int) (x4 : Int) (x5 : Int) (M : pz_M) : m_Mod_cry_46 w1 w2 x3 x4 x5 M = if (imu (imu (imu x5 x3) x5) x3) < x4 then (m_Mod_cry_46 w1 w2 x3 x4 (ia x5 1) M) else (some (some (pzI x5), M)) := by
  show pzr 4 236 (46, [pzR 100, w1, w2, pzI x3, pzI x4, pzI x5], [], M) = _
  refine (pz_goes tq_236 8 (σ' := (57, [pzR 100, w1, w2, pzI x3, pzI x4, pzI x5], [pzI x4, pzI (imu (imu (imu x5 x3) x5) x3)], M)) rfl).trans ?_
  refine (e_icmp_ge tq_236 rfl).trans (e_ite ?_ ?_)
  · refine (pz_goes tq_236 5 (σ' := (46, [pzR 100, w1, w2, pzI x3, pzI x4, pzI (ia x5 1)], [], M)) rfl).trans ?_
    rfl
  · refine (pz_goes tq_236 1 (σ' := (71, [pzR 100, w1, w2, pzI x3, pzI x4, pzI x5], [pzI x5], M)) rfl).trans ?_
    exact e_iret tq_236 rfl
/-! PeacockDeskModel.minuteAt(IIII)I -/
set_option maxRecDepth 20000 in
theorem m_Mod_minuteAt_eq (x1 : Int) (x2 : Int) (x3 : Int) (x4 : Int) (M : pz_M) : m_Mod_minuteAt x1 x2 x3 x4 M = if (ian x3 (ixo (ihl 1 x4) (-1))) = 0 then (bI (m_Mod_octet (imu 2 x4) M) fun r2 M1 => bI (m_Mod_size (isb r2 x2) M1) fun r4 M3 => m_Mod_minuteAt_39 x1 (pzI x2) (pzI x3) x4 (ian x3 (ixo (ihl 1 x4) (-1))) r4 0 M3) else (m_Mod_minuteAt_39 x1 (pzI x2) (pzI x3) x4 (ian x3 (ixo (ihl 1 x4) (-1))) 1000000 0 M) := by
  show pzr 4 237 (0, [pzR 100, pzI x1, pzI x2, pzI x3, pzI x4, pzN, pzN, pzN], [], M) = _
  refine (pz_goes tq_237 9 (σ' := (12, [pzR 100, pzI x1, pzI x2, pzI x3, pzI x4, pzI (ian x3 (ixo (ihl 1 x4) (-1))), pzN, pzN], [pzI (ian x3 (ixo (ihl 1 x4) (-1)))], M)) rfl).trans ?_
  refine (e_if_ne tq_237 rfl).trans (e_ite ?_ ?_)
  · refine (pz_goes tq_237 4 (σ' := (20, [pzR 100, pzI x1, pzI x2, pzI x3, pzI x4, pzI (ian x3 (ixo (ihl 1 x4) (-1))), pzN, pzN], [pzI (imu 2 x4), pzR 100], M)) rfl).trans ?_
    refine (e_callI (as := [pzR 100, pzI (imu 2 x4)]) (rest := []) (d' := 3) tq_154 rfl rfl rfl rfl rfl tq_237 rfl).trans (e_bI rfl fun r2 M1 => ?_)
    refine (pz_goes tq_237 2 (σ' := (25, [pzR 100, pzI x1, pzI x2, pzI x3, pzI x4, pzI (ian x3 (ixo (ihl 1 x4) (-1))), pzN, pzN], [pzI (isb r2 x2)], M1)) rfl).trans ?_
    refine (e_callI (as := [pzI (isb r2 x2)]) (rest := []) (d' := 3) tq_141 rfl rfl rfl rfl rfl tq_237 rfl).trans (e_bI rfl fun r4 M3 => ?_)
    refine (pz_goes tq_237 4 (σ' := (39, [pzR 100, pzI x1, pzI x2, pzI x3, pzI x4, pzI (ian x3 (ixo (ihl 1 x4) (-1))), pzI r4, pzI 0], [], M3)) rfl).trans ?_
    rfl
  · refine (pz_goes tq_237 4 (σ' := (39, [pzR 100, pzI x1, pzI x2, pzI x3, pzI x4, pzI (ian x3 (ixo (ihl 1 x4) (-1))), pzI 1000000, pzI 0], [], M)) rfl).trans ?_
    rfl
set_option maxRecDepth 20000 in
theorem m_Mod_minuteAt_39_eq (x1 : Int) (w2 : pz_V) (w3 : pz_V) (x4 : Int) (x5 : Int) (x6 : Int) (x7 : Int) (M : pz_M) : m_Mod_minuteAt_39 x1 w2 w3 x4 x5 x6 x7 M = if x7 < x1 then (bI (m_Mod_has x5 x7 M) fun r2 M1 => if r2 = 0 then (m_Mod_minuteAt_39 x1 w2 w3 x4 x5 x6 (ia x7 (1)) M1) else (grd (0 ≤ (ia (imu 10 x5) x7) ∧ (ia (imu 10 x5) x7) < 10240) (bI (m_Mod_octet (imu 2 x4) M1) fun r4 M3 => bI (m_Mod_octet (imu 2 x7) M3) fun r6 M5 => bI (m_Mod_size (isb r4 r6) M5) fun r8 M7 => bI (m_Mod_min x6 (ia (M1 132 (((ia (imu 10 x5) x7)).toNat)) r8) M7) fun r10 M9 => m_Mod_minuteAt_39 x1 w2 w3 x4 x5 r10 (ia x7 (1)) M9))) else (bI (m_Mod_octet (ia (imu 2 x4) 1) M) fun r12 M11 => if r12 < x6 then some (some (pzI 1000000), M11) else (some (some (pzI x6), M11))) := by
  show pzr 4 237 (39, [pzR 100, pzI x1, w2, w3, pzI x4, pzI x5, pzI x6, pzI x7], [], M) = _
  refine (pz_goes tq_237 2 (σ' := (42, [pzR 100, pzI x1, w2, w3, pzI x4, pzI x5, pzI x6, pzI x7], [pzI x1, pzI x7], M)) rfl).trans ?_
  refine (e_icmp_ge tq_237 rfl).trans (e_ite ?_ ?_)
  · refine (pz_goes tq_237 2 (σ' := (49, [pzR 100, pzI x1, w2, w3, pzI x4, pzI x5, pzI x6, pzI x7], [pzI x7, pzI x5], M)) rfl).trans ?_
    refine (e_callI (as := [pzI x5, pzI x7]) (rest := []) (d' := 3) tq_142 rfl rfl rfl rfl rfl tq_237 rfl).trans (e_bI rfl fun r2 M1 => ?_)
    refine (e_if_eq tq_237 rfl).trans (e_ite ?_ ?_)
    · refine (pz_goes tq_237 2 (σ' := (39, [pzR 100, pzI x1, w2, w3, pzI x4, pzI x5, pzI x6, pzI (ia x7 (1))], [], M1)) rfl).trans ?_
      rfl
    · refine (pz_goes tq_237 8 (σ' := (69, [pzR 100, pzI x1, w2, w3, pzI x4, pzI x5, pzI x6, pzI x7], [pzI (ia (imu 10 x5) x7), pzR 132, pzI x6], M1)) rfl).trans ?_
      refine (e_iald (n := 10240) rfl rfl tq_237 rfl).trans (e_grd ?_)
      refine (pz_goes tq_237 4 (σ' := (75, [pzR 100, pzI x1, w2, w3, pzI x4, pzI x5, pzI x6, pzI x7], [pzI (imu 2 x4), pzR 100, pzI (M1 132 (((ia (imu 10 x5) x7)).toNat)), pzI x6], M1)) rfl).trans ?_
      refine (e_callI (as := [pzR 100, pzI (imu 2 x4)]) (rest := [pzI (M1 132 (((ia (imu 10 x5) x7)).toNat)), pzI x6]) (d' := 3) tq_154 rfl rfl rfl rfl rfl tq_237 rfl).trans (e_bI rfl fun r4 M3 => ?_)
      refine (pz_goes tq_237 4 (σ' := (83, [pzR 100, pzI x1, w2, w3, pzI x4, pzI x5, pzI x6, pzI x7], [pzI (imu 2 x7), pzR 100, pzI r4, pzI (M1 132 (((ia (imu 10 x5) x7)).toNat)), pzI x6], M3)) rfl).trans ?_
      refine (e_callI (as := [pzR 100, pzI (imu 2 x7)]) (rest := [pzI r4, pzI (M1 132 (((ia (imu 10 x5) x7)).toNat)), pzI x6]) (d' := 3) tq_154 rfl rfl rfl rfl rfl tq_237 rfl).trans (e_bI rfl fun r6 M5 => ?_)
      refine (pz_goes tq_237 1 (σ' := (87, [pzR 100, pzI x1, w2, w3, pzI x4, pzI x5, pzI x6, pzI x7], [pzI (isb r4 r6), pzI (M1 132 (((ia (imu 10 x5) x7)).toNat)), pzI x6], M5)) rfl).trans ?_
      refine (e_callI (as := [pzI (isb r4 r6)]) (rest := [pzI (M1 132 (((ia (imu 10 x5) x7)).toNat)), pzI x6]) (d' := 3) tq_141 rfl rfl rfl rfl rfl tq_237 rfl).trans (e_bI rfl fun r8 M7 => ?_)
      refine (pz_goes tq_237 1 (σ' := (91, [pzR 100, pzI x1, w2, w3, pzI x4, pzI x5, pzI x6, pzI x7], [pzI (ia (M1 132 (((ia (imu 10 x5) x7)).toNat)) r8), pzI x6], M7)) rfl).trans ?_
      refine (e_callI (as := [pzI x6, pzI (ia (M1 132 (((ia (imu 10 x5) x7)).toNat)) r8)]) (rest := []) (d' := 3) tq_139 rfl rfl rfl rfl rfl tq_237 rfl).trans (e_bI rfl fun r10 M9 => ?_)
      refine (pz_goes tq_237 3 (σ' := (39, [pzR 100, pzI x1, w2, w3, pzI x4, pzI x5, pzI r10, pzI (ia x7 (1))], [], M9)) rfl).trans ?_
      rfl
  · refine (pz_goes tq_237 7 (σ' := (111, [pzR 100, pzI x1, w2, w3, pzI x4, pzI x5, pzI x6, pzI x7], [pzI (ia (imu 2 x4) 1), pzR 100, pzI x6], M)) rfl).trans ?_
    refine (e_callI (as := [pzR 100, pzI (ia (imu 2 x4) 1)]) (rest := [pzI x6]) (d' := 3) tq_154 rfl rfl rfl rfl rfl tq_237 rfl).trans (e_bI rfl fun r12 M11 => ?_)
    refine (e_icmp_le tq_237 rfl).trans (e_ite ?_ ?_)
    · refine (pz_goes tq_237 2 (σ' := (125, [pzR 100, pzI x1, w2, w3, pzI x4, pzI x5, pzI x6, pzI x7], [pzI 1000000], M11)) rfl).trans ?_
      exact e_iret tq_237 rfl
    · refine (pz_goes tq_237 1 (σ' := (125, [pzR 100, pzI x1, w2, w3, pzI x4, pzI x5, pzI x6, pzI x7], [pzI x6], M11)) rfl).trans ?_
      exact e_iret tq_237 rfl
/-! PeacockDeskModel.pickedUp(II)I -/
set_option maxRecDepth 20000 in
theorem m_Mod_pickedUp_eq (x1 : Int) (x2 : Int) (M : pz_M) : m_Mod_pickedUp x1 x2 M = bI (m_Mod_in x1 1 10 M) fun r2 M1 => if r2 = 0 then some (some (pzI (-1)), M1) else (bI (m_Mod_in x2 0 255 M1) fun r4 M3 => if r4 = 0 then some (some (pzI (-1)), M3) else (if (M3 100 8) < (imu 2 x1) then some (some (pzI (-1)), M3) else (bM (pz_wr M3 100 8 0) fun M5 => m_Mod_pickedUp_43 x1 x2 0 1 pzN pzN M5))) := by
  show pzr 5 238 (0, [pzR 100, pzI x1, pzI x2, pzN, pzN, pzN, pzN], [], M) = _
  refine (pz_goes tq_238 3 (σ' := (4, [pzR 100, pzI x1, pzI x2, pzN, pzN, pzN, pzN], [pzI 10, pzI 1, pzI x1], M)) rfl).trans ?_
  refine (e_callI (as := [pzI x1, pzI 1, pzI 10]) (rest := []) (d' := 3) tq_138 rfl rfl rfl rfl rfl tq_238 rfl).trans (e_bI rfl fun r2 M1 => ?_)
  refine (e_if_eq tq_238 rfl).trans (e_ite ?_ ?_)
  · refine (pz_goes tq_238 1 (σ' := (32, [pzR 100, pzI x1, pzI x2, pzN, pzN, pzN, pzN], [pzI (-1)], M1)) rfl).trans ?_
    exact e_iret tq_238 rfl
  · refine (pz_goes tq_238 3 (σ' := (15, [pzR 100, pzI x1, pzI x2, pzN, pzN, pzN, pzN], [pzI 255, pzI 0, pzI x2], M1)) rfl).trans ?_
    refine (e_callI (as := [pzI x2, pzI 0, pzI 255]) (rest := []) (d' := 3) tq_138 rfl rfl rfl rfl rfl tq_238 rfl).trans (e_bI rfl fun r4 M3 => ?_)
    refine (e_if_eq tq_238 rfl).trans (e_ite ?_ ?_)
    · refine (pz_goes tq_238 1 (σ' := (32, [pzR 100, pzI x1, pzI x2, pzN, pzN, pzN, pzN], [pzI (-1)], M3)) rfl).trans ?_
      exact e_iret tq_238 rfl
    · refine (pz_goes tq_238 5 (σ' := (28, [pzR 100, pzI x1, pzI x2, pzN, pzN, pzN, pzN], [pzI (M3 100 8), pzI (imu 2 x1)], M3)) rfl).trans ?_
      refine (e_icmp_le tq_238 rfl).trans (e_ite ?_ ?_)
      · refine (pz_goes tq_238 1 (σ' := (32, [pzR 100, pzI x1, pzI x2, pzN, pzN, pzN, pzN], [pzI (-1)], M3)) rfl).trans ?_
        exact e_iret tq_238 rfl
      · refine (pz_goes tq_238 2 (σ' := (35, [pzR 100, pzI x1, pzI x2, pzN, pzN, pzN, pzN], [pzI 0, pzR 100], M3)) rfl).trans ?_
        refine (e_putI rfl tq_238 rfl).trans ?_
        refine e_bM (f := fun M5 => pzr 5 238 (38, [pzR 100, pzI x1, pzI x2, pzN, pzN, pzN, pzN], [], M5)) (fun M5 => ?_)
        refine (pz_goes tq_238 4 (σ' := (43, [pzR 100, pzI x1, pzI x2, pzI 0, pzI 1, pzN, pzN], [], M5)) rfl).trans ?_
        rfl
set_option maxRecDepth 20000 in
theorem m_Mod_pickedUp_43_eq (x1 : Int) (x2 : Int) (x3 : Int) (x4 : Int) (w5 : pz_V) (w6 : pz_V) (M : pz_M) : m_Mod_pickedUp_43 x1 x2 x3 x4 w5 w6 M = if x4 < (ihl 1 x1) then (m_Mod_pickedUp_54 x1 x2 x3 x4 0 w6 M) else (some (some (pzI x3), M)) := by
  show pzr 5 238 (43, [pzR 100, pzI x1, pzI x2, pzI x3, pzI x4, w5, w6], [], M) = _
  refine (pz_goes tq_238 4 (σ' := (48, [pzR 100, pzI x1, pzI x2, pzI x3, pzI x4, w5, w6], [pzI (ihl 1 x1), pzI x4], M)) rfl).trans ?_
  refine (e_icmp_ge tq_238 rfl).trans (e_ite ?_ ?_)
  · refine (pz_goes tq_238 2 (σ' := (54, [pzR 100, pzI x1, pzI x2, pzI x3, pzI x4, pzI 0, w6], [], M)) rfl).trans ?_
    rfl
  · refine (pz_goes tq_238 1 (σ' := (134, [pzR 100, pzI x1, pzI x2, pzI x3, pzI x4, w5, w6], [pzI x3], M)) rfl).trans ?_
    exact e_iret tq_238 rfl
set_option maxRecDepth 20000 in
theorem m_Mod_pickedUp_54_eq (x1 : Int) (x2 : Int) (x3 : Int) (x4 : Int) (x5 : Int) (w6 : pz_V) (M : pz_M) : m_Mod_pickedUp_54 x1 x2 x3 x4 x5 w6 M = if x5 < x1 then (bI (m_Mod_has x4 x5 M) fun r2 M1 => if r2 = 0 then (m_Mod_pickedUp_86 x1 x2 x3 x4 x5 w6 1000000 M1) else (bI (m_Mod_minuteAt x1 x2 x4 x5 M1) fun r4 M3 => m_Mod_pickedUp_86 x1 x2 x3 x4 x5 w6 r4 M3)) else (m_Mod_pickedUp_43 x1 x2 x3 (ia x4 (1)) (pzI x5) w6 M) := by
  show pzr 5 238 (54, [pzR 100, pzI x1, pzI x2, pzI x3, pzI x4, pzI x5, w6], [], M) = _
  refine (pz_goes tq_238 2 (σ' := (57, [pzR 100, pzI x1, pzI x2, pzI x3, pzI x4, pzI x5, w6], [pzI x1, pzI x5], M)) rfl).trans ?_
  refine (e_icmp_ge tq_238 rfl).trans (e_ite ?_ ?_)
  · refine (pz_goes tq_238 2 (σ' := (64, [pzR 100, pzI x1, pzI x2, pzI x3, pzI x4, pzI x5, w6], [pzI x5, pzI x4], M)) rfl).trans ?_
    refine (e_callI (as := [pzI x4, pzI x5]) (rest := []) (d' := 3) tq_142 rfl rfl rfl rfl rfl tq_238 rfl).trans (e_bI rfl fun r2 M1 => ?_)
    refine (e_if_eq tq_238 rfl).trans (e_ite ?_ ?_)
    · refine (pz_goes tq_238 1 (σ' := (86, [pzR 100, pzI x1, pzI x2, pzI x3, pzI x4, pzI x5, w6], [pzI 1000000], M1)) rfl).trans ?_
      rfl
    · refine (pz_goes tq_238 5 (σ' := (77, [pzR 100, pzI x1, pzI x2, pzI x3, pzI x4, pzI x5, w6], [pzI x5, pzI x4, pzI x2, pzI x1, pzR 100], M1)) rfl).trans ?_
      refine (e_callI (as := [pzR 100, pzI x1, pzI x2, pzI x4, pzI x5, pzN, pzN, pzN]) (rest := []) (d' := 4) tq_237 rfl rfl rfl rfl rfl tq_238 rfl).trans (e_bI rfl fun r4 M3 => ?_)
      refine (pz_goes tq_238 1 (σ' := (86, [pzR 100, pzI x1, pzI x2, pzI x3, pzI x4, pzI x5, w6], [pzI r4], M3)) rfl).trans ?_
      rfl
  · refine (pz_goes tq_238 2 (σ' := (43, [pzR 100, pzI x1, pzI x2, pzI x3, pzI (ia x4 (1)), pzI x5, w6], [], M)) rfl).trans ?_
    rfl
set_option maxRecDepth 20000 in
theorem m_Mod_pickedUp_86_eq (x1 : Int) (x2 : Int) (x3 : Int) (x4 : Int) (x5 : Int) (w6 : pz_V) (s0 : Int) (M : pz_M) : m_Mod_pickedUp_86 x1 x2 x3 x4 x5 w6 s0 M = grd (0 ≤ (ia (imu 10 x4) x5) ∧ (ia (imu 10 x4) x5) < 10240) (bM (pz_wr M 132 (((ia (imu 10 x4) x5)).toNat) s0) fun M1 => if s0 < (1000000 : Int) then (bI (m_Mod_bits x4 M1) fun r3 M2 => bI (m_Mod_max x3 r3 M2) fun r5 M4 => m_Mod_pickedUp_54 x1 x2 r5 x4 (ia x5 (1)) (pzI s0) M4) else (m_Mod_pickedUp_54 x1 x2 x3 x4 (ia x5 (1)) (pzI s0) M1)) := by
  show pzr 5 238 (86, [pzR 100, pzI x1, pzI x2, pzI x3, pzI x4, pzI x5, w6], [pzI s0], M) = _
  refine (pz_goes tq_238 9 (σ' := (102, [pzR 100, pzI x1, pzI x2, pzI x3, pzI x4, pzI x5, pzI s0], [pzI s0, pzI (ia (imu 10 x4) x5), pzR 132], M)) rfl).trans ?_
  refine (e_iast (n := 10240) rfl rfl tq_238 rfl).trans (e_grd ?_)
  refine e_bM (m := pz_wr M 132 (((ia (imu 10 x4) x5)).toNat) s0) (f := fun M1 => pzr 5 238 (103, [pzR 100, pzI x1, pzI x2, pzI x3, pzI x4, pzI x5, pzI s0], [], M1)) (fun M1 => ?_)
  refine (pz_goes tq_238 2 (σ' := (108, [pzR 100, pzI x1, pzI x2, pzI x3, pzI x4, pzI x5, pzI s0], [pzI 1000000, pzI s0], M1)) rfl).trans ?_
  refine (e_icmp_ge tq_238 rfl).trans (e_ite ?_ ?_)
  · refine (pz_goes tq_238 2 (σ' := (114, [pzR 100, pzI x1, pzI x2, pzI x3, pzI x4, pzI x5, pzI s0], [pzI x4, pzI x3], M1)) rfl).trans ?_
    refine (e_callI (as := [pzI x4, pzN, pzN]) (rest := [pzI x3]) (d' := 3) tq_143 rfl rfl rfl rfl rfl tq_238 rfl).trans (e_bI rfl fun r3 M2 => ?_)
    refine (e_callI (as := [pzI x3, pzI r3]) (rest := []) (d' := 3) tq_140 rfl rfl rfl rfl rfl tq_238 rfl).trans (e_bI rfl fun r5 M4 => ?_)
    refine (pz_goes tq_238 3 (σ' := (54, [pzR 100, pzI x1, pzI x2, pzI r5, pzI x4, pzI (ia x5 (1)), pzI s0], [], M4)) rfl).trans ?_
    rfl
  · refine (pz_goes tq_238 2 (σ' := (54, [pzR 100, pzI x1, pzI x2, pzI x3, pzI x4, pzI (ia x5 (1)), pzI s0], [], M1)) rfl).trans ?_
    rfl
/-! PeacockDeskModel.tails(II)I -/
set_option maxRecDepth 20000 in
theorem m_Mod_tails_eq (x1 : Int) (x2 : Int) (M : pz_M) : m_Mod_tails x1 x2 M = bI (m_Mod_in x1 2 12 M) fun r2 M1 => if r2 = 0 then some (some (pzI (-1)), M1) else (bI (m_Mod_in x2 1 x1 M1) fun r4 M3 => if r4 = 0 then some (some (pzI (-1)), M3) else (if (M3 100 8) < x1 then some (some (pzI (-1)), M3) else (bM (pz_wr M3 100 8 0) fun M5 => m_Mod_tails_36 x1 x2 0 pzN pzN M5))) := by
  show pzr 4 239 (0, [pzR 100, pzI x1, pzI x2, pzN, pzN, pzN], [], M) = _
  refine (pz_goes tq_239 3 (σ' := (4, [pzR 100, pzI x1, pzI x2, pzN, pzN, pzN], [pzI 12, pzI 2, pzI x1], M)) rfl).trans ?_
  refine (e_callI (as := [pzI x1, pzI 2, pzI 12]) (rest := []) (d' := 3) tq_138 rfl rfl rfl rfl rfl tq_239 rfl).trans (e_bI rfl fun r2 M1 => ?_)
  refine (e_if_eq tq_239 rfl).trans (e_ite ?_ ?_)
  · refine (pz_goes tq_239 1 (σ' := (28, [pzR 100, pzI x1, pzI x2, pzN, pzN, pzN], [pzI (-1)], M1)) rfl).trans ?_
    exact e_iret tq_239 rfl
  · refine (pz_goes tq_239 3 (σ' := (13, [pzR 100, pzI x1, pzI x2, pzN, pzN, pzN], [pzI x1, pzI 1, pzI x2], M1)) rfl).trans ?_
    refine (e_callI (as := [pzI x2, pzI 1, pzI x1]) (rest := []) (d' := 3) tq_138 rfl rfl rfl rfl rfl tq_239 rfl).trans (e_bI rfl fun r4 M3 => ?_)
    refine (e_if_eq tq_239 rfl).trans (e_ite ?_ ?_)
    · refine (pz_goes tq_239 1 (σ' := (28, [pzR 100, pzI x1, pzI x2, pzN, pzN, pzN], [pzI (-1)], M3)) rfl).trans ?_
      exact e_iret tq_239 rfl
    · refine (pz_goes tq_239 3 (σ' := (24, [pzR 100, pzI x1, pzI x2, pzN, pzN, pzN], [pzI (M3 100 8), pzI x1], M3)) rfl).trans ?_
      refine (e_icmp_le tq_239 rfl).trans (e_ite ?_ ?_)
      · refine (pz_goes tq_239 1 (σ' := (28, [pzR 100, pzI x1, pzI x2, pzN, pzN, pzN], [pzI (-1)], M3)) rfl).trans ?_
        exact e_iret tq_239 rfl
      · refine (pz_goes tq_239 2 (σ' := (31, [pzR 100, pzI x1, pzI x2, pzN, pzN, pzN], [pzI 0, pzR 100], M3)) rfl).trans ?_
        refine (e_putI rfl tq_239 rfl).trans ?_
        refine e_bM (f := fun M5 => pzr 4 239 (34, [pzR 100, pzI x1, pzI x2, pzN, pzN, pzN], [], M5)) (fun M5 => ?_)
        refine (pz_goes tq_239 2 (σ' := (36, [pzR 100, pzI x1, pzI x2, pzI 0, pzN, pzN], [], M5)) rfl).trans ?_
        rfl
set_option maxRecDepth 20000 in
theorem m_Mod_tails_36_eq (x1 : Int) (x2 : Int) (x3 : Int) (w4 : pz_V) (w5 : pz_V) (M : pz_M) : m_Mod_tails_36 x1 x2 x3 w4 w5 M = if x3 < x1 then (bI (m_Mod_octet x3 M) fun r2 M1 => if r2 = 0 then some (some (pzI (-3)), M1) else (m_Mod_tails_36 x1 x2 (ia x3 (1)) w4 w5 M1)) else (m_Mod_tails_60 x1 x2 1 w4 w5 M) := by
  show pzr 4 239 (36, [pzR 100, pzI x1, pzI x2, pzI x3, w4, w5], [], M) = _
  refine (pz_goes tq_239 2 (σ' := (38, [pzR 100, pzI x1, pzI x2, pzI x3, w4, w5], [pzI x1, pzI x3], M)) rfl).trans ?_
  refine (e_icmp_ge tq_239 rfl).trans (e_ite ?_ ?_)
  · refine (pz_goes tq_239 2 (σ' := (43, [pzR 100, pzI x1, pzI x2, pzI x3, w4, w5], [pzI x3, pzR 100], M)) rfl).trans ?_
    refine (e_callI (as := [pzR 100, pzI x3]) (rest := []) (d' := 3) tq_154 rfl rfl rfl rfl rfl tq_239 rfl).trans (e_bI rfl fun r2 M1 => ?_)
    refine (e_if_ne tq_239 rfl).trans (e_ite ?_ ?_)
    · refine (pz_goes tq_239 1 (σ' := (51, [pzR 100, pzI x1, pzI x2, pzI x3, w4, w5], [pzI (-3)], M1)) rfl).trans ?_
      exact e_iret tq_239 rfl
    · refine (pz_goes tq_239 2 (σ' := (36, [pzR 100, pzI x1, pzI x2, pzI (ia x3 (1)), w4, w5], [], M1)) rfl).trans ?_
      rfl
  · refine (pz_goes tq_239 2 (σ' := (60, [pzR 100, pzI x1, pzI x2, pzI 1, w4, w5], [], M)) rfl).trans ?_
    rfl
set_option maxRecDepth 20000 in
theorem m_Mod_tails_60_eq (x1 : Int) (x2 : Int) (x3 : Int) (w4 : pz_V) (w5 : pz_V) (M : pz_M) : m_Mod_tails_60 x1 x2 x3 w4 w5 M = if (100000 : Int) < x3 then some (some (pzI (-2)), M) else (m_Mod_tails_73 x1 x2 x3 0 0 M) := by
  show pzr 4 239 (60, [pzR 100, pzI x1, pzI x2, pzI x3, w4, w5], [], M) = _
  refine (pz_goes tq_239 2 (σ' := (64, [pzR 100, pzI x1, pzI x2, pzI x3, w4, w5], [pzI 100000, pzI x3], M)) rfl).trans ?_
  refine (e_icmp_gt tq_239 rfl).trans (e_ite ?_ ?_)
  · refine (pz_goes tq_239 1 (σ' := (118, [pzR 100, pzI x1, pzI x2, pzI x3, w4, w5], [pzI (-2)], M)) rfl).trans ?_
    exact e_iret tq_239 rfl
  · refine (pz_goes tq_239 4 (σ' := (73, [pzR 100, pzI x1, pzI x2, pzI x3, pzI 0, pzI 0], [], M)) rfl).trans ?_
    rfl
set_option maxRecDepth 20000 in
theorem m_Mod_tails_73_eq (x1 : Int) (x2 : Int) (x3 : Int) (x4 : Int) (x5 : Int) (M : pz_M) : m_Mod_tails_73 x1 x2 x3 x4 x5 M = if x5 < x1 then (bI (m_Mod_octet x5 M) fun r2 M1 => grd (r2 ≠ 0) (if (irm x3 r2) = 0 then (m_Mod_tails_73 x1 x2 x3 (ia x4 1) (ia x5 (1)) M1) else (m_Mod_tails_73 x1 x2 x3 x4 (ia x5 (1)) M1))) else (if x4 < x2 then (m_Mod_tails_60 x1 x2 (ia x3 (1)) (pzI x4) (pzI x5) M) else (some (some (pzI x3), M))) := by
  show pzr 4 239 (73, [pzR 100, pzI x1, pzI x2, pzI x3, pzI x4, pzI x5], [], M) = _
  refine (pz_goes tq_239 2 (σ' := (76, [pzR 100, pzI x1, pzI x2, pzI x3, pzI x4, pzI x5], [pzI x1, pzI x5], M)) rfl).trans ?_
  refine (e_icmp_ge tq_239 rfl).trans (e_ite ?_ ?_)
  · refine (pz_goes tq_239 3 (σ' := (83, [pzR 100, pzI x1, pzI x2, pzI x3, pzI x4, pzI x5], [pzI x5, pzR 100, pzI x3], M)) rfl).trans ?_
    refine (e_callI (as := [pzR 100, pzI x5]) (rest := [pzI x3]) (d' := 3) tq_154 rfl rfl rfl rfl rfl tq_239 rfl).trans (e_bI rfl fun r2 M1 => ?_)
    refine (e_div tq_239 rfl).trans (e_grd ?_)
    refine (e_if_ne tq_239 rfl).trans (e_ite ?_ ?_)
    · refine (pz_goes tq_239 6 (σ' := (73, [pzR 100, pzI x1, pzI x2, pzI x3, pzI (ia x4 1), pzI (ia x5 (1))], [], M1)) rfl).trans ?_
      rfl
    · refine (pz_goes tq_239 2 (σ' := (73, [pzR 100, pzI x1, pzI x2, pzI x3, pzI x4, pzI (ia x5 (1))], [], M1)) rfl).trans ?_
      rfl
  · refine (pz_goes tq_239 2 (σ' := (105, [pzR 100, pzI x1, pzI x2, pzI x3, pzI x4, pzI x5], [pzI x2, pzI x4], M)) rfl).trans ?_
    refine (e_icmp_lt tq_239 rfl).trans (e_ite ?_ ?_)
    · refine (pz_goes tq_239 2 (σ' := (60, [pzR 100, pzI x1, pzI x2, pzI (ia x3 (1)), pzI x4, pzI x5], [], M)) rfl).trans ?_
      rfl
    · refine (pz_goes tq_239 1 (σ' := (109, [pzR 100, pzI x1, pzI x2, pzI x3, pzI x4, pzI x5], [pzI x3], M)) rfl).trans ?_
      exact e_iret tq_239 rfl
/-! PeacockDeskModel.seed(I)Z -/
set_option maxRecDepth 20000 in
theorem m_Mod_seed_eq (x1 : Int) (M : pz_M) : m_Mod_seed x1 M = bI (m_Mod_in x1 0 65535 M) fun r2 M1 => if r2 = 0 then some (some (pzI 0), M1) else (bM (pz_wr M1 101 82 x1) fun M3 => some (some (pzI 1), M3)) := by
  show pzr 4 240 (0, [pzR 100, pzI x1], [], M) = _
  refine (pz_goes tq_240 3 (σ' := (5, [pzR 100, pzI x1], [pzI 65535, pzI 0, pzI x1], M)) rfl).trans ?_
  refine (e_callI (as := [pzI x1, pzI 0, pzI 65535]) (rest := []) (d' := 3) tq_138 rfl rfl rfl rfl rfl tq_240 rfl).trans (e_bI rfl fun r2 M1 => ?_)
  refine (e_if_ne tq_240 rfl).trans (e_ite ?_ ?_)
  · refine (pz_goes tq_240 1 (σ' := (12, [pzR 100, pzI x1], [pzI 0], M1)) rfl).trans ?_
    exact (e_zret tq_240 rfl).trans (grd_pos (by decide))
  · refine (pz_goes tq_240 4 (σ' := (20, [pzR 100, pzI x1], [pzI x1, pzI 82, pzR 101], M1)) rfl).trans ?_
    refine ((e_iast (n := 83) rfl rfl tq_240 rfl).trans (grd_pos (by decide))).trans ?_
    refine e_bM (m := pz_wr M1 101 82 x1) (f := fun M3 => pzr 4 240 (21, [pzR 100, pzI x1], [], M3)) (fun M3 => ?_)
    refine (pz_goes tq_240 1 (σ' := (22, [pzR 100, pzI x1], [pzI 1], M3)) rfl).trans ?_
    exact (e_zret tq_240 rfl).trans (grd_pos (by decide))
/-! PeacockDeskModel.keep()I -/
set_option maxRecDepth 20000 in
theorem m_Mod_keep_eq (M : pz_M) : m_Mod_keep M = bM (pz_wr M 100 48 1) fun M1 => bM (pz_wr M1 100 49 (M1 100 6)) fun M2 => bV (m_Mod_copies 101 103 M2) fun M3 => some (some (pzI (M3 101 81)), M3) := by
  show pzr 4 241 (0, [pzR 100], [], M) = _
  refine (pz_goes tq_241 2 (σ' := (2, [pzR 100], [pzI 1, pzR 100], M)) rfl).trans ?_
  refine ((e_putZ rfl tq_241 rfl).trans (grd_pos (by decide))).trans ?_
  refine e_bM (f := fun M1 => pzr 4 241 (5, [pzR 100], [], M1)) (fun M1 => ?_)
  refine (pz_goes tq_241 3 (σ' := (10, [pzR 100], [pzI (M1 100 6), pzR 100], M1)) rfl).trans ?_
  refine (e_putI rfl tq_241 rfl).trans ?_
  refine e_bM (f := fun M2 => pzr 4 241 (13, [pzR 100], [], M2)) (fun M2 => ?_)
  refine (pz_goes tq_241 4 (σ' := (21, [pzR 100], [pzR 103, pzR 101], M2)) rfl).trans ?_
  refine (e_callV (as := [pzR 101, pzR 103, pzN]) (rest := []) (d' := 3) tq_144 rfl rfl rfl rfl rfl tq_241 rfl).trans (e_bV rfl fun M3 => ?_)
  refine (pz_goes tq_241 3 (σ' := (30, [pzR 100], [pzI 81, pzR 101], M3)) rfl).trans ?_
  refine ((e_iald (n := 83) rfl rfl tq_241 rfl).trans (grd_pos (by decide))).trans ?_
  show pzr 4 241 (31, [pzR 100], [pzI (M3 101 81)], M3) = _
  exact e_iret tq_241 rfl
/-! PeacockDeskModel.undo()Z -/
set_option maxRecDepth 20000 in
theorem m_Mod_undo_eq (M : pz_M) : m_Mod_undo M = if (M 100 48) = 0 then some (some (pzI 0), M) else (m_Mod_undo_11 0 pzN M) := by
  show pzr 4 242 (0, [pzR 100, pzN, pzN], [], M) = _
  refine (pz_goes tq_242 2 (σ' := (4, [pzR 100, pzN, pzN], [pzI (M 100 48)], M)) rfl).trans ?_
  refine (e_if_ne tq_242 rfl).trans (e_ite ?_ ?_)
  · refine (pz_goes tq_242 1 (σ' := (8, [pzR 100, pzN, pzN], [pzI 0], M)) rfl).trans ?_
    exact (e_zret tq_242 rfl).trans (grd_pos (by decide))
  · refine (pz_goes tq_242 2 (σ' := (11, [pzR 100, pzI 0, pzN], [], M)) rfl).trans ?_
    rfl
set_option maxRecDepth 20000 in
theorem m_Mod_undo_11_eq (x1 : Int) (w2 : pz_V) (M : pz_M) : m_Mod_undo_11 x1 w2 M = if x1 < (72 : Int) then (m_Mod_undo_19 x1 0 M) else (m_Mod_undo_67 72 w2 M) := by
  show pzr 4 242 (11, [pzR 100, pzI x1, w2], [], M) = _
  refine (pz_goes tq_242 2 (σ' := (14, [pzR 100, pzI x1, w2], [pzI 72, pzI x1], M)) rfl).trans ?_
  refine (e_icmp_ge tq_242 rfl).trans (e_ite ?_ ?_)
  · refine (pz_goes tq_242 2 (σ' := (19, [pzR 100, pzI x1, pzI 0], [], M)) rfl).trans ?_
    rfl
  · refine (pz_goes tq_242 2 (σ' := (67, [pzR 100, pzI 72, w2], [], M)) rfl).trans ?_
    rfl
set_option maxRecDepth 20000 in
theorem m_Mod_undo_19_eq (x1 : Int) (x2 : Int) (M : pz_M) : m_Mod_undo_19 x1 x2 M = bI (m_Mod_min (M 100 6) (M 100 49) M) fun r2 M1 => if x2 < r2 then (grd (0 ≤ (ia x1 x2) ∧ (ia x1 x2) < 83) (grd (0 ≤ (ia x1 x2) ∧ (ia x1 x2) < 83) (bM (pz_wr M1 101 (((ia x1 x2)).toNat) (M1 103 (((ia x1 x2)).toNat))) fun M3 => m_Mod_undo_19 x1 (ia x2 (1)) M3))) else (m_Mod_undo_11 (ia x1 24) (pzI x2) M1) := by
  show pzr 4 242 (19, [pzR 100, pzI x1, pzI x2], [], M) = _
  refine (pz_goes tq_242 5 (σ' := (28, [pzR 100, pzI x1, pzI x2], [pzI (M 100 49), pzI (M 100 6), pzI x2], M)) rfl).trans ?_
  refine (e_callI (as := [pzI (M 100 6), pzI (M 100 49)]) (rest := [pzI x2]) (d' := 3) tq_139 rfl rfl rfl rfl rfl tq_242 rfl).trans (e_bI rfl fun r2 M1 => ?_)
  refine (e_icmp_ge tq_242 rfl).trans (e_ite ?_ ?_)
  · refine (pz_goes tq_242 10 (σ' := (48, [pzR 100, pzI x1, pzI x2], [pzI (ia x1 x2), pzR 103, pzI (ia x1 x2), pzR 101], M1)) rfl).trans ?_
    refine (e_iald (n := 83) rfl rfl tq_242 rfl).trans (e_grd ?_)
    refine (e_iast (n := 83) rfl rfl tq_242 rfl).trans (e_grd ?_)
    refine e_bM (m := pz_wr M1 101 (((ia x1 x2)).toNat) (M1 103 (((ia x1 x2)).toNat))) (f := fun M3 => pzr 4 242 (50, [pzR 100, pzI x1, pzI x2], [], M3)) (fun M3 => ?_)
    refine (pz_goes tq_242 2 (σ' := (19, [pzR 100, pzI x1, pzI (ia x2 (1))], [], M3)) rfl).trans ?_
    rfl
  · refine (pz_goes tq_242 5 (σ' := (11, [pzR 100, pzI (ia x1 24), pzI x2], [], M1)) rfl).trans ?_
    rfl
set_option maxRecDepth 20000 in
theorem m_Mod_undo_67_eq (x1 : Int) (w2 : pz_V) (M : pz_M) : m_Mod_undo_67 x1 w2 M = if x1 < (83 : Int) then (grd (0 ≤ x1 ∧ x1 < 83) (grd (0 ≤ x1 ∧ x1 < 83) (bM (pz_wr M 101 ((x1).toNat) (M 103 ((x1).toNat))) fun M1 => m_Mod_undo_67 (ia x1 (1)) w2 M1))) else (some (some (pzI 1), M)) := by
  show pzr 4 242 (67, [pzR 100, pzI x1, w2], [], M) = _
  refine (pz_goes tq_242 2 (σ' := (70, [pzR 100, pzI x1, w2], [pzI 83, pzI x1], M)) rfl).trans ?_
  refine (e_icmp_ge tq_242 rfl).trans (e_ite ?_ ?_)
  · refine (pz_goes tq_242 6 (σ' := (83, [pzR 100, pzI x1, w2], [pzI x1, pzR 103, pzI x1, pzR 101], M)) rfl).trans ?_
    refine (e_iald (n := 83) rfl rfl tq_242 rfl).trans (e_grd ?_)
    refine (e_iast (n := 83) rfl rfl tq_242 rfl).trans (e_grd ?_)
    refine e_bM (m := pz_wr M 101 ((x1).toNat) (M 103 ((x1).toNat))) (f := fun M1 => pzr 4 242 (85, [pzR 100, pzI x1, w2], [], M1)) (fun M1 => ?_)
    refine (pz_goes tq_242 2 (σ' := (67, [pzR 100, pzI (ia x1 (1)), w2], [], M1)) rfl).trans ?_
    rfl
  · refine (pz_goes tq_242 1 (σ' := (92, [pzR 100, pzI x1, w2], [pzI 1], M)) rfl).trans ?_
    exact (e_zret tq_242 rfl).trans (grd_pos (by decide))
/-! PeacockDeskModel.check(I)I -/
set_option maxRecDepth 20000 in
theorem m_Mod_check_eq (x1 : Int) (M : pz_M) : m_Mod_check x1 M = bI (m_Mod_in x1 0 24 M) fun r2 M1 => if r2 = 0 then some (some (pzI (-2)), M1) else (if (M1 100 8) < x1 then some (some (pzI (-2)), M1) else (bM (pz_wr M1 100 8 0) fun M3 => m_Mod_check_28 x1 0 M3)) := by
  show pzr 6 243 (0, [pzR 100, pzI x1, pzN], [], M) = _
  refine (pz_goes tq_243 3 (σ' := (4, [pzR 100, pzI x1, pzN], [pzI 24, pzI 0, pzI x1], M)) rfl).trans ?_
  refine (e_callI (as := [pzI x1, pzI 0, pzI 24]) (rest := []) (d' := 3) tq_138 rfl rfl rfl rfl rfl tq_243 rfl).trans (e_bI rfl fun r2 M1 => ?_)
  refine (e_if_eq tq_243 rfl).trans (e_ite ?_ ?_)
  · refine (pz_goes tq_243 1 (σ' := (20, [pzR 100, pzI x1, pzN], [pzI (-2)], M1)) rfl).trans ?_
    exact e_iret tq_243 rfl
  · refine (pz_goes tq_243 3 (σ' := (15, [pzR 100, pzI x1, pzN], [pzI (M1 100 8), pzI x1], M1)) rfl).trans ?_
    refine (e_icmp_le tq_243 rfl).trans (e_ite ?_ ?_)
    · refine (pz_goes tq_243 1 (σ' := (20, [pzR 100, pzI x1, pzN], [pzI (-2)], M1)) rfl).trans ?_
      exact e_iret tq_243 rfl
    · refine (pz_goes tq_243 2 (σ' := (23, [pzR 100, pzI x1, pzN], [pzI 0, pzR 100], M1)) rfl).trans ?_
      refine (e_putI rfl tq_243 rfl).trans ?_
      refine e_bM (f := fun M3 => pzr 6 243 (26, [pzR 100, pzI x1, pzN], [], M3)) (fun M3 => ?_)
      refine (pz_goes tq_243 2 (σ' := (28, [pzR 100, pzI x1, pzI 0], [], M3)) rfl).trans ?_
      rfl
set_option maxRecDepth 20000 in
theorem m_Mod_check_28_eq (x1 : Int) (x2 : Int) (M : pz_M) : m_Mod_check_28 x1 x2 M = if x2 < x1 then (bI (m_Mod_octet x2 M) fun r2 M1 => bI (m_Mod_isCase x2 M1) fun r4 M3 => if r4 = 0 then (m_Mod_check_70 x1 x2 255 r2 M3) else (bI (m_Mod_isLeft x2 M3) fun r6 M5 => if r6 = 0 then (m_Mod_check_70 x1 x2 0 r2 M5) else (grd (0 ≤ x2 ∧ x2 < 24) (m_Mod_check_70 x1 x2 (M5 105 ((x2).toNat)) r2 M5)))) else (some (some (pzI (-1)), M)) := by
  show pzr 6 243 (28, [pzR 100, pzI x1, pzI x2], [], M) = _
  refine (pz_goes tq_243 2 (σ' := (30, [pzR 100, pzI x1, pzI x2], [pzI x1, pzI x2], M)) rfl).trans ?_
  refine (e_icmp_ge tq_243 rfl).trans (e_ite ?_ ?_)
  · refine (pz_goes tq_243 2 (σ' := (35, [pzR 100, pzI x1, pzI x2], [pzI x2, pzR 100], M)) rfl).trans ?_
    refine (e_callI (as := [pzR 100, pzI x2]) (rest := []) (d' := 3) tq_154 rfl rfl rfl rfl rfl tq_243 rfl).trans (e_bI rfl fun r2 M1 => ?_)
    refine (pz_goes tq_243 2 (σ' := (40, [pzR 100, pzI x1, pzI x2], [pzI x2, pzR 100, pzI r2], M1)) rfl).trans ?_
    refine (e_callI (as := [pzR 100, pzI x2]) (rest := [pzI r2]) (d' := 4) tq_145 rfl rfl rfl rfl rfl tq_243 rfl).trans (e_bI rfl fun r4 M3 => ?_)
    refine (e_if_ne tq_243 rfl).trans (e_ite ?_ ?_)
    · refine (pz_goes tq_243 2 (σ' := (70, [pzR 100, pzI x1, pzI x2], [pzI 255, pzI r2], M3)) rfl).trans ?_
      rfl
    · refine (pz_goes tq_243 2 (σ' := (54, [pzR 100, pzI x1, pzI x2], [pzI x2, pzR 100, pzI r2], M3)) rfl).trans ?_
      refine (e_callI (as := [pzR 100, pzI x2]) (rest := [pzI r2]) (d' := 5) tq_146 rfl rfl rfl rfl rfl tq_243 rfl).trans (e_bI rfl fun r6 M5 => ?_)
      refine (e_if_eq tq_243 rfl).trans (e_ite ?_ ?_)
      · refine (pz_goes tq_243 1 (σ' := (70, [pzR 100, pzI x1, pzI x2], [pzI 0, pzI r2], M5)) rfl).trans ?_
        rfl
      · refine (pz_goes tq_243 3 (σ' := (65, [pzR 100, pzI x1, pzI x2], [pzI x2, pzR 105, pzI r2], M5)) rfl).trans ?_
        refine (e_iald (n := 24) rfl rfl tq_243 rfl).trans (e_grd ?_)
        refine (pz_goes tq_243 1 (σ' := (70, [pzR 100, pzI x1, pzI x2], [pzI (M5 105 ((x2).toNat)), pzI r2], M5)) rfl).trans ?_
        rfl
  · refine (pz_goes tq_243 1 (σ' := (82, [pzR 100, pzI x1, pzI x2], [pzI (-1)], M)) rfl).trans ?_
    exact e_iret tq_243 rfl
set_option maxRecDepth 20000 in
theorem m_Mod_check_70_eq (x1 : Int) (x2 : Int) (s0 : Int) (s1 : Int) (M : pz_M) : m_Mod_check_70 x1 x2 s0 s1 M = if s1 = s0 then (m_Mod_check_28 x1 (ia x2 (1)) M) else (some (some (pzI x2), M)) := by
  show pzr 6 243 (70, [pzR 100, pzI x1, pzI x2], [pzI s0, pzI s1], M) = _
  refine (e_icmp_eq tq_243 rfl).trans (e_ite ?_ ?_)
  · refine (pz_goes tq_243 2 (σ' := (28, [pzR 100, pzI x1, pzI (ia x2 (1))], [], M)) rfl).trans ?_
    rfl
  · refine (pz_goes tq_243 1 (σ' := (74, [pzR 100, pzI x1, pzI x2], [pzI x2], M)) rfl).trans ?_
    exact e_iret tq_243 rfl
/-! PeacockDeskModel.criesOfAll()I -/
set_option maxRecDepth 20000 in
theorem m_Mod_criesOfAll_eq (M : pz_M) : m_Mod_criesOfAll M = m_Mod_criesOfAll_4 0 0 M := by
  show pzr 3 244 (0, [pzR 100, pzN, pzN], [], M) = _
  refine (pz_goes tq_244 4 (σ' := (4, [pzR 100, pzI 0, pzI 0], [], M)) rfl).trans ?_
  rfl
set_option maxRecDepth 20000 in
theorem m_Mod_criesOfAll_4_eq (x1 : Int) (x2 : Int) (M : pz_M) : m_Mod_criesOfAll_4 x1 x2 M = if x2 < (9 : Int) then (grd (0 ≤ (ia 72 x2) ∧ (ia 72 x2) < 83) (m_Mod_criesOfAll_4 (ia x1 (M 101 (((ia 72 x2)).toNat))) (ia x2 (1)) M)) else (some (some (pzI x1), M)) := by
  show pzr 3 244 (4, [pzR 100, pzI x1, pzI x2], [], M) = _
  refine (pz_goes tq_244 2 (σ' := (7, [pzR 100, pzI x1, pzI x2], [pzI 9, pzI x2], M)) rfl).trans ?_
  refine (e_icmp_ge tq_244 rfl).trans (e_ite ?_ ?_)
  · refine (pz_goes tq_244 6 (σ' := (19, [pzR 100, pzI x1, pzI x2], [pzI (ia 72 x2), pzR 101, pzI x1], M)) rfl).trans ?_
    refine (e_iald (n := 83) rfl rfl tq_244 rfl).trans (e_grd ?_)
    refine (pz_goes tq_244 4 (σ' := (4, [pzR 100, pzI (ia x1 (M 101 (((ia 72 x2)).toNat))), pzI (ia x2 (1))], [], M)) rfl).trans ?_
    rfl
  · refine (pz_goes tq_244 1 (σ' := (29, [pzR 100, pzI x1, pzI x2], [pzI x1], M)) rfl).trans ?_
    exact e_iret tq_244 rfl
/-! PeacockDeskModel.count(I)I -/
set_option maxRecDepth 20000 in
theorem m_Mod_count_eq (x1 : Int) (M : pz_M) : m_Mod_count x1 M = if x1 = 0 then (some (some (pzI (M 101 81)), M)) else (if x1 = 1 then (some (some (pzI (M 100 6)), M)) else (if x1 = 2 then (bI (m_Mod_inState 0 M) fun r2 M1 => some (some (pzI r2), M1)) else (if x1 = 3 then (bI (m_Mod_inState 2 M) fun r4 M3 => some (some (pzI r4), M3)) else (if x1 = 4 then (bI (m_Mod_criesOfAll M) fun r6 M5 => some (some (pzI r6), M5)) else (if x1 = 5 then (some (some (pzI (M 100 17)), M)) else (if x1 = 6 then (some (some (pzI (M 100 8)), M)) else (if x1 = 7 then (some (some (pzI (M 101 82)), M)) else (some (some (pzI (-1)), M))))))))) := by
  show pzr 4 245 (0, [pzR 100, pzI x1], [], M) = _
  refine (pz_goes tq_245 1 (σ' := (1, [pzR 100, pzI x1], [pzI x1], M)) rfl).trans ?_
  refine (e_sw tq_245 rfl).trans ?_
  refine e_sel.trans (e_ite ?_ ?_)
  · refine (pz_goes tq_245 3 (σ' := (54, [pzR 100, pzI x1], [pzI 81, pzR 101], M)) rfl).trans ?_
    refine ((e_iald (n := 83) rfl rfl tq_245 rfl).trans (grd_pos (by decide))).trans ?_
    show pzr 4 245 (55, [pzR 100, pzI x1], [pzI (M 101 81)], M) = _
    exact e_iret tq_245 rfl
  refine e_sel.trans (e_ite ?_ ?_)
  · refine (pz_goes tq_245 2 (σ' := (60, [pzR 100, pzI x1], [pzI (M 100 6)], M)) rfl).trans ?_
    exact e_iret tq_245 rfl
  refine e_sel.trans (e_ite ?_ ?_)
  · refine (pz_goes tq_245 2 (σ' := (63, [pzR 100, pzI x1], [pzI 0, pzR 100], M)) rfl).trans ?_
    refine (e_callI (as := [pzR 100, pzI 0, pzN, pzN]) (rest := []) (d' := 3) tq_149 rfl rfl rfl rfl rfl tq_245 rfl).trans (e_bI rfl fun r2 M1 => ?_)
    exact e_iret tq_245 rfl
  refine e_sel.trans (e_ite ?_ ?_)
  · refine (pz_goes tq_245 2 (σ' := (69, [pzR 100, pzI x1], [pzI 2, pzR 100], M)) rfl).trans ?_
    refine (e_callI (as := [pzR 100, pzI 2, pzN, pzN]) (rest := []) (d' := 3) tq_149 rfl rfl rfl rfl rfl tq_245 rfl).trans (e_bI rfl fun r4 M3 => ?_)
    exact e_iret tq_245 rfl
  refine e_sel.trans (e_ite ?_ ?_)
  · refine (pz_goes tq_245 1 (σ' := (74, [pzR 100, pzI x1], [pzR 100], M)) rfl).trans ?_
    refine (e_callI (as := [pzR 100, pzN, pzN]) (rest := []) (d' := 3) tq_244 rfl rfl rfl rfl rfl tq_245 rfl).trans (e_bI rfl fun r6 M5 => ?_)
    exact e_iret tq_245 rfl
  refine e_sel.trans (e_ite ?_ ?_)
  · refine (pz_goes tq_245 2 (σ' := (82, [pzR 100, pzI x1], [pzI (M 100 17)], M)) rfl).trans ?_
    exact e_iret tq_245 rfl
  refine e_sel.trans (e_ite ?_ ?_)
  · refine (pz_goes tq_245 2 (σ' := (87, [pzR 100, pzI x1], [pzI (M 100 8)], M)) rfl).trans ?_
    exact e_iret tq_245 rfl
  refine e_sel.trans (e_ite ?_ ?_)
  · refine (pz_goes tq_245 3 (σ' := (94, [pzR 100, pzI x1], [pzI 82, pzR 101], M)) rfl).trans ?_
    refine ((e_iald (n := 83) rfl rfl tq_245 rfl).trans (grd_pos (by decide))).trans ?_
    show pzr 4 245 (95, [pzR 100, pzI x1], [pzI (M 101 82)], M) = _
    exact e_iret tq_245 rfl
  refine (show pzr 4 245 (pz_sel [] 96 x1, [pzR 100, pzI x1], [], M) = pzr 4 245 (96, [pzR 100, pzI x1], [], M) from rfl).trans ?_
  refine (pz_goes tq_245 1 (σ' := (97, [pzR 100, pzI x1], [pzI (-1)], M)) rfl).trans ?_
  exact e_iret tq_245 rfl
