/-! ===== the desk's constructor ===== -/
theorem dv_X0 : ∀ j, j < 4 → defaultValue (tyX0 j) = vp_V df_X0 j := by decide +kernel
theorem wi_X0 : Cond.instantiable RX0 4 ∈ lw_tbl := pz_tb (List.mem_of_getElem? (i := 131) (by decide +kernel))
theorem wz_X0 : Cond.initialized RX0 ∈ lw_tbl := pz_tb (List.mem_of_getElem? (i := 5) (by decide +kernel))
theorem np_X0 : pz_np yX0_init 0 := by unfold pz_np; decide +kernel
theorem wn_X0 : Cond.instanceMethod yX0_init ∈ lw_tbl := pz_tb (List.mem_of_getElem? (i := 133) (by decide +kernel))
theorem wc_X0 : Cond.code yX0_init cX0_init 1 none ∈ lw_tbl := pz_tb (List.mem_of_getElem? (i := 134) (by decide +kernel))
theorem dv_X1 : ∀ j, j < 6 → defaultValue (tyX1 j) = vp_V df_X1 j := by decide +kernel
theorem wi_X1 : Cond.instantiable RX1 6 ∈ lw_tbl := pz_tb (List.mem_of_getElem? (i := 31) (by decide +kernel))
theorem wz_X1 : Cond.initialized RX1 ∈ lw_tbl := pz_tb (List.mem_of_getElem? (i := 2) (by decide +kernel))
theorem np_X1 : pz_np yX1_init 0 := by unfold pz_np; decide +kernel
theorem wn_X1 : Cond.instanceMethod yX1_init ∈ lw_tbl := pz_tb (List.mem_of_getElem? (i := 33) (by decide +kernel))
theorem wc_X1 : Cond.code yX1_init cX1_init 1 none ∈ lw_tbl := pz_tb (List.mem_of_getElem? (i := 34) (by decide +kernel))
theorem dv_X2 : ∀ j, j < 10 → defaultValue (tyX2 j) = vp_V df_X2 j := by decide +kernel
theorem wi_X2 : Cond.instantiable RX2 10 ∈ lw_tbl := pz_tb (List.mem_of_getElem? (i := 66) (by decide +kernel))
theorem wz_X2 : Cond.initialized RX2 ∈ lw_tbl := pz_tb (List.mem_of_getElem? (i := 3) (by decide +kernel))
theorem np_X2 : pz_np yX2_init 0 := by unfold pz_np; decide +kernel
theorem wn_X2 : Cond.instanceMethod yX2_init ∈ lw_tbl := pz_tb (List.mem_of_getElem? (i := 68) (by decide +kernel))
theorem wc_X2 : Cond.code yX2_init cX2_init 1 none ∈ lw_tbl := pz_tb (List.mem_of_getElem? (i := 69) (by decide +kernel))
theorem dv_X4 : ∀ j, j < 4 → defaultValue (tyX4 j) = vp_V df_X4 j := by decide +kernel
theorem wi_X4 : Cond.instantiable RX4 4 ∈ lw_tbl := pz_tb (List.mem_of_getElem? (i := 172) (by decide +kernel))
theorem wz_X4 : Cond.initialized RX4 ∈ lw_tbl := pz_tb (List.mem_of_getElem? (i := 7) (by decide +kernel))
theorem np_X4 : pz_np yX4_init 0 := by unfold pz_np; decide +kernel
theorem wn_X4 : Cond.instanceMethod yX4_init ∈ lw_tbl := pz_tb (List.mem_of_getElem? (i := 174) (by decide +kernel))
theorem wc_X4 : Cond.code yX4_init cX4_init 1 none ∈ lw_tbl := pz_tb (List.mem_of_getElem? (i := 175) (by decide +kernel))
theorem dv_X5 : ∀ j, j < 5 → defaultValue (tyX5 j) = vp_V df_X5 j := by decide +kernel
theorem wi_X5 : Cond.instantiable RX5 5 ∈ lw_tbl := pz_tb (List.mem_of_getElem? (i := 192) (by decide +kernel))
theorem wz_X5 : Cond.initialized RX5 ∈ lw_tbl := pz_tb (List.mem_of_getElem? (i := 8) (by decide +kernel))
theorem np_X5 : pz_np yX5_init 0 := by unfold pz_np; decide +kernel
theorem wn_X5 : Cond.instanceMethod yX5_init ∈ lw_tbl := pz_tb (List.mem_of_getElem? (i := 194) (by decide +kernel))
theorem wc_X5 : Cond.code yX5_init cX5_init 1 none ∈ lw_tbl := pz_tb (List.mem_of_getElem? (i := 195) (by decide +kernel))
theorem dv_X7 : ∀ j, j < 5 → defaultValue (tyX7 j) = vp_V df_X7 j := by decide +kernel
theorem wi_X7 : Cond.instantiable RX7 5 ∈ lw_tbl := pz_tb (List.mem_of_getElem? (i := 150) (by decide +kernel))
theorem wz_X7 : Cond.initialized RX7 ∈ lw_tbl := pz_tb (List.mem_of_getElem? (i := 6) (by decide +kernel))
theorem np_X7 : pz_np yX7_init 0 := by unfold pz_np; decide +kernel
theorem wn_X7 : Cond.instanceMethod yX7_init ∈ lw_tbl := pz_tb (List.mem_of_getElem? (i := 152) (by decide +kernel))
theorem wc_X7 : Cond.code yX7_init cX7_init 1 none ∈ lw_tbl := pz_tb (List.mem_of_getElem? (i := 153) (by decide +kernel))
theorem dv_X8 : ∀ j, j < 3 → defaultValue (tyX8 j) = vp_V df_X8 j := by decide +kernel
theorem wi_X8 : Cond.instantiable RX8 3 ∈ lw_tbl := pz_tb (List.mem_of_getElem? (i := 214) (by decide +kernel))
theorem wz_X8 : Cond.initialized RX8 ∈ lw_tbl := pz_tb (List.mem_of_getElem? (i := 9) (by decide +kernel))
theorem np_X8 : pz_np yX8_init 0 := by unfold pz_np; decide +kernel
theorem wn_X8 : Cond.instanceMethod yX8_init ∈ lw_tbl := pz_tb (List.mem_of_getElem? (i := 216) (by decide +kernel))
theorem wc_X8 : Cond.code yX8_init cX8_init 1 none ∈ lw_tbl := pz_tb (List.mem_of_getElem? (i := 217) (by decide +kernel))
theorem dv_X9 : ∀ j, j < 5 → defaultValue (tyX9 j) = vp_V df_X9 j := by decide +kernel
theorem wi_X9 : Cond.instantiable RX9 5 ∈ lw_tbl := pz_tb (List.mem_of_getElem? (i := 106) (by decide +kernel))
theorem wz_X9 : Cond.initialized RX9 ∈ lw_tbl := pz_tb (List.mem_of_getElem? (i := 4) (by decide +kernel))
theorem np_X9 : pz_np yX9_init 0 := by unfold pz_np; decide +kernel
theorem wn_X9 : Cond.instanceMethod yX9_init ∈ lw_tbl := pz_tb (List.mem_of_getElem? (i := 108) (by decide +kernel))
theorem wc_X9 : Cond.code yX9_init cX9_init 1 none ∈ lw_tbl := pz_tb (List.mem_of_getElem? (i := 109) (by decide +kernel))
theorem dv_X10 : ∀ j, j < 7 → defaultValue (tyX10 j) = vp_V df_X10 j := by decide +kernel
theorem wi_X10 : Cond.instantiable RX10 7 ∈ lw_tbl := pz_tb (List.mem_of_getElem? (i := 230) (by decide +kernel))
theorem wz_X10 : Cond.initialized RX10 ∈ lw_tbl := pz_tb (List.mem_of_getElem? (i := 10) (by decide +kernel))
theorem np_X10 : pz_np yX10_init 0 := by unfold pz_np; decide +kernel
theorem wn_X10 : Cond.instanceMethod yX10_init ∈ lw_tbl := pz_tb (List.mem_of_getElem? (i := 232) (by decide +kernel))
theorem wc_X10 : Cond.code yX10_init cX10_init 1 none ∈ lw_tbl := pz_tb (List.mem_of_getElem? (i := 233) (by decide +kernel))
def df_X11 : List Value := [.null, .null, .null, .null, .null, .null, .null, .null, .null, .null, .null, .null, .null, .int 0]
theorem dv_X11 : ∀ j, j < 14 → defaultValue (tyX11 j) = vp_V df_X11 j := by decide +kernel
theorem wi_X11 : Cond.instantiable RX11 14 ∈ lw_tbl := pz_tb (List.mem_of_getElem? (i := 23) (by decide +kernel))
theorem wz_X11 : Cond.initialized RX11 ∈ lw_tbl := pz_tb (List.mem_of_getElem? (i := 1) (by decide +kernel))
theorem np_X11 : pz_np yX11_init 0 := by unfold pz_np; decide +kernel
theorem wn_X11 : Cond.instanceMethod yX11_init ∈ lw_tbl := pz_tb (List.mem_of_getElem? (i := 25) (by decide +kernel))
theorem wc_X11 : Cond.code yX11_init cX11_init 1 none ∈ lw_tbl := pz_tb (List.mem_of_getElem? (i := 26) (by decide +kernel))
def df_X12 : List Value := [.null, .null, .null, .null, .null, .null, .int 0, .null, .int 0, .int 0, .int 0, .int 0, .int 0, .int 0, .int 0, .int 0, .int 0, .int 0, .null, .null, .null, .null, .null, .null, .null, .null, .null, .null, .null, .null, .null, .null, .null, .null, .null, .null, .int 0, .int 0, .int 0, .int 0, .null, .null, .null, .null, .int 0, .null, .null, .null, .int 0, .int 0]
theorem dv_X12 : ∀ j, j < 50 → defaultValue (tyX12 j) = vp_V df_X12 j := by decide +kernel
theorem wi_X12 : Cond.instantiable RX12 50 ∈ lw_tbl := pz_tb (List.mem_of_getElem? (i := 920) (by decide +kernel))
theorem wz_X12 : Cond.initialized RX12 ∈ lw_tbl := pz_tb (List.mem_of_getElem? (i := 11) (by decide +kernel))
theorem np_X12 : pz_np yX12_init 0 := by unfold pz_np; decide +kernel
theorem wn_X12 : Cond.instanceMethod yX12_init ∈ lw_tbl := pz_tb (List.mem_of_getElem? (i := 922) (by decide +kernel))
theorem wc_X12 : Cond.code yX12_init cX12_init 1 none ∈ lw_tbl := pz_tb (List.mem_of_getElem? (i := 923) (by decide +kernel))
theorem dc_X11_0 : decode cX11_init 0 = .ok (.aload_n 0, 1) := by decide +kernel
theorem dc_X11_1 : decode cX11_init 1 = .ok (.invokespecial 1, 3) := by decide +kernel
theorem dc_X11_4 : decode cX11_init 4 = .ok (.aload_n 0, 1) := by decide +kernel
theorem dc_X11_5 : decode cX11_init 5 = .ok (.new 7, 3) := by decide +kernel
theorem dc_X11_8 : decode cX11_init 8 = .ok (.dup, 1) := by decide +kernel
theorem dc_X11_9 : decode cX11_init 9 = .ok (.invokespecial 9, 3) := by decide +kernel
theorem dc_X11_12 : decode cX11_init 12 = .ok (.putfield 10, 3) := by decide +kernel
theorem dc_X11_15 : decode cX11_init 15 = .ok (.aload_n 0, 1) := by decide +kernel
theorem dc_X11_16 : decode cX11_init 16 = .ok (.new 7, 3) := by decide +kernel
theorem dc_X11_19 : decode cX11_init 19 = .ok (.dup, 1) := by decide +kernel
theorem dc_X11_20 : decode cX11_init 20 = .ok (.invokespecial 9, 3) := by decide +kernel
theorem dc_X11_23 : decode cX11_init 23 = .ok (.putfield 16, 3) := by decide +kernel
theorem dc_X11_26 : decode cX11_init 26 = .ok (.aload_n 0, 1) := by decide +kernel
theorem dc_X11_27 : decode cX11_init 27 = .ok (.new 19, 3) := by decide +kernel
theorem dc_X11_30 : decode cX11_init 30 = .ok (.dup, 1) := by decide +kernel
theorem dc_X11_31 : decode cX11_init 31 = .ok (.invokespecial 21, 3) := by decide +kernel
theorem dc_X11_34 : decode cX11_init 34 = .ok (.putfield 22, 3) := by decide +kernel
theorem dc_X11_37 : decode cX11_init 37 = .ok (.aload_n 0, 1) := by decide +kernel
theorem dc_X11_38 : decode cX11_init 38 = .ok (.new 19, 3) := by decide +kernel
theorem dc_X11_41 : decode cX11_init 41 = .ok (.dup, 1) := by decide +kernel
theorem dc_X11_42 : decode cX11_init 42 = .ok (.invokespecial 21, 3) := by decide +kernel
theorem dc_X11_45 : decode cX11_init 45 = .ok (.putfield 26, 3) := by decide +kernel
theorem dc_X11_48 : decode cX11_init 48 = .ok (.aload_n 0, 1) := by decide +kernel
theorem dc_X11_49 : decode cX11_init 49 = .ok (.new 29, 3) := by decide +kernel
theorem dc_X11_52 : decode cX11_init 52 = .ok (.dup, 1) := by decide +kernel
theorem dc_X11_53 : decode cX11_init 53 = .ok (.invokespecial 31, 3) := by decide +kernel
theorem dc_X11_56 : decode cX11_init 56 = .ok (.putfield 32, 3) := by decide +kernel
theorem dc_X11_59 : decode cX11_init 59 = .ok (.aload_n 0, 1) := by decide +kernel
theorem dc_X11_60 : decode cX11_init 60 = .ok (.new 36, 3) := by decide +kernel
theorem dc_X11_63 : decode cX11_init 63 = .ok (.dup, 1) := by decide +kernel
theorem dc_X11_64 : decode cX11_init 64 = .ok (.invokespecial 38, 3) := by decide +kernel
theorem dc_X11_67 : decode cX11_init 67 = .ok (.putfield 39, 3) := by decide +kernel
theorem dc_X11_70 : decode cX11_init 70 = .ok (.aload_n 0, 1) := by decide +kernel
theorem dc_X11_71 : decode cX11_init 71 = .ok (.new 43, 3) := by decide +kernel
theorem dc_X11_74 : decode cX11_init 74 = .ok (.dup, 1) := by decide +kernel
theorem dc_X11_75 : decode cX11_init 75 = .ok (.invokespecial 45, 3) := by decide +kernel
theorem dc_X11_78 : decode cX11_init 78 = .ok (.putfield 46, 3) := by decide +kernel
theorem dc_X11_81 : decode cX11_init 81 = .ok (.aload_n 0, 1) := by decide +kernel
theorem dc_X11_82 : decode cX11_init 82 = .ok (.new 50, 3) := by decide +kernel
theorem dc_X11_85 : decode cX11_init 85 = .ok (.dup, 1) := by decide +kernel
theorem dc_X11_86 : decode cX11_init 86 = .ok (.invokespecial 52, 3) := by decide +kernel
theorem dc_X11_89 : decode cX11_init 89 = .ok (.putfield 53, 3) := by decide +kernel
theorem dc_X11_92 : decode cX11_init 92 = .ok (.aload_n 0, 1) := by decide +kernel
theorem dc_X11_93 : decode cX11_init 93 = .ok (.new 57, 3) := by decide +kernel
theorem dc_X11_96 : decode cX11_init 96 = .ok (.dup, 1) := by decide +kernel
theorem dc_X11_97 : decode cX11_init 97 = .ok (.invokespecial 59, 3) := by decide +kernel
theorem dc_X11_100 : decode cX11_init 100 = .ok (.putfield 60, 3) := by decide +kernel
theorem dc_X11_103 : decode cX11_init 103 = .ok (.aload_n 0, 1) := by decide +kernel
theorem dc_X11_104 : decode cX11_init 104 = .ok (.new 64, 3) := by decide +kernel
theorem dc_X11_107 : decode cX11_init 107 = .ok (.dup, 1) := by decide +kernel
theorem dc_X11_108 : decode cX11_init 108 = .ok (.invokespecial 66, 3) := by decide +kernel
theorem dc_X11_111 : decode cX11_init 111 = .ok (.putfield 67, 3) := by decide +kernel
theorem dc_X11_114 : decode cX11_init 114 = .ok (.aload_n 0, 1) := by decide +kernel
theorem dc_X11_115 : decode cX11_init 115 = .ok (.new 71, 3) := by decide +kernel
theorem dc_X11_118 : decode cX11_init 118 = .ok (.dup, 1) := by decide +kernel
theorem dc_X11_119 : decode cX11_init 119 = .ok (.invokespecial 73, 3) := by decide +kernel
theorem dc_X11_122 : decode cX11_init 122 = .ok (.putfield 74, 3) := by decide +kernel
theorem dc_X11_125 : decode cX11_init 125 = .ok (.aload_n 0, 1) := by decide +kernel
theorem dc_X11_126 : decode cX11_init 126 = .ok (.new 71, 3) := by decide +kernel
theorem dc_X11_129 : decode cX11_init 129 = .ok (.dup, 1) := by decide +kernel
theorem dc_X11_130 : decode cX11_init 130 = .ok (.invokespecial 73, 3) := by decide +kernel
theorem dc_X11_133 : decode cX11_init 133 = .ok (.putfield 78, 3) := by decide +kernel
theorem dc_X11_136 : decode cX11_init 136 = .ok (.aload_n 0, 1) := by decide +kernel
theorem dc_X11_137 : decode cX11_init 137 = .ok (.new 71, 3) := by decide +kernel
theorem dc_X11_140 : decode cX11_init 140 = .ok (.dup, 1) := by decide +kernel
theorem dc_X11_141 : decode cX11_init 141 = .ok (.invokespecial 73, 3) := by decide +kernel
theorem dc_X11_144 : decode cX11_init 144 = .ok (.putfield 81, 3) := by decide +kernel
theorem dc_X11_147 : decode cX11_init 147 = .ok (.aload_n 0, 1) := by decide +kernel
theorem dc_X11_148 : decode cX11_init 148 = .ok (.iconst 0, 1) := by decide +kernel
theorem dc_X11_149 : decode cX11_init 149 = .ok (.putfield 84, 3) := by decide +kernel
theorem dc_X11_152 : decode cX11_init 152 = .ok (.aload_n 0, 1) := by decide +kernel
theorem dc_X11_153 : decode cX11_init 153 = .ok (.getfield 74, 3) := by decide +kernel
theorem dc_X11_156 : decode cX11_init 156 = .ok (.iconst 1, 1) := by decide +kernel
theorem dc_X11_157 : decode cX11_init 157 = .ok (.putfield 88, 3) := by decide +kernel
theorem dc_X11_160 : decode cX11_init 160 = .ok (.return_, 1) := by decide +kernel
def m0X : pz_M := fun k j => bif Nat.beq k 49 then (bif Nat.beq j 6 then 1 else 0) else bif Nat.beq k 0 then (bif Nat.beq j 0 then 1 else bif Nat.beq j 1 then 7 else bif Nat.beq j 2 then 13 else bif Nat.beq j 3 then 21 else 0) else bif Nat.beq k 42 then (bif Nat.beq j 2 then 45 else bif Nat.beq j 3 then 46 else 0) else 0
def dk_ad (h0 o0 o1 o2 o3 o4 o5 o6 o7 o8 o9 o10 o11 o12 : Nat) (q0 q1 q2 q3 q4 q5 q6 q7 q8 q9 q10 q11 q12 : Nat → Nat) : Nat → Nat := fun k => [h0, o0, q0 0, q0 1, q0 2, q0 3, q0 4, o1, q1 0, q1 1, q1 2, q1 3, q1 4, o2, q2 0, q2 1, q2 2, q2 3, q2 4, q2 5, q2 6, o3, q3 0, q3 1, q3 2, q3 3, q3 4, q3 5, q3 6, o4, q4 0, 0, o5, q5 0, q5 1, o6, q6 0, q6 1, o7, q7 0, q7 1, q7 2, o8, q8 0, q8 1, q8 2, q8 3, o9, q9 0, o10, q10 0, q10 1, q10 2, q10 3, o11, q11 0, q11 1, q11 2, q11 3, o12, q12 0, q12 1, q12 2, q12 3].getD k 0
theorem pz_cellI {cI cB : ClassId} {ad : Nat → Nat} {M : pz_M} {k : Nat} (h : pz_cls k = 20 ∨ pz_cls k = 21) : pz_cell cI cB ad M k = .inl (cI, pz_len k, .inl (fun i => Int32.ofInt (M k i))) := by unfold pz_cell; rw [if_pos h]
theorem pz_cellB {cI cB : ClassId} {ad : Nat → Nat} {M : pz_M} {k : Nat} (h : pz_cls k = 22) : pz_cell cI cB ad M k = .inl (cB, pz_len k, .inl (fun i => Int32.ofInt (M k i))) := by unfold pz_cell; rw [if_neg (by omega), if_pos h]
theorem pz_cellO {cI cB : ClassId} {ad : Nat → Nat} {M : pz_M} {k : Nat} (h : pz_cls k < 12) : pz_cell cI cB ad M k = .inr (pz_cls k, (pz_fks.getD (pz_cls k) []).mapIdx (fun j fk => pz_fv ad M k j fk)) := by unfold pz_cell; rw [if_neg (by omega), if_neg (by omega)]
theorem dk_e_0 (cI cB : ClassId) (ad : Nat → Nat) : pz_cell cI cB ad m0X 0 = .inr (10, [.ref (ad 1), .ref (ad 7), .ref (ad 13), .ref (ad 21), .ref (ad 29), .ref (ad 32), .ref (ad 35), .ref (ad 38), .ref (ad 42), .ref (ad 47), .ref (ad 49), .ref (ad 54), .ref (ad 59), .int 0]) := by rw [pz_cellO (by decide)]; rfl
theorem dk_e_1 (cI cB : ClassId) (ad : Nat → Nat) : pz_cell cI cB ad m0X 1 = .inr (1, [.ref (ad 2), .ref (ad 3), .ref (ad 4), .ref (ad 5), .ref (ad 6), .int 0]) := by rw [pz_cellO (by decide)]; rfl
theorem dk_e_2 (cI cB : ClassId) (ad : Nat → Nat) : pz_cell cI cB ad m0X 2 = .inl (cI, 24, .inl (fun _ => 0)) := by rw [pz_cellI (by decide)]; rfl
theorem dk_e_3 (cI cB : ClassId) (ad : Nat → Nat) : pz_cell cI cB ad m0X 3 = .inl (cI, 24, .inl (fun _ => 0)) := by rw [pz_cellI (by decide)]; rfl
theorem dk_e_4 (cI cB : ClassId) (ad : Nat → Nat) : pz_cell cI cB ad m0X 4 = .inl (cI, 24, .inl (fun _ => 0)) := by rw [pz_cellI (by decide)]; rfl
theorem dk_e_5 (cI cB : ClassId) (ad : Nat → Nat) : pz_cell cI cB ad m0X 5 = .inl (cI, 24, .inl (fun _ => 0)) := by rw [pz_cellI (by decide)]; rfl
theorem dk_e_6 (cI cB : ClassId) (ad : Nat → Nat) : pz_cell cI cB ad m0X 6 = .inl (cI, 9, .inl (fun _ => 0)) := by rw [pz_cellI (by decide)]; rfl
theorem dk_e_7 (cI cB : ClassId) (ad : Nat → Nat) : pz_cell cI cB ad m0X 7 = .inr (1, [.ref (ad 8), .ref (ad 9), .ref (ad 10), .ref (ad 11), .ref (ad 12), .int 0]) := by rw [pz_cellO (by decide)]; rfl
theorem dk_e_8 (cI cB : ClassId) (ad : Nat → Nat) : pz_cell cI cB ad m0X 8 = .inl (cI, 24, .inl (fun _ => 0)) := by rw [pz_cellI (by decide)]; rfl
theorem dk_e_9 (cI cB : ClassId) (ad : Nat → Nat) : pz_cell cI cB ad m0X 9 = .inl (cI, 24, .inl (fun _ => 0)) := by rw [pz_cellI (by decide)]; rfl
theorem dk_e_10 (cI cB : ClassId) (ad : Nat → Nat) : pz_cell cI cB ad m0X 10 = .inl (cI, 24, .inl (fun _ => 0)) := by rw [pz_cellI (by decide)]; rfl
theorem dk_e_11 (cI cB : ClassId) (ad : Nat → Nat) : pz_cell cI cB ad m0X 11 = .inl (cI, 24, .inl (fun _ => 0)) := by rw [pz_cellI (by decide)]; rfl
theorem dk_e_12 (cI cB : ClassId) (ad : Nat → Nat) : pz_cell cI cB ad m0X 12 = .inl (cI, 9, .inl (fun _ => 0)) := by rw [pz_cellI (by decide)]; rfl
theorem dk_e_13 (cI cB : ClassId) (ad : Nat → Nat) : pz_cell cI cB ad m0X 13 = .inr (2, [.ref (ad 14), .ref (ad 15), .ref (ad 16), .int 0, .ref (ad 17), .ref (ad 18), .int 0, .ref (ad 19), .ref (ad 20), .int 0]) := by rw [pz_cellO (by decide)]; rfl
theorem dk_e_14 (cI cB : ClassId) (ad : Nat → Nat) : pz_cell cI cB ad m0X 14 = .inl (cI, 16, .inl (fun _ => 0)) := by rw [pz_cellI (by decide)]; rfl
theorem dk_e_15 (cI cB : ClassId) (ad : Nat → Nat) : pz_cell cI cB ad m0X 15 = .inl (cI, 16, .inl (fun _ => 0)) := by rw [pz_cellI (by decide)]; rfl
theorem dk_e_16 (cI cB : ClassId) (ad : Nat → Nat) : pz_cell cI cB ad m0X 16 = .inl (cI, 16, .inl (fun _ => 0)) := by rw [pz_cellI (by decide)]; rfl
theorem dk_e_17 (cI cB : ClassId) (ad : Nat → Nat) : pz_cell cI cB ad m0X 17 = .inl (cI, 256, .inl (fun _ => 0)) := by rw [pz_cellI (by decide)]; rfl
theorem dk_e_18 (cI cB : ClassId) (ad : Nat → Nat) : pz_cell cI cB ad m0X 18 = .inl (cI, 256, .inl (fun _ => 0)) := by rw [pz_cellI (by decide)]; rfl
theorem dk_e_19 (cI cB : ClassId) (ad : Nat → Nat) : pz_cell cI cB ad m0X 19 = .inl (cI, 10, .inl (fun _ => 0)) := by rw [pz_cellI (by decide)]; rfl
theorem dk_e_20 (cI cB : ClassId) (ad : Nat → Nat) : pz_cell cI cB ad m0X 20 = .inl (cI, 32, .inl (fun _ => 0)) := by rw [pz_cellI (by decide)]; rfl
theorem dk_e_21 (cI cB : ClassId) (ad : Nat → Nat) : pz_cell cI cB ad m0X 21 = .inr (2, [.ref (ad 22), .ref (ad 23), .ref (ad 24), .int 0, .ref (ad 25), .ref (ad 26), .int 0, .ref (ad 27), .ref (ad 28), .int 0]) := by rw [pz_cellO (by decide)]; rfl
theorem dk_e_22 (cI cB : ClassId) (ad : Nat → Nat) : pz_cell cI cB ad m0X 22 = .inl (cI, 16, .inl (fun _ => 0)) := by rw [pz_cellI (by decide)]; rfl
theorem dk_e_23 (cI cB : ClassId) (ad : Nat → Nat) : pz_cell cI cB ad m0X 23 = .inl (cI, 16, .inl (fun _ => 0)) := by rw [pz_cellI (by decide)]; rfl
theorem dk_e_24 (cI cB : ClassId) (ad : Nat → Nat) : pz_cell cI cB ad m0X 24 = .inl (cI, 16, .inl (fun _ => 0)) := by rw [pz_cellI (by decide)]; rfl
theorem dk_e_25 (cI cB : ClassId) (ad : Nat → Nat) : pz_cell cI cB ad m0X 25 = .inl (cI, 256, .inl (fun _ => 0)) := by rw [pz_cellI (by decide)]; rfl
theorem dk_e_26 (cI cB : ClassId) (ad : Nat → Nat) : pz_cell cI cB ad m0X 26 = .inl (cI, 256, .inl (fun _ => 0)) := by rw [pz_cellI (by decide)]; rfl
theorem dk_e_27 (cI cB : ClassId) (ad : Nat → Nat) : pz_cell cI cB ad m0X 27 = .inl (cI, 10, .inl (fun _ => 0)) := by rw [pz_cellI (by decide)]; rfl
theorem dk_e_28 (cI cB : ClassId) (ad : Nat → Nat) : pz_cell cI cB ad m0X 28 = .inl (cI, 32, .inl (fun _ => 0)) := by rw [pz_cellI (by decide)]; rfl
theorem dk_e_29 (cI cB : ClassId) (ad : Nat → Nat) : pz_cell cI cB ad m0X 29 = .inr (8, [.ref (ad 30), .int 0, .int 0, .int 0, .int 0]) := by rw [pz_cellO (by decide)]; rfl
theorem dk_e_30 (cI cB : ClassId) (ad : Nat → Nat) : pz_cell cI cB ad m0X 30 = .inl (cI, 260, .inl (fun _ => 0)) := by rw [pz_cellI (by decide)]; rfl
theorem dk_e_32 (cI cB : ClassId) (ad : Nat → Nat) : pz_cell cI cB ad m0X 32 = .inr (0, [.ref (ad 33), .ref (ad 34), .int 0, .int 0]) := by rw [pz_cellO (by decide)]; rfl
theorem dk_e_33 (cI cB : ClassId) (ad : Nat → Nat) : pz_cell cI cB ad m0X 33 = .inl (cI, 12, .inl (fun _ => 0)) := by rw [pz_cellI (by decide)]; rfl
theorem dk_e_34 (cI cB : ClassId) (ad : Nat → Nat) : pz_cell cI cB ad m0X 34 = .inl (cI, 72, .inl (fun _ => 0)) := by rw [pz_cellI (by decide)]; rfl
theorem dk_e_35 (cI cB : ClassId) (ad : Nat → Nat) : pz_cell cI cB ad m0X 35 = .inr (6, [.ref (ad 36), .ref (ad 37), .int 0, .int 0, .int 0]) := by rw [pz_cellO (by decide)]; rfl
theorem dk_e_36 (cI cB : ClassId) (ad : Nat → Nat) : pz_cell cI cB ad m0X 36 = .inl (cI, 10, .inl (fun _ => 0)) := by rw [pz_cellI (by decide)]; rfl
theorem dk_e_37 (cI cB : ClassId) (ad : Nat → Nat) : pz_cell cI cB ad m0X 37 = .inl (cI, 4, .inl (fun _ => 0)) := by rw [pz_cellI (by decide)]; rfl
theorem dk_e_38 (cI cB : ClassId) (ad : Nat → Nat) : pz_cell cI cB ad m0X 38 = .inr (4, [.ref (ad 39), .ref (ad 40), .ref (ad 41), .int 0]) := by rw [pz_cellO (by decide)]; rfl
theorem dk_e_39 (cI cB : ClassId) (ad : Nat → Nat) : pz_cell cI cB ad m0X 39 = .inl (cI, 8, .inl (fun _ => 0)) := by rw [pz_cellI (by decide)]; rfl
theorem dk_e_40 (cI cB : ClassId) (ad : Nat → Nat) : pz_cell cI cB ad m0X 40 = .inl (cI, 8, .inl (fun _ => 0)) := by rw [pz_cellI (by decide)]; rfl
theorem dk_e_41 (cI cB : ClassId) (ad : Nat → Nat) : pz_cell cI cB ad m0X 41 = .inl (cI, 8, .inl (fun _ => 0)) := by rw [pz_cellI (by decide)]; rfl
theorem dk_e_42 (cI cB : ClassId) (ad : Nat → Nat) : pz_cell cI cB ad m0X 42 = .inr (5, [.ref (ad 43), .ref (ad 44), .ref (ad 45), .ref (ad 46), .int 0]) := by rw [pz_cellO (by decide)]; rfl
theorem dk_e_43 (cI cB : ClassId) (ad : Nat → Nat) : pz_cell cI cB ad m0X 43 = .inl (cI, 11, .inl (fun _ => 0)) := by rw [pz_cellI (by decide)]; rfl
theorem dk_e_44 (cI cB : ClassId) (ad : Nat → Nat) : pz_cell cI cB ad m0X 44 = .inl (cI, 11, .inl (fun _ => 0)) := by rw [pz_cellI (by decide)]; rfl
theorem dk_e_45 (cI cB : ClassId) (ad : Nat → Nat) : pz_cell cI cB ad m0X 45 = .inl (cI, 242, .inl (fun _ => 0)) := by rw [pz_cellI (by decide)]; rfl
theorem dk_e_46 (cI cB : ClassId) (ad : Nat → Nat) : pz_cell cI cB ad m0X 46 = .inl (cI, 242, .inl (fun _ => 0)) := by rw [pz_cellI (by decide)]; rfl
theorem dk_e_47 (cI cB : ClassId) (ad : Nat → Nat) : pz_cell cI cB ad m0X 47 = .inr (7, [.ref (ad 48), .int 0, .int 0]) := by rw [pz_cellO (by decide)]; rfl
theorem dk_e_48 (cI cB : ClassId) (ad : Nat → Nat) : pz_cell cI cB ad m0X 48 = .inl (cI, 12, .inl (fun _ => 0)) := by rw [pz_cellI (by decide)]; rfl
theorem dk_e_49 (cI cB : ClassId) (ad : Nat → Nat) : pz_cell cI cB ad m0X 49 = .inr (9, [.ref (ad 50), .ref (ad 51), .ref (ad 52), .ref (ad 53), .int 0, .int 0, .int 1]) := by rw [pz_cellO (by decide)]; rfl
theorem dk_e_50 (cI cB : ClassId) (ad : Nat → Nat) : pz_cell cI cB ad m0X 50 = .inl (cI, 24, .inl (fun _ => 0)) := by rw [pz_cellI (by decide)]; rfl
theorem dk_e_51 (cI cB : ClassId) (ad : Nat → Nat) : pz_cell cI cB ad m0X 51 = .inl (cI, 24, .inl (fun _ => 0)) := by rw [pz_cellI (by decide)]; rfl
theorem dk_e_52 (cI cB : ClassId) (ad : Nat → Nat) : pz_cell cI cB ad m0X 52 = .inl (cI, 9, .inl (fun _ => 0)) := by rw [pz_cellI (by decide)]; rfl
theorem dk_e_53 (cI cB : ClassId) (ad : Nat → Nat) : pz_cell cI cB ad m0X 53 = .inl (cI, 11, .inl (fun _ => 0)) := by rw [pz_cellI (by decide)]; rfl
theorem dk_e_54 (cI cB : ClassId) (ad : Nat → Nat) : pz_cell cI cB ad m0X 54 = .inr (9, [.ref (ad 55), .ref (ad 56), .ref (ad 57), .ref (ad 58), .int 0, .int 0, .int 0]) := by rw [pz_cellO (by decide)]; rfl
theorem dk_e_55 (cI cB : ClassId) (ad : Nat → Nat) : pz_cell cI cB ad m0X 55 = .inl (cI, 24, .inl (fun _ => 0)) := by rw [pz_cellI (by decide)]; rfl
theorem dk_e_56 (cI cB : ClassId) (ad : Nat → Nat) : pz_cell cI cB ad m0X 56 = .inl (cI, 24, .inl (fun _ => 0)) := by rw [pz_cellI (by decide)]; rfl
theorem dk_e_57 (cI cB : ClassId) (ad : Nat → Nat) : pz_cell cI cB ad m0X 57 = .inl (cI, 9, .inl (fun _ => 0)) := by rw [pz_cellI (by decide)]; rfl
theorem dk_e_58 (cI cB : ClassId) (ad : Nat → Nat) : pz_cell cI cB ad m0X 58 = .inl (cI, 11, .inl (fun _ => 0)) := by rw [pz_cellI (by decide)]; rfl
theorem dk_e_59 (cI cB : ClassId) (ad : Nat → Nat) : pz_cell cI cB ad m0X 59 = .inr (9, [.ref (ad 60), .ref (ad 61), .ref (ad 62), .ref (ad 63), .int 0, .int 0, .int 0]) := by rw [pz_cellO (by decide)]; rfl
theorem dk_e_60 (cI cB : ClassId) (ad : Nat → Nat) : pz_cell cI cB ad m0X 60 = .inl (cI, 24, .inl (fun _ => 0)) := by rw [pz_cellI (by decide)]; rfl
theorem dk_e_61 (cI cB : ClassId) (ad : Nat → Nat) : pz_cell cI cB ad m0X 61 = .inl (cI, 24, .inl (fun _ => 0)) := by rw [pz_cellI (by decide)]; rfl
theorem dk_e_62 (cI cB : ClassId) (ad : Nat → Nat) : pz_cell cI cB ad m0X 62 = .inl (cI, 9, .inl (fun _ => 0)) := by rw [pz_cellI (by decide)]; rfl
theorem dk_e_63 (cI cB : ClassId) (ad : Nat → Nat) : pz_cell cI cB ad m0X 63 = .inl (cI, 11, .inl (fun _ => 0)) := by rw [pz_cellI (by decide)]; rfl
theorem pz_wsX {cI cB : ClassId} {ad : Nat → Nat} {M : pz_M} : pz_ws true cI cB ad M = [(ad 0, pz_cell cI cB ad M 0), (ad 1, pz_cell cI cB ad M 1), (ad 2, pz_cell cI cB ad M 2), (ad 3, pz_cell cI cB ad M 3), (ad 4, pz_cell cI cB ad M 4), (ad 5, pz_cell cI cB ad M 5), (ad 6, pz_cell cI cB ad M 6), (ad 7, pz_cell cI cB ad M 7), (ad 8, pz_cell cI cB ad M 8), (ad 9, pz_cell cI cB ad M 9), (ad 10, pz_cell cI cB ad M 10), (ad 11, pz_cell cI cB ad M 11), (ad 12, pz_cell cI cB ad M 12), (ad 13, pz_cell cI cB ad M 13), (ad 14, pz_cell cI cB ad M 14), (ad 15, pz_cell cI cB ad M 15), (ad 16, pz_cell cI cB ad M 16), (ad 17, pz_cell cI cB ad M 17), (ad 18, pz_cell cI cB ad M 18), (ad 19, pz_cell cI cB ad M 19), (ad 20, pz_cell cI cB ad M 20), (ad 21, pz_cell cI cB ad M 21), (ad 22, pz_cell cI cB ad M 22), (ad 23, pz_cell cI cB ad M 23), (ad 24, pz_cell cI cB ad M 24), (ad 25, pz_cell cI cB ad M 25), (ad 26, pz_cell cI cB ad M 26), (ad 27, pz_cell cI cB ad M 27), (ad 28, pz_cell cI cB ad M 28), (ad 29, pz_cell cI cB ad M 29), (ad 30, pz_cell cI cB ad M 30), (ad 32, pz_cell cI cB ad M 32), (ad 33, pz_cell cI cB ad M 33), (ad 34, pz_cell cI cB ad M 34), (ad 35, pz_cell cI cB ad M 35), (ad 36, pz_cell cI cB ad M 36), (ad 37, pz_cell cI cB ad M 37), (ad 38, pz_cell cI cB ad M 38), (ad 39, pz_cell cI cB ad M 39), (ad 40, pz_cell cI cB ad M 40), (ad 41, pz_cell cI cB ad M 41), (ad 42, pz_cell cI cB ad M 42), (ad 43, pz_cell cI cB ad M 43), (ad 44, pz_cell cI cB ad M 44), (ad 45, pz_cell cI cB ad M 45), (ad 46, pz_cell cI cB ad M 46), (ad 47, pz_cell cI cB ad M 47), (ad 48, pz_cell cI cB ad M 48), (ad 49, pz_cell cI cB ad M 49), (ad 50, pz_cell cI cB ad M 50), (ad 51, pz_cell cI cB ad M 51), (ad 52, pz_cell cI cB ad M 52), (ad 53, pz_cell cI cB ad M 53), (ad 54, pz_cell cI cB ad M 54), (ad 55, pz_cell cI cB ad M 55), (ad 56, pz_cell cI cB ad M 56), (ad 57, pz_cell cI cB ad M 57), (ad 58, pz_cell cI cB ad M 58), (ad 59, pz_cell cI cB ad M 59), (ad 60, pz_cell cI cB ad M 60), (ad 61, pz_cell cI cB ad M 61), (ad 62, pz_cell cI cB ad M 62), (ad 63, pz_cell cI cB ad M 63)] := rfl
theorem pz_wsY {cI cB : ClassId} {ad : Nat → Nat} {M : pz_M} : pz_ws false cI cB ad M = [(ad 100, pz_cell cI cB ad M 100), (ad 101, pz_cell cI cB ad M 101), (ad 102, pz_cell cI cB ad M 102), (ad 103, pz_cell cI cB ad M 103), (ad 104, pz_cell cI cB ad M 104), (ad 105, pz_cell cI cB ad M 105), (ad 106, pz_cell cI cB ad M 106), (ad 107, pz_cell cI cB ad M 107), (ad 108, pz_cell cI cB ad M 108), (ad 109, pz_cell cI cB ad M 109), (ad 110, pz_cell cI cB ad M 110), (ad 111, pz_cell cI cB ad M 111), (ad 112, pz_cell cI cB ad M 112), (ad 113, pz_cell cI cB ad M 113), (ad 114, pz_cell cI cB ad M 114), (ad 115, pz_cell cI cB ad M 115), (ad 116, pz_cell cI cB ad M 116), (ad 117, pz_cell cI cB ad M 117), (ad 118, pz_cell cI cB ad M 118), (ad 119, pz_cell cI cB ad M 119), (ad 120, pz_cell cI cB ad M 120), (ad 121, pz_cell cI cB ad M 121), (ad 122, pz_cell cI cB ad M 122), (ad 123, pz_cell cI cB ad M 123), (ad 124, pz_cell cI cB ad M 124), (ad 125, pz_cell cI cB ad M 125), (ad 126, pz_cell cI cB ad M 126), (ad 127, pz_cell cI cB ad M 127), (ad 128, pz_cell cI cB ad M 128), (ad 129, pz_cell cI cB ad M 129), (ad 130, pz_cell cI cB ad M 130), (ad 131, pz_cell cI cB ad M 131), (ad 132, pz_cell cI cB ad M 132)] := rfl
set_option maxRecDepth 100000 in
theorem dk_ws (cI cB : ClassId) (h0 o0 o1 o2 o3 o4 o5 o6 o7 o8 o9 o10 o11 o12 : Nat) (q0 q1 q2 q3 q4 q5 q6 q7 q8 q9 q10 q11 q12 : Nat → Nat) : (((h0, (.inr (10, ((((((((((((((df_X11.set 0 (.ref o0)).set 1 (.ref o1)).set 2 (.ref o2)).set 3 (.ref o3)).set 4 (.ref o4)).set 5 (.ref o5)).set 6 (.ref o6)).set 7 (.ref o7)).set 8 (.ref o8)).set 9 (.ref o9)).set 10 (.ref o10)).set 11 (.ref o11)).set 12 (.ref o12)).set 13 (.int 0))) : va_E)) :: (((((((((((((([] : va_W) ++ cn_w cI cB o0 1 df_X1 [] os_X1 q0) ++ cn_w cI cB o1 1 df_X1 [] os_X1 q1) ++ cn_w cI cB o2 2 df_X2 [] os_X2 q2) ++ cn_w cI cB o3 2 df_X2 [] os_X2 q3) ++ cn_w cI cB o4 8 df_X9 [] os_X9 q4) ++ cn_w cI cB o5 0 df_X0 [] os_X0 q5) ++ cn_w cI cB o6 6 df_X7 [] os_X7 q6) ++ cn_w cI cB o7 4 df_X4 [] os_X4 q7) ++ cn_w cI cB o8 5 df_X5 [] os_X5 q8) ++ cn_w cI cB o9 7 df_X8 [] os_X8 q9) ++ cn_w cI cB o10 9 df_X10 [] os_X10 q10) ++ cn_w cI cB o11 9 df_X10 [] os_X10 q11) ++ cn_w cI cB o12 9 df_X10 [] os_X10 q12)).set 48 (o10, .inr (9, (cn_fs [] os_X10 df_X10 q10).set 6 (.int 1)))) = pz_ws true cI cB (dk_ad h0 o0 o1 o2 o3 o4 o5 o6 o7 o8 o9 o10 o11 o12 q0 q1 q2 q3 q4 q5 q6 q7 q8 q9 q10 q11 q12) m0X := by
  rw [pz_wsX, dk_e_0, dk_e_1, dk_e_2, dk_e_3, dk_e_4, dk_e_5, dk_e_6, dk_e_7, dk_e_8, dk_e_9, dk_e_10, dk_e_11, dk_e_12, dk_e_13, dk_e_14, dk_e_15, dk_e_16, dk_e_17, dk_e_18, dk_e_19, dk_e_20, dk_e_21, dk_e_22, dk_e_23, dk_e_24, dk_e_25, dk_e_26, dk_e_27, dk_e_28, dk_e_29, dk_e_30, dk_e_32, dk_e_33, dk_e_34, dk_e_35, dk_e_36, dk_e_37, dk_e_38, dk_e_39, dk_e_40, dk_e_41, dk_e_42, dk_e_43, dk_e_44, dk_e_45, dk_e_46, dk_e_47, dk_e_48, dk_e_49, dk_e_50, dk_e_51, dk_e_52, dk_e_53, dk_e_54, dk_e_55, dk_e_56, dk_e_57, dk_e_58, dk_e_59, dk_e_60, dk_e_61, dk_e_62, dk_e_63]
  rfl
def dk_rm : Room := { frames := 2, cells := 62, slots := 2597, locals := 64 }
def dk_Q (D : va_G) (cI cB : ClassId) (h0 sz : Nat) : Array Value → State → Outcome → State → Prop := va_Qv (S := Nat → Nat) (fun _ => True) (fun ad t => ad 0 = h0 ∧ va_P D pz_CL (pz_ws true cI cB ad m0X) t.heap ∧ va_D (va_A [(h0, .inr (10, df_X11))] sz) (pz_ws true cI cB ad m0X)) (va_A [(h0, .inr (10, df_X11))] sz)
set_option maxHeartbeats 4000000 in
set_option maxRecDepth 100000 in
theorem c_desk (l : Launch) (D : va_G) (cI cB : ClassId) (h0 sz : Nat) : Met l yX11_init [Cond.code yX11_init cX11_init 1 none] dk_rm (cn_P D cI cB h0 10 df_X11 [] sz) (dk_Q D cI cB h0 sz) 62 2597 (va_A [(h0, .inr (10, df_X11))] sz) := by
  refine pz_ofW (cc := cX11_init) (maxL := 1) (ret := none) (by decide) rfl ?_
  intro p e s m args below meth c s₁ B hml hv
  obtain ⟨rfl, hsz, hP, hK, hW⟩ := hv
  have hx := B.exec
  have hb := B.bytes
  have hr := B.returns
  have hown : s.vm.findClass RX11 = some m.cls := findClass_of_methodNamed B.named
  have hlocks := B.notSynchronized
  have hin : meth.name = "<init>" := (name_of_methodNamed B.named B.method).1
  subst hsz
  have hD := cn_one (h0 := h0) (x := .inr (10, df_X11)) (sz := s.heap.size)
  generalize hAe : va_A [(h0, .inr (10, df_X11))] s.heap.size = A at hD ⊢
  have hA : ∀ q : Nat, s.heap.size ≤ q → A q := fun q h => by rw [← hAe]; exact Or.inr h
  have hS : va_S A s.heap s.heap [] := va_S.rf
  rw [lg_entry_eq]
  generalize hls : (lg_sl (Value.ref h0 :: ([] : List Nat).map Value.ref) ++ List.replicate (1 - (lg_sl (Value.ref h0 :: ([] : List Nat).map Value.ref)).length) Slot.unset).toArray = ls
  obtain ⟨e1, e2, e3⟩ := cn_ent (av := []) (Nat.le_refl 1) hls
  refine lv_aload_n hx hb dc_X11_0 rfl e2 ?_
  refine W.objInit hx hb hown (pz_use hW cn_objW rfl _) (pz_use hW cn_objI rfl _) (pz_use hW cn_objC rfl _) rfl (by rw [hml]; exact e1) rfl dc_X11_1 (Nat.le_of_ble_eq_true rfl) (Nat.le_of_ble_eq_true rfl) ?_
  refine W.eq (g2 := F0 m 4 ls []) rfl ?_
  obtain ⟨k1, -, k3, -, -, -⟩ := cc_10
  have htd : ∀ w ∈ u_ws RX11 TX11 14, w.before #[Value.ref h0] s = true := fun w hw => pz_use hW (k3 w hw).1 (k3 w hw).2 _
  refine lv_aload_n hx hb dc_X11_4 rfl e2 ?_
  refine cn_new (own := RX11) (dfs := df_X1) (cI := cI) (cB := cB) hx hb cc_1 hown hW hK hP hD hS hA (pz_tb (List.mem_of_getElem? (i := 30) (by decide +kernel))) wi_X1 wz_X1 tyX1_ok dv_X1 (Nat.le_of_ble_eq_true rfl) (Nat.le_of_ble_eq_true rfl) dc_X11_5 dc_X11_8 (fun o0 H hP hD hS => ?_)
  refine cn_call (av := []) (rest := [.ref o0, .ref h0]) (own := RX11) hx hb hml e1 hown hW hK hA (c_X1 l D cI cB o0 H.size) (Or.inr ⟨"PeacockDesk", pz_tb (List.mem_of_getElem? (i := 32) (by decide +kernel))⟩) wc_X1 wz_X1 wn_X1 rfl (by decide) np_X1 (Nat.le_of_ble_eq_true rfl) (Nat.le_of_ble_eq_true rfl) (Nat.le_of_ble_eq_true rfl) (Nat.le_of_ble_eq_true rfl) (Nat.le_of_ble_eq_true rfl) hP hD hS dc_X11_9 (fun q0 H locs hP hD hS => ?_)
  refine cn_put hx hb cc_10 hown hin hW hK hP hD hS (f := 0) (by decide) rfl rfl (pz_tb (List.mem_of_getElem? (i := 264) (by decide +kernel))) (ty := .object "PeacockDesk$Docket") (by decide +kernel) rfl rfl dc_X11_12 (fun H locs hP hD hS => ?_)
  refine W.eq (g2 := F0 m 15 ls []) rfl ?_
  refine lv_aload_n hx hb dc_X11_15 rfl e2 ?_
  refine cn_new (own := RX11) (dfs := df_X1) (cI := cI) (cB := cB) hx hb cc_1 hown hW hK hP hD hS hA (pz_tb (List.mem_of_getElem? (i := 30) (by decide +kernel))) wi_X1 wz_X1 tyX1_ok dv_X1 (Nat.le_of_ble_eq_true rfl) (Nat.le_of_ble_eq_true rfl) dc_X11_16 dc_X11_19 (fun o1 H hP hD hS => ?_)
  refine cn_call (av := []) (rest := [.ref o1, .ref h0]) (own := RX11) hx hb hml e1 hown hW hK hA (c_X1 l D cI cB o1 H.size) (Or.inr ⟨"PeacockDesk", pz_tb (List.mem_of_getElem? (i := 32) (by decide +kernel))⟩) wc_X1 wz_X1 wn_X1 rfl (by decide) np_X1 (Nat.le_of_ble_eq_true rfl) (Nat.le_of_ble_eq_true rfl) (Nat.le_of_ble_eq_true rfl) (Nat.le_of_ble_eq_true rfl) (Nat.le_of_ble_eq_true rfl) hP hD hS dc_X11_20 (fun q1 H locs hP hD hS => ?_)
  refine cn_put hx hb cc_10 hown hin hW hK hP hD hS (f := 1) (by decide) rfl rfl (pz_tb (List.mem_of_getElem? (i := 265) (by decide +kernel))) (ty := .object "PeacockDesk$Docket") (by decide +kernel) rfl rfl dc_X11_23 (fun H locs hP hD hS => ?_)
  refine W.eq (g2 := F0 m 26 ls []) rfl ?_
  refine lv_aload_n hx hb dc_X11_26 rfl e2 ?_
  refine cn_new (own := RX11) (dfs := df_X2) (cI := cI) (cB := cB) hx hb cc_2 hown hW hK hP hD hS hA (pz_tb (List.mem_of_getElem? (i := 65) (by decide +kernel))) wi_X2 wz_X2 tyX2_ok dv_X2 (Nat.le_of_ble_eq_true rfl) (Nat.le_of_ble_eq_true rfl) dc_X11_27 dc_X11_30 (fun o2 H hP hD hS => ?_)
  refine cn_call (av := []) (rest := [.ref o2, .ref h0]) (own := RX11) hx hb hml e1 hown hW hK hA (c_X2 l D cI cB o2 H.size) (Or.inr ⟨"PeacockDesk", pz_tb (List.mem_of_getElem? (i := 67) (by decide +kernel))⟩) wc_X2 wz_X2 wn_X2 rfl (by decide) np_X2 (Nat.le_of_ble_eq_true rfl) (Nat.le_of_ble_eq_true rfl) (Nat.le_of_ble_eq_true rfl) (Nat.le_of_ble_eq_true rfl) (Nat.le_of_ble_eq_true rfl) hP hD hS dc_X11_31 (fun q2 H locs hP hD hS => ?_)
  refine cn_put hx hb cc_10 hown hin hW hK hP hD hS (f := 2) (by decide) rfl rfl (pz_tb (List.mem_of_getElem? (i := 266) (by decide +kernel))) (ty := .object "PeacockDesk$Law") (by decide +kernel) rfl rfl dc_X11_34 (fun H locs hP hD hS => ?_)
  refine W.eq (g2 := F0 m 37 ls []) rfl ?_
  refine lv_aload_n hx hb dc_X11_37 rfl e2 ?_
  refine cn_new (own := RX11) (dfs := df_X2) (cI := cI) (cB := cB) hx hb cc_2 hown hW hK hP hD hS hA (pz_tb (List.mem_of_getElem? (i := 65) (by decide +kernel))) wi_X2 wz_X2 tyX2_ok dv_X2 (Nat.le_of_ble_eq_true rfl) (Nat.le_of_ble_eq_true rfl) dc_X11_38 dc_X11_41 (fun o3 H hP hD hS => ?_)
  refine cn_call (av := []) (rest := [.ref o3, .ref h0]) (own := RX11) hx hb hml e1 hown hW hK hA (c_X2 l D cI cB o3 H.size) (Or.inr ⟨"PeacockDesk", pz_tb (List.mem_of_getElem? (i := 67) (by decide +kernel))⟩) wc_X2 wz_X2 wn_X2 rfl (by decide) np_X2 (Nat.le_of_ble_eq_true rfl) (Nat.le_of_ble_eq_true rfl) (Nat.le_of_ble_eq_true rfl) (Nat.le_of_ble_eq_true rfl) (Nat.le_of_ble_eq_true rfl) hP hD hS dc_X11_42 (fun q3 H locs hP hD hS => ?_)
  refine cn_put hx hb cc_10 hown hin hW hK hP hD hS (f := 3) (by decide) rfl rfl (pz_tb (List.mem_of_getElem? (i := 267) (by decide +kernel))) (ty := .object "PeacockDesk$Law") (by decide +kernel) rfl rfl dc_X11_45 (fun H locs hP hD hS => ?_)
  refine W.eq (g2 := F0 m 48 ls []) rfl ?_
  refine lv_aload_n hx hb dc_X11_48 rfl e2 ?_
  refine cn_new (own := RX11) (dfs := df_X9) (cI := cI) (cB := cB) hx hb cc_8 hown hW hK hP hD hS hA (pz_tb (List.mem_of_getElem? (i := 105) (by decide +kernel))) wi_X9 wz_X9 tyX9_ok dv_X9 (Nat.le_of_ble_eq_true rfl) (Nat.le_of_ble_eq_true rfl) dc_X11_49 dc_X11_52 (fun o4 H hP hD hS => ?_)
  refine cn_call (av := []) (rest := [.ref o4, .ref h0]) (own := RX11) hx hb hml e1 hown hW hK hA (c_X9 l D cI cB o4 H.size) (Or.inr ⟨"PeacockDesk", pz_tb (List.mem_of_getElem? (i := 107) (by decide +kernel))⟩) wc_X9 wz_X9 wn_X9 rfl (by decide) np_X9 (Nat.le_of_ble_eq_true rfl) (Nat.le_of_ble_eq_true rfl) (Nat.le_of_ble_eq_true rfl) (Nat.le_of_ble_eq_true rfl) (Nat.le_of_ble_eq_true rfl) hP hD hS dc_X11_53 (fun q4 H locs hP hD hS => ?_)
  refine cn_put hx hb cc_10 hown hin hW hK hP hD hS (f := 4) (by decide) rfl rfl (pz_tb (List.mem_of_getElem? (i := 268) (by decide +kernel))) (ty := .object "PeacockDesk$Tape") (by decide +kernel) rfl rfl dc_X11_56 (fun H locs hP hD hS => ?_)
  refine W.eq (g2 := F0 m 59 ls []) rfl ?_
  refine lv_aload_n hx hb dc_X11_59 rfl e2 ?_
  refine cn_new (own := RX11) (dfs := df_X0) (cI := cI) (cB := cB) hx hb cc_0 hown hW hK hP hD hS hA (pz_tb (List.mem_of_getElem? (i := 130) (by decide +kernel))) wi_X0 wz_X0 tyX0_ok dv_X0 (Nat.le_of_ble_eq_true rfl) (Nat.le_of_ble_eq_true rfl) dc_X11_60 dc_X11_63 (fun o5 H hP hD hS => ?_)
  refine cn_call (av := []) (rest := [.ref o5, .ref h0]) (own := RX11) hx hb hml e1 hown hW hK hA (c_X0 l D cI cB o5 H.size) (Or.inr ⟨"PeacockDesk", pz_tb (List.mem_of_getElem? (i := 132) (by decide +kernel))⟩) wc_X0 wz_X0 wn_X0 rfl (by decide) np_X0 (Nat.le_of_ble_eq_true rfl) (Nat.le_of_ble_eq_true rfl) (Nat.le_of_ble_eq_true rfl) (Nat.le_of_ble_eq_true rfl) (Nat.le_of_ble_eq_true rfl) hP hD hS dc_X11_64 (fun q5 H locs hP hD hS => ?_)
  refine cn_put hx hb cc_10 hown hin hW hK hP hD hS (f := 5) (by decide) rfl rfl (pz_tb (List.mem_of_getElem? (i := 269) (by decide +kernel))) (ty := .object "PeacockDesk$Cabinet") (by decide +kernel) rfl rfl dc_X11_67 (fun H locs hP hD hS => ?_)
  refine W.eq (g2 := F0 m 70 ls []) rfl ?_
  refine lv_aload_n hx hb dc_X11_70 rfl e2 ?_
  refine cn_new (own := RX11) (dfs := df_X7) (cI := cI) (cB := cB) hx hb cc_6 hown hW hK hP hD hS hA (pz_tb (List.mem_of_getElem? (i := 149) (by decide +kernel))) wi_X7 wz_X7 tyX7_ok dv_X7 (Nat.le_of_ble_eq_true rfl) (Nat.le_of_ble_eq_true rfl) dc_X11_71 dc_X11_74 (fun o6 H hP hD hS => ?_)
  refine cn_call (av := []) (rest := [.ref o6, .ref h0]) (own := RX11) hx hb hml e1 hown hW hK hA (c_X7 l D cI cB o6 H.size) (Or.inr ⟨"PeacockDesk", pz_tb (List.mem_of_getElem? (i := 151) (by decide +kernel))⟩) wc_X7 wz_X7 wn_X7 rfl (by decide) np_X7 (Nat.le_of_ble_eq_true rfl) (Nat.le_of_ble_eq_true rfl) (Nat.le_of_ble_eq_true rfl) (Nat.le_of_ble_eq_true rfl) (Nat.le_of_ble_eq_true rfl) hP hD hS dc_X11_75 (fun q6 H locs hP hD hS => ?_)
  refine cn_put hx hb cc_10 hown hin hW hK hP hD hS (f := 6) (by decide) rfl rfl (pz_tb (List.mem_of_getElem? (i := 270) (by decide +kernel))) (ty := .object "PeacockDesk$Sharing") (by decide +kernel) rfl rfl dc_X11_78 (fun H locs hP hD hS => ?_)
  refine W.eq (g2 := F0 m 81 ls []) rfl ?_
  refine lv_aload_n hx hb dc_X11_81 rfl e2 ?_
  refine cn_new (own := RX11) (dfs := df_X4) (cI := cI) (cB := cB) hx hb cc_4 hown hW hK hP hD hS hA (pz_tb (List.mem_of_getElem? (i := 171) (by decide +kernel))) wi_X4 wz_X4 tyX4_ok dv_X4 (Nat.le_of_ble_eq_true rfl) (Nat.le_of_ble_eq_true rfl) dc_X11_82 dc_X11_85 (fun o7 H hP hD hS => ?_)
  refine cn_call (av := []) (rest := [.ref o7, .ref h0]) (own := RX11) hx hb hml e1 hown hW hK hA (c_X4 l D cI cB o7 H.size) (Or.inr ⟨"PeacockDesk", pz_tb (List.mem_of_getElem? (i := 173) (by decide +kernel))⟩) wc_X4 wz_X4 wn_X4 rfl (by decide) np_X4 (Nat.le_of_ble_eq_true rfl) (Nat.le_of_ble_eq_true rfl) (Nat.le_of_ble_eq_true rfl) (Nat.le_of_ble_eq_true rfl) (Nat.le_of_ble_eq_true rfl) hP hD hS dc_X11_86 (fun q7 H locs hP hD hS => ?_)
  refine cn_put hx hb cc_10 hown hin hW hK hP hD hS (f := 7) (by decide) rfl rfl (pz_tb (List.mem_of_getElem? (i := 271) (by decide +kernel))) (ty := .object "PeacockDesk$Parties") (by decide +kernel) rfl rfl dc_X11_89 (fun H locs hP hD hS => ?_)
  refine W.eq (g2 := F0 m 92 ls []) rfl ?_
  refine lv_aload_n hx hb dc_X11_92 rfl e2 ?_
  refine cn_new (own := RX11) (dfs := df_X5) (cI := cI) (cB := cB) hx hb cc_5 hown hW hK hP hD hS hA (pz_tb (List.mem_of_getElem? (i := 191) (by decide +kernel))) wi_X5 wz_X5 tyX5_ok dv_X5 (Nat.le_of_ble_eq_true rfl) (Nat.le_of_ble_eq_true rfl) dc_X11_93 dc_X11_96 (fun o8 H hP hD hS => ?_)
  refine cn_call (av := []) (rest := [.ref o8, .ref h0]) (own := RX11) hx hb hml e1 hown hW hK hA (c_X5 l D cI cB o8 H.size) (Or.inr ⟨"PeacockDesk", pz_tb (List.mem_of_getElem? (i := 193) (by decide +kernel))⟩) wc_X5 wz_X5 wn_X5 rfl (by decide) np_X5 (Nat.le_of_ble_eq_true rfl) (Nat.le_of_ble_eq_true rfl) (Nat.le_of_ble_eq_true rfl) (Nat.le_of_ble_eq_true rfl) (Nat.le_of_ble_eq_true rfl) hP hD hS dc_X11_97 (fun q8 H locs hP hD hS => ?_)
  refine cn_put hx hb cc_10 hown hin hW hK hP hD hS (f := 8) (by decide) rfl rfl (pz_tb (List.mem_of_getElem? (i := 272) (by decide +kernel))) (ty := .object "PeacockDesk$Path") (by decide +kernel) rfl rfl dc_X11_100 (fun H locs hP hD hS => ?_)
  refine W.eq (g2 := F0 m 103 ls []) rfl ?_
  refine lv_aload_n hx hb dc_X11_103 rfl e2 ?_
  refine cn_new (own := RX11) (dfs := df_X8) (cI := cI) (cB := cB) hx hb cc_7 hown hW hK hP hD hS hA (pz_tb (List.mem_of_getElem? (i := 213) (by decide +kernel))) wi_X8 wz_X8 tyX8_ok dv_X8 (Nat.le_of_ble_eq_true rfl) (Nat.le_of_ble_eq_true rfl) dc_X11_104 dc_X11_107 (fun o9 H hP hD hS => ?_)
  refine cn_call (av := []) (rest := [.ref o9, .ref h0]) (own := RX11) hx hb hml e1 hown hW hK hA (c_X8 l D cI cB o9 H.size) (Or.inr ⟨"PeacockDesk", pz_tb (List.mem_of_getElem? (i := 215) (by decide +kernel))⟩) wc_X8 wz_X8 wn_X8 rfl (by decide) np_X8 (Nat.le_of_ble_eq_true rfl) (Nat.le_of_ble_eq_true rfl) (Nat.le_of_ble_eq_true rfl) (Nat.le_of_ble_eq_true rfl) (Nat.le_of_ble_eq_true rfl) hP hD hS dc_X11_108 (fun q9 H locs hP hD hS => ?_)
  refine cn_put hx hb cc_10 hown hin hW hK hP hD hS (f := 9) (by decide) rfl rfl (pz_tb (List.mem_of_getElem? (i := 273) (by decide +kernel))) (ty := .object "PeacockDesk$Tails") (by decide +kernel) rfl rfl dc_X11_111 (fun H locs hP hD hS => ?_)
  refine W.eq (g2 := F0 m 114 ls []) rfl ?_
  refine lv_aload_n hx hb dc_X11_114 rfl e2 ?_
  refine cn_new (own := RX11) (dfs := df_X10) (cI := cI) (cB := cB) hx hb cc_9 hown hW hK hP hD hS hA (pz_tb (List.mem_of_getElem? (i := 229) (by decide +kernel))) wi_X10 wz_X10 tyX10_ok dv_X10 (Nat.le_of_ble_eq_true rfl) (Nat.le_of_ble_eq_true rfl) dc_X11_115 dc_X11_118 (fun o10 H hP hD hS => ?_)
  refine cn_call (av := []) (rest := [.ref o10, .ref h0]) (own := RX11) hx hb hml e1 hown hW hK hA (c_X10 l D cI cB o10 H.size) (Or.inr ⟨"PeacockDesk", pz_tb (List.mem_of_getElem? (i := 231) (by decide +kernel))⟩) wc_X10 wz_X10 wn_X10 rfl (by decide) np_X10 (Nat.le_of_ble_eq_true rfl) (Nat.le_of_ble_eq_true rfl) (Nat.le_of_ble_eq_true rfl) (Nat.le_of_ble_eq_true rfl) (Nat.le_of_ble_eq_true rfl) hP hD hS dc_X11_119 (fun q10 H locs hP hD hS => ?_)
  refine cn_put hx hb cc_10 hown hin hW hK hP hD hS (f := 10) (by decide) rfl rfl (pz_tb (List.mem_of_getElem? (i := 274) (by decide +kernel))) (ty := .object "PeacockDesk$Terrace") (by decide +kernel) rfl rfl dc_X11_122 (fun H locs hP hD hS => ?_)
  refine W.eq (g2 := F0 m 125 ls []) rfl ?_
  refine lv_aload_n hx hb dc_X11_125 rfl e2 ?_
  refine cn_new (own := RX11) (dfs := df_X10) (cI := cI) (cB := cB) hx hb cc_9 hown hW hK hP hD hS hA (pz_tb (List.mem_of_getElem? (i := 229) (by decide +kernel))) wi_X10 wz_X10 tyX10_ok dv_X10 (Nat.le_of_ble_eq_true rfl) (Nat.le_of_ble_eq_true rfl) dc_X11_126 dc_X11_129 (fun o11 H hP hD hS => ?_)
  refine cn_call (av := []) (rest := [.ref o11, .ref h0]) (own := RX11) hx hb hml e1 hown hW hK hA (c_X10 l D cI cB o11 H.size) (Or.inr ⟨"PeacockDesk", pz_tb (List.mem_of_getElem? (i := 231) (by decide +kernel))⟩) wc_X10 wz_X10 wn_X10 rfl (by decide) np_X10 (Nat.le_of_ble_eq_true rfl) (Nat.le_of_ble_eq_true rfl) (Nat.le_of_ble_eq_true rfl) (Nat.le_of_ble_eq_true rfl) (Nat.le_of_ble_eq_true rfl) hP hD hS dc_X11_130 (fun q11 H locs hP hD hS => ?_)
  refine cn_put hx hb cc_10 hown hin hW hK hP hD hS (f := 11) (by decide) rfl rfl (pz_tb (List.mem_of_getElem? (i := 275) (by decide +kernel))) (ty := .object "PeacockDesk$Terrace") (by decide +kernel) rfl rfl dc_X11_133 (fun H locs hP hD hS => ?_)
  refine W.eq (g2 := F0 m 136 ls []) rfl ?_
  refine lv_aload_n hx hb dc_X11_136 rfl e2 ?_
  refine cn_new (own := RX11) (dfs := df_X10) (cI := cI) (cB := cB) hx hb cc_9 hown hW hK hP hD hS hA (pz_tb (List.mem_of_getElem? (i := 229) (by decide +kernel))) wi_X10 wz_X10 tyX10_ok dv_X10 (Nat.le_of_ble_eq_true rfl) (Nat.le_of_ble_eq_true rfl) dc_X11_137 dc_X11_140 (fun o12 H hP hD hS => ?_)
  refine cn_call (av := []) (rest := [.ref o12, .ref h0]) (own := RX11) hx hb hml e1 hown hW hK hA (c_X10 l D cI cB o12 H.size) (Or.inr ⟨"PeacockDesk", pz_tb (List.mem_of_getElem? (i := 231) (by decide +kernel))⟩) wc_X10 wz_X10 wn_X10 rfl (by decide) np_X10 (Nat.le_of_ble_eq_true rfl) (Nat.le_of_ble_eq_true rfl) (Nat.le_of_ble_eq_true rfl) (Nat.le_of_ble_eq_true rfl) (Nat.le_of_ble_eq_true rfl) hP hD hS dc_X11_141 (fun q12 H locs hP hD hS => ?_)
  refine cn_put hx hb cc_10 hown hin hW hK hP hD hS (f := 12) (by decide) rfl rfl (pz_tb (List.mem_of_getElem? (i := 276) (by decide +kernel))) (ty := .object "PeacockDesk$Terrace") (by decide +kernel) rfl rfl dc_X11_144 (fun H locs hP hD hS => ?_)
  refine W.eq (g2 := F0 m 147 ls []) rfl ?_
  refine lv_aload_n hx hb dc_X11_147 rfl e2 ?_
  refine lv_iconst (v := 0) hx hb dc_X11_148 rfl ?_
  refine cn_put hx hb cc_10 hown hin hW hK hP hD hS (f := 13) (by decide) rfl rfl (pz_tb (List.mem_of_getElem? (i := 277) (by decide +kernel))) (ty := .boolean) (by decide +kernel) rfl rfl dc_X11_149 (fun H locs hP hD hS => ?_)
  refine lv_aload_n hx hb dc_X11_152 rfl e2 ?_
  refine va_get (D := D) (ci := 10) (C := RX11) (T := TX11) (N := 14) (v := .ref o10) hx hb htd (fun _ q => q) hown hK hP 0 rfl k1 10 (by decide) (pz_use hW (pz_tb (List.mem_of_getElem? (i := 274) (by decide +kernel))) rfl _) (fun _ q => q) rfl dc_X11_153 ?_
  refine lv_iconst (v := 1) hx hb dc_X11_156 rfl ?_
  obtain ⟨j1, -, j3, -, -, -⟩ := cc_9
  have htt : ∀ w ∈ u_ws RX10 TX10 7, w.before #[Value.ref h0] s = true := fun w hw => pz_use hW (j3 w hw).1 (j3 w hw).2 _
  refine va_putN (own := RX11) (host := "PeacockDesk") (D := D) (ci := 9) (C := RX10) (T := TX10) (N := 7) (a := o10) (fs := cn_fs [] os_X10 df_X10 q10) (ty := .int) (v := .int 1) hx hb htt (fun _ q => q) tyX10 tyX10_ok nmX10 hown hK hP hD hS 48 rfl j1 6 (by decide) (pz_use hW (pz_tb (List.mem_of_getElem? (i := 248) (by decide +kernel))) rfl _) (fun _ q => q) rfl (by decide +kernel) rfl rfl (Nat.lt_of_lt_of_eq (by decide : 6 < 7) rfl) dc_X11_157 (fun H locs hP hD hS => ?_)
  have hP : va_P D pz_CL (pz_ws true cI cB (dk_ad h0 o0 o1 o2 o3 o4 o5 o6 o7 o8 o9 o10 o11 o12 q0 q1 q2 q3 q4 q5 q6 q7 q8 q9 q10 q11 q12) m0X) H := by rw [← dk_ws]; exact hP
  have hD : va_D A (pz_ws true cI cB (dk_ad h0 o0 o1 o2 o3 o4 o5 o6 o7 o8 o9 o10 o11 o12 q0 q1 q2 q3 q4 q5 q6 q7 q8 q9 q10 q11 q12) m0X) := by rw [← dk_ws]; exact hD
  refine W.widen (k := 62) (n := 2597) (Nat.le_of_ble_eq_true rfl) (Nat.le_of_ble_eq_true rfl) ?_
  exact W.vret hx hb hr (fun t ht hW => ⟨⟨dk_ad h0 o0 o1 o2 o3 o4 o5 o6 o7 o8 o9 o10 o11 o12 q0 q1 q2 q3 q4 q5 q6 q7 q8 q9 q10 q11 q12, rfl, trivial, rfl, by rw [ht]; exact hP, by rw [hAe]; exact hD⟩, by rw [hAe]; exact hS.F ht⟩) hS.2.2 dc_X11_160
