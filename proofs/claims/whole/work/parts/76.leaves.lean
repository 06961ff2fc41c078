/-! ===== the leaves: constructors that only fill their own fields ===== -/
theorem dc_X0_0 : decode cX0_init 0 = .ok (.aload_n 0, 1) := by decide +kernel
theorem dc_X0_1 : decode cX0_init 1 = .ok (.invokespecial 3, 3) := by decide +kernel
theorem dc_X0_4 : decode cX0_init 4 = .ok (.aload_n 0, 1) := by decide +kernel
theorem dc_X0_5 : decode cX0_init 5 = .ok (.bipush 12, 2) := by decide +kernel
theorem dc_X0_7 : decode cX0_init 7 = .ok (.newarray .int, 2) := by decide +kernel
theorem dc_X0_9 : decode cX0_init 9 = .ok (.putfield 11, 3) := by decide +kernel
theorem dc_X0_12 : decode cX0_init 12 = .ok (.aload_n 0, 1) := by decide +kernel
theorem dc_X0_13 : decode cX0_init 13 = .ok (.bipush 72, 2) := by decide +kernel
theorem dc_X0_15 : decode cX0_init 15 = .ok (.newarray .int, 2) := by decide +kernel
theorem dc_X0_17 : decode cX0_init 17 = .ok (.putfield 15, 3) := by decide +kernel
theorem dc_X0_20 : decode cX0_init 20 = .ok (.aload_n 0, 1) := by decide +kernel
theorem dc_X0_21 : decode cX0_init 21 = .ok (.iconst 0, 1) := by decide +kernel
theorem dc_X0_22 : decode cX0_init 22 = .ok (.putfield 18, 3) := by decide +kernel
theorem dc_X0_25 : decode cX0_init 25 = .ok (.aload_n 0, 1) := by decide +kernel
theorem dc_X0_26 : decode cX0_init 26 = .ok (.iconst 0, 1) := by decide +kernel
theorem dc_X0_27 : decode cX0_init 27 = .ok (.putfield 22, 3) := by decide +kernel
theorem dc_X0_30 : decode cX0_init 30 = .ok (.return_, 1) := by decide +kernel
def df_X0 : List Value := [.null, .null, .int 0, .int 0]
def os_X0 : List (Nat × Nat × Nat) := [(1, 12, 0), (1, 72, 1), (0, 0, 2), (0, 0, 3)]
theorem ok_X0 : cn_ok cX0_init 0 RX0 TX0 4 os_X0 4 30 := ⟨dc_X0_4, by decide, rfl, ⟨.array .int, by decide +kernel, Or.inr ⟨by decide, fun _ => ⟨rfl, rfl⟩⟩⟩, 9, 11, ⟨7, Or.inl ⟨dc_X0_5, by decide +kernel, rfl⟩, ⟨by decide +kernel, by decide +kernel, by decide +kernel⟩, dc_X0_7, rfl⟩, dc_X0_9, pz_tb (List.mem_of_getElem? (i := 136) (by decide +kernel)), ⟨dc_X0_12, by decide, rfl, ⟨.array .int, by decide +kernel, Or.inr ⟨by decide, fun _ => ⟨rfl, rfl⟩⟩⟩, 17, 15, ⟨15, Or.inl ⟨dc_X0_13, by decide +kernel, rfl⟩, ⟨by decide +kernel, by decide +kernel, by decide +kernel⟩, dc_X0_15, rfl⟩, dc_X0_17, pz_tb (List.mem_of_getElem? (i := 137) (by decide +kernel)), ⟨dc_X0_20, by decide, rfl, ⟨.int, by decide +kernel, Or.inl ⟨rfl, rfl, rfl⟩⟩, 22, 18, ⟨dc_X0_21, rfl⟩, dc_X0_22, pz_tb (List.mem_of_getElem? (i := 138) (by decide +kernel)), ⟨dc_X0_25, by decide, rfl, ⟨.int, by decide +kernel, Or.inl ⟨rfl, rfl, rfl⟩⟩, 27, 22, ⟨dc_X0_26, rfl⟩, dc_X0_27, pz_tb (List.mem_of_getElem? (i := 139) (by decide +kernel)), rfl⟩⟩⟩⟩
theorem c_X0 (l : Launch) (D : va_G) (cI cB : ClassId) (h0 sz : Nat) : Met l yX0_init [Cond.code yX0_init cX0_init 1 none] (cn_rm os_X0) (cn_P D cI cB h0 0 df_X0 [] sz) (cn_Q D cI cB h0 0 df_X0 [] os_X0 sz) (cn_c os_X0) (cn_s os_X0) (va_A [(h0, .inr (0, df_X0))] sz) := cn_leaf l D cI cB h0 sz [] (by decide) rfl rfl cc_0 (pz_tb (List.mem_of_getElem? (i := 135) (by decide +kernel))) dc_X0_0 dc_X0_1 ok_X0 dc_X0_30 (Nat.le_of_ble_eq_true rfl) rfl
theorem dc_X1_0 : decode cX1_init 0 = .ok (.aload_n 0, 1) := by decide +kernel
theorem dc_X1_1 : decode cX1_init 1 = .ok (.invokespecial 3, 3) := by decide +kernel
theorem dc_X1_4 : decode cX1_init 4 = .ok (.aload_n 0, 1) := by decide +kernel
theorem dc_X1_5 : decode cX1_init 5 = .ok (.bipush 24, 2) := by decide +kernel
theorem dc_X1_7 : decode cX1_init 7 = .ok (.newarray .int, 2) := by decide +kernel
theorem dc_X1_9 : decode cX1_init 9 = .ok (.putfield 9, 3) := by decide +kernel
theorem dc_X1_12 : decode cX1_init 12 = .ok (.aload_n 0, 1) := by decide +kernel
theorem dc_X1_13 : decode cX1_init 13 = .ok (.bipush 24, 2) := by decide +kernel
theorem dc_X1_15 : decode cX1_init 15 = .ok (.newarray .int, 2) := by decide +kernel
theorem dc_X1_17 : decode cX1_init 17 = .ok (.putfield 15, 3) := by decide +kernel
theorem dc_X1_20 : decode cX1_init 20 = .ok (.aload_n 0, 1) := by decide +kernel
theorem dc_X1_21 : decode cX1_init 21 = .ok (.bipush 24, 2) := by decide +kernel
theorem dc_X1_23 : decode cX1_init 23 = .ok (.newarray .int, 2) := by decide +kernel
theorem dc_X1_25 : decode cX1_init 25 = .ok (.putfield 18, 3) := by decide +kernel
theorem dc_X1_28 : decode cX1_init 28 = .ok (.aload_n 0, 1) := by decide +kernel
theorem dc_X1_29 : decode cX1_init 29 = .ok (.bipush 24, 2) := by decide +kernel
theorem dc_X1_31 : decode cX1_init 31 = .ok (.newarray .int, 2) := by decide +kernel
theorem dc_X1_33 : decode cX1_init 33 = .ok (.putfield 21, 3) := by decide +kernel
theorem dc_X1_36 : decode cX1_init 36 = .ok (.aload_n 0, 1) := by decide +kernel
theorem dc_X1_37 : decode cX1_init 37 = .ok (.bipush 9, 2) := by decide +kernel
theorem dc_X1_39 : decode cX1_init 39 = .ok (.newarray .int, 2) := by decide +kernel
theorem dc_X1_41 : decode cX1_init 41 = .ok (.putfield 24, 3) := by decide +kernel
theorem dc_X1_44 : decode cX1_init 44 = .ok (.aload_n 0, 1) := by decide +kernel
theorem dc_X1_45 : decode cX1_init 45 = .ok (.iconst 0, 1) := by decide +kernel
theorem dc_X1_46 : decode cX1_init 46 = .ok (.putfield 27, 3) := by decide +kernel
theorem dc_X1_49 : decode cX1_init 49 = .ok (.return_, 1) := by decide +kernel
def df_X1 : List Value := [.null, .null, .null, .null, .null, .int 0]
def os_X1 : List (Nat × Nat × Nat) := [(1, 24, 0), (1, 24, 1), (1, 24, 2), (1, 24, 3), (1, 9, 4), (0, 0, 5)]
theorem ok_X1 : cn_ok cX1_init 0 RX1 TX1 6 os_X1 4 49 := ⟨dc_X1_4, by decide, rfl, ⟨.array .int, by decide +kernel, Or.inr ⟨by decide, fun _ => ⟨rfl, rfl⟩⟩⟩, 9, 9, ⟨7, Or.inl ⟨dc_X1_5, by decide +kernel, rfl⟩, ⟨by decide +kernel, by decide +kernel, by decide +kernel⟩, dc_X1_7, rfl⟩, dc_X1_9, pz_tb (List.mem_of_getElem? (i := 36) (by decide +kernel)), ⟨dc_X1_12, by decide, rfl, ⟨.array .int, by decide +kernel, Or.inr ⟨by decide, fun _ => ⟨rfl, rfl⟩⟩⟩, 17, 15, ⟨15, Or.inl ⟨dc_X1_13, by decide +kernel, rfl⟩, ⟨by decide +kernel, by decide +kernel, by decide +kernel⟩, dc_X1_15, rfl⟩, dc_X1_17, pz_tb (List.mem_of_getElem? (i := 39) (by decide +kernel)), ⟨dc_X1_20, by decide, rfl, ⟨.array .int, by decide +kernel, Or.inr ⟨by decide, fun _ => ⟨rfl, rfl⟩⟩⟩, 25, 18, ⟨23, Or.inl ⟨dc_X1_21, by decide +kernel, rfl⟩, ⟨by decide +kernel, by decide +kernel, by decide +kernel⟩, dc_X1_23, rfl⟩, dc_X1_25, pz_tb (List.mem_of_getElem? (i := 42) (by decide +kernel)), ⟨dc_X1_28, by decide, rfl, ⟨.array .int, by decide +kernel, Or.inr ⟨by decide, fun _ => ⟨rfl, rfl⟩⟩⟩, 33, 21, ⟨31, Or.inl ⟨dc_X1_29, by decide +kernel, rfl⟩, ⟨by decide +kernel, by decide +kernel, by decide +kernel⟩, dc_X1_31, rfl⟩, dc_X1_33, pz_tb (List.mem_of_getElem? (i := 45) (by decide +kernel)), ⟨dc_X1_36, by decide, rfl, ⟨.array .int, by decide +kernel, Or.inr ⟨by decide, fun _ => ⟨rfl, rfl⟩⟩⟩, 41, 24, ⟨39, Or.inl ⟨dc_X1_37, by decide +kernel, rfl⟩, ⟨by decide +kernel, by decide +kernel, by decide +kernel⟩, dc_X1_39, rfl⟩, dc_X1_41, pz_tb (List.mem_of_getElem? (i := 47) (by decide +kernel)), ⟨dc_X1_44, by decide, rfl, ⟨.int, by decide +kernel, Or.inl ⟨rfl, rfl, rfl⟩⟩, 46, 27, ⟨dc_X1_45, rfl⟩, dc_X1_46, pz_tb (List.mem_of_getElem? (i := 48) (by decide +kernel)), rfl⟩⟩⟩⟩⟩⟩
theorem c_X1 (l : Launch) (D : va_G) (cI cB : ClassId) (h0 sz : Nat) : Met l yX1_init [Cond.code yX1_init cX1_init 1 none] (cn_rm os_X1) (cn_P D cI cB h0 1 df_X1 [] sz) (cn_Q D cI cB h0 1 df_X1 [] os_X1 sz) (cn_c os_X1) (cn_s os_X1) (va_A [(h0, .inr (1, df_X1))] sz) := cn_leaf l D cI cB h0 sz [] (by decide) rfl rfl cc_1 (pz_tb (List.mem_of_getElem? (i := 35) (by decide +kernel))) dc_X1_0 dc_X1_1 ok_X1 dc_X1_49 (Nat.le_of_ble_eq_true rfl) rfl
theorem dc_X2_0 : decode cX2_init 0 = .ok (.aload_n 0, 1) := by decide +kernel
theorem dc_X2_1 : decode cX2_init 1 = .ok (.invokespecial 1, 3) := by decide +kernel
theorem dc_X2_4 : decode cX2_init 4 = .ok (.aload_n 0, 1) := by decide +kernel
theorem dc_X2_5 : decode cX2_init 5 = .ok (.bipush 16, 2) := by decide +kernel
theorem dc_X2_7 : decode cX2_init 7 = .ok (.newarray .int, 2) := by decide +kernel
theorem dc_X2_9 : decode cX2_init 9 = .ok (.putfield 9, 3) := by decide +kernel
theorem dc_X2_12 : decode cX2_init 12 = .ok (.aload_n 0, 1) := by decide +kernel
theorem dc_X2_13 : decode cX2_init 13 = .ok (.bipush 16, 2) := by decide +kernel
theorem dc_X2_15 : decode cX2_init 15 = .ok (.newarray .int, 2) := by decide +kernel
theorem dc_X2_17 : decode cX2_init 17 = .ok (.putfield 13, 3) := by decide +kernel
theorem dc_X2_20 : decode cX2_init 20 = .ok (.aload_n 0, 1) := by decide +kernel
theorem dc_X2_21 : decode cX2_init 21 = .ok (.bipush 16, 2) := by decide +kernel
theorem dc_X2_23 : decode cX2_init 23 = .ok (.newarray .int, 2) := by decide +kernel
theorem dc_X2_25 : decode cX2_init 25 = .ok (.putfield 16, 3) := by decide +kernel
theorem dc_X2_28 : decode cX2_init 28 = .ok (.aload_n 0, 1) := by decide +kernel
theorem dc_X2_29 : decode cX2_init 29 = .ok (.iconst 0, 1) := by decide +kernel
theorem dc_X2_30 : decode cX2_init 30 = .ok (.putfield 19, 3) := by decide +kernel
theorem dc_X2_33 : decode cX2_init 33 = .ok (.aload_n 0, 1) := by decide +kernel
theorem dc_X2_34 : decode cX2_init 34 = .ok (.sipush 256, 3) := by decide +kernel
theorem dc_X2_37 : decode cX2_init 37 = .ok (.newarray .int, 2) := by decide +kernel
theorem dc_X2_39 : decode cX2_init 39 = .ok (.putfield 23, 3) := by decide +kernel
theorem dc_X2_42 : decode cX2_init 42 = .ok (.aload_n 0, 1) := by decide +kernel
theorem dc_X2_43 : decode cX2_init 43 = .ok (.sipush 256, 3) := by decide +kernel
theorem dc_X2_46 : decode cX2_init 46 = .ok (.newarray .int, 2) := by decide +kernel
theorem dc_X2_48 : decode cX2_init 48 = .ok (.putfield 26, 3) := by decide +kernel
theorem dc_X2_51 : decode cX2_init 51 = .ok (.aload_n 0, 1) := by decide +kernel
theorem dc_X2_52 : decode cX2_init 52 = .ok (.iconst 0, 1) := by decide +kernel
theorem dc_X2_53 : decode cX2_init 53 = .ok (.putfield 29, 3) := by decide +kernel
theorem dc_X2_56 : decode cX2_init 56 = .ok (.aload_n 0, 1) := by decide +kernel
theorem dc_X2_57 : decode cX2_init 57 = .ok (.bipush 10, 2) := by decide +kernel
theorem dc_X2_59 : decode cX2_init 59 = .ok (.newarray .int, 2) := by decide +kernel
theorem dc_X2_61 : decode cX2_init 61 = .ok (.putfield 32, 3) := by decide +kernel
theorem dc_X2_64 : decode cX2_init 64 = .ok (.aload_n 0, 1) := by decide +kernel
theorem dc_X2_65 : decode cX2_init 65 = .ok (.bipush 32, 2) := by decide +kernel
theorem dc_X2_67 : decode cX2_init 67 = .ok (.newarray .int, 2) := by decide +kernel
theorem dc_X2_69 : decode cX2_init 69 = .ok (.putfield 35, 3) := by decide +kernel
theorem dc_X2_72 : decode cX2_init 72 = .ok (.aload_n 0, 1) := by decide +kernel
theorem dc_X2_73 : decode cX2_init 73 = .ok (.iconst 0, 1) := by decide +kernel
theorem dc_X2_74 : decode cX2_init 74 = .ok (.putfield 38, 3) := by decide +kernel
theorem dc_X2_77 : decode cX2_init 77 = .ok (.return_, 1) := by decide +kernel
def df_X2 : List Value := [.null, .null, .null, .int 0, .null, .null, .int 0, .null, .null, .int 0]
def os_X2 : List (Nat × Nat × Nat) := [(1, 16, 0), (1, 16, 1), (1, 16, 2), (0, 0, 3), (1, 256, 4), (1, 256, 5), (0, 0, 6), (1, 10, 7), (1, 32, 8), (0, 0, 9)]
theorem ok_X2 : cn_ok cX2_init 0 RX2 TX2 10 os_X2 4 77 := ⟨dc_X2_4, by decide, rfl, ⟨.array .int, by decide +kernel, Or.inr ⟨by decide, fun _ => ⟨rfl, rfl⟩⟩⟩, 9, 9, ⟨7, Or.inl ⟨dc_X2_5, by decide +kernel, rfl⟩, ⟨by decide +kernel, by decide +kernel, by decide +kernel⟩, dc_X2_7, rfl⟩, dc_X2_9, pz_tb (List.mem_of_getElem? (i := 71) (by decide +kernel)), ⟨dc_X2_12, by decide, rfl, ⟨.array .int, by decide +kernel, Or.inr ⟨by decide, fun _ => ⟨rfl, rfl⟩⟩⟩, 17, 13, ⟨15, Or.inl ⟨dc_X2_13, by decide +kernel, rfl⟩, ⟨by decide +kernel, by decide +kernel, by decide +kernel⟩, dc_X2_15, rfl⟩, dc_X2_17, pz_tb (List.mem_of_getElem? (i := 72) (by decide +kernel)), ⟨dc_X2_20, by decide, rfl, ⟨.array .int, by decide +kernel, Or.inr ⟨by decide, fun _ => ⟨rfl, rfl⟩⟩⟩, 25, 16, ⟨23, Or.inl ⟨dc_X2_21, by decide +kernel, rfl⟩, ⟨by decide +kernel, by decide +kernel, by decide +kernel⟩, dc_X2_23, rfl⟩, dc_X2_25, pz_tb (List.mem_of_getElem? (i := 73) (by decide +kernel)), ⟨dc_X2_28, by decide, rfl, ⟨.int, by decide +kernel, Or.inl ⟨rfl, rfl, rfl⟩⟩, 30, 19, ⟨dc_X2_29, rfl⟩, dc_X2_30, pz_tb (List.mem_of_getElem? (i := 74) (by decide +kernel)), ⟨dc_X2_33, by decide, rfl, ⟨.array .int, by decide +kernel, Or.inr ⟨by decide, fun _ => ⟨rfl, rfl⟩⟩⟩, 39, 23, ⟨37, Or.inr (Or.inl ⟨dc_X2_34, by decide +kernel, rfl⟩), ⟨by decide +kernel, by decide +kernel, by decide +kernel⟩, dc_X2_37, rfl⟩, dc_X2_39, pz_tb (List.mem_of_getElem? (i := 76) (by decide +kernel)), ⟨dc_X2_42, by decide, rfl, ⟨.array .int, by decide +kernel, Or.inr ⟨by decide, fun _ => ⟨rfl, rfl⟩⟩⟩, 48, 26, ⟨46, Or.inr (Or.inl ⟨dc_X2_43, by decide +kernel, rfl⟩), ⟨by decide +kernel, by decide +kernel, by decide +kernel⟩, dc_X2_46, rfl⟩, dc_X2_48, pz_tb (List.mem_of_getElem? (i := 77) (by decide +kernel)), ⟨dc_X2_51, by decide, rfl, ⟨.int, by decide +kernel, Or.inl ⟨rfl, rfl, rfl⟩⟩, 53, 29, ⟨dc_X2_52, rfl⟩, dc_X2_53, pz_tb (List.mem_of_getElem? (i := 78) (by decide +kernel)), ⟨dc_X2_56, by decide, rfl, ⟨.array .int, by decide +kernel, Or.inr ⟨by decide, fun _ => ⟨rfl, rfl⟩⟩⟩, 61, 32, ⟨59, Or.inl ⟨dc_X2_57, by decide +kernel, rfl⟩, ⟨by decide +kernel, by decide +kernel, by decide +kernel⟩, dc_X2_59, rfl⟩, dc_X2_61, pz_tb (List.mem_of_getElem? (i := 80) (by decide +kernel)), ⟨dc_X2_64, by decide, rfl, ⟨.array .int, by decide +kernel, Or.inr ⟨by decide, fun _ => ⟨rfl, rfl⟩⟩⟩, 69, 35, ⟨67, Or.inl ⟨dc_X2_65, by decide +kernel, rfl⟩, ⟨by decide +kernel, by decide +kernel, by decide +kernel⟩, dc_X2_67, rfl⟩, dc_X2_69, pz_tb (List.mem_of_getElem? (i := 82) (by decide +kernel)), ⟨dc_X2_72, by decide, rfl, ⟨.boolean, by decide +kernel, Or.inl ⟨rfl, rfl, rfl⟩⟩, 74, 38, ⟨dc_X2_73, rfl⟩, dc_X2_74, pz_tb (List.mem_of_getElem? (i := 83) (by decide +kernel)), rfl⟩⟩⟩⟩⟩⟩⟩⟩⟩⟩
theorem c_X2 (l : Launch) (D : va_G) (cI cB : ClassId) (h0 sz : Nat) : Met l yX2_init [Cond.code yX2_init cX2_init 1 none] (cn_rm os_X2) (cn_P D cI cB h0 2 df_X2 [] sz) (cn_Q D cI cB h0 2 df_X2 [] os_X2 sz) (cn_c os_X2) (cn_s os_X2) (va_A [(h0, .inr (2, df_X2))] sz) := cn_leaf l D cI cB h0 sz [] (by decide) rfl rfl cc_2 (pz_tb (List.mem_of_getElem? (i := 70) (by decide +kernel))) dc_X2_0 dc_X2_1 ok_X2 dc_X2_77 (Nat.le_of_ble_eq_true rfl) rfl
theorem dc_X4_0 : decode cX4_init 0 = .ok (.aload_n 0, 1) := by decide +kernel
theorem dc_X4_1 : decode cX4_init 1 = .ok (.invokespecial 1, 3) := by decide +kernel
theorem dc_X4_4 : decode cX4_init 4 = .ok (.aload_n 0, 1) := by decide +kernel
theorem dc_X4_5 : decode cX4_init 5 = .ok (.bipush 8, 2) := by decide +kernel
theorem dc_X4_7 : decode cX4_init 7 = .ok (.newarray .int, 2) := by decide +kernel
theorem dc_X4_9 : decode cX4_init 9 = .ok (.putfield 9, 3) := by decide +kernel
theorem dc_X4_12 : decode cX4_init 12 = .ok (.aload_n 0, 1) := by decide +kernel
theorem dc_X4_13 : decode cX4_init 13 = .ok (.bipush 8, 2) := by decide +kernel
theorem dc_X4_15 : decode cX4_init 15 = .ok (.newarray .int, 2) := by decide +kernel
theorem dc_X4_17 : decode cX4_init 17 = .ok (.putfield 13, 3) := by decide +kernel
theorem dc_X4_20 : decode cX4_init 20 = .ok (.aload_n 0, 1) := by decide +kernel
theorem dc_X4_21 : decode cX4_init 21 = .ok (.bipush 8, 2) := by decide +kernel
theorem dc_X4_23 : decode cX4_init 23 = .ok (.newarray .int, 2) := by decide +kernel
theorem dc_X4_25 : decode cX4_init 25 = .ok (.putfield 16, 3) := by decide +kernel
theorem dc_X4_28 : decode cX4_init 28 = .ok (.aload_n 0, 1) := by decide +kernel
theorem dc_X4_29 : decode cX4_init 29 = .ok (.iconst 0, 1) := by decide +kernel
theorem dc_X4_30 : decode cX4_init 30 = .ok (.putfield 19, 3) := by decide +kernel
theorem dc_X4_33 : decode cX4_init 33 = .ok (.return_, 1) := by decide +kernel
def df_X4 : List Value := [.null, .null, .null, .int 0]
def os_X4 : List (Nat × Nat × Nat) := [(1, 8, 0), (1, 8, 1), (1, 8, 2), (0, 0, 3)]
theorem ok_X4 : cn_ok cX4_init 0 RX4 TX4 4 os_X4 4 33 := ⟨dc_X4_4, by decide, rfl, ⟨.array .int, by decide +kernel, Or.inr ⟨by decide, fun _ => ⟨rfl, rfl⟩⟩⟩, 9, 9, ⟨7, Or.inl ⟨dc_X4_5, by decide +kernel, rfl⟩, ⟨by decide +kernel, by decide +kernel, by decide +kernel⟩, dc_X4_7, rfl⟩, dc_X4_9, pz_tb (List.mem_of_getElem? (i := 177) (by decide +kernel)), ⟨dc_X4_12, by decide, rfl, ⟨.array .int, by decide +kernel, Or.inr ⟨by decide, fun _ => ⟨rfl, rfl⟩⟩⟩, 17, 13, ⟨15, Or.inl ⟨dc_X4_13, by decide +kernel, rfl⟩, ⟨by decide +kernel, by decide +kernel, by decide +kernel⟩, dc_X4_15, rfl⟩, dc_X4_17, pz_tb (List.mem_of_getElem? (i := 178) (by decide +kernel)), ⟨dc_X4_20, by decide, rfl, ⟨.array .int, by decide +kernel, Or.inr ⟨by decide, fun _ => ⟨rfl, rfl⟩⟩⟩, 25, 16, ⟨23, Or.inl ⟨dc_X4_21, by decide +kernel, rfl⟩, ⟨by decide +kernel, by decide +kernel, by decide +kernel⟩, dc_X4_23, rfl⟩, dc_X4_25, pz_tb (List.mem_of_getElem? (i := 179) (by decide +kernel)), ⟨dc_X4_28, by decide, rfl, ⟨.int, by decide +kernel, Or.inl ⟨rfl, rfl, rfl⟩⟩, 30, 19, ⟨dc_X4_29, rfl⟩, dc_X4_30, pz_tb (List.mem_of_getElem? (i := 181) (by decide +kernel)), rfl⟩⟩⟩⟩
theorem c_X4 (l : Launch) (D : va_G) (cI cB : ClassId) (h0 sz : Nat) : Met l yX4_init [Cond.code yX4_init cX4_init 1 none] (cn_rm os_X4) (cn_P D cI cB h0 4 df_X4 [] sz) (cn_Q D cI cB h0 4 df_X4 [] os_X4 sz) (cn_c os_X4) (cn_s os_X4) (va_A [(h0, .inr (4, df_X4))] sz) := cn_leaf l D cI cB h0 sz [] (by decide) rfl rfl cc_4 (pz_tb (List.mem_of_getElem? (i := 176) (by decide +kernel))) dc_X4_0 dc_X4_1 ok_X4 dc_X4_33 (Nat.le_of_ble_eq_true rfl) rfl
theorem dc_X5_0 : decode cX5_init 0 = .ok (.aload_n 0, 1) := by decide +kernel
theorem dc_X5_1 : decode cX5_init 1 = .ok (.invokespecial 3, 3) := by decide +kernel
theorem dc_X5_4 : decode cX5_init 4 = .ok (.aload_n 0, 1) := by decide +kernel
theorem dc_X5_5 : decode cX5_init 5 = .ok (.bipush 11, 2) := by decide +kernel
theorem dc_X5_7 : decode cX5_init 7 = .ok (.newarray .int, 2) := by decide +kernel
theorem dc_X5_9 : decode cX5_init 9 = .ok (.putfield 9, 3) := by decide +kernel
theorem dc_X5_12 : decode cX5_init 12 = .ok (.aload_n 0, 1) := by decide +kernel
theorem dc_X5_13 : decode cX5_init 13 = .ok (.bipush 11, 2) := by decide +kernel
theorem dc_X5_15 : decode cX5_init 15 = .ok (.newarray .int, 2) := by decide +kernel
theorem dc_X5_17 : decode cX5_init 17 = .ok (.putfield 13, 3) := by decide +kernel
theorem dc_X5_20 : decode cX5_init 20 = .ok (.aload_n 0, 1) := by decide +kernel
theorem dc_X5_21 : decode cX5_init 21 = .ok (.sipush 242, 3) := by decide +kernel
theorem dc_X5_24 : decode cX5_init 24 = .ok (.newarray .int, 2) := by decide +kernel
theorem dc_X5_26 : decode cX5_init 26 = .ok (.putfield 16, 3) := by decide +kernel
theorem dc_X5_29 : decode cX5_init 29 = .ok (.aload_n 0, 1) := by decide +kernel
theorem dc_X5_30 : decode cX5_init 30 = .ok (.sipush 242, 3) := by decide +kernel
theorem dc_X5_33 : decode cX5_init 33 = .ok (.newarray .int, 2) := by decide +kernel
theorem dc_X5_35 : decode cX5_init 35 = .ok (.putfield 19, 3) := by decide +kernel
theorem dc_X5_38 : decode cX5_init 38 = .ok (.aload_n 0, 1) := by decide +kernel
theorem dc_X5_39 : decode cX5_init 39 = .ok (.iconst 0, 1) := by decide +kernel
theorem dc_X5_40 : decode cX5_init 40 = .ok (.putfield 22, 3) := by decide +kernel
theorem dc_X5_43 : decode cX5_init 43 = .ok (.return_, 1) := by decide +kernel
def df_X5 : List Value := [.null, .null, .null, .null, .int 0]
def os_X5 : List (Nat × Nat × Nat) := [(1, 11, 0), (1, 11, 1), (1, 242, 2), (1, 242, 3), (0, 0, 4)]
theorem ok_X5 : cn_ok cX5_init 0 RX5 TX5 5 os_X5 4 43 := ⟨dc_X5_4, by decide, rfl, ⟨.array .int, by decide +kernel, Or.inr ⟨by decide, fun _ => ⟨rfl, rfl⟩⟩⟩, 9, 9, ⟨7, Or.inl ⟨dc_X5_5, by decide +kernel, rfl⟩, ⟨by decide +kernel, by decide +kernel, by decide +kernel⟩, dc_X5_7, rfl⟩, dc_X5_9, pz_tb (List.mem_of_getElem? (i := 197) (by decide +kernel)), ⟨dc_X5_12, by decide, rfl, ⟨.array .int, by decide +kernel, Or.inr ⟨by decide, fun _ => ⟨rfl, rfl⟩⟩⟩, 17, 13, ⟨15, Or.inl ⟨dc_X5_13, by decide +kernel, rfl⟩, ⟨by decide +kernel, by decide +kernel, by decide +kernel⟩, dc_X5_15, rfl⟩, dc_X5_17, pz_tb (List.mem_of_getElem? (i := 198) (by decide +kernel)), ⟨dc_X5_20, by decide, rfl, ⟨.array .int, by decide +kernel, Or.inr ⟨by decide, fun _ => ⟨rfl, rfl⟩⟩⟩, 26, 16, ⟨24, Or.inr (Or.inl ⟨dc_X5_21, by decide +kernel, rfl⟩), ⟨by decide +kernel, by decide +kernel, by decide +kernel⟩, dc_X5_24, rfl⟩, dc_X5_26, pz_tb (List.mem_of_getElem? (i := 199) (by decide +kernel)), ⟨dc_X5_29, by decide, rfl, ⟨.array .int, by decide +kernel, Or.inr ⟨by decide, fun _ => ⟨rfl, rfl⟩⟩⟩, 35, 19, ⟨33, Or.inr (Or.inl ⟨dc_X5_30, by decide +kernel, rfl⟩), ⟨by decide +kernel, by decide +kernel, by decide +kernel⟩, dc_X5_33, rfl⟩, dc_X5_35, pz_tb (List.mem_of_getElem? (i := 200) (by decide +kernel)), ⟨dc_X5_38, by decide, rfl, ⟨.int, by decide +kernel, Or.inl ⟨rfl, rfl, rfl⟩⟩, 40, 22, ⟨dc_X5_39, rfl⟩, dc_X5_40, pz_tb (List.mem_of_getElem? (i := 201) (by decide +kernel)), rfl⟩⟩⟩⟩⟩
theorem c_X5 (l : Launch) (D : va_G) (cI cB : ClassId) (h0 sz : Nat) : Met l yX5_init [Cond.code yX5_init cX5_init 1 none] (cn_rm os_X5) (cn_P D cI cB h0 5 df_X5 [] sz) (cn_Q D cI cB h0 5 df_X5 [] os_X5 sz) (cn_c os_X5) (cn_s os_X5) (va_A [(h0, .inr (5, df_X5))] sz) := cn_leaf l D cI cB h0 sz [] (by decide) rfl rfl cc_5 (pz_tb (List.mem_of_getElem? (i := 196) (by decide +kernel))) dc_X5_0 dc_X5_1 ok_X5 dc_X5_43 (Nat.le_of_ble_eq_true rfl) rfl
theorem dc_X7_0 : decode cX7_init 0 = .ok (.aload_n 0, 1) := by decide +kernel
theorem dc_X7_1 : decode cX7_init 1 = .ok (.invokespecial 1, 3) := by decide +kernel
theorem dc_X7_4 : decode cX7_init 4 = .ok (.aload_n 0, 1) := by decide +kernel
theorem dc_X7_5 : decode cX7_init 5 = .ok (.bipush 10, 2) := by decide +kernel
theorem dc_X7_7 : decode cX7_init 7 = .ok (.newarray .int, 2) := by decide +kernel
theorem dc_X7_9 : decode cX7_init 9 = .ok (.putfield 9, 3) := by decide +kernel
theorem dc_X7_12 : decode cX7_init 12 = .ok (.aload_n 0, 1) := by decide +kernel
theorem dc_X7_13 : decode cX7_init 13 = .ok (.iconst 4, 1) := by decide +kernel
theorem dc_X7_14 : decode cX7_init 14 = .ok (.newarray .int, 2) := by decide +kernel
theorem dc_X7_16 : decode cX7_init 16 = .ok (.putfield 13, 3) := by decide +kernel
theorem dc_X7_19 : decode cX7_init 19 = .ok (.aload_n 0, 1) := by decide +kernel
theorem dc_X7_20 : decode cX7_init 20 = .ok (.iconst 0, 1) := by decide +kernel
theorem dc_X7_21 : decode cX7_init 21 = .ok (.putfield 16, 3) := by decide +kernel
theorem dc_X7_24 : decode cX7_init 24 = .ok (.aload_n 0, 1) := by decide +kernel
theorem dc_X7_25 : decode cX7_init 25 = .ok (.iconst 0, 1) := by decide +kernel
theorem dc_X7_26 : decode cX7_init 26 = .ok (.putfield 20, 3) := by decide +kernel
theorem dc_X7_29 : decode cX7_init 29 = .ok (.aload_n 0, 1) := by decide +kernel
theorem dc_X7_30 : decode cX7_init 30 = .ok (.iconst 0, 1) := by decide +kernel
theorem dc_X7_31 : decode cX7_init 31 = .ok (.putfield 23, 3) := by decide +kernel
theorem dc_X7_34 : decode cX7_init 34 = .ok (.return_, 1) := by decide +kernel
def df_X7 : List Value := [.null, .null, .int 0, .int 0, .int 0]
def os_X7 : List (Nat × Nat × Nat) := [(1, 10, 0), (1, 4, 1), (0, 0, 2), (0, 0, 3), (0, 0, 4)]
theorem ok_X7 : cn_ok cX7_init 0 RX7 TX7 5 os_X7 4 34 := ⟨dc_X7_4, by decide, rfl, ⟨.array .int, by decide +kernel, Or.inr ⟨by decide, fun _ => ⟨rfl, rfl⟩⟩⟩, 9, 9, ⟨7, Or.inl ⟨dc_X7_5, by decide +kernel, rfl⟩, ⟨by decide +kernel, by decide +kernel, by decide +kernel⟩, dc_X7_7, rfl⟩, dc_X7_9, pz_tb (List.mem_of_getElem? (i := 155) (by decide +kernel)), ⟨dc_X7_12, by decide, rfl, ⟨.array .int, by decide +kernel, Or.inr ⟨by decide, fun _ => ⟨rfl, rfl⟩⟩⟩, 16, 13, ⟨14, Or.inr (Or.inr ⟨dc_X7_13, by decide +kernel, rfl⟩), ⟨by decide +kernel, by decide +kernel, by decide +kernel⟩, dc_X7_14, rfl⟩, dc_X7_16, pz_tb (List.mem_of_getElem? (i := 156) (by decide +kernel)), ⟨dc_X7_19, by decide, rfl, ⟨.int, by decide +kernel, Or.inl ⟨rfl, rfl, rfl⟩⟩, 21, 16, ⟨dc_X7_20, rfl⟩, dc_X7_21, pz_tb (List.mem_of_getElem? (i := 157) (by decide +kernel)), ⟨dc_X7_24, by decide, rfl, ⟨.int, by decide +kernel, Or.inl ⟨rfl, rfl, rfl⟩⟩, 26, 20, ⟨dc_X7_25, rfl⟩, dc_X7_26, pz_tb (List.mem_of_getElem? (i := 158) (by decide +kernel)), ⟨dc_X7_29, by decide, rfl, ⟨.int, by decide +kernel, Or.inl ⟨rfl, rfl, rfl⟩⟩, 31, 23, ⟨dc_X7_30, rfl⟩, dc_X7_31, pz_tb (List.mem_of_getElem? (i := 159) (by decide +kernel)), rfl⟩⟩⟩⟩⟩
theorem c_X7 (l : Launch) (D : va_G) (cI cB : ClassId) (h0 sz : Nat) : Met l yX7_init [Cond.code yX7_init cX7_init 1 none] (cn_rm os_X7) (cn_P D cI cB h0 6 df_X7 [] sz) (cn_Q D cI cB h0 6 df_X7 [] os_X7 sz) (cn_c os_X7) (cn_s os_X7) (va_A [(h0, .inr (6, df_X7))] sz) := cn_leaf l D cI cB h0 sz [] (by decide) rfl rfl cc_6 (pz_tb (List.mem_of_getElem? (i := 154) (by decide +kernel))) dc_X7_0 dc_X7_1 ok_X7 dc_X7_34 (Nat.le_of_ble_eq_true rfl) rfl
theorem dc_X8_0 : decode cX8_init 0 = .ok (.aload_n 0, 1) := by decide +kernel
theorem dc_X8_1 : decode cX8_init 1 = .ok (.invokespecial 3, 3) := by decide +kernel
theorem dc_X8_4 : decode cX8_init 4 = .ok (.aload_n 0, 1) := by decide +kernel
theorem dc_X8_5 : decode cX8_init 5 = .ok (.bipush 12, 2) := by decide +kernel
theorem dc_X8_7 : decode cX8_init 7 = .ok (.newarray .int, 2) := by decide +kernel
theorem dc_X8_9 : decode cX8_init 9 = .ok (.putfield 11, 3) := by decide +kernel
theorem dc_X8_12 : decode cX8_init 12 = .ok (.aload_n 0, 1) := by decide +kernel
theorem dc_X8_13 : decode cX8_init 13 = .ok (.iconst 0, 1) := by decide +kernel
theorem dc_X8_14 : decode cX8_init 14 = .ok (.putfield 15, 3) := by decide +kernel
theorem dc_X8_17 : decode cX8_init 17 = .ok (.aload_n 0, 1) := by decide +kernel
theorem dc_X8_18 : decode cX8_init 18 = .ok (.iconst 0, 1) := by decide +kernel
theorem dc_X8_19 : decode cX8_init 19 = .ok (.putfield 19, 3) := by decide +kernel
theorem dc_X8_22 : decode cX8_init 22 = .ok (.return_, 1) := by decide +kernel
def df_X8 : List Value := [.null, .int 0, .int 0]
def os_X8 : List (Nat × Nat × Nat) := [(1, 12, 0), (0, 0, 1), (0, 0, 2)]
theorem ok_X8 : cn_ok cX8_init 0 RX8 TX8 3 os_X8 4 22 := ⟨dc_X8_4, by decide, rfl, ⟨.array .int, by decide +kernel, Or.inr ⟨by decide, fun _ => ⟨rfl, rfl⟩⟩⟩, 9, 11, ⟨7, Or.inl ⟨dc_X8_5, by decide +kernel, rfl⟩, ⟨by decide +kernel, by decide +kernel, by decide +kernel⟩, dc_X8_7, rfl⟩, dc_X8_9, pz_tb (List.mem_of_getElem? (i := 219) (by decide +kernel)), ⟨dc_X8_12, by decide, rfl, ⟨.int, by decide +kernel, Or.inl ⟨rfl, rfl, rfl⟩⟩, 14, 15, ⟨dc_X8_13, rfl⟩, dc_X8_14, pz_tb (List.mem_of_getElem? (i := 220) (by decide +kernel)), ⟨dc_X8_17, by decide, rfl, ⟨.int, by decide +kernel, Or.inl ⟨rfl, rfl, rfl⟩⟩, 19, 19, ⟨dc_X8_18, rfl⟩, dc_X8_19, pz_tb (List.mem_of_getElem? (i := 221) (by decide +kernel)), rfl⟩⟩⟩
theorem c_X8 (l : Launch) (D : va_G) (cI cB : ClassId) (h0 sz : Nat) : Met l yX8_init [Cond.code yX8_init cX8_init 1 none] (cn_rm os_X8) (cn_P D cI cB h0 7 df_X8 [] sz) (cn_Q D cI cB h0 7 df_X8 [] os_X8 sz) (cn_c os_X8) (cn_s os_X8) (va_A [(h0, .inr (7, df_X8))] sz) := cn_leaf l D cI cB h0 sz [] (by decide) rfl rfl cc_7 (pz_tb (List.mem_of_getElem? (i := 218) (by decide +kernel))) dc_X8_0 dc_X8_1 ok_X8 dc_X8_22 (Nat.le_of_ble_eq_true rfl) rfl
theorem dc_X9_0 : decode cX9_init 0 = .ok (.aload_n 0, 1) := by decide +kernel
theorem dc_X9_1 : decode cX9_init 1 = .ok (.invokespecial 3, 3) := by decide +kernel
theorem dc_X9_4 : decode cX9_init 4 = .ok (.aload_n 0, 1) := by decide +kernel
theorem dc_X9_5 : decode cX9_init 5 = .ok (.sipush 260, 3) := by decide +kernel
theorem dc_X9_8 : decode cX9_init 8 = .ok (.newarray .int, 2) := by decide +kernel
theorem dc_X9_10 : decode cX9_init 10 = .ok (.putfield 11, 3) := by decide +kernel
theorem dc_X9_13 : decode cX9_init 13 = .ok (.aload_n 0, 1) := by decide +kernel
theorem dc_X9_14 : decode cX9_init 14 = .ok (.iconst 0, 1) := by decide +kernel
theorem dc_X9_15 : decode cX9_init 15 = .ok (.putfield 15, 3) := by decide +kernel
theorem dc_X9_18 : decode cX9_init 18 = .ok (.aload_n 0, 1) := by decide +kernel
theorem dc_X9_19 : decode cX9_init 19 = .ok (.iconst 0, 1) := by decide +kernel
theorem dc_X9_20 : decode cX9_init 20 = .ok (.putfield 19, 3) := by decide +kernel
theorem dc_X9_23 : decode cX9_init 23 = .ok (.aload_n 0, 1) := by decide +kernel
theorem dc_X9_24 : decode cX9_init 24 = .ok (.iconst 0, 1) := by decide +kernel
theorem dc_X9_25 : decode cX9_init 25 = .ok (.putfield 22, 3) := by decide +kernel
theorem dc_X9_28 : decode cX9_init 28 = .ok (.aload_n 0, 1) := by decide +kernel
theorem dc_X9_29 : decode cX9_init 29 = .ok (.iconst 0, 1) := by decide +kernel
theorem dc_X9_30 : decode cX9_init 30 = .ok (.putfield 25, 3) := by decide +kernel
theorem dc_X9_33 : decode cX9_init 33 = .ok (.return_, 1) := by decide +kernel
def df_X9 : List Value := [.null, .int 0, .int 0, .int 0, .int 0]
def os_X9 : List (Nat × Nat × Nat) := [(1, 260, 0), (0, 0, 1), (0, 0, 2), (0, 0, 3), (0, 0, 4)]
theorem ok_X9 : cn_ok cX9_init 0 RX9 TX9 5 os_X9 4 33 := ⟨dc_X9_4, by decide, rfl, ⟨.array .int, by decide +kernel, Or.inr ⟨by decide, fun _ => ⟨rfl, rfl⟩⟩⟩, 10, 11, ⟨8, Or.inr (Or.inl ⟨dc_X9_5, by decide +kernel, rfl⟩), ⟨by decide +kernel, by decide +kernel, by decide +kernel⟩, dc_X9_8, rfl⟩, dc_X9_10, pz_tb (List.mem_of_getElem? (i := 111) (by decide +kernel)), ⟨dc_X9_13, by decide, rfl, ⟨.int, by decide +kernel, Or.inl ⟨rfl, rfl, rfl⟩⟩, 15, 15, ⟨dc_X9_14, rfl⟩, dc_X9_15, pz_tb (List.mem_of_getElem? (i := 112) (by decide +kernel)), ⟨dc_X9_18, by decide, rfl, ⟨.int, by decide +kernel, Or.inl ⟨rfl, rfl, rfl⟩⟩, 20, 19, ⟨dc_X9_19, rfl⟩, dc_X9_20, pz_tb (List.mem_of_getElem? (i := 114) (by decide +kernel)), ⟨dc_X9_23, by decide, rfl, ⟨.int, by decide +kernel, Or.inl ⟨rfl, rfl, rfl⟩⟩, 25, 22, ⟨dc_X9_24, rfl⟩, dc_X9_25, pz_tb (List.mem_of_getElem? (i := 116) (by decide +kernel)), ⟨dc_X9_28, by decide, rfl, ⟨.int, by decide +kernel, Or.inl ⟨rfl, rfl, rfl⟩⟩, 30, 25, ⟨dc_X9_29, rfl⟩, dc_X9_30, pz_tb (List.mem_of_getElem? (i := 117) (by decide +kernel)), rfl⟩⟩⟩⟩⟩
theorem c_X9 (l : Launch) (D : va_G) (cI cB : ClassId) (h0 sz : Nat) : Met l yX9_init [Cond.code yX9_init cX9_init 1 none] (cn_rm os_X9) (cn_P D cI cB h0 8 df_X9 [] sz) (cn_Q D cI cB h0 8 df_X9 [] os_X9 sz) (cn_c os_X9) (cn_s os_X9) (va_A [(h0, .inr (8, df_X9))] sz) := cn_leaf l D cI cB h0 sz [] (by decide) rfl rfl cc_8 (pz_tb (List.mem_of_getElem? (i := 110) (by decide +kernel))) dc_X9_0 dc_X9_1 ok_X9 dc_X9_33 (Nat.le_of_ble_eq_true rfl) rfl
theorem dc_X10_0 : decode cX10_init 0 = .ok (.aload_n 0, 1) := by decide +kernel
theorem dc_X10_1 : decode cX10_init 1 = .ok (.invokespecial 3, 3) := by decide +kernel
theorem dc_X10_4 : decode cX10_init 4 = .ok (.aload_n 0, 1) := by decide +kernel
theorem dc_X10_5 : decode cX10_init 5 = .ok (.bipush 24, 2) := by decide +kernel
theorem dc_X10_7 : decode cX10_init 7 = .ok (.newarray .int, 2) := by decide +kernel
theorem dc_X10_9 : decode cX10_init 9 = .ok (.putfield 9, 3) := by decide +kernel
theorem dc_X10_12 : decode cX10_init 12 = .ok (.aload_n 0, 1) := by decide +kernel
theorem dc_X10_13 : decode cX10_init 13 = .ok (.bipush 24, 2) := by decide +kernel
theorem dc_X10_15 : decode cX10_init 15 = .ok (.newarray .int, 2) := by decide +kernel
theorem dc_X10_17 : decode cX10_init 17 = .ok (.putfield 15, 3) := by decide +kernel
theorem dc_X10_20 : decode cX10_init 20 = .ok (.aload_n 0, 1) := by decide +kernel
theorem dc_X10_21 : decode cX10_init 21 = .ok (.bipush 9, 2) := by decide +kernel
theorem dc_X10_23 : decode cX10_init 23 = .ok (.newarray .int, 2) := by decide +kernel
theorem dc_X10_25 : decode cX10_init 25 = .ok (.putfield 18, 3) := by decide +kernel
theorem dc_X10_28 : decode cX10_init 28 = .ok (.aload_n 0, 1) := by decide +kernel
theorem dc_X10_29 : decode cX10_init 29 = .ok (.bipush 11, 2) := by decide +kernel
theorem dc_X10_31 : decode cX10_init 31 = .ok (.newarray .int, 2) := by decide +kernel
theorem dc_X10_33 : decode cX10_init 33 = .ok (.putfield 21, 3) := by decide +kernel
theorem dc_X10_36 : decode cX10_init 36 = .ok (.aload_n 0, 1) := by decide +kernel
theorem dc_X10_37 : decode cX10_init 37 = .ok (.iconst 0, 1) := by decide +kernel
theorem dc_X10_38 : decode cX10_init 38 = .ok (.putfield 24, 3) := by decide +kernel
theorem dc_X10_41 : decode cX10_init 41 = .ok (.aload_n 0, 1) := by decide +kernel
theorem dc_X10_42 : decode cX10_init 42 = .ok (.iconst 0, 1) := by decide +kernel
theorem dc_X10_43 : decode cX10_init 43 = .ok (.putfield 28, 3) := by decide +kernel
theorem dc_X10_46 : decode cX10_init 46 = .ok (.aload_n 0, 1) := by decide +kernel
theorem dc_X10_47 : decode cX10_init 47 = .ok (.iconst 0, 1) := by decide +kernel
theorem dc_X10_48 : decode cX10_init 48 = .ok (.putfield 31, 3) := by decide +kernel
theorem dc_X10_51 : decode cX10_init 51 = .ok (.return_, 1) := by decide +kernel
def df_X10 : List Value := [.null, .null, .null, .null, .int 0, .int 0, .int 0]
def os_X10 : List (Nat × Nat × Nat) := [(1, 24, 0), (1, 24, 1), (1, 9, 2), (1, 11, 3), (0, 0, 4), (0, 0, 5), (0, 0, 6)]
theorem ok_X10 : cn_ok cX10_init 0 RX10 TX10 7 os_X10 4 51 := ⟨dc_X10_4, by decide, rfl, ⟨.array .int, by decide +kernel, Or.inr ⟨by decide, fun _ => ⟨rfl, rfl⟩⟩⟩, 9, 9, ⟨7, Or.inl ⟨dc_X10_5, by decide +kernel, rfl⟩, ⟨by decide +kernel, by decide +kernel, by decide +kernel⟩, dc_X10_7, rfl⟩, dc_X10_9, pz_tb (List.mem_of_getElem? (i := 235) (by decide +kernel)), ⟨dc_X10_12, by decide, rfl, ⟨.array .int, by decide +kernel, Or.inr ⟨by decide, fun _ => ⟨rfl, rfl⟩⟩⟩, 17, 15, ⟨15, Or.inl ⟨dc_X10_13, by decide +kernel, rfl⟩, ⟨by decide +kernel, by decide +kernel, by decide +kernel⟩, dc_X10_15, rfl⟩, dc_X10_17, pz_tb (List.mem_of_getElem? (i := 237) (by decide +kernel)), ⟨dc_X10_20, by decide, rfl, ⟨.array .int, by decide +kernel, Or.inr ⟨by decide, fun _ => ⟨rfl, rfl⟩⟩⟩, 25, 18, ⟨23, Or.inl ⟨dc_X10_21, by decide +kernel, rfl⟩, ⟨by decide +kernel, by decide +kernel, by decide +kernel⟩, dc_X10_23, rfl⟩, dc_X10_25, pz_tb (List.mem_of_getElem? (i := 239) (by decide +kernel)), ⟨dc_X10_28, by decide, rfl, ⟨.array .int, by decide +kernel, Or.inr ⟨by decide, fun _ => ⟨rfl, rfl⟩⟩⟩, 33, 21, ⟨31, Or.inl ⟨dc_X10_29, by decide +kernel, rfl⟩, ⟨by decide +kernel, by decide +kernel, by decide +kernel⟩, dc_X10_31, rfl⟩, dc_X10_33, pz_tb (List.mem_of_getElem? (i := 241) (by decide +kernel)), ⟨dc_X10_36, by decide, rfl, ⟨.int, by decide +kernel, Or.inl ⟨rfl, rfl, rfl⟩⟩, 38, 24, ⟨dc_X10_37, rfl⟩, dc_X10_38, pz_tb (List.mem_of_getElem? (i := 243) (by decide +kernel)), ⟨dc_X10_41, by decide, rfl, ⟨.int, by decide +kernel, Or.inl ⟨rfl, rfl, rfl⟩⟩, 43, 28, ⟨dc_X10_42, rfl⟩, dc_X10_43, pz_tb (List.mem_of_getElem? (i := 245) (by decide +kernel)), ⟨dc_X10_46, by decide, rfl, ⟨.int, by decide +kernel, Or.inl ⟨rfl, rfl, rfl⟩⟩, 48, 31, ⟨dc_X10_47, rfl⟩, dc_X10_48, pz_tb (List.mem_of_getElem? (i := 247) (by decide +kernel)), rfl⟩⟩⟩⟩⟩⟩⟩
theorem c_X10 (l : Launch) (D : va_G) (cI cB : ClassId) (h0 sz : Nat) : Met l yX10_init [Cond.code yX10_init cX10_init 1 none] (cn_rm os_X10) (cn_P D cI cB h0 9 df_X10 [] sz) (cn_Q D cI cB h0 9 df_X10 [] os_X10 sz) (cn_c os_X10) (cn_s os_X10) (va_A [(h0, .inr (9, df_X10))] sz) := cn_leaf l D cI cB h0 sz [] (by decide) rfl rfl cc_9 (pz_tb (List.mem_of_getElem? (i := 234) (by decide +kernel))) dc_X10_0 dc_X10_1 ok_X10 dc_X10_51 (Nat.le_of_ble_eq_true rfl) rfl
