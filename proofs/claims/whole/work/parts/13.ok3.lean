theorem ro_113 : pz_rowOK rw_113 := ⟨by decide +kernel, wm_811, wm_1, by decide +kernel⟩
theorem o_113_0 : pz_OK true rw_113 0 (op_iload 3 1) := ok_iload_n (k := 3) (by decide +kernel)
theorem k_113_1 : pz_callOK true rw_113 rw_47 1 1 0 := ⟨246, (Or.inl wm_812), Or.inl ⟨(by decide +kernel), wm_813, by unfold pz_np; decide +kernel⟩⟩
theorem o_113_4 : pz_OK true rw_113 4 (op_ifz c_eq 18 7) := ok_if_eq (off := 14) (by decide +kernel) (by decide)
theorem o_113_7 : pz_OK true rw_113 7 (op_iload 2 8) := ok_iload_n (k := 2) (by decide +kernel)
theorem o_113_8 : pz_OK true rw_113 8 (op_stk (sg_const (1)) 9) := ok_iconst (by decide +kernel) (by unfold pz_in; decide)
theorem o_113_9 : pz_OK true rw_113 9 (op_icmp c_lt 18 12) := ok_icmp_lt (off := 9) (by decide +kernel) (by decide)
theorem o_113_12 : pz_OK true rw_113 12 (op_iload 2 13) := ok_iload_n (k := 2) (by decide +kernel)
theorem o_113_13 : pz_OK true rw_113 13 (op_stk (sg_const (12)) 15) := ok_bipush (by decide +kernel) (by unfold pz_in; decide) (by decide)
theorem o_113_15 : pz_OK true rw_113 15 (op_icmp c_le 20 18) := ok_icmp_le (off := 5) (by decide +kernel) (by decide)
theorem o_113_18 : pz_OK true rw_113 18 (op_stk (sg_const (-1)) 19) := ok_iconst (by decide +kernel) (by unfold pz_in; decide)
theorem o_113_19 : pz_OK true rw_113 19 (op_iret g_int) := ok_iret (by decide +kernel) rfl pz_g_int
theorem o_113_20 : pz_OK true rw_113 20 (op_iload 1 21) := ok_iload_n (k := 1) (by decide +kernel)
theorem o_113_21 : pz_OK true rw_113 21 (op_stk (sg_const (1)) 22) := ok_iconst (by decide +kernel) (by unfold pz_in; decide)
theorem o_113_22 : pz_OK true rw_113 22 (op_icmp c_lt 34 25) := ok_icmp_lt (off := 12) (by decide +kernel) (by decide)
theorem o_113_25 : pz_OK true rw_113 25 (op_iload 1 26) := ok_iload_n (k := 1) (by decide +kernel)
theorem o_113_26 : pz_OK true rw_113 26 (op_iload 2 27) := ok_iload_n (k := 2) (by decide +kernel)
theorem o_113_27 : pz_OK true rw_113 27 (op_iload 3 28) := ok_iload_n (k := 3) (by decide +kernel)
theorem k_113_28 : pz_callOK true rw_113 rw_50 28 2 0 := ⟨249, (Or.inl wm_815), Or.inl ⟨(by decide +kernel), wm_816, by unfold pz_np; decide +kernel⟩⟩
theorem o_113_31 : pz_OK true rw_113 31 (op_icmp c_le 37 34) := ok_icmp_le (off := 6) (by decide +kernel) (by decide)
theorem o_113_34 : pz_OK true rw_113 34 (op_stk (sg_const (-2)) 36) := ok_bipush (by decide +kernel) (by unfold pz_in; decide) (by decide)
theorem o_113_36 : pz_OK true rw_113 36 (op_iret g_int) := ok_iret (by decide +kernel) rfl pz_g_int
theorem o_113_37 : pz_OK true rw_113 37 (op_iload 1 38) := ok_iload_n (k := 1) (by decide +kernel)
theorem o_113_38 : pz_OK true rw_113 38 (op_istore 4 40) := ok_istore (by decide +kernel)
theorem o_113_40 : pz_OK true rw_113 40 (op_stk (sg_const (1)) 41) := ok_iconst (by decide +kernel) (by unfold pz_in; decide)
theorem o_113_41 : pz_OK true rw_113 41 (op_istore 5 43) := ok_istore (by decide +kernel)
theorem o_113_43 : pz_OK true rw_113 43 (op_iload 5 45) := ok_iload (by decide +kernel)
theorem o_113_45 : pz_OK true rw_113 45 (op_iload 2 46) := ok_iload_n (k := 2) (by decide +kernel)
theorem o_113_46 : pz_OK true rw_113 46 (op_icmp c_ge 66 49) := ok_icmp_ge (off := 20) (by decide +kernel) (by decide)
theorem o_113_49 : pz_OK true rw_113 49 (op_iload 4 51) := ok_iload (by decide +kernel)
theorem o_113_51 : pz_OK true rw_113 51 (op_iload 5 53) := ok_iload (by decide +kernel)
theorem o_113_53 : pz_OK true rw_113 53 (op_iload 3 54) := ok_iload_n (k := 3) (by decide +kernel)
theorem k_113_54 : pz_callOK true rw_113 rw_50 54 2 0 := ⟨249, (Or.inl wm_815), Or.inl ⟨(by decide +kernel), wm_816, by unfold pz_np; decide +kernel⟩⟩
theorem o_113_57 : pz_OK true rw_113 57 (op_stk (sg_bin f_add) 58) := ok_iadd (by decide +kernel)
theorem o_113_58 : pz_OK true rw_113 58 (op_istore 4 60) := ok_istore (by decide +kernel)
theorem o_113_60 : pz_OK true rw_113 60 (op_iinc 5 (1) 63) := ok_iinc (by decide +kernel)
theorem o_113_63 : pz_OK true rw_113 63 (op_goto 43) := ok_goto (off := -20) (by decide +kernel) (by decide)
theorem o_113_66 : pz_OK true rw_113 66 (op_iload 3 67) := ok_iload_n (k := 3) (by decide +kernel)
theorem o_113_67 : pz_OK true rw_113 67 (op_iload 4 69) := ok_iload (by decide +kernel)
theorem k_113_69 : pz_callOK true rw_113 rw_51 69 2 0 := ⟨252, (Or.inl wm_821), Or.inl ⟨(by decide +kernel), wm_822, by unfold pz_np; decide +kernel⟩⟩
theorem o_113_72 : pz_OK true rw_113 72 (op_iret g_int) := ok_iret (by decide +kernel) rfl pz_g_int
set_option maxRecDepth 20000 in
theorem a_113 : pz_all true 138 rw_113 pg_113 := ⟨o_113_0, ⟨⟨rw_47, tq_47, rfl, k_113_1⟩, ⟨o_113_4, ⟨o_113_7, ⟨o_113_8, ⟨o_113_9, ⟨o_113_12, ⟨o_113_13, ⟨o_113_15, ⟨o_113_18, ⟨o_113_19, ⟨o_113_20, ⟨o_113_21, ⟨o_113_22, ⟨o_113_25, ⟨o_113_26, ⟨o_113_27, ⟨⟨rw_50, tq_50, rfl, k_113_28⟩, ⟨o_113_31, ⟨o_113_34, ⟨o_113_36, ⟨o_113_37, ⟨o_113_38, ⟨o_113_40, ⟨o_113_41, ⟨o_113_43, ⟨o_113_45, ⟨o_113_46, ⟨o_113_49, ⟨o_113_51, ⟨o_113_53, ⟨⟨rw_50, tq_50, rfl, k_113_54⟩, ⟨o_113_57, ⟨o_113_58, ⟨o_113_60, ⟨o_113_63, ⟨o_113_66, ⟨o_113_67, ⟨⟨rw_51, tq_51, rfl, k_113_69⟩, ⟨o_113_72, trivial⟩⟩⟩⟩⟩⟩⟩⟩⟩⟩⟩⟩⟩⟩⟩⟩⟩⟩⟩⟩⟩⟩⟩⟩⟩⟩⟩⟩⟩⟩⟩⟩⟩⟩⟩⟩⟩⟩⟩⟩
theorem ro_114 : pz_rowOK rw_114 := ⟨by decide +kernel, wm_827, wm_1, by decide +kernel⟩
theorem o_114_0 : pz_OK true rw_114 0 (op_iload 1 1) := ok_iload_n (k := 1) (by decide +kernel)
theorem k_114_1 : pz_callOK true rw_114 rw_47 1 1 0 := ⟨246, (Or.inl wm_812), Or.inl ⟨(by decide +kernel), wm_813, by unfold pz_np; decide +kernel⟩⟩
theorem o_114_4 : pz_OK true rw_114 4 (op_ifz c_eq 25 7) := ok_if_eq (off := 21) (by decide +kernel) (by decide)
theorem o_114_7 : pz_OK true rw_114 7 (op_iload 2 8) := ok_iload_n (k := 2) (by decide +kernel)
theorem o_114_8 : pz_OK true rw_114 8 (op_stk (sg_const (1)) 9) := ok_iconst (by decide +kernel) (by unfold pz_in; decide)
theorem o_114_9 : pz_OK true rw_114 9 (op_icmp c_lt 25 12) := ok_icmp_lt (off := 16) (by decide +kernel) (by decide)
theorem o_114_12 : pz_OK true rw_114 12 (op_iload 2 13) := ok_iload_n (k := 2) (by decide +kernel)
theorem o_114_13 : pz_OK true rw_114 13 (op_iload 3 14) := ok_iload_n (k := 3) (by decide +kernel)
theorem o_114_14 : pz_OK true rw_114 14 (op_icmp c_gt 25 17) := ok_icmp_gt (off := 11) (by decide +kernel) (by decide)
theorem o_114_17 : pz_OK true rw_114 17 (op_iload 3 18) := ok_iload_n (k := 3) (by decide +kernel)
theorem o_114_18 : pz_OK true rw_114 18 (op_iload 1 19) := ok_iload_n (k := 1) (by decide +kernel)
theorem k_114_19 : pz_callOK true rw_114 rw_49 19 1 0 := ⟨255, (Or.inl wm_828), Or.inl ⟨(by decide +kernel), wm_829, by unfold pz_np; decide +kernel⟩⟩
theorem o_114_22 : pz_OK true rw_114 22 (op_icmp c_le 27 25) := ok_icmp_le (off := 5) (by decide +kernel) (by decide)
theorem o_114_25 : pz_OK true rw_114 25 (op_stk (sg_const (-1)) 26) := ok_iconst (by decide +kernel) (by unfold pz_in; decide)
theorem o_114_26 : pz_OK true rw_114 26 (op_iret g_int) := ok_iret (by decide +kernel) rfl pz_g_int
theorem o_114_27 : pz_OK true rw_114 27 (op_stk (sg_const (0)) 28) := ok_iconst (by decide +kernel) (by unfold pz_in; decide)
theorem o_114_28 : pz_OK true rw_114 28 (op_istore 4 30) := ok_istore (by decide +kernel)
theorem o_114_30 : pz_OK true rw_114 30 (op_iload 2 31) := ok_iload_n (k := 2) (by decide +kernel)
theorem o_114_31 : pz_OK true rw_114 31 (op_istore 5 33) := ok_istore (by decide +kernel)
theorem o_114_33 : pz_OK true rw_114 33 (op_iload 5 35) := ok_iload (by decide +kernel)
theorem o_114_35 : pz_OK true rw_114 35 (op_iload 3 36) := ok_iload_n (k := 3) (by decide +kernel)
theorem o_114_36 : pz_OK true rw_114 36 (op_icmp c_ge 58 39) := ok_icmp_ge (off := 22) (by decide +kernel) (by decide)
theorem o_114_39 : pz_OK true rw_114 39 (op_iload 1 40) := ok_iload_n (k := 1) (by decide +kernel)
theorem o_114_40 : pz_OK true rw_114 40 (op_iload 5 42) := ok_iload (by decide +kernel)
theorem k_114_42 : pz_callOK true rw_114 rw_51 42 2 0 := ⟨252, (Or.inl wm_821), Or.inl ⟨(by decide +kernel), wm_822, by unfold pz_np; decide +kernel⟩⟩
theorem o_114_45 : pz_OK true rw_114 45 (op_stk (sg_const (5)) 46) := ok_iconst (by decide +kernel) (by unfold pz_in; decide)
theorem o_114_46 : pz_OK true rw_114 46 (op_icmp c_ge 52 49) := ok_icmp_ge (off := 6) (by decide +kernel) (by decide)
theorem o_114_49 : pz_OK true rw_114 49 (op_iinc 4 (1) 52) := ok_iinc (by decide +kernel)
theorem o_114_52 : pz_OK true rw_114 52 (op_iinc 5 (1) 55) := ok_iinc (by decide +kernel)
theorem o_114_55 : pz_OK true rw_114 55 (op_goto 33) := ok_goto (off := -22) (by decide +kernel) (by decide)
theorem o_114_58 : pz_OK true rw_114 58 (op_iload 4 60) := ok_iload (by decide +kernel)
theorem o_114_60 : pz_OK true rw_114 60 (op_iret g_int) := ok_iret (by decide +kernel) rfl pz_g_int
set_option maxRecDepth 20000 in
theorem a_114 : pz_all true 138 rw_114 pg_114 := ⟨o_114_0, ⟨⟨rw_47, tq_47, rfl, k_114_1⟩, ⟨o_114_4, ⟨o_114_7, ⟨o_114_8, ⟨o_114_9, ⟨o_114_12, ⟨o_114_13, ⟨o_114_14, ⟨o_114_17, ⟨o_114_18, ⟨⟨rw_49, tq_49, rfl, k_114_19⟩, ⟨o_114_22, ⟨o_114_25, ⟨o_114_26, ⟨o_114_27, ⟨o_114_28, ⟨o_114_30, ⟨o_114_31, ⟨o_114_33, ⟨o_114_35, ⟨o_114_36, ⟨o_114_39, ⟨o_114_40, ⟨⟨rw_51, tq_51, rfl, k_114_42⟩, ⟨o_114_45, ⟨o_114_46, ⟨o_114_49, ⟨o_114_52, ⟨o_114_55, ⟨o_114_58, ⟨o_114_60, trivial⟩⟩⟩⟩⟩⟩⟩⟩⟩⟩⟩⟩⟩⟩⟩⟩⟩⟩⟩⟩⟩⟩⟩⟩⟩⟩⟩⟩⟩⟩⟩⟩
theorem ro_115 : pz_rowOK rw_115 := ⟨by decide +kernel, wm_834, wm_1, by decide +kernel⟩
theorem o_115_0 : pz_OK true rw_115 0 (op_iload 1 1) := ok_iload_n (k := 1) (by decide +kernel)
theorem o_115_1 : pz_OK true rw_115 1 (op_ifz c_lt 31 4) := ok_if_lt (off := 30) (by decide +kernel) (by decide)
theorem o_115_4 : pz_OK true rw_115 4 (op_iload 1 5) := ok_iload_n (k := 1) (by decide +kernel)
theorem o_115_5 : pz_OK true rw_115 5 (op_stk (sg_const (99)) 7) := ok_bipush (by decide +kernel) (by unfold pz_in; decide) (by decide)
theorem o_115_7 : pz_OK true rw_115 7 (op_icmp c_gt 31 10) := ok_icmp_gt (off := 24) (by decide +kernel) (by decide)
theorem o_115_10 : pz_OK true rw_115 10 (op_iload 2 11) := ok_iload_n (k := 2) (by decide +kernel)
theorem o_115_11 : pz_OK true rw_115 11 (op_ifz c_lt 31 14) := ok_if_lt (off := 20) (by decide +kernel) (by decide)
theorem o_115_14 : pz_OK true rw_115 14 (op_iload 2 15) := ok_iload_n (k := 2) (by decide +kernel)
theorem o_115_15 : pz_OK true rw_115 15 (op_stk (sg_const (99)) 17) := ok_bipush (by decide +kernel) (by unfold pz_in; decide) (by decide)
theorem o_115_17 : pz_OK true rw_115 17 (op_icmp c_gt 31 20) := ok_icmp_gt (off := 14) (by decide +kernel) (by decide)
theorem o_115_20 : pz_OK true rw_115 20 (op_iload 3 21) := ok_iload_n (k := 3) (by decide +kernel)
theorem o_115_21 : pz_OK true rw_115 21 (op_stk (sg_const (1)) 22) := ok_iconst (by decide +kernel) (by unfold pz_in; decide)
theorem o_115_22 : pz_OK true rw_115 22 (op_icmp c_lt 31 25) := ok_icmp_lt (off := 9) (by decide +kernel) (by decide)
theorem o_115_25 : pz_OK true rw_115 25 (op_iload 3 26) := ok_iload_n (k := 3) (by decide +kernel)
theorem o_115_26 : pz_OK true rw_115 26 (op_stk (sg_const (99)) 28) := ok_bipush (by decide +kernel) (by unfold pz_in; decide) (by decide)
theorem o_115_28 : pz_OK true rw_115 28 (op_icmp c_le 33 31) := ok_icmp_le (off := 5) (by decide +kernel) (by decide)
theorem o_115_31 : pz_OK true rw_115 31 (op_stk (sg_const (-1)) 32) := ok_iconst (by decide +kernel) (by unfold pz_in; decide)
theorem o_115_32 : pz_OK true rw_115 32 (op_iret g_int) := ok_iret (by decide +kernel) rfl pz_g_int
theorem o_115_33 : pz_OK true rw_115 33 (op_iload 1 34) := ok_iload_n (k := 1) (by decide +kernel)
theorem o_115_34 : pz_OK true rw_115 34 (op_iload 2 35) := ok_iload_n (k := 2) (by decide +kernel)
theorem o_115_35 : pz_OK true rw_115 35 (op_iload 3 36) := ok_iload_n (k := 3) (by decide +kernel)
theorem k_115_36 : pz_callOK true rw_115 rw_52 36 3 0 := ⟨258, (Or.inl wm_835), Or.inl ⟨(by decide +kernel), wm_836, by unfold pz_np; decide +kernel⟩⟩
theorem o_115_39 : pz_OK true rw_115 39 (op_iret g_int) := ok_iret (by decide +kernel) rfl pz_g_int
set_option maxRecDepth 20000 in
theorem a_115 : pz_all true 138 rw_115 pg_115 := ⟨o_115_0, ⟨o_115_1, ⟨o_115_4, ⟨o_115_5, ⟨o_115_7, ⟨o_115_10, ⟨o_115_11, ⟨o_115_14, ⟨o_115_15, ⟨o_115_17, ⟨o_115_20, ⟨o_115_21, ⟨o_115_22, ⟨o_115_25, ⟨o_115_26, ⟨o_115_28, ⟨o_115_31, ⟨o_115_32, ⟨o_115_33, ⟨o_115_34, ⟨o_115_35, ⟨⟨rw_52, tq_52, rfl, k_115_36⟩, ⟨o_115_39, trivial⟩⟩⟩⟩⟩⟩⟩⟩⟩⟩⟩⟩⟩⟩⟩⟩⟩⟩⟩⟩⟩⟩⟩
theorem ro_116 : pz_rowOK rw_116 := ⟨by decide +kernel, wm_841, wm_1, by decide +kernel⟩
theorem o_116_0 : pz_OK true rw_116 0 (op_iload 1 1) := ok_iload_n (k := 1) (by decide +kernel)
theorem o_116_1 : pz_OK true rw_116 1 (op_stk (sg_const (1)) 2) := ok_iconst (by decide +kernel) (by unfold pz_in; decide)
theorem o_116_2 : pz_OK true rw_116 2 (op_icmp c_lt 38 5) := ok_icmp_lt (off := 36) (by decide +kernel) (by decide)
theorem o_116_5 : pz_OK true rw_116 5 (op_iload 1 6) := ok_iload_n (k := 1) (by decide +kernel)
theorem o_116_6 : pz_OK true rw_116 6 (op_stk (sg_const (10)) 8) := ok_bipush (by decide +kernel) (by unfold pz_in; decide) (by decide)
theorem o_116_8 : pz_OK true rw_116 8 (op_icmp c_gt 38 11) := ok_icmp_gt (off := 30) (by decide +kernel) (by decide)
theorem o_116_11 : pz_OK true rw_116 11 (op_iload 2 12) := ok_iload_n (k := 2) (by decide +kernel)
theorem o_116_12 : pz_OK true rw_116 12 (op_ifz c_lt 38 15) := ok_if_lt (off := 26) (by decide +kernel) (by decide)
theorem o_116_15 : pz_OK true rw_116 15 (op_iload 2 16) := ok_iload_n (k := 2) (by decide +kernel)
theorem o_116_16 : pz_OK true rw_116 16 (op_stk (sg_const (255)) 19) := ok_sipush (by decide +kernel) (by unfold pz_in; decide) (by decide)
theorem o_116_19 : pz_OK true rw_116 19 (op_icmp c_gt 38 22) := ok_icmp_gt (off := 19) (by decide +kernel) (by decide)
theorem o_116_22 : pz_OK true rw_116 22 (op_aload 0 23) := ok_aload_n (k := 0) (by decide +kernel)
theorem o_116_23 : pz_OK true rw_116 23 (op_getR 10 4 26) := ok_getR cc_10 (by decide) rfl rfl (Or.inl wm_268) (by decide +kernel)
theorem o_116_26 : pz_OK true rw_116 26 (op_stk (sg_const (2)) 27) := ok_iconst (by decide +kernel) (by unfold pz_in; decide)
theorem o_116_27 : pz_OK true rw_116 27 (op_iload 1 28) := ok_iload_n (k := 1) (by decide +kernel)
theorem o_116_28 : pz_OK true rw_116 28 (op_stk (sg_bin f_mul) 29) := ok_imul (by decide +kernel)
theorem o_116_29 : pz_OK true rw_116 29 (op_stk (sg_const (2)) 30) := ok_iconst (by decide +kernel) (by unfold pz_in; decide)
theorem o_116_30 : pz_OK true rw_116 30 (op_stk (sg_const (20)) 32) := ok_bipush (by decide +kernel) (by unfold pz_in; decide) (by decide)
theorem k_116_32 : pz_callOK true rw_116 rw_63 32 4 9 := ⟨116, (Or.inl wm_342), Or.inr ⟨(by decide +kernel), wm_343, wm_344, by unfold pz_np; decide +kernel, by decide, Or.inl ⟨_, _, rfl, by decide, rfl⟩⟩⟩
theorem o_116_35 : pz_OK true rw_116 35 (op_ifz c_ne 40 38) := ok_if_ne (off := 5) (by decide +kernel) (by decide)
theorem o_116_38 : pz_OK true rw_116 38 (op_stk (sg_const (-1)) 39) := ok_iconst (by decide +kernel) (by unfold pz_in; decide)
theorem o_116_39 : pz_OK true rw_116 39 (op_iret g_int) := ok_iret (by decide +kernel) rfl pz_g_int
theorem o_116_40 : pz_OK true rw_116 40 (op_aload 0 41) := ok_aload_n (k := 0) (by decide +kernel)
theorem o_116_41 : pz_OK true rw_116 41 (op_getR 10 8 44) := ok_getR cc_10 (by decide) rfl rfl (Or.inl wm_272) (by decide +kernel)
theorem o_116_44 : pz_OK true rw_116 44 (op_aload 0 45) := ok_aload_n (k := 0) (by decide +kernel)
theorem o_116_45 : pz_OK true rw_116 45 (op_getR 10 4 48) := ok_getR cc_10 (by decide) rfl rfl (Or.inl wm_268) (by decide +kernel)
theorem o_116_48 : pz_OK true rw_116 48 (op_iload 1 49) := ok_iload_n (k := 1) (by decide +kernel)
theorem o_116_49 : pz_OK true rw_116 49 (op_iload 2 50) := ok_iload_n (k := 2) (by decide +kernel)
theorem k_116_50 : pz_callOK true rw_116 rw_37 50 4 6 := ⟨262, (Or.inl wm_842), Or.inr ⟨(by decide +kernel), wm_843, wm_844, by unfold pz_np; decide +kernel, by decide, Or.inl ⟨_, _, rfl, by decide, rfl⟩⟩⟩
theorem o_116_53 : pz_OK true rw_116 53 (op_aload 0 54) := ok_aload_n (k := 0) (by decide +kernel)
theorem o_116_54 : pz_OK true rw_116 54 (op_getR 10 8 57) := ok_getR cc_10 (by decide) rfl rfl (Or.inl wm_272) (by decide +kernel)
theorem k_116_57 : pz_callOK true rw_116 rw_39 57 1 6 := ⟨265, (Or.inl wm_851), Or.inr ⟨(by decide +kernel), wm_852, wm_853, by unfold pz_np; decide +kernel, by decide, Or.inl ⟨_, _, rfl, by decide, rfl⟩⟩⟩
theorem o_116_60 : pz_OK true rw_116 60 (op_iret g_int) := ok_iret (by decide +kernel) rfl pz_g_int
set_option maxRecDepth 20000 in
theorem a_116 : pz_all true 138 rw_116 pg_116 := ⟨o_116_0, ⟨o_116_1, ⟨o_116_2, ⟨o_116_5, ⟨o_116_6, ⟨o_116_8, ⟨o_116_11, ⟨o_116_12, ⟨o_116_15, ⟨o_116_16, ⟨o_116_19, ⟨o_116_22, ⟨o_116_23, ⟨o_116_26, ⟨o_116_27, ⟨o_116_28, ⟨o_116_29, ⟨o_116_30, ⟨⟨rw_63, tq_63, rfl, k_116_32⟩, ⟨o_116_35, ⟨o_116_38, ⟨o_116_39, ⟨o_116_40, ⟨o_116_41, ⟨o_116_44, ⟨o_116_45, ⟨o_116_48, ⟨o_116_49, ⟨⟨rw_37, tq_37, rfl, k_116_50⟩, ⟨o_116_53, ⟨o_116_54, ⟨⟨rw_39, tq_39, rfl, k_116_57⟩, ⟨o_116_60, trivial⟩⟩⟩⟩⟩⟩⟩⟩⟩⟩⟩⟩⟩⟩⟩⟩⟩⟩⟩⟩⟩⟩⟩⟩⟩⟩⟩⟩⟩⟩⟩⟩⟩
theorem ro_117 : pz_rowOK rw_117 := ⟨by decide +kernel, wm_876, wm_1, by decide +kernel⟩
theorem o_117_0 : pz_OK true rw_117 0 (op_iload 2 1) := ok_iload_n (k := 2) (by decide +kernel)
theorem o_117_1 : pz_OK true rw_117 1 (op_stk (sg_const (1)) 2) := ok_iconst (by decide +kernel) (by unfold pz_in; decide)
theorem o_117_2 : pz_OK true rw_117 2 (op_icmp c_lt 24 5) := ok_icmp_lt (off := 22) (by decide +kernel) (by decide)
theorem o_117_5 : pz_OK true rw_117 5 (op_iload 2 6) := ok_iload_n (k := 2) (by decide +kernel)
theorem o_117_6 : pz_OK true rw_117 6 (op_iload 1 7) := ok_iload_n (k := 1) (by decide +kernel)
theorem o_117_7 : pz_OK true rw_117 7 (op_icmp c_gt 24 10) := ok_icmp_gt (off := 17) (by decide +kernel) (by decide)
theorem o_117_10 : pz_OK true rw_117 10 (op_aload 0 11) := ok_aload_n (k := 0) (by decide +kernel)
theorem o_117_11 : pz_OK true rw_117 11 (op_getR 10 4 14) := ok_getR cc_10 (by decide) rfl rfl (Or.inl wm_268) (by decide +kernel)
theorem o_117_14 : pz_OK true rw_117 14 (op_iload 1 15) := ok_iload_n (k := 1) (by decide +kernel)
theorem o_117_15 : pz_OK true rw_117 15 (op_stk (sg_const (2)) 16) := ok_iconst (by decide +kernel) (by unfold pz_in; decide)
theorem o_117_16 : pz_OK true rw_117 16 (op_stk (sg_const (12)) 18) := ok_bipush (by decide +kernel) (by unfold pz_in; decide) (by decide)
theorem k_117_18 : pz_callOK true rw_117 rw_63 18 4 9 := ⟨116, (Or.inl wm_342), Or.inr ⟨(by decide +kernel), wm_343, wm_344, by unfold pz_np; decide +kernel, by decide, Or.inl ⟨_, _, rfl, by decide, rfl⟩⟩⟩
theorem o_117_21 : pz_OK true rw_117 21 (op_ifz c_ne 26 24) := ok_if_ne (off := 5) (by decide +kernel) (by decide)
theorem o_117_24 : pz_OK true rw_117 24 (op_stk (sg_const (-1)) 25) := ok_iconst (by decide +kernel) (by unfold pz_in; decide)
theorem o_117_25 : pz_OK true rw_117 25 (op_iret g_int) := ok_iret (by decide +kernel) rfl pz_g_int
theorem o_117_26 : pz_OK true rw_117 26 (op_aload 0 27) := ok_aload_n (k := 0) (by decide +kernel)
theorem o_117_27 : pz_OK true rw_117 27 (op_getR 10 9 30) := ok_getR cc_10 (by decide) rfl rfl (Or.inl wm_273) (by decide +kernel)
theorem o_117_30 : pz_OK true rw_117 30 (op_aload 0 31) := ok_aload_n (k := 0) (by decide +kernel)
theorem o_117_31 : pz_OK true rw_117 31 (op_getR 10 4 34) := ok_getR cc_10 (by decide) rfl rfl (Or.inl wm_268) (by decide +kernel)
theorem o_117_34 : pz_OK true rw_117 34 (op_iload 1 35) := ok_iload_n (k := 1) (by decide +kernel)
theorem k_117_35 : pz_callOK true rw_117 rw_57 35 3 8 := ⟨268, (Or.inl wm_877), Or.inr ⟨(by decide +kernel), wm_878, wm_879, by unfold pz_np; decide +kernel, by decide, Or.inl ⟨_, _, rfl, by decide, rfl⟩⟩⟩
theorem o_117_38 : pz_OK true rw_117 38 (op_ifz c_ne 44 41) := ok_if_ne (off := 6) (by decide +kernel) (by decide)
theorem o_117_41 : pz_OK true rw_117 41 (op_stk (sg_const (-3)) 43) := ok_bipush (by decide +kernel) (by unfold pz_in; decide) (by decide)
theorem o_117_43 : pz_OK true rw_117 43 (op_iret g_int) := ok_iret (by decide +kernel) rfl pz_g_int
theorem o_117_44 : pz_OK true rw_117 44 (op_aload 0 45) := ok_aload_n (k := 0) (by decide +kernel)
theorem o_117_45 : pz_OK true rw_117 45 (op_getR 10 9 48) := ok_getR cc_10 (by decide) rfl rfl (Or.inl wm_273) (by decide +kernel)
theorem o_117_48 : pz_OK true rw_117 48 (op_iload 2 49) := ok_iload_n (k := 2) (by decide +kernel)
theorem k_117_49 : pz_callOK true rw_117 rw_58 49 2 8 := ⟨270, (Or.inl wm_884), Or.inr ⟨(by decide +kernel), wm_885, wm_886, by unfold pz_np; decide +kernel, by decide, Or.inl ⟨_, _, rfl, by decide, rfl⟩⟩⟩
theorem o_117_52 : pz_OK true rw_117 52 (op_iret g_int) := ok_iret (by decide +kernel) rfl pz_g_int
set_option maxRecDepth 20000 in
theorem a_117 : pz_all true 138 rw_117 pg_117 := ⟨o_117_0, ⟨o_117_1, ⟨o_117_2, ⟨o_117_5, ⟨o_117_6, ⟨o_117_7, ⟨o_117_10, ⟨o_117_11, ⟨o_117_14, ⟨o_117_15, ⟨o_117_16, ⟨⟨rw_63, tq_63, rfl, k_117_18⟩, ⟨o_117_21, ⟨o_117_24, ⟨o_117_25, ⟨o_117_26, ⟨o_117_27, ⟨o_117_30, ⟨o_117_31, ⟨o_117_34, ⟨⟨rw_57, tq_57, rfl, k_117_35⟩, ⟨o_117_38, ⟨o_117_41, ⟨o_117_43, ⟨o_117_44, ⟨o_117_45, ⟨o_117_48, ⟨⟨rw_58, tq_58, rfl, k_117_49⟩, ⟨o_117_52, trivial⟩⟩⟩⟩⟩⟩⟩⟩⟩⟩⟩⟩⟩⟩⟩⟩⟩⟩⟩⟩⟩⟩⟩⟩⟩⟩⟩⟩⟩
theorem ro_118 : pz_rowOK rw_118 := ⟨by decide +kernel, wm_900, wm_1, by decide +kernel⟩
theorem o_118_0 : pz_OK true rw_118 0 (op_iload 1 1) := ok_iload_n (k := 1) (by decide +kernel)
theorem o_118_1 : pz_OK true rw_118 1 (op_ifz c_lt 11 4) := ok_if_lt (off := 10) (by decide +kernel) (by decide)
theorem o_118_4 : pz_OK true rw_118 4 (op_iload 1 5) := ok_iload_n (k := 1) (by decide +kernel)
theorem o_118_5 : pz_OK true rw_118 5 (op_stk (sg_const (65535)) 8) := ok_ldcw (z := 65535) (by decide +kernel) wm_901 (by unfold pz_in; decide) (by decide)
theorem o_118_8 : pz_OK true rw_118 8 (op_icmp c_le 13 11) := ok_icmp_le (off := 5) (by decide +kernel) (by decide)
theorem o_118_11 : pz_OK true rw_118 11 (op_stk (sg_const (0)) 12) := ok_iconst (by decide +kernel) (by unfold pz_in; decide)
theorem o_118_12 : pz_OK true rw_118 12 (op_iret g_bool) := ok_iret (by decide +kernel) rfl pz_g_bool
theorem o_118_13 : pz_OK true rw_118 13 (op_aload 0 14) := ok_aload_n (k := 0) (by decide +kernel)
theorem o_118_14 : pz_OK true rw_118 14 (op_getR 10 10 17) := ok_getR cc_10 (by decide) rfl rfl (Or.inl wm_274) (by decide +kernel)
theorem o_118_17 : pz_OK true rw_118 17 (op_iload 1 18) := ok_iload_n (k := 1) (by decide +kernel)
theorem o_118_18 : pz_OK true rw_118 18 (op_putI false 9 6 21) := ok_putI cc_9 (by decide) rfl rfl (Or.inr ⟨_, wm_248⟩) rfl (by decide +kernel) (by decide +kernel)
theorem o_118_21 : pz_OK true rw_118 21 (op_stk (sg_const (1)) 22) := ok_iconst (by decide +kernel) (by unfold pz_in; decide)
theorem o_118_22 : pz_OK true rw_118 22 (op_iret g_bool) := ok_iret (by decide +kernel) rfl pz_g_bool
set_option maxRecDepth 20000 in
theorem a_118 : pz_all true 138 rw_118 pg_118 := ⟨o_118_0, ⟨o_118_1, ⟨o_118_4, ⟨o_118_5, ⟨o_118_8, ⟨o_118_11, ⟨o_118_12, ⟨o_118_13, ⟨o_118_14, ⟨o_118_17, ⟨o_118_18, ⟨o_118_21, ⟨o_118_22, trivial⟩⟩⟩⟩⟩⟩⟩⟩⟩⟩⟩⟩⟩
theorem ro_119 : pz_rowOK rw_119 := ⟨by decide +kernel, wm_905, wm_1, by decide +kernel⟩
theorem o_119_0 : pz_OK true rw_119 0 (op_aload 0 1) := ok_aload_n (k := 0) (by decide +kernel)
theorem o_119_1 : pz_OK true rw_119 1 (op_getR 10 12 4) := ok_getR cc_10 (by decide) rfl rfl (Or.inl wm_276) (by decide +kernel)
theorem o_119_4 : pz_OK true rw_119 4 (op_aload 0 5) := ok_aload_n (k := 0) (by decide +kernel)
theorem o_119_5 : pz_OK true rw_119 5 (op_getR 10 10 8) := ok_getR cc_10 (by decide) rfl rfl (Or.inl wm_274) (by decide +kernel)
theorem k_119_8 : pz_callOK true rw_119 rw_75 8 2 10 := ⟨159, (Or.inl wm_660), Or.inr ⟨(by decide +kernel), wm_661, wm_662, by unfold pz_np; decide +kernel, by decide, Or.inl ⟨_, _, rfl, by decide, rfl⟩⟩⟩
theorem o_119_11 : pz_OK true rw_119 11 (op_aload 0 12) := ok_aload_n (k := 0) (by decide +kernel)
theorem o_119_12 : pz_OK true rw_119 12 (op_stk (sg_const (1)) 13) := ok_iconst (by decide +kernel) (by unfold pz_in; decide)
theorem o_119_13 : pz_OK true rw_119 13 (op_putI true 10 13 16) := ok_putI cc_10 (by decide) rfl rfl (Or.inl wm_277) rfl (by decide +kernel) (by decide +kernel)
theorem o_119_16 : pz_OK true rw_119 16 (op_aload 0 17) := ok_aload_n (k := 0) (by decide +kernel)
theorem o_119_17 : pz_OK true rw_119 17 (op_getR 10 10 20) := ok_getR cc_10 (by decide) rfl rfl (Or.inl wm_274) (by decide +kernel)
theorem o_119_20 : pz_OK true rw_119 20 (op_getI 9 5 23) := ok_getI cc_9 (by decide) rfl rfl (Or.inr ⟨_, wm_246⟩) (by decide +kernel)
theorem o_119_23 : pz_OK true rw_119 23 (op_iret g_int) := ok_iret (by decide +kernel) rfl pz_g_int
set_option maxRecDepth 20000 in
theorem a_119 : pz_all true 138 rw_119 pg_119 := ⟨o_119_0, ⟨o_119_1, ⟨o_119_4, ⟨o_119_5, ⟨⟨rw_75, tq_75, rfl, k_119_8⟩, ⟨o_119_11, ⟨o_119_12, ⟨o_119_13, ⟨o_119_16, ⟨o_119_17, ⟨o_119_20, ⟨o_119_23, trivial⟩⟩⟩⟩⟩⟩⟩⟩⟩⟩⟩⟩
theorem ro_120 : pz_rowOK rw_120 := ⟨by decide +kernel, wm_909, wm_1, by decide +kernel⟩
theorem o_120_0 : pz_OK true rw_120 0 (op_aload 0 1) := ok_aload_n (k := 0) (by decide +kernel)
theorem o_120_1 : pz_OK true rw_120 1 (op_getI 10 13 4) := ok_getI cc_10 (by decide) rfl rfl (Or.inl wm_277) (by decide +kernel)
theorem o_120_4 : pz_OK true rw_120 4 (op_ifz c_ne 9 7) := ok_if_ne (off := 5) (by decide +kernel) (by decide)
theorem o_120_7 : pz_OK true rw_120 7 (op_stk (sg_const (0)) 8) := ok_iconst (by decide +kernel) (by unfold pz_in; decide)
theorem o_120_8 : pz_OK true rw_120 8 (op_iret g_bool) := ok_iret (by decide +kernel) rfl pz_g_bool
theorem o_120_9 : pz_OK true rw_120 9 (op_aload 0 10) := ok_aload_n (k := 0) (by decide +kernel)
theorem o_120_10 : pz_OK true rw_120 10 (op_getR 10 10 13) := ok_getR cc_10 (by decide) rfl rfl (Or.inl wm_274) (by decide +kernel)
theorem o_120_13 : pz_OK true rw_120 13 (op_aload 0 14) := ok_aload_n (k := 0) (by decide +kernel)
theorem o_120_14 : pz_OK true rw_120 14 (op_getR 10 12 17) := ok_getR cc_10 (by decide) rfl rfl (Or.inl wm_276) (by decide +kernel)
theorem k_120_17 : pz_callOK true rw_120 rw_76 17 2 10 := ⟨277, (Or.inl wm_910), Or.inr ⟨(by decide +kernel), wm_665, wm_666, by unfold pz_np; decide +kernel, by decide, Or.inl ⟨_, _, rfl, by decide, rfl⟩⟩⟩
theorem o_120_20 : pz_OK true rw_120 20 (op_stk (sg_const (1)) 21) := ok_iconst (by decide +kernel) (by unfold pz_in; decide)
theorem o_120_21 : pz_OK true rw_120 21 (op_iret g_bool) := ok_iret (by decide +kernel) rfl pz_g_bool
set_option maxRecDepth 20000 in
theorem a_120 : pz_all true 138 rw_120 pg_120 := ⟨o_120_0, ⟨o_120_1, ⟨o_120_4, ⟨o_120_7, ⟨o_120_8, ⟨o_120_9, ⟨o_120_10, ⟨o_120_13, ⟨o_120_14, ⟨⟨rw_76, tq_76, rfl, k_120_17⟩, ⟨o_120_20, ⟨o_120_21, trivial⟩⟩⟩⟩⟩⟩⟩⟩⟩⟩⟩⟩
theorem ro_121 : pz_rowOK rw_121 := ⟨by decide +kernel, wm_914, wm_1, by decide +kernel⟩
theorem o_121_0 : pz_OK true rw_121 0 (op_aload 0 1) := ok_aload_n (k := 0) (by decide +kernel)
theorem o_121_1 : pz_OK true rw_121 1 (op_getR 10 4 4) := ok_getR cc_10 (by decide) rfl rfl (Or.inl wm_268) (by decide +kernel)
theorem o_121_4 : pz_OK true rw_121 4 (op_iload 1 5) := ok_iload_n (k := 1) (by decide +kernel)
theorem o_121_5 : pz_OK true rw_121 5 (op_stk (sg_const (0)) 6) := ok_iconst (by decide +kernel) (by unfold pz_in; decide)
theorem o_121_6 : pz_OK true rw_121 6 (op_stk (sg_const (24)) 8) := ok_bipush (by decide +kernel) (by unfold pz_in; decide) (by decide)
theorem k_121_8 : pz_callOK true rw_121 rw_63 8 4 9 := ⟨116, (Or.inl wm_342), Or.inr ⟨(by decide +kernel), wm_343, wm_344, by unfold pz_np; decide +kernel, by decide, Or.inl ⟨_, _, rfl, by decide, rfl⟩⟩⟩
theorem o_121_11 : pz_OK true rw_121 11 (op_ifz c_ne 17 14) := ok_if_ne (off := 6) (by decide +kernel) (by decide)
theorem o_121_14 : pz_OK true rw_121 14 (op_stk (sg_const (-2)) 16) := ok_bipush (by decide +kernel) (by unfold pz_in; decide) (by decide)
theorem o_121_16 : pz_OK true rw_121 16 (op_iret g_int) := ok_iret (by decide +kernel) rfl pz_g_int
theorem o_121_17 : pz_OK true rw_121 17 (op_stk (sg_const (0)) 18) := ok_iconst (by decide +kernel) (by unfold pz_in; decide)
theorem o_121_18 : pz_OK true rw_121 18 (op_istore 2 19) := ok_istore_n (k := 2) (by decide +kernel)
theorem o_121_19 : pz_OK true rw_121 19 (op_iload 2 20) := ok_iload_n (k := 2) (by decide +kernel)
theorem o_121_20 : pz_OK true rw_121 20 (op_iload 1 21) := ok_iload_n (k := 1) (by decide +kernel)
theorem o_121_21 : pz_OK true rw_121 21 (op_icmp c_ge 74 24) := ok_icmp_ge (off := 53) (by decide +kernel) (by decide)
theorem o_121_24 : pz_OK true rw_121 24 (op_iload 2 25) := ok_iload_n (k := 2) (by decide +kernel)
theorem o_121_25 : pz_OK true rw_121 25 (op_aload 0 26) := ok_aload_n (k := 0) (by decide +kernel)
theorem o_121_26 : pz_OK true rw_121 26 (op_getR 10 10 29) := ok_getR cc_10 (by decide) rfl rfl (Or.inl wm_274) (by decide +kernel)
theorem o_121_29 : pz_OK true rw_121 29 (op_getI 9 4 32) := ok_getI cc_9 (by decide) rfl rfl (Or.inr ⟨_, wm_244⟩) (by decide +kernel)
theorem o_121_32 : pz_OK true rw_121 32 (op_icmp c_ge 50 35) := ok_icmp_ge (off := 18) (by decide +kernel) (by decide)
theorem o_121_35 : pz_OK true rw_121 35 (op_aload 0 36) := ok_aload_n (k := 0) (by decide +kernel)
theorem o_121_36 : pz_OK true rw_121 36 (op_getR 10 10 39) := ok_getR cc_10 (by decide) rfl rfl (Or.inl wm_274) (by decide +kernel)
theorem o_121_39 : pz_OK true rw_121 39 (op_iload 2 40) := ok_iload_n (k := 2) (by decide +kernel)
theorem o_121_40 : pz_OK true rw_121 40 (op_aload 0 41) := ok_aload_n (k := 0) (by decide +kernel)
theorem o_121_41 : pz_OK true rw_121 41 (op_getM 10 0 44) := ok_getM cc_10 (by decide) rfl rfl (Or.inl wm_264) (by decide +kernel)
theorem k_121_44 : pz_callOK true rw_121 rw_82 44 3 10 := ⟨198, (Or.inl wm_711), Or.inr ⟨(by decide +kernel), wm_712, wm_713, by unfold pz_np; decide +kernel, by decide, Or.inl ⟨_, _, rfl, by decide, rfl⟩⟩⟩
theorem o_121_47 : pz_OK true rw_121 47 (op_goto 53) := ok_goto (off := 6) (by decide +kernel) (by decide)
theorem o_121_50 : pz_OK true rw_121 50 (op_stk (sg_const (255)) 53) := ok_sipush (by decide +kernel) (by unfold pz_in; decide) (by decide)
theorem o_121_53 : pz_OK true rw_121 53 (op_istore 3 54) := ok_istore_n (k := 3) (by decide +kernel)
theorem o_121_54 : pz_OK true rw_121 54 (op_aload 0 55) := ok_aload_n (k := 0) (by decide +kernel)
theorem o_121_55 : pz_OK true rw_121 55 (op_getR 10 4 58) := ok_getR cc_10 (by decide) rfl rfl (Or.inl wm_268) (by decide +kernel)
theorem o_121_58 : pz_OK true rw_121 58 (op_iload 2 59) := ok_iload_n (k := 2) (by decide +kernel)
theorem k_121_59 : pz_callOK true rw_121 rw_64 59 2 9 := ⟨230, (Or.inl wm_797), Or.inr ⟨(by decide +kernel), wm_761, wm_762, by unfold pz_np; decide +kernel, by decide, Or.inl ⟨_, _, rfl, by decide, rfl⟩⟩⟩
theorem o_121_62 : pz_OK true rw_121 62 (op_iload 3 63) := ok_iload_n (k := 3) (by decide +kernel)
theorem o_121_63 : pz_OK true rw_121 63 (op_icmp c_eq 68 66) := ok_icmp_eq (off := 5) (by decide +kernel) (by decide)
theorem o_121_66 : pz_OK true rw_121 66 (op_iload 2 67) := ok_iload_n (k := 2) (by decide +kernel)
theorem o_121_67 : pz_OK true rw_121 67 (op_iret g_int) := ok_iret (by decide +kernel) rfl pz_g_int
theorem o_121_68 : pz_OK true rw_121 68 (op_iinc 2 (1) 71) := ok_iinc (by decide +kernel)
theorem o_121_71 : pz_OK true rw_121 71 (op_goto 19) := ok_goto (off := -52) (by decide +kernel) (by decide)
theorem o_121_74 : pz_OK true rw_121 74 (op_stk (sg_const (-1)) 75) := ok_iconst (by decide +kernel) (by unfold pz_in; decide)
theorem o_121_75 : pz_OK true rw_121 75 (op_iret g_int) := ok_iret (by decide +kernel) rfl pz_g_int
set_option maxRecDepth 20000 in
theorem a_121 : pz_all true 138 rw_121 pg_121 := ⟨o_121_0, ⟨o_121_1, ⟨o_121_4, ⟨o_121_5, ⟨o_121_6, ⟨⟨rw_63, tq_63, rfl, k_121_8⟩, ⟨o_121_11, ⟨o_121_14, ⟨o_121_16, ⟨o_121_17, ⟨o_121_18, ⟨o_121_19, ⟨o_121_20, ⟨o_121_21, ⟨o_121_24, ⟨o_121_25, ⟨o_121_26, ⟨o_121_29, ⟨o_121_32, ⟨o_121_35, ⟨o_121_36, ⟨o_121_39, ⟨o_121_40, ⟨o_121_41, ⟨⟨rw_82, tq_82, rfl, k_121_44⟩, ⟨o_121_47, ⟨o_121_50, ⟨o_121_53, ⟨o_121_54, ⟨o_121_55, ⟨o_121_58, ⟨⟨rw_64, tq_64, rfl, k_121_59⟩, ⟨o_121_62, ⟨o_121_63, ⟨o_121_66, ⟨o_121_67, ⟨o_121_68, ⟨o_121_71, ⟨o_121_74, ⟨o_121_75, trivial⟩⟩⟩⟩⟩⟩⟩⟩⟩⟩⟩⟩⟩⟩⟩⟩⟩⟩⟩⟩⟩⟩⟩⟩⟩⟩⟩⟩⟩⟩⟩⟩⟩⟩⟩⟩⟩⟩⟩⟩
theorem ro_122 : pz_rowOK rw_122 := ⟨by decide +kernel, wm_918, wm_1, by decide +kernel⟩
theorem o_122_0 : pz_OK true rw_122 0 (op_iload 1 1) := ok_iload_n (k := 1) (by decide +kernel)
theorem o_122_1 : pz_OK true rw_122 1 (op_sw [(0, 48), (1, 56), (2, 64), (3, 74), (4, 84), (5, 92), (6, 100), (7, 108)] 116) := ok_table (dflt := 115) (lo := 0) (hi := 7) (offs := #[47, 55, 63, 73, 83, 91, 99, 107]) (len := 47) (by decide +kernel) (by decide) (by decide) (by decide) (by decide)
theorem o_122_48 : pz_OK true rw_122 48 (op_aload 0 49) := ok_aload_n (k := 0) (by decide +kernel)
theorem o_122_49 : pz_OK true rw_122 49 (op_getR 10 10 52) := ok_getR cc_10 (by decide) rfl rfl (Or.inl wm_274) (by decide +kernel)
theorem o_122_52 : pz_OK true rw_122 52 (op_getI 9 5 55) := ok_getI cc_9 (by decide) rfl rfl (Or.inr ⟨_, wm_246⟩) (by decide +kernel)
theorem o_122_55 : pz_OK true rw_122 55 (op_iret g_int) := ok_iret (by decide +kernel) rfl pz_g_int
theorem o_122_56 : pz_OK true rw_122 56 (op_aload 0 57) := ok_aload_n (k := 0) (by decide +kernel)
theorem o_122_57 : pz_OK true rw_122 57 (op_getR 10 10 60) := ok_getR cc_10 (by decide) rfl rfl (Or.inl wm_274) (by decide +kernel)
theorem o_122_60 : pz_OK true rw_122 60 (op_getI 9 4 63) := ok_getI cc_9 (by decide) rfl rfl (Or.inr ⟨_, wm_244⟩) (by decide +kernel)
theorem o_122_63 : pz_OK true rw_122 63 (op_iret g_int) := ok_iret (by decide +kernel) rfl pz_g_int
theorem o_122_64 : pz_OK true rw_122 64 (op_aload 0 65) := ok_aload_n (k := 0) (by decide +kernel)
theorem o_122_65 : pz_OK true rw_122 65 (op_getR 10 10 68) := ok_getR cc_10 (by decide) rfl rfl (Or.inl wm_274) (by decide +kernel)
theorem o_122_68 : pz_OK true rw_122 68 (op_stk (sg_const (9)) 70) := ok_bipush (by decide +kernel) (by unfold pz_in; decide) (by decide)
theorem k_122_70 : pz_callOK true rw_122 rw_80 70 2 10 := ⟨166, (Or.inl wm_668), Or.inr ⟨(by decide +kernel), wm_669, wm_670, by unfold pz_np; decide +kernel, by decide, Or.inl ⟨_, _, rfl, by decide, rfl⟩⟩⟩
theorem o_122_73 : pz_OK true rw_122 73 (op_iret g_int) := ok_iret (by decide +kernel) rfl pz_g_int
theorem o_122_74 : pz_OK true rw_122 74 (op_aload 0 75) := ok_aload_n (k := 0) (by decide +kernel)
theorem o_122_75 : pz_OK true rw_122 75 (op_getR 10 10 78) := ok_getR cc_10 (by decide) rfl rfl (Or.inl wm_274) (by decide +kernel)
theorem o_122_78 : pz_OK true rw_122 78 (op_stk (sg_const (10)) 80) := ok_bipush (by decide +kernel) (by unfold pz_in; decide) (by decide)
theorem k_122_80 : pz_callOK true rw_122 rw_80 80 2 10 := ⟨166, (Or.inl wm_668), Or.inr ⟨(by decide +kernel), wm_669, wm_670, by unfold pz_np; decide +kernel, by decide, Or.inl ⟨_, _, rfl, by decide, rfl⟩⟩⟩
theorem o_122_83 : pz_OK true rw_122 83 (op_iret g_int) := ok_iret (by decide +kernel) rfl pz_g_int
theorem o_122_84 : pz_OK true rw_122 84 (op_aload 0 85) := ok_aload_n (k := 0) (by decide +kernel)
theorem o_122_85 : pz_OK true rw_122 85 (op_getR 10 10 88) := ok_getR cc_10 (by decide) rfl rfl (Or.inl wm_274) (by decide +kernel)
theorem k_122_88 : pz_callOK true rw_122 rw_83 88 1 10 := ⟨169, (Or.inl wm_672), Or.inr ⟨(by decide +kernel), wm_673, wm_674, by unfold pz_np; decide +kernel, by decide, Or.inl ⟨_, _, rfl, by decide, rfl⟩⟩⟩
theorem o_122_91 : pz_OK true rw_122 91 (op_iret g_int) := ok_iret (by decide +kernel) rfl pz_g_int
theorem o_122_92 : pz_OK true rw_122 92 (op_aload 0 93) := ok_aload_n (k := 0) (by decide +kernel)
theorem o_122_93 : pz_OK true rw_122 93 (op_getM 10 2 96) := ok_getM cc_10 (by decide) rfl rfl (Or.inl wm_266) (by decide +kernel)
theorem o_122_96 : pz_OK true rw_122 96 (op_getI 2 3 99) := ok_getI cc_2 (by decide) rfl rfl (Or.inr ⟨_, wm_75⟩) (by decide +kernel)
theorem o_122_99 : pz_OK true rw_122 99 (op_iret g_int) := ok_iret (by decide +kernel) rfl pz_g_int
theorem o_122_100 : pz_OK true rw_122 100 (op_aload 0 101) := ok_aload_n (k := 0) (by decide +kernel)
theorem o_122_101 : pz_OK true rw_122 101 (op_getR 10 4 104) := ok_getR cc_10 (by decide) rfl rfl (Or.inl wm_268) (by decide +kernel)
theorem o_122_104 : pz_OK true rw_122 104 (op_getI 8 1 107) := ok_getI cc_8 (by decide) rfl rfl (Or.inr ⟨_, wm_113⟩) (by decide +kernel)
theorem o_122_107 : pz_OK true rw_122 107 (op_iret g_int) := ok_iret (by decide +kernel) rfl pz_g_int
theorem o_122_108 : pz_OK true rw_122 108 (op_aload 0 109) := ok_aload_n (k := 0) (by decide +kernel)
theorem o_122_109 : pz_OK true rw_122 109 (op_getR 10 10 112) := ok_getR cc_10 (by decide) rfl rfl (Or.inl wm_274) (by decide +kernel)
theorem o_122_112 : pz_OK true rw_122 112 (op_getI 9 6 115) := ok_getI cc_9 (by decide) rfl rfl (Or.inr ⟨_, wm_248⟩) (by decide +kernel)
theorem o_122_115 : pz_OK true rw_122 115 (op_iret g_int) := ok_iret (by decide +kernel) rfl pz_g_int
theorem o_122_116 : pz_OK true rw_122 116 (op_stk (sg_const (-1)) 117) := ok_iconst (by decide +kernel) (by unfold pz_in; decide)
theorem o_122_117 : pz_OK true rw_122 117 (op_iret g_int) := ok_iret (by decide +kernel) rfl pz_g_int
set_option maxRecDepth 20000 in
theorem a_122 : pz_all true 138 rw_122 pg_122 := ⟨o_122_0, ⟨o_122_1, ⟨o_122_48, ⟨o_122_49, ⟨o_122_52, ⟨o_122_55, ⟨o_122_56, ⟨o_122_57, ⟨o_122_60, ⟨o_122_63, ⟨o_122_64, ⟨o_122_65, ⟨o_122_68, ⟨⟨rw_80, tq_80, rfl, k_122_70⟩, ⟨o_122_73, ⟨o_122_74, ⟨o_122_75, ⟨o_122_78, ⟨⟨rw_80, tq_80, rfl, k_122_80⟩, ⟨o_122_83, ⟨o_122_84, ⟨o_122_85, ⟨⟨rw_83, tq_83, rfl, k_122_88⟩, ⟨o_122_91, ⟨o_122_92, ⟨o_122_93, ⟨o_122_96, ⟨o_122_99, ⟨o_122_100, ⟨o_122_101, ⟨o_122_104, ⟨o_122_107, ⟨o_122_108, ⟨o_122_109, ⟨o_122_112, ⟨o_122_115, ⟨o_122_116, ⟨o_122_117, trivial⟩⟩⟩⟩⟩⟩⟩⟩⟩⟩⟩⟩⟩⟩⟩⟩⟩⟩⟩⟩⟩⟩⟩⟩⟩⟩⟩⟩⟩⟩⟩⟩⟩⟩⟩⟩⟩⟩
theorem ro_123 : pz_rowOK rw_123 := ⟨by decide +kernel, wm_314, wm_1, by decide +kernel⟩
theorem o_123_0 : pz_OK true rw_123 0 (op_iload 1 1) := ok_iload_n (k := 1) (by decide +kernel)
theorem o_123_1 : pz_OK true rw_123 1 (op_ifz c_lt 19 4) := ok_if_lt (off := 18) (by decide +kernel) (by decide)
theorem o_123_4 : pz_OK true rw_123 4 (op_iload 1 5) := ok_iload_n (k := 1) (by decide +kernel)
theorem o_123_5 : pz_OK true rw_123 5 (op_aload 0 6) := ok_aload_n (k := 0) (by decide +kernel)
theorem o_123_6 : pz_OK true rw_123 6 (op_getR 10 10 9) := ok_getR cc_10 (by decide) rfl rfl (Or.inl wm_274) (by decide +kernel)
theorem o_123_9 : pz_OK true rw_123 9 (op_getI 9 4 12) := ok_getI cc_9 (by decide) rfl rfl (Or.inr ⟨_, wm_244⟩) (by decide +kernel)
theorem o_123_12 : pz_OK true rw_123 12 (op_icmp c_ge 19 15) := ok_icmp_ge (off := 7) (by decide +kernel) (by decide)
theorem o_123_15 : pz_OK true rw_123 15 (op_stk (sg_const (1)) 16) := ok_iconst (by decide +kernel) (by unfold pz_in; decide)
theorem o_123_16 : pz_OK true rw_123 16 (op_goto 20) := ok_goto (off := 4) (by decide +kernel) (by decide)
theorem o_123_19 : pz_OK true rw_123 19 (op_stk (sg_const (0)) 20) := ok_iconst (by decide +kernel) (by unfold pz_in; decide)
theorem o_123_20 : pz_OK true rw_123 20 (op_iret g_bool) := ok_iret (by decide +kernel) rfl pz_g_bool
set_option maxRecDepth 20000 in
theorem a_123 : pz_all true 138 rw_123 pg_123 := ⟨o_123_0, ⟨o_123_1, ⟨o_123_4, ⟨o_123_5, ⟨o_123_6, ⟨o_123_9, ⟨o_123_12, ⟨o_123_15, ⟨o_123_16, ⟨o_123_19, ⟨o_123_20, trivial⟩⟩⟩⟩⟩⟩⟩⟩⟩⟩⟩
theorem ro_124 : pz_rowOK rw_124 := ⟨by decide +kernel, wm_317, wm_1, by decide +kernel⟩
theorem o_124_0 : pz_OK true rw_124 0 (op_iload 0 1) := ok_iload_n (k := 0) (by decide +kernel)
theorem o_124_1 : pz_OK true rw_124 1 (op_ifz c_lt 14 4) := ok_if_lt (off := 13) (by decide +kernel) (by decide)
theorem o_124_4 : pz_OK true rw_124 4 (op_iload 0 5) := ok_iload_n (k := 0) (by decide +kernel)
theorem o_124_5 : pz_OK true rw_124 5 (op_stk (sg_const (9)) 7) := ok_bipush (by decide +kernel) (by unfold pz_in; decide) (by decide)
theorem o_124_7 : pz_OK true rw_124 7 (op_icmp c_ge 14 10) := ok_icmp_ge (off := 7) (by decide +kernel) (by decide)
theorem o_124_10 : pz_OK true rw_124 10 (op_stk (sg_const (1)) 11) := ok_iconst (by decide +kernel) (by unfold pz_in; decide)
theorem o_124_11 : pz_OK true rw_124 11 (op_goto 15) := ok_goto (off := 4) (by decide +kernel) (by decide)
theorem o_124_14 : pz_OK true rw_124 14 (op_stk (sg_const (0)) 15) := ok_iconst (by decide +kernel) (by unfold pz_in; decide)
theorem o_124_15 : pz_OK true rw_124 15 (op_iret g_bool) := ok_iret (by decide +kernel) rfl pz_g_bool
set_option maxRecDepth 20000 in
theorem a_124 : pz_all true 138 rw_124 pg_124 := ⟨o_124_0, ⟨o_124_1, ⟨o_124_4, ⟨o_124_5, ⟨o_124_7, ⟨o_124_10, ⟨o_124_11, ⟨o_124_14, ⟨o_124_15, trivial⟩⟩⟩⟩⟩⟩⟩⟩⟩
theorem ro_125 : pz_rowOK rw_125 := ⟨by decide +kernel, wm_585, wm_1, by decide +kernel⟩
theorem o_125_0 : pz_OK true rw_125 0 (op_iload 0 1) := ok_iload_n (k := 0) (by decide +kernel)
theorem o_125_1 : pz_OK true rw_125 1 (op_stk (sg_const (1)) 2) := ok_iconst (by decide +kernel) (by unfold pz_in; decide)
theorem o_125_2 : pz_OK true rw_125 2 (op_icmp c_lt 15 5) := ok_icmp_lt (off := 13) (by decide +kernel) (by decide)
theorem o_125_5 : pz_OK true rw_125 5 (op_iload 0 6) := ok_iload_n (k := 0) (by decide +kernel)
theorem o_125_6 : pz_OK true rw_125 6 (op_stk (sg_const (100)) 8) := ok_bipush (by decide +kernel) (by unfold pz_in; decide) (by decide)
theorem o_125_8 : pz_OK true rw_125 8 (op_icmp c_gt 15 11) := ok_icmp_gt (off := 7) (by decide +kernel) (by decide)
theorem o_125_11 : pz_OK true rw_125 11 (op_stk (sg_const (1)) 12) := ok_iconst (by decide +kernel) (by unfold pz_in; decide)
theorem o_125_12 : pz_OK true rw_125 12 (op_goto 16) := ok_goto (off := 4) (by decide +kernel) (by decide)
theorem o_125_15 : pz_OK true rw_125 15 (op_stk (sg_const (0)) 16) := ok_iconst (by decide +kernel) (by unfold pz_in; decide)
theorem o_125_16 : pz_OK true rw_125 16 (op_iret g_bool) := ok_iret (by decide +kernel) rfl pz_g_bool
set_option maxRecDepth 20000 in
theorem a_125 : pz_all true 138 rw_125 pg_125 := ⟨o_125_0, ⟨o_125_1, ⟨o_125_2, ⟨o_125_5, ⟨o_125_6, ⟨o_125_8, ⟨o_125_11, ⟨o_125_12, ⟨o_125_15, ⟨o_125_16, trivial⟩⟩⟩⟩⟩⟩⟩⟩⟩⟩
theorem ro_126 : pz_rowOK rw_126 := ⟨by decide +kernel, wm_589, wm_1, by decide +kernel⟩
theorem o_126_0 : pz_OK true rw_126 0 (op_stk (sg_const (0)) 1) := ok_iconst (by decide +kernel) (by unfold pz_in; decide)
theorem o_126_1 : pz_OK true rw_126 1 (op_istore 3 2) := ok_istore_n (k := 3) (by decide +kernel)
theorem o_126_2 : pz_OK true rw_126 2 (op_iload 3 3) := ok_iload_n (k := 3) (by decide +kernel)
theorem o_126_3 : pz_OK true rw_126 3 (op_iload 2 4) := ok_iload_n (k := 2) (by decide +kernel)
theorem o_126_4 : pz_OK true rw_126 4 (op_icmp c_ge 31 7) := ok_icmp_ge (off := 27) (by decide +kernel) (by decide)
theorem o_126_7 : pz_OK true rw_126 7 (op_iload 3 8) := ok_iload_n (k := 3) (by decide +kernel)
theorem o_126_8 : pz_OK true rw_126 8 (op_stk (sg_const (100)) 10) := ok_bipush (by decide +kernel) (by unfold pz_in; decide) (by decide)
theorem o_126_10 : pz_OK true rw_126 10 (op_icmp c_ge 31 13) := ok_icmp_ge (off := 21) (by decide +kernel) (by decide)
theorem o_126_13 : pz_OK true rw_126 13 (op_aload 1 14) := ok_aload_n (k := 1) (by decide +kernel)
theorem o_126_14 : pz_OK true rw_126 14 (op_aload 0 15) := ok_aload_n (k := 0) (by decide +kernel)
theorem o_126_15 : pz_OK true rw_126 15 (op_getM 10 2 18) := ok_getM cc_10 (by decide) rfl rfl (Or.inl wm_266) (by decide +kernel)
theorem o_126_18 : pz_OK true rw_126 18 (op_aload 0 19) := ok_aload_n (k := 0) (by decide +kernel)
theorem o_126_19 : pz_OK true rw_126 19 (op_getM 10 0 22) := ok_getM cc_10 (by decide) rfl rfl (Or.inl wm_264) (by decide +kernel)
theorem k_126_22 : pz_callOK true rw_126 rw_85 22 3 10 := ⟨280, (Or.inl wm_590), Or.inr ⟨(by decide +kernel), wm_591, wm_592, by unfold pz_np; decide +kernel, by decide, Or.inl ⟨_, _, rfl, by decide, rfl⟩⟩⟩
theorem o_126_25 : pz_OK true rw_126 25 (op_iinc 3 (1) 28) := ok_iinc (by decide +kernel)
theorem o_126_28 : pz_OK true rw_126 28 (op_goto 2) := ok_goto (off := -26) (by decide +kernel) (by decide)
theorem o_126_31 : pz_OK true rw_126 31 (op_ret) := ok_ret (by decide +kernel) rfl
set_option maxRecDepth 20000 in
theorem a_126 : pz_all true 138 rw_126 pg_126 := ⟨o_126_0, ⟨o_126_1, ⟨o_126_2, ⟨o_126_3, ⟨o_126_4, ⟨o_126_7, ⟨o_126_8, ⟨o_126_10, ⟨o_126_13, ⟨o_126_14, ⟨o_126_15, ⟨o_126_18, ⟨o_126_19, ⟨⟨rw_85, tq_85, rfl, k_126_22⟩, ⟨o_126_25, ⟨o_126_28, ⟨o_126_31, trivial⟩⟩⟩⟩⟩⟩⟩⟩⟩⟩⟩⟩⟩⟩⟩⟩⟩
theorem ro_127 : pz_rowOK rw_127 := ⟨by decide +kernel, wm_628, wm_20, by decide +kernel⟩
theorem o_127_0 : pz_OK true rw_127 0 (op_iload 0 1) := ok_iload_n (k := 0) (by decide +kernel)
theorem o_127_1 : pz_OK true rw_127 1 (op_iload 1 2) := ok_iload_n (k := 1) (by decide +kernel)
theorem o_127_2 : pz_OK true rw_127 2 (op_icmp c_lt 9 5) := ok_icmp_lt (off := 7) (by decide +kernel) (by decide)
theorem o_127_5 : pz_OK true rw_127 5 (op_iload 0 6) := ok_iload_n (k := 0) (by decide +kernel)
theorem o_127_6 : pz_OK true rw_127 6 (op_goto 10) := ok_goto (off := 4) (by decide +kernel) (by decide)
theorem o_127_9 : pz_OK true rw_127 9 (op_iload 1 10) := ok_iload_n (k := 1) (by decide +kernel)
theorem o_127_10 : pz_OK true rw_127 10 (op_iret g_int) := ok_iret (by decide +kernel) rfl pz_g_int
set_option maxRecDepth 20000 in
theorem a_127 : pz_all true 138 rw_127 pg_127 := ⟨o_127_0, ⟨o_127_1, ⟨o_127_2, ⟨o_127_5, ⟨o_127_6, ⟨o_127_9, ⟨o_127_10, trivial⟩⟩⟩⟩⟩⟩⟩
theorem ro_128 : pz_rowOK rw_128 := ⟨by decide +kernel, wm_625, wm_20, by decide +kernel⟩
theorem o_128_0 : pz_OK true rw_128 0 (op_iload 0 1) := ok_iload_n (k := 0) (by decide +kernel)
theorem o_128_1 : pz_OK true rw_128 1 (op_iload 1 2) := ok_iload_n (k := 1) (by decide +kernel)
theorem o_128_2 : pz_OK true rw_128 2 (op_icmp c_gt 9 5) := ok_icmp_gt (off := 7) (by decide +kernel) (by decide)
theorem o_128_5 : pz_OK true rw_128 5 (op_iload 0 6) := ok_iload_n (k := 0) (by decide +kernel)
theorem o_128_6 : pz_OK true rw_128 6 (op_goto 10) := ok_goto (off := 4) (by decide +kernel) (by decide)
theorem o_128_9 : pz_OK true rw_128 9 (op_iload 1 10) := ok_iload_n (k := 1) (by decide +kernel)
theorem o_128_10 : pz_OK true rw_128 10 (op_iret g_int) := ok_iret (by decide +kernel) rfl pz_g_int
set_option maxRecDepth 20000 in
theorem a_128 : pz_all true 138 rw_128 pg_128 := ⟨o_128_0, ⟨o_128_1, ⟨o_128_2, ⟨o_128_5, ⟨o_128_6, ⟨o_128_9, ⟨o_128_10, trivial⟩⟩⟩⟩⟩⟩⟩
theorem ro_129 : pz_rowOK rw_129 := ⟨by decide +kernel, wm_804, wm_20, by decide +kernel⟩
theorem o_129_0 : pz_OK true rw_129 0 (op_iload 0 1) := ok_iload_n (k := 0) (by decide +kernel)
theorem o_129_1 : pz_OK true rw_129 1 (op_iload 1 2) := ok_iload_n (k := 1) (by decide +kernel)
theorem o_129_2 : pz_OK true rw_129 2 (op_stk (sg_div f_rem) 3) := ok_irem (by decide +kernel)
theorem o_129_3 : pz_OK true rw_129 3 (op_istore 2 4) := ok_istore_n (k := 2) (by decide +kernel)
theorem o_129_4 : pz_OK true rw_129 4 (op_iload 0 5) := ok_iload_n (k := 0) (by decide +kernel)
theorem o_129_5 : pz_OK true rw_129 5 (op_iload 1 6) := ok_iload_n (k := 1) (by decide +kernel)
theorem o_129_6 : pz_OK true rw_129 6 (op_stk (sg_bin f_xor) 7) := ok_ixor (by decide +kernel)
theorem o_129_7 : pz_OK true rw_129 7 (op_ifz c_ge 18 10) := ok_if_ge (off := 11) (by decide +kernel) (by decide)
theorem o_129_10 : pz_OK true rw_129 10 (op_iload 2 11) := ok_iload_n (k := 2) (by decide +kernel)
theorem o_129_11 : pz_OK true rw_129 11 (op_ifz c_eq 18 14) := ok_if_eq (off := 7) (by decide +kernel) (by decide)
theorem o_129_14 : pz_OK true rw_129 14 (op_iload 2 15) := ok_iload_n (k := 2) (by decide +kernel)
theorem o_129_15 : pz_OK true rw_129 15 (op_iload 1 16) := ok_iload_n (k := 1) (by decide +kernel)
theorem o_129_16 : pz_OK true rw_129 16 (op_stk (sg_bin f_add) 17) := ok_iadd (by decide +kernel)
theorem o_129_17 : pz_OK true rw_129 17 (op_iret g_int) := ok_iret (by decide +kernel) rfl pz_g_int
theorem o_129_18 : pz_OK true rw_129 18 (op_iload 2 19) := ok_iload_n (k := 2) (by decide +kernel)
theorem o_129_19 : pz_OK true rw_129 19 (op_iret g_int) := ok_iret (by decide +kernel) rfl pz_g_int
set_option maxRecDepth 20000 in
theorem a_129 : pz_all true 138 rw_129 pg_129 := ⟨o_129_0, ⟨o_129_1, ⟨o_129_2, ⟨o_129_3, ⟨o_129_4, ⟨o_129_5, ⟨o_129_6, ⟨o_129_7, ⟨o_129_10, ⟨o_129_11, ⟨o_129_14, ⟨o_129_15, ⟨o_129_16, ⟨o_129_17, ⟨o_129_18, ⟨o_129_19, trivial⟩⟩⟩⟩⟩⟩⟩⟩⟩⟩⟩⟩⟩⟩⟩⟩
theorem ro_130 : pz_rowOK rw_130 := ⟨by decide +kernel, wm_787, wm_19, by decide +kernel⟩
theorem o_130_0 : pz_OK true rw_130 0 (op_iload 0 1) := ok_iload_n (k := 0) (by decide +kernel)
theorem o_130_1 : pz_OK true rw_130 1 (op_iload 0 2) := ok_iload_n (k := 0) (by decide +kernel)
theorem o_130_2 : pz_OK true rw_130 2 (op_stk (sg_const (1)) 3) := ok_iconst (by decide +kernel) (by unfold pz_in; decide)
theorem o_130_3 : pz_OK true rw_130 3 (op_stk (sg_bin f_ushr) 4) := ok_iushr (by decide +kernel)
theorem o_130_4 : pz_OK true rw_130 4 (op_stk (sg_const (1431655765)) 7) := ok_ldcw (z := 1431655765) (by decide +kernel) wm_788 (by unfold pz_in; decide) (by decide)
theorem o_130_7 : pz_OK true rw_130 7 (op_stk (sg_bin f_and) 8) := ok_iand (by decide +kernel)
theorem o_130_8 : pz_OK true rw_130 8 (op_stk (sg_bin f_sub) 9) := ok_isub (by decide +kernel)
theorem o_130_9 : pz_OK true rw_130 9 (op_istore 0 10) := ok_istore_n (k := 0) (by decide +kernel)
theorem o_130_10 : pz_OK true rw_130 10 (op_iload 0 11) := ok_iload_n (k := 0) (by decide +kernel)
theorem o_130_11 : pz_OK true rw_130 11 (op_stk (sg_const (858993459)) 14) := ok_ldcw (z := 858993459) (by decide +kernel) wm_789 (by unfold pz_in; decide) (by decide)
theorem o_130_14 : pz_OK true rw_130 14 (op_stk (sg_bin f_and) 15) := ok_iand (by decide +kernel)
theorem o_130_15 : pz_OK true rw_130 15 (op_iload 0 16) := ok_iload_n (k := 0) (by decide +kernel)
theorem o_130_16 : pz_OK true rw_130 16 (op_stk (sg_const (2)) 17) := ok_iconst (by decide +kernel) (by unfold pz_in; decide)
theorem o_130_17 : pz_OK true rw_130 17 (op_stk (sg_bin f_ushr) 18) := ok_iushr (by decide +kernel)
theorem o_130_18 : pz_OK true rw_130 18 (op_stk (sg_const (858993459)) 21) := ok_ldcw (z := 858993459) (by decide +kernel) wm_789 (by unfold pz_in; decide) (by decide)
theorem o_130_21 : pz_OK true rw_130 21 (op_stk (sg_bin f_and) 22) := ok_iand (by decide +kernel)
theorem o_130_22 : pz_OK true rw_130 22 (op_stk (sg_bin f_add) 23) := ok_iadd (by decide +kernel)
theorem o_130_23 : pz_OK true rw_130 23 (op_istore 0 24) := ok_istore_n (k := 0) (by decide +kernel)
theorem o_130_24 : pz_OK true rw_130 24 (op_iload 0 25) := ok_iload_n (k := 0) (by decide +kernel)
theorem o_130_25 : pz_OK true rw_130 25 (op_iload 0 26) := ok_iload_n (k := 0) (by decide +kernel)
theorem o_130_26 : pz_OK true rw_130 26 (op_stk (sg_const (4)) 27) := ok_iconst (by decide +kernel) (by unfold pz_in; decide)
theorem o_130_27 : pz_OK true rw_130 27 (op_stk (sg_bin f_ushr) 28) := ok_iushr (by decide +kernel)
theorem o_130_28 : pz_OK true rw_130 28 (op_stk (sg_bin f_add) 29) := ok_iadd (by decide +kernel)
theorem o_130_29 : pz_OK true rw_130 29 (op_stk (sg_const (252645135)) 32) := ok_ldcw (z := 252645135) (by decide +kernel) wm_790 (by unfold pz_in; decide) (by decide)
theorem o_130_32 : pz_OK true rw_130 32 (op_stk (sg_bin f_and) 33) := ok_iand (by decide +kernel)
theorem o_130_33 : pz_OK true rw_130 33 (op_istore 0 34) := ok_istore_n (k := 0) (by decide +kernel)
theorem o_130_34 : pz_OK true rw_130 34 (op_iload 0 35) := ok_iload_n (k := 0) (by decide +kernel)
theorem o_130_35 : pz_OK true rw_130 35 (op_iload 0 36) := ok_iload_n (k := 0) (by decide +kernel)
theorem o_130_36 : pz_OK true rw_130 36 (op_stk (sg_const (8)) 38) := ok_bipush (by decide +kernel) (by unfold pz_in; decide) (by decide)
theorem o_130_38 : pz_OK true rw_130 38 (op_stk (sg_bin f_ushr) 39) := ok_iushr (by decide +kernel)
theorem o_130_39 : pz_OK true rw_130 39 (op_stk (sg_bin f_add) 40) := ok_iadd (by decide +kernel)
theorem o_130_40 : pz_OK true rw_130 40 (op_istore 0 41) := ok_istore_n (k := 0) (by decide +kernel)
theorem o_130_41 : pz_OK true rw_130 41 (op_iload 0 42) := ok_iload_n (k := 0) (by decide +kernel)
theorem o_130_42 : pz_OK true rw_130 42 (op_iload 0 43) := ok_iload_n (k := 0) (by decide +kernel)
theorem o_130_43 : pz_OK true rw_130 43 (op_stk (sg_const (16)) 45) := ok_bipush (by decide +kernel) (by unfold pz_in; decide) (by decide)
theorem o_130_45 : pz_OK true rw_130 45 (op_stk (sg_bin f_ushr) 46) := ok_iushr (by decide +kernel)
theorem o_130_46 : pz_OK true rw_130 46 (op_stk (sg_bin f_add) 47) := ok_iadd (by decide +kernel)
theorem o_130_47 : pz_OK true rw_130 47 (op_istore 0 48) := ok_istore_n (k := 0) (by decide +kernel)
theorem o_130_48 : pz_OK true rw_130 48 (op_iload 0 49) := ok_iload_n (k := 0) (by decide +kernel)
theorem o_130_49 : pz_OK true rw_130 49 (op_stk (sg_const (63)) 51) := ok_bipush (by decide +kernel) (by unfold pz_in; decide) (by decide)
theorem o_130_51 : pz_OK true rw_130 51 (op_stk (sg_bin f_and) 52) := ok_iand (by decide +kernel)
theorem o_130_52 : pz_OK true rw_130 52 (op_iret g_int) := ok_iret (by decide +kernel) rfl pz_g_int
set_option maxRecDepth 20000 in
theorem a_130 : pz_all true 138 rw_130 pg_130 := ⟨o_130_0, ⟨o_130_1, ⟨o_130_2, ⟨o_130_3, ⟨o_130_4, ⟨o_130_7, ⟨o_130_8, ⟨o_130_9, ⟨o_130_10, ⟨o_130_11, ⟨o_130_14, ⟨o_130_15, ⟨o_130_16, ⟨o_130_17, ⟨o_130_18, ⟨o_130_21, ⟨o_130_22, ⟨o_130_23, ⟨o_130_24, ⟨o_130_25, ⟨o_130_26, ⟨o_130_27, ⟨o_130_28, ⟨o_130_29, ⟨o_130_32, ⟨o_130_33, ⟨o_130_34, ⟨o_130_35, ⟨o_130_36, ⟨o_130_38, ⟨o_130_39, ⟨o_130_40, ⟨o_130_41, ⟨o_130_42, ⟨o_130_43, ⟨o_130_45, ⟨o_130_46, ⟨o_130_47, ⟨o_130_48, ⟨o_130_49, ⟨o_130_51, ⟨o_130_52, trivial⟩⟩⟩⟩⟩⟩⟩⟩⟩⟩⟩⟩⟩⟩⟩⟩⟩⟩⟩⟩⟩⟩⟩⟩⟩⟩⟩⟩⟩⟩⟩⟩⟩⟩⟩⟩⟩⟩⟩⟩⟩⟩
theorem ro_131 : pz_rowOK rw_131 := ⟨by decide +kernel, wm_577, wm_19, by decide +kernel⟩
theorem o_131_0 : pz_OK true rw_131 0 (op_iload 0 1) := ok_iload_n (k := 0) (by decide +kernel)
theorem o_131_1 : pz_OK true rw_131 1 (op_stk (sg_const (-1)) 2) := ok_iconst (by decide +kernel) (by unfold pz_in; decide)
theorem o_131_2 : pz_OK true rw_131 2 (op_stk (sg_bin f_xor) 3) := ok_ixor (by decide +kernel)
theorem o_131_3 : pz_OK true rw_131 3 (op_iload 0 4) := ok_iload_n (k := 0) (by decide +kernel)
theorem o_131_4 : pz_OK true rw_131 4 (op_stk (sg_const (1)) 5) := ok_iconst (by decide +kernel) (by unfold pz_in; decide)
theorem o_131_5 : pz_OK true rw_131 5 (op_stk (sg_bin f_sub) 6) := ok_isub (by decide +kernel)
theorem o_131_6 : pz_OK true rw_131 6 (op_stk (sg_bin f_and) 7) := ok_iand (by decide +kernel)
theorem o_131_7 : pz_OK true rw_131 7 (op_istore 0 8) := ok_istore_n (k := 0) (by decide +kernel)
theorem o_131_8 : pz_OK true rw_131 8 (op_iload 0 9) := ok_iload_n (k := 0) (by decide +kernel)
theorem o_131_9 : pz_OK true rw_131 9 (op_ifz c_gt 17 12) := ok_if_gt (off := 8) (by decide +kernel) (by decide)
theorem o_131_12 : pz_OK true rw_131 12 (op_iload 0 13) := ok_iload_n (k := 0) (by decide +kernel)
theorem o_131_13 : pz_OK true rw_131 13 (op_stk (sg_const (32)) 15) := ok_bipush (by decide +kernel) (by unfold pz_in; decide) (by decide)
theorem o_131_15 : pz_OK true rw_131 15 (op_stk (sg_bin f_and) 16) := ok_iand (by decide +kernel)
theorem o_131_16 : pz_OK true rw_131 16 (op_iret g_int) := ok_iret (by decide +kernel) rfl pz_g_int
theorem o_131_17 : pz_OK true rw_131 17 (op_stk (sg_const (1)) 18) := ok_iconst (by decide +kernel) (by unfold pz_in; decide)
theorem o_131_18 : pz_OK true rw_131 18 (op_istore 1 19) := ok_istore_n (k := 1) (by decide +kernel)
theorem o_131_19 : pz_OK true rw_131 19 (op_iload 0 20) := ok_iload_n (k := 0) (by decide +kernel)
theorem o_131_20 : pz_OK true rw_131 20 (op_stk (sg_const (65536)) 23) := ok_ldcw (z := 65536) (by decide +kernel) wm_578 (by unfold pz_in; decide) (by decide)
theorem o_131_23 : pz_OK true rw_131 23 (op_icmp c_le 34 26) := ok_icmp_le (off := 11) (by decide +kernel) (by decide)
theorem o_131_26 : pz_OK true rw_131 26 (op_iinc 1 (16) 29) := ok_iinc (by decide +kernel)
theorem o_131_29 : pz_OK true rw_131 29 (op_iload 0 30) := ok_iload_n (k := 0) (by decide +kernel)
theorem o_131_30 : pz_OK true rw_131 30 (op_stk (sg_const (16)) 32) := ok_bipush (by decide +kernel) (by unfold pz_in; decide) (by decide)
theorem o_131_32 : pz_OK true rw_131 32 (op_stk (sg_bin f_ushr) 33) := ok_iushr (by decide +kernel)
theorem o_131_33 : pz_OK true rw_131 33 (op_istore 0 34) := ok_istore_n (k := 0) (by decide +kernel)
theorem o_131_34 : pz_OK true rw_131 34 (op_iload 0 35) := ok_iload_n (k := 0) (by decide +kernel)
theorem o_131_35 : pz_OK true rw_131 35 (op_stk (sg_const (256)) 38) := ok_sipush (by decide +kernel) (by unfold pz_in; decide) (by decide)
theorem o_131_38 : pz_OK true rw_131 38 (op_icmp c_le 49 41) := ok_icmp_le (off := 11) (by decide +kernel) (by decide)
theorem o_131_41 : pz_OK true rw_131 41 (op_iinc 1 (8) 44) := ok_iinc (by decide +kernel)
theorem o_131_44 : pz_OK true rw_131 44 (op_iload 0 45) := ok_iload_n (k := 0) (by decide +kernel)
theorem o_131_45 : pz_OK true rw_131 45 (op_stk (sg_const (8)) 47) := ok_bipush (by decide +kernel) (by unfold pz_in; decide) (by decide)
theorem o_131_47 : pz_OK true rw_131 47 (op_stk (sg_bin f_ushr) 48) := ok_iushr (by decide +kernel)
theorem o_131_48 : pz_OK true rw_131 48 (op_istore 0 49) := ok_istore_n (k := 0) (by decide +kernel)
theorem o_131_49 : pz_OK true rw_131 49 (op_iload 0 50) := ok_iload_n (k := 0) (by decide +kernel)
theorem o_131_50 : pz_OK true rw_131 50 (op_stk (sg_const (16)) 52) := ok_bipush (by decide +kernel) (by unfold pz_in; decide) (by decide)
theorem o_131_52 : pz_OK true rw_131 52 (op_icmp c_le 62 55) := ok_icmp_le (off := 10) (by decide +kernel) (by decide)
theorem o_131_55 : pz_OK true rw_131 55 (op_iinc 1 (4) 58) := ok_iinc (by decide +kernel)
theorem o_131_58 : pz_OK true rw_131 58 (op_iload 0 59) := ok_iload_n (k := 0) (by decide +kernel)
theorem o_131_59 : pz_OK true rw_131 59 (op_stk (sg_const (4)) 60) := ok_iconst (by decide +kernel) (by unfold pz_in; decide)
theorem o_131_60 : pz_OK true rw_131 60 (op_stk (sg_bin f_ushr) 61) := ok_iushr (by decide +kernel)
theorem o_131_61 : pz_OK true rw_131 61 (op_istore 0 62) := ok_istore_n (k := 0) (by decide +kernel)
theorem o_131_62 : pz_OK true rw_131 62 (op_iload 0 63) := ok_iload_n (k := 0) (by decide +kernel)
theorem o_131_63 : pz_OK true rw_131 63 (op_stk (sg_const (4)) 64) := ok_iconst (by decide +kernel) (by unfold pz_in; decide)
theorem o_131_64 : pz_OK true rw_131 64 (op_icmp c_le 74 67) := ok_icmp_le (off := 10) (by decide +kernel) (by decide)
theorem o_131_67 : pz_OK true rw_131 67 (op_iinc 1 (2) 70) := ok_iinc (by decide +kernel)
theorem o_131_70 : pz_OK true rw_131 70 (op_iload 0 71) := ok_iload_n (k := 0) (by decide +kernel)
theorem o_131_71 : pz_OK true rw_131 71 (op_stk (sg_const (2)) 72) := ok_iconst (by decide +kernel) (by unfold pz_in; decide)
theorem o_131_72 : pz_OK true rw_131 72 (op_stk (sg_bin f_ushr) 73) := ok_iushr (by decide +kernel)
theorem o_131_73 : pz_OK true rw_131 73 (op_istore 0 74) := ok_istore_n (k := 0) (by decide +kernel)
theorem o_131_74 : pz_OK true rw_131 74 (op_iload 1 75) := ok_iload_n (k := 1) (by decide +kernel)
theorem o_131_75 : pz_OK true rw_131 75 (op_iload 0 76) := ok_iload_n (k := 0) (by decide +kernel)
theorem o_131_76 : pz_OK true rw_131 76 (op_stk (sg_const (1)) 77) := ok_iconst (by decide +kernel) (by unfold pz_in; decide)
theorem o_131_77 : pz_OK true rw_131 77 (op_stk (sg_bin f_ushr) 78) := ok_iushr (by decide +kernel)
theorem o_131_78 : pz_OK true rw_131 78 (op_stk (sg_bin f_add) 79) := ok_iadd (by decide +kernel)
theorem o_131_79 : pz_OK true rw_131 79 (op_iret g_int) := ok_iret (by decide +kernel) rfl pz_g_int
set_option maxRecDepth 20000 in
theorem a_131 : pz_all true 138 rw_131 pg_131 := ⟨o_131_0, ⟨o_131_1, ⟨o_131_2, ⟨o_131_3, ⟨o_131_4, ⟨o_131_5, ⟨o_131_6, ⟨o_131_7, ⟨o_131_8, ⟨o_131_9, ⟨o_131_12, ⟨o_131_13, ⟨o_131_15, ⟨o_131_16, ⟨o_131_17, ⟨o_131_18, ⟨o_131_19, ⟨o_131_20, ⟨o_131_23, ⟨o_131_26, ⟨o_131_29, ⟨o_131_30, ⟨o_131_32, ⟨o_131_33, ⟨o_131_34, ⟨o_131_35, ⟨o_131_38, ⟨o_131_41, ⟨o_131_44, ⟨o_131_45, ⟨o_131_47, ⟨o_131_48, ⟨o_131_49, ⟨o_131_50, ⟨o_131_52, ⟨o_131_55, ⟨o_131_58, ⟨o_131_59, ⟨o_131_60, ⟨o_131_61, ⟨o_131_62, ⟨o_131_63, ⟨o_131_64, ⟨o_131_67, ⟨o_131_70, ⟨o_131_71, ⟨o_131_72, ⟨o_131_73, ⟨o_131_74, ⟨o_131_75, ⟨o_131_76, ⟨o_131_77, ⟨o_131_78, ⟨o_131_79, trivial⟩⟩⟩⟩⟩⟩⟩⟩⟩⟩⟩⟩⟩⟩⟩⟩⟩⟩⟩⟩⟩⟩⟩⟩⟩⟩⟩⟩⟩⟩⟩⟩⟩⟩⟩⟩⟩⟩⟩⟩⟩⟩⟩⟩⟩⟩⟩⟩⟩⟩⟩⟩⟩⟩
theorem ro_132 : pz_rowOK rw_132 := ⟨by decide +kernel, wm_472, wm_17, by decide +kernel⟩
theorem o_132_0 : pz_OK true rw_132 0 (op_stk (sg_const (0)) 1) := ok_iconst (by decide +kernel) (by unfold pz_in; decide)
theorem o_132_1 : pz_OK true rw_132 1 (op_istore 2 2) := ok_istore_n (k := 2) (by decide +kernel)
theorem o_132_2 : pz_OK true rw_132 2 (op_aload 0 3) := ok_aload_n (k := 0) (by decide +kernel)
theorem o_132_3 : pz_OK true rw_132 3 (op_alen 20 4) := ok_alen (by decide +kernel) rfl (by decide)
theorem o_132_4 : pz_OK true rw_132 4 (op_istore 3 5) := ok_istore_n (k := 3) (by decide +kernel)
theorem o_132_5 : pz_OK true rw_132 5 (op_iload 2 6) := ok_iload_n (k := 2) (by decide +kernel)
theorem o_132_6 : pz_OK true rw_132 6 (op_iload 3 7) := ok_iload_n (k := 3) (by decide +kernel)
theorem o_132_7 : pz_OK true rw_132 7 (op_icmp c_ge 20 10) := ok_icmp_ge (off := 13) (by decide +kernel) (by decide)
theorem o_132_10 : pz_OK true rw_132 10 (op_aload 0 11) := ok_aload_n (k := 0) (by decide +kernel)
theorem o_132_11 : pz_OK true rw_132 11 (op_iload 2 12) := ok_iload_n (k := 2) (by decide +kernel)
theorem o_132_12 : pz_OK true rw_132 12 (op_iload 1 13) := ok_iload_n (k := 1) (by decide +kernel)
theorem o_132_13 : pz_OK true rw_132 13 (op_iast 20 14) := ok_iast (by decide +kernel) rfl (by decide)
theorem o_132_14 : pz_OK true rw_132 14 (op_iinc 2 (1) 17) := ok_iinc (by decide +kernel)
theorem o_132_17 : pz_OK true rw_132 17 (op_goto 5) := ok_goto (off := -12) (by decide +kernel) (by decide)
theorem o_132_20 : pz_OK true rw_132 20 (op_ret) := ok_ret (by decide +kernel) rfl
set_option maxRecDepth 20000 in
theorem a_132 : pz_all true 138 rw_132 pg_132 := ⟨o_132_0, ⟨o_132_1, ⟨o_132_2, ⟨o_132_3, ⟨o_132_4, ⟨o_132_5, ⟨o_132_6, ⟨o_132_7, ⟨o_132_10, ⟨o_132_11, ⟨o_132_12, ⟨o_132_13, ⟨o_132_14, ⟨o_132_17, ⟨o_132_20, trivial⟩⟩⟩⟩⟩⟩⟩⟩⟩⟩⟩⟩⟩⟩⟩
theorem ro_133 : pz_rowOK rw_133 := ⟨by decide +kernel, wm_365, wm_13, by decide +kernel⟩
theorem o_133_0 : pz_OK true rw_133 0 (op_aload 0 1) := ok_aload_n (k := 0) (by decide +kernel)
theorem o_133_1 : pz_OK true rw_133 1 (op_sval 4) := ok_sval (by decide +kernel) wm_1499
theorem o_133_4 : pz_OK true rw_133 4 (op_slen 5) := ok_slen (by decide +kernel)
theorem o_133_5 : pz_OK true rw_133 5 (op_aload 0 6) := ok_aload_n (k := 0) (by decide +kernel)
theorem k_133_6 : pz_callOK true rw_133 rw_135 6 1 25 := ⟨335, (Or.inl wm_366), Or.inr ⟨(by decide +kernel), wm_367, wm_368, by unfold pz_np; decide +kernel, by decide, Or.inr ⟨rfl, rfl⟩⟩⟩
theorem o_133_9 : pz_OK true rw_133 9 (op_stk (sg_bin f_shr) 10) := ok_ishr (by decide +kernel)
theorem o_133_10 : pz_OK true rw_133 10 (op_iret g_int) := ok_iret (by decide +kernel) rfl pz_g_int
set_option maxRecDepth 20000 in
theorem a_133 : pz_all true 138 rw_133 pg_133 := ⟨o_133_0, ⟨o_133_1, ⟨o_133_4, ⟨o_133_5, ⟨⟨rw_135, tq_135, rfl, k_133_6⟩, ⟨o_133_9, ⟨o_133_10, trivial⟩⟩⟩⟩⟩⟩⟩
theorem ro_134 : pz_rowOK rw_134 := ⟨by decide +kernel, wm_375, wm_13, by decide +kernel⟩
theorem o_134_0 : pz_OK true rw_134 0 (op_aload 0 1) := ok_aload_n (k := 0) (by decide +kernel)
theorem k_134_1 : pz_callOK true rw_134 rw_136 1 1 25 := ⟨492, (Or.inl wm_376), Or.inr ⟨(by decide +kernel), wm_377, wm_378, by unfold pz_np; decide +kernel, by decide, Or.inr ⟨rfl, rfl⟩⟩⟩
theorem o_134_4 : pz_OK true rw_134 4 (op_ifz c_eq 16 7) := ok_if_eq (off := 12) (by decide +kernel) (by decide)
theorem o_134_7 : pz_OK true rw_134 7 (op_aload 0 8) := ok_aload_n (k := 0) (by decide +kernel)
theorem o_134_8 : pz_OK true rw_134 8 (op_sval 11) := ok_sval (by decide +kernel) wm_1499
theorem o_134_11 : pz_OK true rw_134 11 (op_iload 1 12) := ok_iload_n (k := 1) (by decide +kernel)
theorem k_134_12 : pz_callOK true rw_134 rw_137 12 2 0 := ⟨495, (Or.inl wm_380), Or.inl ⟨(by decide +kernel), wm_381, by unfold pz_np; decide +kernel⟩⟩
theorem o_134_15 : pz_OK true rw_134 15 (op_iret g_chr) := ok_iret (by decide +kernel) rfl pz_g_chr
set_option maxRecDepth 20000 in
theorem a_134 : pz_all true 138 rw_134 pg_134 := ⟨o_134_0, ⟨⟨rw_136, tq_136, rfl, k_134_1⟩, ⟨o_134_4, ⟨o_134_7, ⟨o_134_8, ⟨o_134_11, ⟨⟨rw_137, tq_137, rfl, k_134_12⟩, ⟨o_134_15, trivial⟩⟩⟩⟩⟩⟩⟩⟩
theorem ro_135 : pz_rowOK rw_135 := ⟨by decide +kernel, wm_369, wm_13, by decide +kernel⟩
theorem o_135_0 : pz_OK true rw_135 0 (op_psh (pzI 1) 3) := ok_getCS (by decide +kernel) wm_370
theorem o_135_3 : pz_OK true rw_135 3 (op_ifz c_eq 13 6) := ok_if_eq (off := 10) (by decide +kernel) (by decide)
theorem o_135_6 : pz_OK true rw_135 6 (op_aload 0 7) := ok_aload_n (k := 0) (by decide +kernel)
theorem o_135_7 : pz_OK true rw_135 7 (op_scod 10) := ok_scod (by decide +kernel) wm_1500
theorem o_135_10 : pz_OK true rw_135 10 (op_goto 14) := ok_goto (off := 4) (by decide +kernel) (by decide)
theorem o_135_13 : pz_OK true rw_135 13 (op_stk (sg_const (1)) 14) := ok_iconst (by decide +kernel) (by unfold pz_in; decide)
theorem o_135_14 : pz_OK true rw_135 14 (op_iret g_byte) := ok_iret (by decide +kernel) rfl pz_g_byte
set_option maxRecDepth 20000 in
theorem a_135 : pz_all true 138 rw_135 pg_135 := ⟨o_135_0, ⟨o_135_3, ⟨o_135_6, ⟨o_135_7, ⟨o_135_10, ⟨o_135_13, ⟨o_135_14, trivial⟩⟩⟩⟩⟩⟩⟩
theorem ro_136 : pz_rowOK rw_136 := ⟨by decide +kernel, wm_379, wm_13, by decide +kernel⟩
theorem o_136_0 : pz_OK true rw_136 0 (op_psh (pzI 1) 3) := ok_getCS (by decide +kernel) wm_370
theorem o_136_3 : pz_OK true rw_136 3 (op_ifz c_eq 17 6) := ok_if_eq (off := 14) (by decide +kernel) (by decide)
theorem o_136_6 : pz_OK true rw_136 6 (op_aload 0 7) := ok_aload_n (k := 0) (by decide +kernel)
theorem o_136_7 : pz_OK true rw_136 7 (op_scod 10) := ok_scod (by decide +kernel) wm_1500
theorem o_136_10 : pz_OK true rw_136 10 (op_ifz c_ne 17 13) := ok_if_ne (off := 7) (by decide +kernel) (by decide)
theorem o_136_13 : pz_OK true rw_136 13 (op_stk (sg_const (1)) 14) := ok_iconst (by decide +kernel) (by unfold pz_in; decide)
theorem o_136_14 : pz_OK true rw_136 14 (op_goto 18) := ok_goto (off := 4) (by decide +kernel) (by decide)
theorem o_136_17 : pz_OK true rw_136 17 (op_stk (sg_const (0)) 18) := ok_iconst (by decide +kernel) (by unfold pz_in; decide)
theorem o_136_18 : pz_OK true rw_136 18 (op_iret g_bool) := ok_iret (by decide +kernel) rfl pz_g_bool
set_option maxRecDepth 20000 in
theorem a_136 : pz_all true 138 rw_136 pg_136 := ⟨o_136_0, ⟨o_136_3, ⟨o_136_6, ⟨o_136_7, ⟨o_136_10, ⟨o_136_13, ⟨o_136_14, ⟨o_136_17, ⟨o_136_18, trivial⟩⟩⟩⟩⟩⟩⟩⟩⟩
theorem ro_137 : pz_rowOK rw_137 := ⟨by decide +kernel, wm_382, wm_14, by decide +kernel⟩
theorem o_137_0 : pz_OK true rw_137 0 (op_iload 1 1) := ok_iload_n (k := 1) (by decide +kernel)
theorem o_137_1 : pz_OK true rw_137 1 (op_aload 0 2) := ok_aload_n (k := 0) (by decide +kernel)
theorem o_137_2 : pz_OK true rw_137 2 (op_slen 3) := ok_slen (by decide +kernel)
theorem o_137_3 : pz_OK true rw_137 3 (op_chk 6) := ok_chk (by decide +kernel) wm_383 wm_384 wm_385 wm_13
theorem o_137_6 : pz_OK true rw_137 6 (op_aload 0 7) := ok_aload_n (k := 0) (by decide +kernel)
theorem o_137_7 : pz_OK true rw_137 7 (op_iload 1 8) := ok_iload_n (k := 1) (by decide +kernel)
theorem o_137_8 : pz_OK true rw_137 8 (op_sbld 9) := ok_sbld (by decide +kernel)
theorem o_137_9 : pz_OK true rw_137 9 (op_stk (sg_const (255)) 12) := ok_sipush (by decide +kernel) (by unfold pz_in; decide) (by decide)
theorem o_137_12 : pz_OK true rw_137 12 (op_stk (sg_bin f_and) 13) := ok_iand (by decide +kernel)
theorem o_137_13 : pz_OK true rw_137 13 (op_stk (sg_un f_i2c) 14) := ok_i2c (by decide +kernel)
theorem o_137_14 : pz_OK true rw_137 14 (op_iret g_chr) := ok_iret (by decide +kernel) rfl pz_g_chr
set_option maxRecDepth 20000 in
theorem a_137 : pz_all true 138 rw_137 pg_137 := ⟨o_137_0, ⟨o_137_1, ⟨o_137_2, ⟨o_137_3, ⟨o_137_6, ⟨o_137_7, ⟨o_137_8, ⟨o_137_9, ⟨o_137_12, ⟨o_137_13, ⟨o_137_14, trivial⟩⟩⟩⟩⟩⟩⟩⟩⟩⟩⟩
theorem ro_138 : pz_rowOK rw_138 := ⟨by decide +kernel, wm_1086, wm_11, by decide +kernel⟩
theorem o_138_0 : pz_OK false rw_138 0 (op_iload 0 1) := ok_iload_n (k := 0) (by decide +kernel)
theorem o_138_1 : pz_OK false rw_138 1 (op_iload 1 2) := ok_iload_n (k := 1) (by decide +kernel)
theorem o_138_2 : pz_OK false rw_138 2 (op_icmp c_lt 14 5) := ok_icmp_lt (off := 12) (by decide +kernel) (by decide)
theorem o_138_5 : pz_OK false rw_138 5 (op_iload 0 6) := ok_iload_n (k := 0) (by decide +kernel)
theorem o_138_6 : pz_OK false rw_138 6 (op_iload 2 7) := ok_iload_n (k := 2) (by decide +kernel)
theorem o_138_7 : pz_OK false rw_138 7 (op_icmp c_gt 14 10) := ok_icmp_gt (off := 7) (by decide +kernel) (by decide)
theorem o_138_10 : pz_OK false rw_138 10 (op_stk (sg_const (1)) 11) := ok_iconst (by decide +kernel) (by unfold pz_in; decide)
theorem o_138_11 : pz_OK false rw_138 11 (op_goto 15) := ok_goto (off := 4) (by decide +kernel) (by decide)
theorem o_138_14 : pz_OK false rw_138 14 (op_stk (sg_const (0)) 15) := ok_iconst (by decide +kernel) (by unfold pz_in; decide)
theorem o_138_15 : pz_OK false rw_138 15 (op_iret g_bool) := ok_iret (by decide +kernel) rfl pz_g_bool
set_option maxRecDepth 20000 in
theorem a_138 : pz_all false 138 rw_138 pg_138 := ⟨o_138_0, ⟨o_138_1, ⟨o_138_2, ⟨o_138_5, ⟨o_138_6, ⟨o_138_7, ⟨o_138_10, ⟨o_138_11, ⟨o_138_14, ⟨o_138_15, trivial⟩⟩⟩⟩⟩⟩⟩⟩⟩⟩
theorem ro_139 : pz_rowOK rw_139 := ⟨by decide +kernel, wm_1267, wm_11, by decide +kernel⟩
theorem o_139_0 : pz_OK false rw_139 0 (op_iload 0 1) := ok_iload_n (k := 0) (by decide +kernel)
theorem o_139_1 : pz_OK false rw_139 1 (op_iload 1 2) := ok_iload_n (k := 1) (by decide +kernel)
theorem o_139_2 : pz_OK false rw_139 2 (op_icmp c_ge 9 5) := ok_icmp_ge (off := 7) (by decide +kernel) (by decide)
theorem o_139_5 : pz_OK false rw_139 5 (op_iload 0 6) := ok_iload_n (k := 0) (by decide +kernel)
theorem o_139_6 : pz_OK false rw_139 6 (op_goto 10) := ok_goto (off := 4) (by decide +kernel) (by decide)
theorem o_139_9 : pz_OK false rw_139 9 (op_iload 1 10) := ok_iload_n (k := 1) (by decide +kernel)
theorem o_139_10 : pz_OK false rw_139 10 (op_iret g_int) := ok_iret (by decide +kernel) rfl pz_g_int
set_option maxRecDepth 20000 in
theorem a_139 : pz_all false 138 rw_139 pg_139 := ⟨o_139_0, ⟨o_139_1, ⟨o_139_2, ⟨o_139_5, ⟨o_139_6, ⟨o_139_9, ⟨o_139_10, trivial⟩⟩⟩⟩⟩⟩⟩
theorem ro_140 : pz_rowOK rw_140 := ⟨by decide +kernel, wm_1336, wm_11, by decide +kernel⟩
theorem o_140_0 : pz_OK false rw_140 0 (op_iload 0 1) := ok_iload_n (k := 0) (by decide +kernel)
theorem o_140_1 : pz_OK false rw_140 1 (op_iload 1 2) := ok_iload_n (k := 1) (by decide +kernel)
theorem o_140_2 : pz_OK false rw_140 2 (op_icmp c_le 9 5) := ok_icmp_le (off := 7) (by decide +kernel) (by decide)
theorem o_140_5 : pz_OK false rw_140 5 (op_iload 0 6) := ok_iload_n (k := 0) (by decide +kernel)
theorem o_140_6 : pz_OK false rw_140 6 (op_goto 10) := ok_goto (off := 4) (by decide +kernel) (by decide)
theorem o_140_9 : pz_OK false rw_140 9 (op_iload 1 10) := ok_iload_n (k := 1) (by decide +kernel)
theorem o_140_10 : pz_OK false rw_140 10 (op_iret g_int) := ok_iret (by decide +kernel) rfl pz_g_int
set_option maxRecDepth 20000 in
theorem a_140 : pz_all false 138 rw_140 pg_140 := ⟨o_140_0, ⟨o_140_1, ⟨o_140_2, ⟨o_140_5, ⟨o_140_6, ⟨o_140_9, ⟨o_140_10, trivial⟩⟩⟩⟩⟩⟩⟩
theorem ro_141 : pz_rowOK rw_141 := ⟨by decide +kernel, wm_1467, wm_11, by decide +kernel⟩
theorem o_141_0 : pz_OK false rw_141 0 (op_iload 0 1) := ok_iload_n (k := 0) (by decide +kernel)
theorem o_141_1 : pz_OK false rw_141 1 (op_ifz c_ge 9 4) := ok_if_ge (off := 8) (by decide +kernel) (by decide)
theorem o_141_4 : pz_OK false rw_141 4 (op_iload 0 5) := ok_iload_n (k := 0) (by decide +kernel)
theorem o_141_5 : pz_OK false rw_141 5 (op_stk (sg_un f_neg) 6) := ok_ineg (by decide +kernel)
theorem o_141_6 : pz_OK false rw_141 6 (op_goto 10) := ok_goto (off := 4) (by decide +kernel) (by decide)
theorem o_141_9 : pz_OK false rw_141 9 (op_iload 0 10) := ok_iload_n (k := 0) (by decide +kernel)
theorem o_141_10 : pz_OK false rw_141 10 (op_iret g_int) := ok_iret (by decide +kernel) rfl pz_g_int
set_option maxRecDepth 20000 in
theorem a_141 : pz_all false 138 rw_141 pg_141 := ⟨o_141_0, ⟨o_141_1, ⟨o_141_4, ⟨o_141_5, ⟨o_141_6, ⟨o_141_9, ⟨o_141_10, trivial⟩⟩⟩⟩⟩⟩⟩
theorem ro_142 : pz_rowOK rw_142 := ⟨by decide +kernel, wm_1301, wm_11, by decide +kernel⟩
theorem o_142_0 : pz_OK false rw_142 0 (op_iload 0 1) := ok_iload_n (k := 0) (by decide +kernel)
theorem o_142_1 : pz_OK false rw_142 1 (op_iload 1 2) := ok_iload_n (k := 1) (by decide +kernel)
theorem o_142_2 : pz_OK false rw_142 2 (op_stk (sg_bin f_shr) 3) := ok_ishr (by decide +kernel)
theorem o_142_3 : pz_OK false rw_142 3 (op_stk (sg_const (1)) 4) := ok_iconst (by decide +kernel) (by unfold pz_in; decide)
theorem o_142_4 : pz_OK false rw_142 4 (op_stk (sg_bin f_and) 5) := ok_iand (by decide +kernel)
theorem o_142_5 : pz_OK false rw_142 5 (op_stk (sg_const (1)) 6) := ok_iconst (by decide +kernel) (by unfold pz_in; decide)
theorem o_142_6 : pz_OK false rw_142 6 (op_icmp c_ne 13 9) := ok_icmp_ne (off := 7) (by decide +kernel) (by decide)
theorem o_142_9 : pz_OK false rw_142 9 (op_stk (sg_const (1)) 10) := ok_iconst (by decide +kernel) (by unfold pz_in; decide)
theorem o_142_10 : pz_OK false rw_142 10 (op_goto 14) := ok_goto (off := 4) (by decide +kernel) (by decide)
theorem o_142_13 : pz_OK false rw_142 13 (op_stk (sg_const (0)) 14) := ok_iconst (by decide +kernel) (by unfold pz_in; decide)
theorem o_142_14 : pz_OK false rw_142 14 (op_iret g_bool) := ok_iret (by decide +kernel) rfl pz_g_bool
set_option maxRecDepth 20000 in
theorem a_142 : pz_all false 138 rw_142 pg_142 := ⟨o_142_0, ⟨o_142_1, ⟨o_142_2, ⟨o_142_3, ⟨o_142_4, ⟨o_142_5, ⟨o_142_6, ⟨o_142_9, ⟨o_142_10, ⟨o_142_13, ⟨o_142_14, trivial⟩⟩⟩⟩⟩⟩⟩⟩⟩⟩⟩
theorem ro_143 : pz_rowOK rw_143 := ⟨by decide +kernel, wm_1097, wm_11, by decide +kernel⟩
theorem o_143_0 : pz_OK false rw_143 0 (op_stk (sg_const (0)) 1) := ok_iconst (by decide +kernel) (by unfold pz_in; decide)
theorem o_143_1 : pz_OK false rw_143 1 (op_istore 1 2) := ok_istore_n (k := 1) (by decide +kernel)
theorem o_143_2 : pz_OK false rw_143 2 (op_stk (sg_const (0)) 3) := ok_iconst (by decide +kernel) (by unfold pz_in; decide)
theorem o_143_3 : pz_OK false rw_143 3 (op_istore 2 4) := ok_istore_n (k := 2) (by decide +kernel)
theorem o_143_4 : pz_OK false rw_143 4 (op_iload 2 5) := ok_iload_n (k := 2) (by decide +kernel)
theorem o_143_5 : pz_OK false rw_143 5 (op_stk (sg_const (24)) 7) := ok_bipush (by decide +kernel) (by unfold pz_in; decide) (by decide)
theorem o_143_7 : pz_OK false rw_143 7 (op_icmp c_ge 24 10) := ok_icmp_ge (off := 17) (by decide +kernel) (by decide)
theorem o_143_10 : pz_OK false rw_143 10 (op_iload 1 11) := ok_iload_n (k := 1) (by decide +kernel)
theorem o_143_11 : pz_OK false rw_143 11 (op_iload 0 12) := ok_iload_n (k := 0) (by decide +kernel)
theorem o_143_12 : pz_OK false rw_143 12 (op_iload 2 13) := ok_iload_n (k := 2) (by decide +kernel)
theorem o_143_13 : pz_OK false rw_143 13 (op_stk (sg_bin f_shr) 14) := ok_ishr (by decide +kernel)
theorem o_143_14 : pz_OK false rw_143 14 (op_stk (sg_const (1)) 15) := ok_iconst (by decide +kernel) (by unfold pz_in; decide)
theorem o_143_15 : pz_OK false rw_143 15 (op_stk (sg_bin f_and) 16) := ok_iand (by decide +kernel)
theorem o_143_16 : pz_OK false rw_143 16 (op_stk (sg_bin f_add) 17) := ok_iadd (by decide +kernel)
theorem o_143_17 : pz_OK false rw_143 17 (op_istore 1 18) := ok_istore_n (k := 1) (by decide +kernel)
theorem o_143_18 : pz_OK false rw_143 18 (op_iinc 2 (1) 21) := ok_iinc (by decide +kernel)
theorem o_143_21 : pz_OK false rw_143 21 (op_goto 4) := ok_goto (off := -17) (by decide +kernel) (by decide)
theorem o_143_24 : pz_OK false rw_143 24 (op_iload 1 25) := ok_iload_n (k := 1) (by decide +kernel)
theorem o_143_25 : pz_OK false rw_143 25 (op_iret g_int) := ok_iret (by decide +kernel) rfl pz_g_int
set_option maxRecDepth 20000 in
theorem a_143 : pz_all false 138 rw_143 pg_143 := ⟨o_143_0, ⟨o_143_1, ⟨o_143_2, ⟨o_143_3, ⟨o_143_4, ⟨o_143_5, ⟨o_143_7, ⟨o_143_10, ⟨o_143_11, ⟨o_143_12, ⟨o_143_13, ⟨o_143_14, ⟨o_143_15, ⟨o_143_16, ⟨o_143_17, ⟨o_143_18, ⟨o_143_21, ⟨o_143_24, ⟨o_143_25, trivial⟩⟩⟩⟩⟩⟩⟩⟩⟩⟩⟩⟩⟩⟩⟩⟩⟩⟩⟩
theorem ro_144 : pz_rowOK rw_144 := ⟨by decide +kernel, wm_1282, wm_11, by decide +kernel⟩
theorem o_144_0 : pz_OK false rw_144 0 (op_stk (sg_const (0)) 1) := ok_iconst (by decide +kernel) (by unfold pz_in; decide)
theorem o_144_1 : pz_OK false rw_144 1 (op_istore 2 2) := ok_istore_n (k := 2) (by decide +kernel)
theorem o_144_2 : pz_OK false rw_144 2 (op_iload 2 3) := ok_iload_n (k := 2) (by decide +kernel)
theorem o_144_3 : pz_OK false rw_144 3 (op_stk (sg_const (83)) 5) := ok_bipush (by decide +kernel) (by unfold pz_in; decide) (by decide)
theorem o_144_5 : pz_OK false rw_144 5 (op_icmp c_ge 20 8) := ok_icmp_ge (off := 15) (by decide +kernel) (by decide)
theorem o_144_8 : pz_OK false rw_144 8 (op_aload 1 9) := ok_aload_n (k := 1) (by decide +kernel)
theorem o_144_9 : pz_OK false rw_144 9 (op_iload 2 10) := ok_iload_n (k := 2) (by decide +kernel)
theorem o_144_10 : pz_OK false rw_144 10 (op_aload 0 11) := ok_aload_n (k := 0) (by decide +kernel)
theorem o_144_11 : pz_OK false rw_144 11 (op_iload 2 12) := ok_iload_n (k := 2) (by decide +kernel)
theorem o_144_12 : pz_OK false rw_144 12 (op_iald 21 13) := ok_iald (by decide +kernel) rfl (by decide)
theorem o_144_13 : pz_OK false rw_144 13 (op_iast 21 14) := ok_iast (by decide +kernel) rfl (by decide)
theorem o_144_14 : pz_OK false rw_144 14 (op_iinc 2 (1) 17) := ok_iinc (by decide +kernel)
theorem o_144_17 : pz_OK false rw_144 17 (op_goto 2) := ok_goto (off := -15) (by decide +kernel) (by decide)
theorem o_144_20 : pz_OK false rw_144 20 (op_ret) := ok_ret (by decide +kernel) rfl
set_option maxRecDepth 20000 in
theorem a_144 : pz_all false 138 rw_144 pg_144 := ⟨o_144_0, ⟨o_144_1, ⟨o_144_2, ⟨o_144_3, ⟨o_144_5, ⟨o_144_8, ⟨o_144_9, ⟨o_144_10, ⟨o_144_11, ⟨o_144_12, ⟨o_144_13, ⟨o_144_14, ⟨o_144_17, ⟨o_144_20, trivial⟩⟩⟩⟩⟩⟩⟩⟩⟩⟩⟩⟩⟩⟩
theorem ro_145 : pz_rowOK rw_145 := ⟨by decide +kernel, wm_1083, wm_11, by decide +kernel⟩
theorem o_145_0 : pz_OK false rw_145 0 (op_iload 1 1) := ok_iload_n (k := 1) (by decide +kernel)
theorem o_145_1 : pz_OK false rw_145 1 (op_stk (sg_const (0)) 2) := ok_iconst (by decide +kernel) (by unfold pz_in; decide)
theorem o_145_2 : pz_OK false rw_145 2 (op_aload 0 3) := ok_aload_n (k := 0) (by decide +kernel)
theorem o_145_3 : pz_OK false rw_145 3 (op_getI 11 6 6) := ok_getI cc_11 (by decide) rfl rfl (Or.inl wm_931) (by decide +kernel)
theorem o_145_6 : pz_OK false rw_145 6 (op_stk (sg_const (1)) 7) := ok_iconst (by decide +kernel) (by unfold pz_in; decide)
theorem o_145_7 : pz_OK false rw_145 7 (op_stk (sg_bin f_sub) 8) := ok_isub (by decide +kernel)
theorem k_145_8 : pz_callOK false rw_145 rw_138 8 3 0 := ⟨111, (Or.inl wm_1084), Or.inl ⟨(by decide +kernel), wm_1085, by unfold pz_np; decide +kernel⟩⟩
theorem o_145_11 : pz_OK false rw_145 11 (op_iret g_bool) := ok_iret (by decide +kernel) rfl pz_g_bool
set_option maxRecDepth 20000 in
theorem a_145 : pz_all false 138 rw_145 pg_145 := ⟨o_145_0, ⟨o_145_1, ⟨o_145_2, ⟨o_145_3, ⟨o_145_6, ⟨o_145_7, ⟨⟨rw_138, tq_138, rfl, k_145_8⟩, ⟨o_145_11, trivial⟩⟩⟩⟩⟩⟩⟩⟩
theorem ro_146 : pz_rowOK rw_146 := ⟨by decide +kernel, wm_1275, wm_11, by decide +kernel⟩
theorem o_146_0 : pz_OK false rw_146 0 (op_aload 0 1) := ok_aload_n (k := 0) (by decide +kernel)
theorem o_146_1 : pz_OK false rw_146 1 (op_iload 1 2) := ok_iload_n (k := 1) (by decide +kernel)
theorem k_146_2 : pz_callOK false rw_146 rw_145 2 2 12 := ⟨115, (Or.inl wm_1080), Or.inr ⟨(by decide +kernel), wm_1082, ws_35, by unfold pz_np; decide +kernel, by decide, Or.inl ⟨_, _, rfl, by decide, rfl⟩⟩⟩
theorem o_146_5 : pz_OK false rw_146 5 (op_ifz c_eq 24 8) := ok_if_eq (off := 19) (by decide +kernel) (by decide)
theorem o_146_8 : pz_OK false rw_146 8 (op_aload 0 9) := ok_aload_n (k := 0) (by decide +kernel)
theorem o_146_9 : pz_OK false rw_146 9 (op_getR 11 0 12) := ok_getR cc_11 (by decide) rfl rfl (Or.inl wm_925) (by decide +kernel)
theorem o_146_12 : pz_OK false rw_146 12 (op_stk (sg_const (0)) 13) := ok_iconst (by decide +kernel) (by unfold pz_in; decide)
theorem o_146_13 : pz_OK false rw_146 13 (op_iload 1 14) := ok_iload_n (k := 1) (by decide +kernel)
theorem o_146_14 : pz_OK false rw_146 14 (op_stk (sg_bin f_add) 15) := ok_iadd (by decide +kernel)
theorem o_146_15 : pz_OK false rw_146 15 (op_iald 21 16) := ok_iald (by decide +kernel) rfl (by decide)
theorem o_146_16 : pz_OK false rw_146 16 (op_stk (sg_const (2)) 17) := ok_iconst (by decide +kernel) (by unfold pz_in; decide)
theorem o_146_17 : pz_OK false rw_146 17 (op_icmp c_eq 24 20) := ok_icmp_eq (off := 7) (by decide +kernel) (by decide)
theorem o_146_20 : pz_OK false rw_146 20 (op_stk (sg_const (1)) 21) := ok_iconst (by decide +kernel) (by unfold pz_in; decide)
theorem o_146_21 : pz_OK false rw_146 21 (op_goto 25) := ok_goto (off := 4) (by decide +kernel) (by decide)
theorem o_146_24 : pz_OK false rw_146 24 (op_stk (sg_const (0)) 25) := ok_iconst (by decide +kernel) (by unfold pz_in; decide)
theorem o_146_25 : pz_OK false rw_146 25 (op_iret g_bool) := ok_iret (by decide +kernel) rfl pz_g_bool
set_option maxRecDepth 20000 in
theorem a_146 : pz_all false 138 rw_146 pg_146 := ⟨o_146_0, ⟨o_146_1, ⟨⟨rw_145, tq_145, rfl, k_146_2⟩, ⟨o_146_5, ⟨o_146_8, ⟨o_146_9, ⟨o_146_12, ⟨o_146_13, ⟨o_146_14, ⟨o_146_15, ⟨o_146_16, ⟨o_146_17, ⟨o_146_20, ⟨o_146_21, ⟨o_146_24, ⟨o_146_25, trivial⟩⟩⟩⟩⟩⟩⟩⟩⟩⟩⟩⟩⟩⟩⟩⟩
theorem ro_147 : pz_rowOK rw_147 := ⟨by decide +kernel, wm_1094, wm_11, by decide +kernel⟩
theorem o_147_0 : pz_OK false rw_147 0 (op_aload 0 1) := ok_aload_n (k := 0) (by decide +kernel)
theorem o_147_1 : pz_OK false rw_147 1 (op_iload 2 2) := ok_iload_n (k := 2) (by decide +kernel)
theorem k_147_2 : pz_callOK false rw_147 rw_145 2 2 12 := ⟨115, (Or.inl wm_1080), Or.inr ⟨(by decide +kernel), wm_1082, ws_35, by unfold pz_np; decide +kernel, by decide, Or.inl ⟨_, _, rfl, by decide, rfl⟩⟩⟩
theorem o_147_5 : pz_OK false rw_147 5 (op_ifz c_eq 37 8) := ok_if_eq (off := 32) (by decide +kernel) (by decide)
theorem o_147_8 : pz_OK false rw_147 8 (op_aload 0 9) := ok_aload_n (k := 0) (by decide +kernel)
theorem o_147_9 : pz_OK false rw_147 9 (op_getR 11 0 12) := ok_getR cc_11 (by decide) rfl rfl (Or.inl wm_925) (by decide +kernel)
theorem o_147_12 : pz_OK false rw_147 12 (op_stk (sg_const (0)) 13) := ok_iconst (by decide +kernel) (by unfold pz_in; decide)
theorem o_147_13 : pz_OK false rw_147 13 (op_iload 2 14) := ok_iload_n (k := 2) (by decide +kernel)
theorem o_147_14 : pz_OK false rw_147 14 (op_stk (sg_bin f_add) 15) := ok_iadd (by decide +kernel)
theorem o_147_15 : pz_OK false rw_147 15 (op_iald 21 16) := ok_iald (by decide +kernel) rfl (by decide)
theorem o_147_16 : pz_OK false rw_147 16 (op_stk (sg_const (1)) 17) := ok_iconst (by decide +kernel) (by unfold pz_in; decide)
theorem o_147_17 : pz_OK false rw_147 17 (op_icmp c_ne 37 20) := ok_icmp_ne (off := 20) (by decide +kernel) (by decide)
theorem o_147_20 : pz_OK false rw_147 20 (op_aload 0 21) := ok_aload_n (k := 0) (by decide +kernel)
theorem o_147_21 : pz_OK false rw_147 21 (op_getR 11 0 24) := ok_getR cc_11 (by decide) rfl rfl (Or.inl wm_925) (by decide +kernel)
theorem o_147_24 : pz_OK false rw_147 24 (op_stk (sg_const (24)) 26) := ok_bipush (by decide +kernel) (by unfold pz_in; decide) (by decide)
theorem o_147_26 : pz_OK false rw_147 26 (op_iload 2 27) := ok_iload_n (k := 2) (by decide +kernel)
theorem o_147_27 : pz_OK false rw_147 27 (op_stk (sg_bin f_add) 28) := ok_iadd (by decide +kernel)
theorem o_147_28 : pz_OK false rw_147 28 (op_iald 21 29) := ok_iald (by decide +kernel) rfl (by decide)
theorem o_147_29 : pz_OK false rw_147 29 (op_iload 1 30) := ok_iload_n (k := 1) (by decide +kernel)
theorem o_147_30 : pz_OK false rw_147 30 (op_icmp c_ne 37 33) := ok_icmp_ne (off := 7) (by decide +kernel) (by decide)
theorem o_147_33 : pz_OK false rw_147 33 (op_stk (sg_const (1)) 34) := ok_iconst (by decide +kernel) (by unfold pz_in; decide)
theorem o_147_34 : pz_OK false rw_147 34 (op_goto 38) := ok_goto (off := 4) (by decide +kernel) (by decide)
theorem o_147_37 : pz_OK false rw_147 37 (op_stk (sg_const (0)) 38) := ok_iconst (by decide +kernel) (by unfold pz_in; decide)
theorem o_147_38 : pz_OK false rw_147 38 (op_iret g_bool) := ok_iret (by decide +kernel) rfl pz_g_bool
set_option maxRecDepth 20000 in
theorem a_147 : pz_all false 138 rw_147 pg_147 := ⟨o_147_0, ⟨o_147_1, ⟨⟨rw_145, tq_145, rfl, k_147_2⟩, ⟨o_147_5, ⟨o_147_8, ⟨o_147_9, ⟨o_147_12, ⟨o_147_13, ⟨o_147_14, ⟨o_147_15, ⟨o_147_16, ⟨o_147_17, ⟨o_147_20, ⟨o_147_21, ⟨o_147_24, ⟨o_147_26, ⟨o_147_27, ⟨o_147_28, ⟨o_147_29, ⟨o_147_30, ⟨o_147_33, ⟨o_147_34, ⟨o_147_37, ⟨o_147_38, trivial⟩⟩⟩⟩⟩⟩⟩⟩⟩⟩⟩⟩⟩⟩⟩⟩⟩⟩⟩⟩⟩⟩⟩⟩
theorem ro_148 : pz_rowOK rw_148 := ⟨by decide +kernel, wm_1090, wm_11, by decide +kernel⟩
theorem o_148_0 : pz_OK false rw_148 0 (op_stk (sg_const (0)) 1) := ok_iconst (by decide +kernel) (by unfold pz_in; decide)
theorem o_148_1 : pz_OK false rw_148 1 (op_istore 2 2) := ok_istore_n (k := 2) (by decide +kernel)
theorem o_148_2 : pz_OK false rw_148 2 (op_stk (sg_const (0)) 3) := ok_iconst (by decide +kernel) (by unfold pz_in; decide)
theorem o_148_3 : pz_OK false rw_148 3 (op_istore 3 4) := ok_istore_n (k := 3) (by decide +kernel)
theorem o_148_4 : pz_OK false rw_148 4 (op_iload 3 5) := ok_iload_n (k := 3) (by decide +kernel)
theorem o_148_5 : pz_OK false rw_148 5 (op_aload 0 6) := ok_aload_n (k := 0) (by decide +kernel)
theorem o_148_6 : pz_OK false rw_148 6 (op_getI 11 6 9) := ok_getI cc_11 (by decide) rfl rfl (Or.inl wm_931) (by decide +kernel)
theorem o_148_9 : pz_OK false rw_148 9 (op_icmp c_ge 33 12) := ok_icmp_ge (off := 24) (by decide +kernel) (by decide)
theorem o_148_12 : pz_OK false rw_148 12 (op_aload 0 13) := ok_aload_n (k := 0) (by decide +kernel)
theorem o_148_13 : pz_OK false rw_148 13 (op_iload 1 14) := ok_iload_n (k := 1) (by decide +kernel)
theorem o_148_14 : pz_OK false rw_148 14 (op_iload 3 15) := ok_iload_n (k := 3) (by decide +kernel)
theorem k_148_15 : pz_callOK false rw_148 rw_147 15 3 12 := ⟨119, (Or.inl wm_1091), Or.inr ⟨(by decide +kernel), wm_1093, ws_37, by unfold pz_np; decide +kernel, by decide, Or.inl ⟨_, _, rfl, by decide, rfl⟩⟩⟩
theorem o_148_18 : pz_OK false rw_148 18 (op_ifz c_eq 27 21) := ok_if_eq (off := 9) (by decide +kernel) (by decide)
theorem o_148_21 : pz_OK false rw_148 21 (op_iload 2 22) := ok_iload_n (k := 2) (by decide +kernel)
theorem o_148_22 : pz_OK false rw_148 22 (op_stk (sg_const (1)) 23) := ok_iconst (by decide +kernel) (by unfold pz_in; decide)
theorem o_148_23 : pz_OK false rw_148 23 (op_iload 3 24) := ok_iload_n (k := 3) (by decide +kernel)
theorem o_148_24 : pz_OK false rw_148 24 (op_stk (sg_bin f_shl) 25) := ok_ishl (by decide +kernel)
theorem o_148_25 : pz_OK false rw_148 25 (op_stk (sg_bin f_or) 26) := ok_ior (by decide +kernel)
theorem o_148_26 : pz_OK false rw_148 26 (op_istore 2 27) := ok_istore_n (k := 2) (by decide +kernel)
theorem o_148_27 : pz_OK false rw_148 27 (op_iinc 3 (1) 30) := ok_iinc (by decide +kernel)
theorem o_148_30 : pz_OK false rw_148 30 (op_goto 4) := ok_goto (off := -26) (by decide +kernel) (by decide)
theorem o_148_33 : pz_OK false rw_148 33 (op_iload 2 34) := ok_iload_n (k := 2) (by decide +kernel)
theorem o_148_34 : pz_OK false rw_148 34 (op_iret g_int) := ok_iret (by decide +kernel) rfl pz_g_int
set_option maxRecDepth 20000 in
theorem a_148 : pz_all false 138 rw_148 pg_148 := ⟨o_148_0, ⟨o_148_1, ⟨o_148_2, ⟨o_148_3, ⟨o_148_4, ⟨o_148_5, ⟨o_148_6, ⟨o_148_9, ⟨o_148_12, ⟨o_148_13, ⟨o_148_14, ⟨⟨rw_147, tq_147, rfl, k_148_15⟩, ⟨o_148_18, ⟨o_148_21, ⟨o_148_22, ⟨o_148_23, ⟨o_148_24, ⟨o_148_25, ⟨o_148_26, ⟨o_148_27, ⟨o_148_30, ⟨o_148_33, ⟨o_148_34, trivial⟩⟩⟩⟩⟩⟩⟩⟩⟩⟩⟩⟩⟩⟩⟩⟩⟩⟩⟩⟩⟩⟩⟩
theorem ro_149 : pz_rowOK rw_149 := ⟨by decide +kernel, wm_1286, wm_11, by decide +kernel⟩
theorem o_149_0 : pz_OK false rw_149 0 (op_stk (sg_const (0)) 1) := ok_iconst (by decide +kernel) (by unfold pz_in; decide)
theorem o_149_1 : pz_OK false rw_149 1 (op_istore 2 2) := ok_istore_n (k := 2) (by decide +kernel)
theorem o_149_2 : pz_OK false rw_149 2 (op_stk (sg_const (0)) 3) := ok_iconst (by decide +kernel) (by unfold pz_in; decide)
theorem o_149_3 : pz_OK false rw_149 3 (op_istore 3 4) := ok_istore_n (k := 3) (by decide +kernel)
theorem o_149_4 : pz_OK false rw_149 4 (op_iload 3 5) := ok_iload_n (k := 3) (by decide +kernel)
theorem o_149_5 : pz_OK false rw_149 5 (op_aload 0 6) := ok_aload_n (k := 0) (by decide +kernel)
theorem o_149_6 : pz_OK false rw_149 6 (op_getI 11 6 9) := ok_getI cc_11 (by decide) rfl rfl (Or.inl wm_931) (by decide +kernel)
theorem o_149_9 : pz_OK false rw_149 9 (op_icmp c_ge 36 12) := ok_icmp_ge (off := 27) (by decide +kernel) (by decide)
theorem o_149_12 : pz_OK false rw_149 12 (op_aload 0 13) := ok_aload_n (k := 0) (by decide +kernel)
theorem o_149_13 : pz_OK false rw_149 13 (op_getR 11 0 16) := ok_getR cc_11 (by decide) rfl rfl (Or.inl wm_925) (by decide +kernel)
theorem o_149_16 : pz_OK false rw_149 16 (op_stk (sg_const (0)) 17) := ok_iconst (by decide +kernel) (by unfold pz_in; decide)
theorem o_149_17 : pz_OK false rw_149 17 (op_iload 3 18) := ok_iload_n (k := 3) (by decide +kernel)
theorem o_149_18 : pz_OK false rw_149 18 (op_stk (sg_bin f_add) 19) := ok_iadd (by decide +kernel)
theorem o_149_19 : pz_OK false rw_149 19 (op_iald 21 20) := ok_iald (by decide +kernel) rfl (by decide)
theorem o_149_20 : pz_OK false rw_149 20 (op_iload 1 21) := ok_iload_n (k := 1) (by decide +kernel)
theorem o_149_21 : pz_OK false rw_149 21 (op_icmp c_ne 30 24) := ok_icmp_ne (off := 9) (by decide +kernel) (by decide)
theorem o_149_24 : pz_OK false rw_149 24 (op_iload 2 25) := ok_iload_n (k := 2) (by decide +kernel)
theorem o_149_25 : pz_OK false rw_149 25 (op_stk (sg_const (1)) 26) := ok_iconst (by decide +kernel) (by unfold pz_in; decide)
theorem o_149_26 : pz_OK false rw_149 26 (op_iload 3 27) := ok_iload_n (k := 3) (by decide +kernel)
theorem o_149_27 : pz_OK false rw_149 27 (op_stk (sg_bin f_shl) 28) := ok_ishl (by decide +kernel)
theorem o_149_28 : pz_OK false rw_149 28 (op_stk (sg_bin f_or) 29) := ok_ior (by decide +kernel)
theorem o_149_29 : pz_OK false rw_149 29 (op_istore 2 30) := ok_istore_n (k := 2) (by decide +kernel)
theorem o_149_30 : pz_OK false rw_149 30 (op_iinc 3 (1) 33) := ok_iinc (by decide +kernel)
theorem o_149_33 : pz_OK false rw_149 33 (op_goto 4) := ok_goto (off := -29) (by decide +kernel) (by decide)
theorem o_149_36 : pz_OK false rw_149 36 (op_iload 2 37) := ok_iload_n (k := 2) (by decide +kernel)
theorem o_149_37 : pz_OK false rw_149 37 (op_iret g_int) := ok_iret (by decide +kernel) rfl pz_g_int
set_option maxRecDepth 20000 in
theorem a_149 : pz_all false 138 rw_149 pg_149 := ⟨o_149_0, ⟨o_149_1, ⟨o_149_2, ⟨o_149_3, ⟨o_149_4, ⟨o_149_5, ⟨o_149_6, ⟨o_149_9, ⟨o_149_12, ⟨o_149_13, ⟨o_149_16, ⟨o_149_17, ⟨o_149_18, ⟨o_149_19, ⟨o_149_20, ⟨o_149_21, ⟨o_149_24, ⟨o_149_25, ⟨o_149_26, ⟨o_149_27, ⟨o_149_28, ⟨o_149_29, ⟨o_149_30, ⟨o_149_33, ⟨o_149_36, ⟨o_149_37, trivial⟩⟩⟩⟩⟩⟩⟩⟩⟩⟩⟩⟩⟩⟩⟩⟩⟩⟩⟩⟩⟩⟩⟩⟩⟩⟩
theorem ro_150 : pz_rowOK rw_150 := ⟨by decide +kernel, wm_1101, wm_11, by decide +kernel⟩
theorem o_150_0 : pz_OK false rw_150 0 (op_aload 0 1) := ok_aload_n (k := 0) (by decide +kernel)
theorem o_150_1 : pz_OK false rw_150 1 (op_getR 11 0 4) := ok_getR cc_11 (by decide) rfl rfl (Or.inl wm_925) (by decide +kernel)
theorem o_150_4 : pz_OK false rw_150 4 (op_stk (sg_const (0)) 5) := ok_iconst (by decide +kernel) (by unfold pz_in; decide)
theorem o_150_5 : pz_OK false rw_150 5 (op_iload 1 6) := ok_iload_n (k := 1) (by decide +kernel)
theorem o_150_6 : pz_OK false rw_150 6 (op_stk (sg_bin f_add) 7) := ok_iadd (by decide +kernel)
theorem o_150_7 : pz_OK false rw_150 7 (op_stk (sg_const (1)) 8) := ok_iconst (by decide +kernel) (by unfold pz_in; decide)
theorem o_150_8 : pz_OK false rw_150 8 (op_iast 21 9) := ok_iast (by decide +kernel) rfl (by decide)
theorem o_150_9 : pz_OK false rw_150 9 (op_aload 0 10) := ok_aload_n (k := 0) (by decide +kernel)
theorem o_150_10 : pz_OK false rw_150 10 (op_getR 11 0 13) := ok_getR cc_11 (by decide) rfl rfl (Or.inl wm_925) (by decide +kernel)
theorem o_150_13 : pz_OK false rw_150 13 (op_stk (sg_const (24)) 15) := ok_bipush (by decide +kernel) (by unfold pz_in; decide) (by decide)
theorem o_150_15 : pz_OK false rw_150 15 (op_iload 1 16) := ok_iload_n (k := 1) (by decide +kernel)
theorem o_150_16 : pz_OK false rw_150 16 (op_stk (sg_bin f_add) 17) := ok_iadd (by decide +kernel)
theorem o_150_17 : pz_OK false rw_150 17 (op_iload 2 18) := ok_iload_n (k := 2) (by decide +kernel)
theorem o_150_18 : pz_OK false rw_150 18 (op_iast 21 19) := ok_iast (by decide +kernel) rfl (by decide)
theorem o_150_19 : pz_OK false rw_150 19 (op_ret) := ok_ret (by decide +kernel) rfl
set_option maxRecDepth 20000 in
theorem a_150 : pz_all false 138 rw_150 pg_150 := ⟨o_150_0, ⟨o_150_1, ⟨o_150_4, ⟨o_150_5, ⟨o_150_6, ⟨o_150_7, ⟨o_150_8, ⟨o_150_9, ⟨o_150_10, ⟨o_150_13, ⟨o_150_15, ⟨o_150_16, ⟨o_150_17, ⟨o_150_18, ⟨o_150_19, trivial⟩⟩⟩⟩⟩⟩⟩⟩⟩⟩⟩⟩⟩⟩⟩
theorem ro_151 : pz_rowOK rw_151 := ⟨by decide +kernel, wm_1079, wm_11, by decide +kernel⟩
theorem o_151_0 : pz_OK false rw_151 0 (op_aload 0 1) := ok_aload_n (k := 0) (by decide +kernel)
theorem o_151_1 : pz_OK false rw_151 1 (op_iload 1 2) := ok_iload_n (k := 1) (by decide +kernel)
theorem k_151_2 : pz_callOK false rw_151 rw_145 2 2 12 := ⟨115, (Or.inl wm_1080), Or.inr ⟨(by decide +kernel), wm_1082, ws_35, by unfold pz_np; decide +kernel, by decide, Or.inl ⟨_, _, rfl, by decide, rfl⟩⟩⟩
theorem o_151_5 : pz_OK false rw_151 5 (op_ifz c_eq 31 8) := ok_if_eq (off := 26) (by decide +kernel) (by decide)
theorem o_151_8 : pz_OK false rw_151 8 (op_iload 2 9) := ok_iload_n (k := 2) (by decide +kernel)
theorem o_151_9 : pz_OK false rw_151 9 (op_stk (sg_const (0)) 10) := ok_iconst (by decide +kernel) (by unfold pz_in; decide)
theorem o_151_10 : pz_OK false rw_151 10 (op_stk (sg_const (8)) 12) := ok_bipush (by decide +kernel) (by unfold pz_in; decide) (by decide)
theorem k_151_12 : pz_callOK false rw_151 rw_138 12 3 0 := ⟨111, (Or.inl wm_1084), Or.inl ⟨(by decide +kernel), wm_1085, by unfold pz_np; decide +kernel⟩⟩
theorem o_151_15 : pz_OK false rw_151 15 (op_ifz c_eq 31 18) := ok_if_eq (off := 16) (by decide +kernel) (by decide)
theorem o_151_18 : pz_OK false rw_151 18 (op_aload 0 19) := ok_aload_n (k := 0) (by decide +kernel)
theorem o_151_19 : pz_OK false rw_151 19 (op_iload 2 20) := ok_iload_n (k := 2) (by decide +kernel)
theorem k_151_20 : pz_callOK false rw_151 rw_148 20 2 12 := ⟨123, (Or.inl wm_1087), Or.inr ⟨(by decide +kernel), wm_1089, ws_36, by unfold pz_np; decide +kernel, by decide, Or.inl ⟨_, _, rfl, by decide, rfl⟩⟩⟩
theorem k_151_23 : pz_callOK false rw_151 rw_143 23 1 0 := ⟨127, (Or.inl wm_1095), Or.inl ⟨(by decide +kernel), wm_1096, by unfold pz_np; decide +kernel⟩⟩
theorem o_151_26 : pz_OK false rw_151 26 (op_stk (sg_const (12)) 28) := ok_bipush (by decide +kernel) (by unfold pz_in; decide) (by decide)
theorem o_151_28 : pz_OK false rw_151 28 (op_icmp c_lt 33 31) := ok_icmp_lt (off := 5) (by decide +kernel) (by decide)
theorem o_151_31 : pz_OK false rw_151 31 (op_stk (sg_const (0)) 32) := ok_iconst (by decide +kernel) (by unfold pz_in; decide)
theorem o_151_32 : pz_OK false rw_151 32 (op_iret g_bool) := ok_iret (by decide +kernel) rfl pz_g_bool
theorem o_151_33 : pz_OK false rw_151 33 (op_aload 0 34) := ok_aload_n (k := 0) (by decide +kernel)
theorem o_151_34 : pz_OK false rw_151 34 (op_iload 1 35) := ok_iload_n (k := 1) (by decide +kernel)
theorem o_151_35 : pz_OK false rw_151 35 (op_iload 2 36) := ok_iload_n (k := 2) (by decide +kernel)
theorem k_151_36 : pz_callOK false rw_151 rw_150 36 3 12 := ⟨130, (Or.inl wm_1098), Or.inr ⟨(by decide +kernel), wm_1100, ws_38, by unfold pz_np; decide +kernel, by decide, Or.inl ⟨_, _, rfl, by decide, rfl⟩⟩⟩
theorem o_151_39 : pz_OK false rw_151 39 (op_stk (sg_const (1)) 40) := ok_iconst (by decide +kernel) (by unfold pz_in; decide)
theorem o_151_40 : pz_OK false rw_151 40 (op_iret g_bool) := ok_iret (by decide +kernel) rfl pz_g_bool
set_option maxRecDepth 20000 in
theorem a_151 : pz_all false 138 rw_151 pg_151 := ⟨o_151_0, ⟨o_151_1, ⟨⟨rw_145, tq_145, rfl, k_151_2⟩, ⟨o_151_5, ⟨o_151_8, ⟨o_151_9, ⟨o_151_10, ⟨⟨rw_138, tq_138, rfl, k_151_12⟩, ⟨o_151_15, ⟨o_151_18, ⟨o_151_19, ⟨⟨rw_148, tq_148, rfl, k_151_20⟩, ⟨⟨rw_143, tq_143, rfl, k_151_23⟩, ⟨o_151_26, ⟨o_151_28, ⟨o_151_31, ⟨o_151_32, ⟨o_151_33, ⟨o_151_34, ⟨o_151_35, ⟨⟨rw_150, tq_150, rfl, k_151_36⟩, ⟨o_151_39, ⟨o_151_40, trivial⟩⟩⟩⟩⟩⟩⟩⟩⟩⟩⟩⟩⟩⟩⟩⟩⟩⟩⟩⟩⟩⟩⟩
theorem ro_152 : pz_rowOK rw_152 := ⟨by decide +kernel, wm_1109, wm_11, by decide +kernel⟩
theorem o_152_0 : pz_OK false rw_152 0 (op_stk (sg_const (3)) 1) := ok_iconst (by decide +kernel) (by unfold pz_in; decide)
theorem o_152_1 : pz_OK false rw_152 1 (op_istore 2 2) := ok_istore_n (k := 2) (by decide +kernel)
theorem o_152_2 : pz_OK false rw_152 2 (op_iload 2 3) := ok_iload_n (k := 2) (by decide +kernel)
theorem o_152_3 : pz_OK false rw_152 3 (op_ifz c_lt 38 6) := ok_if_lt (off := 35) (by decide +kernel) (by decide)
theorem o_152_6 : pz_OK false rw_152 6 (op_aload 0 7) := ok_aload_n (k := 0) (by decide +kernel)
theorem o_152_7 : pz_OK false rw_152 7 (op_getR 11 7 10) := ok_getR cc_11 (by decide) rfl rfl (Or.inl wm_932) (by decide +kernel)
theorem o_152_10 : pz_OK false rw_152 10 (op_aload 0 11) := ok_aload_n (k := 0) (by decide +kernel)
theorem o_152_11 : pz_OK false rw_152 11 (op_getI 11 8 14) := ok_getI cc_11 (by decide) rfl rfl (Or.inl wm_933) (by decide +kernel)
theorem o_152_14 : pz_OK false rw_152 14 (op_iload 1 15) := ok_iload_n (k := 1) (by decide +kernel)
theorem o_152_15 : pz_OK false rw_152 15 (op_stk (sg_const (8)) 17) := ok_bipush (by decide +kernel) (by unfold pz_in; decide) (by decide)
theorem o_152_17 : pz_OK false rw_152 17 (op_iload 2 18) := ok_iload_n (k := 2) (by decide +kernel)
theorem o_152_18 : pz_OK false rw_152 18 (op_stk (sg_bin f_mul) 19) := ok_imul (by decide +kernel)
theorem o_152_19 : pz_OK false rw_152 19 (op_stk (sg_bin f_shr) 20) := ok_ishr (by decide +kernel)
theorem o_152_20 : pz_OK false rw_152 20 (op_stk (sg_un f_i2b) 21) := ok_i2b (by decide +kernel)
theorem o_152_21 : pz_OK false rw_152 21 (op_bast 22 22) := ok_bast (by decide +kernel) rfl
theorem o_152_22 : pz_OK false rw_152 22 (op_aload 0 23) := ok_aload_n (k := 0) (by decide +kernel)
theorem o_152_23 : pz_OK false rw_152 23 (op_aload 0 24) := ok_aload_n (k := 0) (by decide +kernel)
theorem o_152_24 : pz_OK false rw_152 24 (op_getI 11 8 27) := ok_getI cc_11 (by decide) rfl rfl (Or.inl wm_933) (by decide +kernel)
theorem o_152_27 : pz_OK false rw_152 27 (op_stk (sg_const (1)) 28) := ok_iconst (by decide +kernel) (by unfold pz_in; decide)
theorem o_152_28 : pz_OK false rw_152 28 (op_stk (sg_bin f_add) 29) := ok_iadd (by decide +kernel)
theorem o_152_29 : pz_OK false rw_152 29 (op_putI false 11 8 32) := ok_putI cc_11 (by decide) rfl rfl (Or.inl wm_933) rfl (by decide +kernel) (by decide +kernel)
theorem o_152_32 : pz_OK false rw_152 32 (op_iinc 2 (-1) 35) := ok_iinc (by decide +kernel)
theorem o_152_35 : pz_OK false rw_152 35 (op_goto 2) := ok_goto (off := -33) (by decide +kernel) (by decide)
theorem o_152_38 : pz_OK false rw_152 38 (op_ret) := ok_ret (by decide +kernel) rfl
set_option maxRecDepth 20000 in
theorem a_152 : pz_all false 138 rw_152 pg_152 := ⟨o_152_0, ⟨o_152_1, ⟨o_152_2, ⟨o_152_3, ⟨o_152_6, ⟨o_152_7, ⟨o_152_10, ⟨o_152_11, ⟨o_152_14, ⟨o_152_15, ⟨o_152_17, ⟨o_152_18, ⟨o_152_19, ⟨o_152_20, ⟨o_152_21, ⟨o_152_22, ⟨o_152_23, ⟨o_152_24, ⟨o_152_27, ⟨o_152_28, ⟨o_152_29, ⟨o_152_32, ⟨o_152_35, ⟨o_152_38, trivial⟩⟩⟩⟩⟩⟩⟩⟩⟩⟩⟩⟩⟩⟩⟩⟩⟩⟩⟩⟩⟩⟩⟩⟩
theorem ro_153 : pz_rowOK rw_153 := ⟨by decide +kernel, wm_1105, wm_11, by decide +kernel⟩
theorem o_153_0 : pz_OK false rw_153 0 (op_aload 0 1) := ok_aload_n (k := 0) (by decide +kernel)
theorem o_153_1 : pz_OK false rw_153 1 (op_getI 11 8 4) := ok_getI cc_11 (by decide) rfl rfl (Or.inl wm_933) (by decide +kernel)
theorem o_153_4 : pz_OK false rw_153 4 (op_stk (sg_const (20)) 6) := ok_bipush (by decide +kernel) (by unfold pz_in; decide) (by decide)
theorem o_153_6 : pz_OK false rw_153 6 (op_stk (sg_bin f_add) 7) := ok_iadd (by decide +kernel)
theorem o_153_7 : pz_OK false rw_153 7 (op_stk (sg_const (260)) 10) := ok_sipush (by decide +kernel) (by unfold pz_in; decide) (by decide)
theorem o_153_10 : pz_OK false rw_153 10 (op_icmp c_le 15 13) := ok_icmp_le (off := 5) (by decide +kernel) (by decide)
theorem o_153_13 : pz_OK false rw_153 13 (op_stk (sg_const (-1)) 14) := ok_iconst (by decide +kernel) (by unfold pz_in; decide)
theorem o_153_14 : pz_OK false rw_153 14 (op_iret g_int) := ok_iret (by decide +kernel) rfl pz_g_int
theorem o_153_15 : pz_OK false rw_153 15 (op_aload 0 16) := ok_aload_n (k := 0) (by decide +kernel)
theorem o_153_16 : pz_OK false rw_153 16 (op_iload 1 17) := ok_iload_n (k := 1) (by decide +kernel)
theorem k_153_17 : pz_callOK false rw_153 rw_152 17 2 12 := ⟨137, (Or.inl wm_1106), Or.inr ⟨(by decide +kernel), wm_1108, ws_39, by unfold pz_np; decide +kernel, by decide, Or.inl ⟨_, _, rfl, by decide, rfl⟩⟩⟩
theorem o_153_20 : pz_OK false rw_153 20 (op_aload 0 21) := ok_aload_n (k := 0) (by decide +kernel)
theorem o_153_21 : pz_OK false rw_153 21 (op_iload 2 22) := ok_iload_n (k := 2) (by decide +kernel)
theorem k_153_22 : pz_callOK false rw_153 rw_152 22 2 12 := ⟨137, (Or.inl wm_1106), Or.inr ⟨(by decide +kernel), wm_1108, ws_39, by unfold pz_np; decide +kernel, by decide, Or.inl ⟨_, _, rfl, by decide, rfl⟩⟩⟩
theorem o_153_25 : pz_OK false rw_153 25 (op_aload 0 26) := ok_aload_n (k := 0) (by decide +kernel)
theorem o_153_26 : pz_OK false rw_153 26 (op_iload 3 27) := ok_iload_n (k := 3) (by decide +kernel)
theorem k_153_27 : pz_callOK false rw_153 rw_152 27 2 12 := ⟨137, (Or.inl wm_1106), Or.inr ⟨(by decide +kernel), wm_1108, ws_39, by unfold pz_np; decide +kernel, by decide, Or.inl ⟨_, _, rfl, by decide, rfl⟩⟩⟩
theorem o_153_30 : pz_OK false rw_153 30 (op_aload 0 31) := ok_aload_n (k := 0) (by decide +kernel)
theorem o_153_31 : pz_OK false rw_153 31 (op_iload 4 33) := ok_iload (by decide +kernel)
theorem k_153_33 : pz_callOK false rw_153 rw_152 33 2 12 := ⟨137, (Or.inl wm_1106), Or.inr ⟨(by decide +kernel), wm_1108, ws_39, by unfold pz_np; decide +kernel, by decide, Or.inl ⟨_, _, rfl, by decide, rfl⟩⟩⟩
theorem o_153_36 : pz_OK false rw_153 36 (op_aload 0 37) := ok_aload_n (k := 0) (by decide +kernel)
theorem o_153_37 : pz_OK false rw_153 37 (op_iload 5 39) := ok_iload (by decide +kernel)
theorem k_153_39 : pz_callOK false rw_153 rw_152 39 2 12 := ⟨137, (Or.inl wm_1106), Or.inr ⟨(by decide +kernel), wm_1108, ws_39, by unfold pz_np; decide +kernel, by decide, Or.inl ⟨_, _, rfl, by decide, rfl⟩⟩⟩
theorem o_153_42 : pz_OK false rw_153 42 (op_aload 0 43) := ok_aload_n (k := 0) (by decide +kernel)
theorem o_153_43 : pz_OK false rw_153 43 (op_getI 11 8 46) := ok_getI cc_11 (by decide) rfl rfl (Or.inl wm_933) (by decide +kernel)
theorem o_153_46 : pz_OK false rw_153 46 (op_iret g_int) := ok_iret (by decide +kernel) rfl pz_g_int
set_option maxRecDepth 20000 in
theorem a_153 : pz_all false 138 rw_153 pg_153 := ⟨o_153_0, ⟨o_153_1, ⟨o_153_4, ⟨o_153_6, ⟨o_153_7, ⟨o_153_10, ⟨o_153_13, ⟨o_153_14, ⟨o_153_15, ⟨o_153_16, ⟨⟨rw_152, tq_152, rfl, k_153_17⟩, ⟨o_153_20, ⟨o_153_21, ⟨⟨rw_152, tq_152, rfl, k_153_22⟩, ⟨o_153_25, ⟨o_153_26, ⟨⟨rw_152, tq_152, rfl, k_153_27⟩, ⟨o_153_30, ⟨o_153_31, ⟨⟨rw_152, tq_152, rfl, k_153_33⟩, ⟨o_153_36, ⟨o_153_37, ⟨⟨rw_152, tq_152, rfl, k_153_39⟩, ⟨o_153_42, ⟨o_153_43, ⟨o_153_46, trivial⟩⟩⟩⟩⟩⟩⟩⟩⟩⟩⟩⟩⟩⟩⟩⟩⟩⟩⟩⟩⟩⟩⟩⟩⟩⟩
theorem ro_154 : pz_rowOK rw_154 := ⟨by decide +kernel, wm_1408, wm_11, by decide +kernel⟩
theorem o_154_0 : pz_OK false rw_154 0 (op_aload 0 1) := ok_aload_n (k := 0) (by decide +kernel)
theorem o_154_1 : pz_OK false rw_154 1 (op_getR 11 7 4) := ok_getR cc_11 (by decide) rfl rfl (Or.inl wm_932) (by decide +kernel)
theorem o_154_4 : pz_OK false rw_154 4 (op_iload 1 5) := ok_iload_n (k := 1) (by decide +kernel)
theorem o_154_5 : pz_OK false rw_154 5 (op_iald 22 6) := ok_bald (by decide +kernel) rfl
theorem o_154_6 : pz_OK false rw_154 6 (op_stk (sg_const (255)) 9) := ok_sipush (by decide +kernel) (by unfold pz_in; decide) (by decide)
theorem o_154_9 : pz_OK false rw_154 9 (op_stk (sg_bin f_and) 10) := ok_iand (by decide +kernel)
theorem o_154_10 : pz_OK false rw_154 10 (op_iret g_int) := ok_iret (by decide +kernel) rfl pz_g_int
set_option maxRecDepth 20000 in
theorem a_154 : pz_all false 138 rw_154 pg_154 := ⟨o_154_0, ⟨o_154_1, ⟨o_154_4, ⟨o_154_5, ⟨o_154_6, ⟨o_154_9, ⟨o_154_10, trivial⟩⟩⟩⟩⟩⟩⟩
theorem ro_155 : pz_rowOK rw_155 := ⟨by decide +kernel, wm_1125, wm_11, by decide +kernel⟩
theorem o_155_0 : pz_OK false rw_155 0 (op_aload 0 1) := ok_aload_n (k := 0) (by decide +kernel)
theorem o_155_1 : pz_OK false rw_155 1 (op_getI 11 9 4) := ok_getI cc_11 (by decide) rfl rfl (Or.inl wm_934) (by decide +kernel)
theorem o_155_4 : pz_OK false rw_155 4 (op_aload 0 5) := ok_aload_n (k := 0) (by decide +kernel)
theorem o_155_5 : pz_OK false rw_155 5 (op_getI 11 10 8) := ok_getI cc_11 (by decide) rfl rfl (Or.inl wm_935) (by decide +kernel)
theorem o_155_8 : pz_OK false rw_155 8 (op_icmp c_ge 27 11) := ok_icmp_ge (off := 19) (by decide +kernel) (by decide)
theorem o_155_11 : pz_OK false rw_155 11 (op_aload 0 12) := ok_aload_n (k := 0) (by decide +kernel)
theorem o_155_12 : pz_OK false rw_155 12 (op_getR 11 7 15) := ok_getR cc_11 (by decide) rfl rfl (Or.inl wm_932) (by decide +kernel)
theorem o_155_15 : pz_OK false rw_155 15 (op_aload 0 16) := ok_aload_n (k := 0) (by decide +kernel)
theorem o_155_16 : pz_OK false rw_155 16 (op_getI 11 9 19) := ok_getI cc_11 (by decide) rfl rfl (Or.inl wm_934) (by decide +kernel)
theorem o_155_19 : pz_OK false rw_155 19 (op_iald 22 20) := ok_bald (by decide +kernel) rfl
theorem o_155_20 : pz_OK false rw_155 20 (op_stk (sg_const (255)) 23) := ok_sipush (by decide +kernel) (by unfold pz_in; decide) (by decide)
theorem o_155_23 : pz_OK false rw_155 23 (op_stk (sg_bin f_and) 24) := ok_iand (by decide +kernel)
theorem o_155_24 : pz_OK false rw_155 24 (op_goto 28) := ok_goto (off := 4) (by decide +kernel) (by decide)
theorem o_155_27 : pz_OK false rw_155 27 (op_stk (sg_const (-1)) 28) := ok_iconst (by decide +kernel) (by unfold pz_in; decide)
theorem o_155_28 : pz_OK false rw_155 28 (op_iret g_int) := ok_iret (by decide +kernel) rfl pz_g_int
set_option maxRecDepth 20000 in
theorem a_155 : pz_all false 138 rw_155 pg_155 := ⟨o_155_0, ⟨o_155_1, ⟨o_155_4, ⟨o_155_5, ⟨o_155_8, ⟨o_155_11, ⟨o_155_12, ⟨o_155_15, ⟨o_155_16, ⟨o_155_19, ⟨o_155_20, ⟨o_155_23, ⟨o_155_24, ⟨o_155_27, ⟨o_155_28, trivial⟩⟩⟩⟩⟩⟩⟩⟩⟩⟩⟩⟩⟩⟩⟩
theorem ro_156 : pz_rowOK rw_156 := ⟨by decide +kernel, wm_1146, wm_11, by decide +kernel⟩
theorem o_156_0 : pz_OK false rw_156 0 (op_aload 0 1) := ok_aload_n (k := 0) (by decide +kernel)
theorem k_156_1 : pz_callOK false rw_156 rw_155 1 1 12 := ⟨147, (Or.inl wm_1122), Or.inr ⟨(by decide +kernel), wm_1124, ws_42, by unfold pz_np; decide +kernel, by decide, Or.inl ⟨_, _, rfl, by decide, rfl⟩⟩⟩
theorem o_156_4 : pz_OK false rw_156 4 (op_stk (sg_const (48)) 6) := ok_bipush (by decide +kernel) (by unfold pz_in; decide) (by decide)
theorem o_156_6 : pz_OK false rw_156 6 (op_icmp c_lt 22 9) := ok_icmp_lt (off := 16) (by decide +kernel) (by decide)
theorem o_156_9 : pz_OK false rw_156 9 (op_aload 0 10) := ok_aload_n (k := 0) (by decide +kernel)
theorem k_156_10 : pz_callOK false rw_156 rw_155 10 1 12 := ⟨147, (Or.inl wm_1122), Or.inr ⟨(by decide +kernel), wm_1124, ws_42, by unfold pz_np; decide +kernel, by decide, Or.inl ⟨_, _, rfl, by decide, rfl⟩⟩⟩
theorem o_156_13 : pz_OK false rw_156 13 (op_stk (sg_const (57)) 15) := ok_bipush (by decide +kernel) (by unfold pz_in; decide) (by decide)
theorem o_156_15 : pz_OK false rw_156 15 (op_icmp c_gt 22 18) := ok_icmp_gt (off := 7) (by decide +kernel) (by decide)
theorem o_156_18 : pz_OK false rw_156 18 (op_stk (sg_const (1)) 19) := ok_iconst (by decide +kernel) (by unfold pz_in; decide)
theorem o_156_19 : pz_OK false rw_156 19 (op_goto 23) := ok_goto (off := 4) (by decide +kernel) (by decide)
theorem o_156_22 : pz_OK false rw_156 22 (op_stk (sg_const (0)) 23) := ok_iconst (by decide +kernel) (by unfold pz_in; decide)
theorem o_156_23 : pz_OK false rw_156 23 (op_iret g_bool) := ok_iret (by decide +kernel) rfl pz_g_bool
set_option maxRecDepth 20000 in
theorem a_156 : pz_all false 138 rw_156 pg_156 := ⟨o_156_0, ⟨⟨rw_155, tq_155, rfl, k_156_1⟩, ⟨o_156_4, ⟨o_156_6, ⟨o_156_9, ⟨⟨rw_155, tq_155, rfl, k_156_10⟩, ⟨o_156_13, ⟨o_156_15, ⟨o_156_18, ⟨o_156_19, ⟨o_156_22, ⟨o_156_23, trivial⟩⟩⟩⟩⟩⟩⟩⟩⟩⟩⟩⟩
theorem ro_157 : pz_rowOK rw_157 := ⟨by decide +kernel, wm_1129, wm_11, by decide +kernel⟩
theorem o_157_0 : pz_OK false rw_157 0 (op_aload 0 1) := ok_aload_n (k := 0) (by decide +kernel)
theorem o_157_1 : pz_OK false rw_157 1 (op_stk (sg_const (-1000)) 4) := ok_sipush (by decide +kernel) (by unfold pz_in; decide) (by decide)
theorem o_157_4 : pz_OK false rw_157 4 (op_iload 1 5) := ok_iload_n (k := 1) (by decide +kernel)
theorem o_157_5 : pz_OK false rw_157 5 (op_stk (sg_bin f_mul) 6) := ok_imul (by decide +kernel)
theorem o_157_6 : pz_OK false rw_157 6 (op_iload 2 7) := ok_iload_n (k := 2) (by decide +kernel)
theorem o_157_7 : pz_OK false rw_157 7 (op_stk (sg_bin f_sub) 8) := ok_isub (by decide +kernel)
theorem o_157_8 : pz_OK false rw_157 8 (op_putI false 11 11 11) := ok_putI cc_11 (by decide) rfl rfl (Or.inl wm_936) rfl (by decide +kernel) (by decide +kernel)
theorem o_157_11 : pz_OK false rw_157 11 (op_stk (sg_const (0)) 12) := ok_iconst (by decide +kernel) (by unfold pz_in; decide)
theorem o_157_12 : pz_OK false rw_157 12 (op_iret g_bool) := ok_iret (by decide +kernel) rfl pz_g_bool
set_option maxRecDepth 20000 in
theorem a_157 : pz_all false 138 rw_157 pg_157 := ⟨o_157_0, ⟨o_157_1, ⟨o_157_4, ⟨o_157_5, ⟨o_157_6, ⟨o_157_7, ⟨o_157_8, ⟨o_157_11, ⟨o_157_12, trivial⟩⟩⟩⟩⟩⟩⟩⟩⟩
theorem ro_158 : pz_rowOK rw_158 := ⟨by decide +kernel, wm_1196, wm_11, by decide +kernel⟩
theorem o_158_0 : pz_OK false rw_158 0 (op_aload 0 1) := ok_aload_n (k := 0) (by decide +kernel)
theorem k_158_1 : pz_callOK false rw_158 rw_155 1 1 12 := ⟨147, (Or.inl wm_1122), Or.inr ⟨(by decide +kernel), wm_1124, ws_42, by unfold pz_np; decide +kernel, by decide, Or.inl ⟨_, _, rfl, by decide, rfl⟩⟩⟩
theorem o_158_4 : pz_OK false rw_158 4 (op_iload 1 5) := ok_iload_n (k := 1) (by decide +kernel)
theorem o_158_5 : pz_OK false rw_158 5 (op_icmp c_eq 18 8) := ok_icmp_eq (off := 13) (by decide +kernel) (by decide)
theorem o_158_8 : pz_OK false rw_158 8 (op_aload 0 9) := ok_aload_n (k := 0) (by decide +kernel)
theorem o_158_9 : pz_OK false rw_158 9 (op_stk (sg_const (1)) 10) := ok_iconst (by decide +kernel) (by unfold pz_in; decide)
theorem o_158_10 : pz_OK false rw_158 10 (op_aload 0 11) := ok_aload_n (k := 0) (by decide +kernel)
theorem o_158_11 : pz_OK false rw_158 11 (op_getI 11 9 14) := ok_getI cc_11 (by decide) rfl rfl (Or.inl wm_934) (by decide +kernel)
theorem k_158_14 : pz_callOK false rw_158 rw_157 14 3 12 := ⟨154, (Or.inl wm_1126), Or.inr ⟨(by decide +kernel), wm_1128, ws_43, by unfold pz_np; decide +kernel, by decide, Or.inl ⟨_, _, rfl, by decide, rfl⟩⟩⟩
theorem o_158_17 : pz_OK false rw_158 17 (op_iret g_bool) := ok_iret (by decide +kernel) rfl pz_g_bool
theorem o_158_18 : pz_OK false rw_158 18 (op_aload 0 19) := ok_aload_n (k := 0) (by decide +kernel)
theorem o_158_19 : pz_OK false rw_158 19 (op_aload 0 20) := ok_aload_n (k := 0) (by decide +kernel)
theorem o_158_20 : pz_OK false rw_158 20 (op_getI 11 9 23) := ok_getI cc_11 (by decide) rfl rfl (Or.inl wm_934) (by decide +kernel)
theorem o_158_23 : pz_OK false rw_158 23 (op_stk (sg_const (1)) 24) := ok_iconst (by decide +kernel) (by unfold pz_in; decide)
theorem o_158_24 : pz_OK false rw_158 24 (op_stk (sg_bin f_add) 25) := ok_iadd (by decide +kernel)
theorem o_158_25 : pz_OK false rw_158 25 (op_putI false 11 9 28) := ok_putI cc_11 (by decide) rfl rfl (Or.inl wm_934) rfl (by decide +kernel) (by decide +kernel)
theorem o_158_28 : pz_OK false rw_158 28 (op_stk (sg_const (1)) 29) := ok_iconst (by decide +kernel) (by unfold pz_in; decide)
theorem o_158_29 : pz_OK false rw_158 29 (op_iret g_bool) := ok_iret (by decide +kernel) rfl pz_g_bool
set_option maxRecDepth 20000 in
theorem a_158 : pz_all false 138 rw_158 pg_158 := ⟨o_158_0, ⟨⟨rw_155, tq_155, rfl, k_158_1⟩, ⟨o_158_4, ⟨o_158_5, ⟨o_158_8, ⟨o_158_9, ⟨o_158_10, ⟨o_158_11, ⟨⟨rw_157, tq_157, rfl, k_158_14⟩, ⟨o_158_17, ⟨o_158_18, ⟨o_158_19, ⟨o_158_20, ⟨o_158_23, ⟨o_158_24, ⟨o_158_25, ⟨o_158_28, ⟨o_158_29, trivial⟩⟩⟩⟩⟩⟩⟩⟩⟩⟩⟩⟩⟩⟩⟩⟩⟩⟩
theorem ro_159 : pz_rowOK rw_159 := ⟨by decide +kernel, wm_1150, wm_11, by decide +kernel⟩
theorem o_159_0 : pz_OK false rw_159 0 (op_aload 0 1) := ok_aload_n (k := 0) (by decide +kernel)
theorem o_159_1 : pz_OK false rw_159 1 (op_getI 11 9 4) := ok_getI cc_11 (by decide) rfl rfl (Or.inl wm_934) (by decide +kernel)
theorem o_159_4 : pz_OK false rw_159 4 (op_istore 1 5) := ok_istore_n (k := 1) (by decide +kernel)
theorem o_159_5 : pz_OK false rw_159 5 (op_aload 0 6) := ok_aload_n (k := 0) (by decide +kernel)
theorem o_159_6 : pz_OK false rw_159 6 (op_stk (sg_const (0)) 7) := ok_iconst (by decide +kernel) (by unfold pz_in; decide)
theorem o_159_7 : pz_OK false rw_159 7 (op_putI false 11 12 10) := ok_putI cc_11 (by decide) rfl rfl (Or.inl wm_937) rfl (by decide +kernel) (by decide +kernel)
theorem o_159_10 : pz_OK false rw_159 10 (op_aload 0 11) := ok_aload_n (k := 0) (by decide +kernel)
theorem k_159_11 : pz_callOK false rw_159 rw_156 11 1 12 := ⟨160, (Or.inl wm_1143), Or.inr ⟨(by decide +kernel), wm_1145, ws_47, by unfold pz_np; decide +kernel, by decide, Or.inl ⟨_, _, rfl, by decide, rfl⟩⟩⟩
theorem o_159_14 : pz_OK false rw_159 14 (op_ifz c_eq 69 17) := ok_if_eq (off := 55) (by decide +kernel) (by decide)
theorem o_159_17 : pz_OK false rw_159 17 (op_aload 0 18) := ok_aload_n (k := 0) (by decide +kernel)
theorem o_159_18 : pz_OK false rw_159 18 (op_getI 11 9 21) := ok_getI cc_11 (by decide) rfl rfl (Or.inl wm_934) (by decide +kernel)
theorem o_159_21 : pz_OK false rw_159 21 (op_iload 1 22) := ok_iload_n (k := 1) (by decide +kernel)
theorem o_159_22 : pz_OK false rw_159 22 (op_stk (sg_const (5)) 23) := ok_iconst (by decide +kernel) (by unfold pz_in; decide)
theorem o_159_23 : pz_OK false rw_159 23 (op_stk (sg_bin f_add) 24) := ok_iadd (by decide +kernel)
theorem o_159_24 : pz_OK false rw_159 24 (op_icmp c_ne 37 27) := ok_icmp_ne (off := 13) (by decide +kernel) (by decide)
theorem o_159_27 : pz_OK false rw_159 27 (op_aload 0 28) := ok_aload_n (k := 0) (by decide +kernel)
theorem o_159_28 : pz_OK false rw_159 28 (op_stk (sg_const (2)) 29) := ok_iconst (by decide +kernel) (by unfold pz_in; decide)
theorem o_159_29 : pz_OK false rw_159 29 (op_aload 0 30) := ok_aload_n (k := 0) (by decide +kernel)
theorem o_159_30 : pz_OK false rw_159 30 (op_getI 11 9 33) := ok_getI cc_11 (by decide) rfl rfl (Or.inl wm_934) (by decide +kernel)
theorem k_159_33 : pz_callOK false rw_159 rw_157 33 3 12 := ⟨154, (Or.inl wm_1126), Or.inr ⟨(by decide +kernel), wm_1128, ws_43, by unfold pz_np; decide +kernel, by decide, Or.inl ⟨_, _, rfl, by decide, rfl⟩⟩⟩
theorem o_159_36 : pz_OK false rw_159 36 (op_iret g_bool) := ok_iret (by decide +kernel) rfl pz_g_bool
theorem o_159_37 : pz_OK false rw_159 37 (op_aload 0 38) := ok_aload_n (k := 0) (by decide +kernel)
theorem o_159_38 : pz_OK false rw_159 38 (op_stk (sg_const (10)) 40) := ok_bipush (by decide +kernel) (by unfold pz_in; decide) (by decide)
theorem o_159_40 : pz_OK false rw_159 40 (op_aload 0 41) := ok_aload_n (k := 0) (by decide +kernel)
theorem o_159_41 : pz_OK false rw_159 41 (op_getI 11 12 44) := ok_getI cc_11 (by decide) rfl rfl (Or.inl wm_937) (by decide +kernel)
theorem o_159_44 : pz_OK false rw_159 44 (op_stk (sg_bin f_mul) 45) := ok_imul (by decide +kernel)
theorem o_159_45 : pz_OK false rw_159 45 (op_aload 0 46) := ok_aload_n (k := 0) (by decide +kernel)
theorem k_159_46 : pz_callOK false rw_159 rw_155 46 1 12 := ⟨147, (Or.inl wm_1122), Or.inr ⟨(by decide +kernel), wm_1124, ws_42, by unfold pz_np; decide +kernel, by decide, Or.inl ⟨_, _, rfl, by decide, rfl⟩⟩⟩
theorem o_159_49 : pz_OK false rw_159 49 (op_stk (sg_bin f_add) 50) := ok_iadd (by decide +kernel)
theorem o_159_50 : pz_OK false rw_159 50 (op_stk (sg_const (48)) 52) := ok_bipush (by decide +kernel) (by unfold pz_in; decide) (by decide)
theorem o_159_52 : pz_OK false rw_159 52 (op_stk (sg_bin f_sub) 53) := ok_isub (by decide +kernel)
theorem o_159_53 : pz_OK false rw_159 53 (op_putI false 11 12 56) := ok_putI cc_11 (by decide) rfl rfl (Or.inl wm_937) rfl (by decide +kernel) (by decide +kernel)
theorem o_159_56 : pz_OK false rw_159 56 (op_aload 0 57) := ok_aload_n (k := 0) (by decide +kernel)
theorem o_159_57 : pz_OK false rw_159 57 (op_aload 0 58) := ok_aload_n (k := 0) (by decide +kernel)
theorem o_159_58 : pz_OK false rw_159 58 (op_getI 11 9 61) := ok_getI cc_11 (by decide) rfl rfl (Or.inl wm_934) (by decide +kernel)
theorem o_159_61 : pz_OK false rw_159 61 (op_stk (sg_const (1)) 62) := ok_iconst (by decide +kernel) (by unfold pz_in; decide)
theorem o_159_62 : pz_OK false rw_159 62 (op_stk (sg_bin f_add) 63) := ok_iadd (by decide +kernel)
theorem o_159_63 : pz_OK false rw_159 63 (op_putI false 11 9 66) := ok_putI cc_11 (by decide) rfl rfl (Or.inl wm_934) rfl (by decide +kernel) (by decide +kernel)
theorem o_159_66 : pz_OK false rw_159 66 (op_goto 10) := ok_goto (off := -56) (by decide +kernel) (by decide)
theorem o_159_69 : pz_OK false rw_159 69 (op_stk (sg_const (1)) 70) := ok_iconst (by decide +kernel) (by unfold pz_in; decide)
theorem o_159_70 : pz_OK false rw_159 70 (op_iret g_bool) := ok_iret (by decide +kernel) rfl pz_g_bool
set_option maxRecDepth 20000 in
theorem a_159 : pz_all false 138 rw_159 pg_159 := ⟨o_159_0, ⟨o_159_1, ⟨o_159_4, ⟨o_159_5, ⟨o_159_6, ⟨o_159_7, ⟨o_159_10, ⟨⟨rw_156, tq_156, rfl, k_159_11⟩, ⟨o_159_14, ⟨o_159_17, ⟨o_159_18, ⟨o_159_21, ⟨o_159_22, ⟨o_159_23, ⟨o_159_24, ⟨o_159_27, ⟨o_159_28, ⟨o_159_29, ⟨o_159_30, ⟨⟨rw_157, tq_157, rfl, k_159_33⟩, ⟨o_159_36, ⟨o_159_37, ⟨o_159_38, ⟨o_159_40, ⟨o_159_41, ⟨o_159_44, ⟨o_159_45, ⟨⟨rw_155, tq_155, rfl, k_159_46⟩, ⟨o_159_49, ⟨o_159_50, ⟨o_159_52, ⟨o_159_53, ⟨o_159_56, ⟨o_159_57, ⟨o_159_58, ⟨o_159_61, ⟨o_159_62, ⟨o_159_63, ⟨o_159_66, ⟨o_159_69, ⟨o_159_70, trivial⟩⟩⟩⟩⟩⟩⟩⟩⟩⟩⟩⟩⟩⟩⟩⟩⟩⟩⟩⟩⟩⟩⟩⟩⟩⟩⟩⟩⟩⟩⟩⟩⟩⟩⟩⟩⟩⟩⟩⟩⟩
theorem ro_160 : pz_rowOK rw_160 := ⟨by decide +kernel, wm_1154, wm_11, by decide +kernel⟩
theorem o_160_0 : pz_OK false rw_160 0 (op_aload 0 1) := ok_aload_n (k := 0) (by decide +kernel)
theorem o_160_1 : pz_OK false rw_160 1 (op_getR 11 18 4) := ok_getR cc_11 (by decide) rfl rfl (Or.inl wm_943) (by decide +kernel)
theorem o_160_4 : pz_OK false rw_160 4 (op_aload 0 5) := ok_aload_n (k := 0) (by decide +kernel)
theorem o_160_5 : pz_OK false rw_160 5 (op_getI 11 14 8) := ok_getI cc_11 (by decide) rfl rfl (Or.inl wm_939) (by decide +kernel)
theorem o_160_8 : pz_OK false rw_160 8 (op_stk (sg_const (1048576)) 10) := ok_ldc (z := 1048576) (by decide +kernel) wm_1142 (by unfold pz_in; decide) (by decide)
theorem o_160_10 : pz_OK false rw_160 10 (op_iload 1 11) := ok_iload_n (k := 1) (by decide +kernel)
theorem o_160_11 : pz_OK false rw_160 11 (op_stk (sg_bin f_mul) 12) := ok_imul (by decide +kernel)
theorem o_160_12 : pz_OK false rw_160 12 (op_iload 2 13) := ok_iload_n (k := 2) (by decide +kernel)
theorem o_160_13 : pz_OK false rw_160 13 (op_stk (sg_bin f_add) 14) := ok_iadd (by decide +kernel)
theorem o_160_14 : pz_OK false rw_160 14 (op_iast 21 15) := ok_iast (by decide +kernel) rfl (by decide)
theorem o_160_15 : pz_OK false rw_160 15 (op_aload 0 16) := ok_aload_n (k := 0) (by decide +kernel)
theorem o_160_16 : pz_OK false rw_160 16 (op_aload 0 17) := ok_aload_n (k := 0) (by decide +kernel)
theorem o_160_17 : pz_OK false rw_160 17 (op_getI 11 14 20) := ok_getI cc_11 (by decide) rfl rfl (Or.inl wm_939) (by decide +kernel)
theorem o_160_20 : pz_OK false rw_160 20 (op_stk (sg_const (1)) 21) := ok_iconst (by decide +kernel) (by unfold pz_in; decide)
theorem o_160_21 : pz_OK false rw_160 21 (op_stk (sg_bin f_add) 22) := ok_iadd (by decide +kernel)
theorem o_160_22 : pz_OK false rw_160 22 (op_putI false 11 14 25) := ok_putI cc_11 (by decide) rfl rfl (Or.inl wm_939) rfl (by decide +kernel) (by decide +kernel)
theorem o_160_25 : pz_OK false rw_160 25 (op_ret) := ok_ret (by decide +kernel) rfl
set_option maxRecDepth 20000 in
theorem a_160 : pz_all false 138 rw_160 pg_160 := ⟨o_160_0, ⟨o_160_1, ⟨o_160_4, ⟨o_160_5, ⟨o_160_8, ⟨o_160_10, ⟨o_160_11, ⟨o_160_12, ⟨o_160_13, ⟨o_160_14, ⟨o_160_15, ⟨o_160_16, ⟨o_160_17, ⟨o_160_20, ⟨o_160_21, ⟨o_160_22, ⟨o_160_25, trivial⟩⟩⟩⟩⟩⟩⟩⟩⟩⟩⟩⟩⟩⟩⟩⟩⟩
theorem ro_161 : pz_rowOK rw_161 := ⟨by decide +kernel, wm_1141, wm_11, by decide +kernel⟩
theorem o_161_0 : pz_OK false rw_161 0 (op_aload 0 1) := ok_aload_n (k := 0) (by decide +kernel)
theorem o_161_1 : pz_OK false rw_161 1 (op_getI 11 13 4) := ok_getI cc_11 (by decide) rfl rfl (Or.inl wm_938) (by decide +kernel)
theorem o_161_4 : pz_OK false rw_161 4 (op_stk (sg_const (6)) 6) := ok_bipush (by decide +kernel) (by unfold pz_in; decide) (by decide)
theorem o_161_6 : pz_OK false rw_161 6 (op_icmp c_ne 19 9) := ok_icmp_ne (off := 13) (by decide +kernel) (by decide)
theorem o_161_9 : pz_OK false rw_161 9 (op_aload 0 10) := ok_aload_n (k := 0) (by decide +kernel)
theorem o_161_10 : pz_OK false rw_161 10 (op_stk (sg_const (5)) 11) := ok_iconst (by decide +kernel) (by unfold pz_in; decide)
theorem o_161_11 : pz_OK false rw_161 11 (op_aload 0 12) := ok_aload_n (k := 0) (by decide +kernel)
theorem o_161_12 : pz_OK false rw_161 12 (op_getI 11 9 15) := ok_getI cc_11 (by decide) rfl rfl (Or.inl wm_934) (by decide +kernel)
theorem k_161_15 : pz_callOK false rw_161 rw_157 15 3 12 := ⟨154, (Or.inl wm_1126), Or.inr ⟨(by decide +kernel), wm_1128, ws_43, by unfold pz_np; decide +kernel, by decide, Or.inl ⟨_, _, rfl, by decide, rfl⟩⟩⟩
theorem o_161_18 : pz_OK false rw_161 18 (op_iret g_bool) := ok_iret (by decide +kernel) rfl pz_g_bool
theorem o_161_19 : pz_OK false rw_161 19 (op_aload 0 20) := ok_aload_n (k := 0) (by decide +kernel)
theorem o_161_20 : pz_OK false rw_161 20 (op_aload 0 21) := ok_aload_n (k := 0) (by decide +kernel)
theorem o_161_21 : pz_OK false rw_161 21 (op_getI 11 13 24) := ok_getI cc_11 (by decide) rfl rfl (Or.inl wm_938) (by decide +kernel)
theorem o_161_24 : pz_OK false rw_161 24 (op_stk (sg_const (1)) 25) := ok_iconst (by decide +kernel) (by unfold pz_in; decide)
theorem o_161_25 : pz_OK false rw_161 25 (op_stk (sg_bin f_add) 26) := ok_iadd (by decide +kernel)
theorem o_161_26 : pz_OK false rw_161 26 (op_putI false 11 13 29) := ok_putI cc_11 (by decide) rfl rfl (Or.inl wm_938) rfl (by decide +kernel) (by decide +kernel)
theorem o_161_29 : pz_OK false rw_161 29 (op_aload 0 30) := ok_aload_n (k := 0) (by decide +kernel)
theorem o_161_30 : pz_OK false rw_161 30 (op_getR 11 19 33) := ok_getR cc_11 (by decide) rfl rfl (Or.inl wm_944) (by decide +kernel)
theorem o_161_33 : pz_OK false rw_161 33 (op_aload 0 34) := ok_aload_n (k := 0) (by decide +kernel)
theorem o_161_34 : pz_OK false rw_161 34 (op_getI 11 15 37) := ok_getI cc_11 (by decide) rfl rfl (Or.inl wm_940) (by decide +kernel)
theorem o_161_37 : pz_OK false rw_161 37 (op_stk (sg_const (1048576)) 39) := ok_ldc (z := 1048576) (by decide +kernel) wm_1142 (by unfold pz_in; decide) (by decide)
theorem o_161_39 : pz_OK false rw_161 39 (op_iload 1 40) := ok_iload_n (k := 1) (by decide +kernel)
theorem o_161_40 : pz_OK false rw_161 40 (op_stk (sg_bin f_mul) 41) := ok_imul (by decide +kernel)
theorem o_161_41 : pz_OK false rw_161 41 (op_iast 21 42) := ok_iast (by decide +kernel) rfl (by decide)
theorem o_161_42 : pz_OK false rw_161 42 (op_aload 0 43) := ok_aload_n (k := 0) (by decide +kernel)
theorem o_161_43 : pz_OK false rw_161 43 (op_aload 0 44) := ok_aload_n (k := 0) (by decide +kernel)
theorem o_161_44 : pz_OK false rw_161 44 (op_getI 11 15 47) := ok_getI cc_11 (by decide) rfl rfl (Or.inl wm_940) (by decide +kernel)
theorem o_161_47 : pz_OK false rw_161 47 (op_stk (sg_const (1)) 48) := ok_iconst (by decide +kernel) (by unfold pz_in; decide)
theorem o_161_48 : pz_OK false rw_161 48 (op_stk (sg_bin f_add) 49) := ok_iadd (by decide +kernel)
theorem o_161_49 : pz_OK false rw_161 49 (op_putI false 11 15 52) := ok_putI cc_11 (by decide) rfl rfl (Or.inl wm_940) rfl (by decide +kernel) (by decide +kernel)
theorem o_161_52 : pz_OK false rw_161 52 (op_aload 0 53) := ok_aload_n (k := 0) (by decide +kernel)
theorem o_161_53 : pz_OK false rw_161 53 (op_aload 0 54) := ok_aload_n (k := 0) (by decide +kernel)
theorem o_161_54 : pz_OK false rw_161 54 (op_getI 11 9 57) := ok_getI cc_11 (by decide) rfl rfl (Or.inl wm_934) (by decide +kernel)
theorem o_161_57 : pz_OK false rw_161 57 (op_stk (sg_const (1)) 58) := ok_iconst (by decide +kernel) (by unfold pz_in; decide)
theorem o_161_58 : pz_OK false rw_161 58 (op_stk (sg_bin f_add) 59) := ok_iadd (by decide +kernel)
theorem o_161_59 : pz_OK false rw_161 59 (op_putI false 11 9 62) := ok_putI cc_11 (by decide) rfl rfl (Or.inl wm_934) rfl (by decide +kernel) (by decide +kernel)
theorem o_161_62 : pz_OK false rw_161 62 (op_stk (sg_const (1)) 63) := ok_iconst (by decide +kernel) (by unfold pz_in; decide)
theorem o_161_63 : pz_OK false rw_161 63 (op_iret g_bool) := ok_iret (by decide +kernel) rfl pz_g_bool
set_option maxRecDepth 20000 in
theorem a_161 : pz_all false 138 rw_161 pg_161 := ⟨o_161_0, ⟨o_161_1, ⟨o_161_4, ⟨o_161_6, ⟨o_161_9, ⟨o_161_10, ⟨o_161_11, ⟨o_161_12, ⟨⟨rw_157, tq_157, rfl, k_161_15⟩, ⟨o_161_18, ⟨o_161_19, ⟨o_161_20, ⟨o_161_21, ⟨o_161_24, ⟨o_161_25, ⟨o_161_26, ⟨o_161_29, ⟨o_161_30, ⟨o_161_33, ⟨o_161_34, ⟨o_161_37, ⟨o_161_39, ⟨o_161_40, ⟨o_161_41, ⟨o_161_42, ⟨o_161_43, ⟨o_161_44, ⟨o_161_47, ⟨o_161_48, ⟨o_161_49, ⟨o_161_52, ⟨o_161_53, ⟨o_161_54, ⟨o_161_57, ⟨o_161_58, ⟨o_161_59, ⟨o_161_62, ⟨o_161_63, trivial⟩⟩⟩⟩⟩⟩⟩⟩⟩⟩⟩⟩⟩⟩⟩⟩⟩⟩⟩⟩⟩⟩⟩⟩⟩⟩⟩⟩⟩⟩⟩⟩⟩⟩⟩⟩⟩⟩
theorem ro_162 : pz_rowOK rw_162 := ⟨by decide +kernel, wm_1168, wm_11, by decide +kernel⟩
theorem o_162_0 : pz_OK false rw_162 0 (op_aload 0 1) := ok_aload_n (k := 0) (by decide +kernel)
theorem o_162_1 : pz_OK false rw_162 1 (op_getI 11 15 4) := ok_getI cc_11 (by decide) rfl rfl (Or.inl wm_940) (by decide +kernel)
theorem o_162_4 : pz_OK false rw_162 4 (op_ifz c_ne 11 7) := ok_if_ne (off := 7) (by decide +kernel) (by decide)
theorem o_162_7 : pz_OK false rw_162 7 (op_stk (sg_const (-1)) 8) := ok_iconst (by decide +kernel) (by unfold pz_in; decide)
theorem o_162_8 : pz_OK false rw_162 8 (op_goto 25) := ok_goto (off := 17) (by decide +kernel) (by decide)
theorem o_162_11 : pz_OK false rw_162 11 (op_aload 0 12) := ok_aload_n (k := 0) (by decide +kernel)
theorem o_162_12 : pz_OK false rw_162 12 (op_getR 11 19 15) := ok_getR cc_11 (by decide) rfl rfl (Or.inl wm_944) (by decide +kernel)
theorem o_162_15 : pz_OK false rw_162 15 (op_aload 0 16) := ok_aload_n (k := 0) (by decide +kernel)
theorem o_162_16 : pz_OK false rw_162 16 (op_getI 11 15 19) := ok_getI cc_11 (by decide) rfl rfl (Or.inl wm_940) (by decide +kernel)
theorem o_162_19 : pz_OK false rw_162 19 (op_stk (sg_const (1)) 20) := ok_iconst (by decide +kernel) (by unfold pz_in; decide)
theorem o_162_20 : pz_OK false rw_162 20 (op_stk (sg_bin f_sub) 21) := ok_isub (by decide +kernel)
theorem o_162_21 : pz_OK false rw_162 21 (op_iald 21 22) := ok_iald (by decide +kernel) rfl (by decide)
theorem o_162_22 : pz_OK false rw_162 22 (op_stk (sg_const (1048576)) 24) := ok_ldc (z := 1048576) (by decide +kernel) wm_1142 (by unfold pz_in; decide) (by decide)
theorem o_162_24 : pz_OK false rw_162 24 (op_stk (sg_div f_div) 25) := ok_idiv (by decide +kernel)
theorem o_162_25 : pz_OK false rw_162 25 (op_iret g_int) := ok_iret (by decide +kernel) rfl pz_g_int
set_option maxRecDepth 20000 in
theorem a_162 : pz_all false 138 rw_162 pg_162 := ⟨o_162_0, ⟨o_162_1, ⟨o_162_4, ⟨o_162_7, ⟨o_162_8, ⟨o_162_11, ⟨o_162_12, ⟨o_162_15, ⟨o_162_16, ⟨o_162_19, ⟨o_162_20, ⟨o_162_21, ⟨o_162_22, ⟨o_162_24, ⟨o_162_25, trivial⟩⟩⟩⟩⟩⟩⟩⟩⟩⟩⟩⟩⟩⟩⟩
theorem ro_163 : pz_rowOK rw_163 := ⟨by decide +kernel, wm_1157, wm_11, by decide +kernel⟩
theorem o_163_0 : pz_OK false rw_163 0 (op_iload 0 1) := ok_iload_n (k := 0) (by decide +kernel)
theorem o_163_1 : pz_OK false rw_163 1 (op_sw [(99, 102), (100, 110), (101, 124), (102, 124), (103, 124), (104, 124), (105, 124), (106, 124), (107, 124), (108, 124), (109, 124), (110, 124), (111, 124), (112, 100), (113, 112), (114, 115), (115, 104), (116, 118), (117, 108), (118, 106), (119, 121)] 124) := ok_table (dflt := 123) (lo := 99) (hi := 119) (offs := #[101, 109, 123, 123, 123, 123, 123, 123, 123, 123, 123, 123, 123, 99, 111, 114, 103, 117, 107, 105, 120]) (len := 99) (by decide +kernel) (by decide) (by decide) (by decide) (by decide)
theorem o_163_100 : pz_OK false rw_163 100 (op_stk (sg_const (0)) 101) := ok_iconst (by decide +kernel) (by unfold pz_in; decide)
theorem o_163_101 : pz_OK false rw_163 101 (op_iret g_int) := ok_iret (by decide +kernel) rfl pz_g_int
theorem o_163_102 : pz_OK false rw_163 102 (op_stk (sg_const (1)) 103) := ok_iconst (by decide +kernel) (by unfold pz_in; decide)
theorem o_163_103 : pz_OK false rw_163 103 (op_iret g_int) := ok_iret (by decide +kernel) rfl pz_g_int
theorem o_163_104 : pz_OK false rw_163 104 (op_stk (sg_const (2)) 105) := ok_iconst (by decide +kernel) (by unfold pz_in; decide)
theorem o_163_105 : pz_OK false rw_163 105 (op_iret g_int) := ok_iret (by decide +kernel) rfl pz_g_int
theorem o_163_106 : pz_OK false rw_163 106 (op_stk (sg_const (3)) 107) := ok_iconst (by decide +kernel) (by unfold pz_in; decide)
theorem o_163_107 : pz_OK false rw_163 107 (op_iret g_int) := ok_iret (by decide +kernel) rfl pz_g_int
theorem o_163_108 : pz_OK false rw_163 108 (op_stk (sg_const (4)) 109) := ok_iconst (by decide +kernel) (by unfold pz_in; decide)
theorem o_163_109 : pz_OK false rw_163 109 (op_iret g_int) := ok_iret (by decide +kernel) rfl pz_g_int
theorem o_163_110 : pz_OK false rw_163 110 (op_stk (sg_const (5)) 111) := ok_iconst (by decide +kernel) (by unfold pz_in; decide)
theorem o_163_111 : pz_OK false rw_163 111 (op_iret g_int) := ok_iret (by decide +kernel) rfl pz_g_int
theorem o_163_112 : pz_OK false rw_163 112 (op_stk (sg_const (6)) 114) := ok_bipush (by decide +kernel) (by unfold pz_in; decide) (by decide)
theorem o_163_114 : pz_OK false rw_163 114 (op_iret g_int) := ok_iret (by decide +kernel) rfl pz_g_int
theorem o_163_115 : pz_OK false rw_163 115 (op_stk (sg_const (7)) 117) := ok_bipush (by decide +kernel) (by unfold pz_in; decide) (by decide)
theorem o_163_117 : pz_OK false rw_163 117 (op_iret g_int) := ok_iret (by decide +kernel) rfl pz_g_int
theorem o_163_118 : pz_OK false rw_163 118 (op_stk (sg_const (8)) 120) := ok_bipush (by decide +kernel) (by unfold pz_in; decide) (by decide)
theorem o_163_120 : pz_OK false rw_163 120 (op_iret g_int) := ok_iret (by decide +kernel) rfl pz_g_int
theorem o_163_121 : pz_OK false rw_163 121 (op_stk (sg_const (9)) 123) := ok_bipush (by decide +kernel) (by unfold pz_in; decide) (by decide)
theorem o_163_123 : pz_OK false rw_163 123 (op_iret g_int) := ok_iret (by decide +kernel) rfl pz_g_int
theorem o_163_124 : pz_OK false rw_163 124 (op_stk (sg_const (-1)) 125) := ok_iconst (by decide +kernel) (by unfold pz_in; decide)
theorem o_163_125 : pz_OK false rw_163 125 (op_iret g_int) := ok_iret (by decide +kernel) rfl pz_g_int
set_option maxRecDepth 20000 in
theorem a_163 : pz_all false 138 rw_163 pg_163 := ⟨o_163_0, ⟨o_163_1, ⟨o_163_100, ⟨o_163_101, ⟨o_163_102, ⟨o_163_103, ⟨o_163_104, ⟨o_163_105, ⟨o_163_106, ⟨o_163_107, ⟨o_163_108, ⟨o_163_109, ⟨o_163_110, ⟨o_163_111, ⟨o_163_112, ⟨o_163_114, ⟨o_163_115, ⟨o_163_117, ⟨o_163_118, ⟨o_163_120, ⟨o_163_121, ⟨o_163_123, ⟨o_163_124, ⟨o_163_125, trivial⟩⟩⟩⟩⟩⟩⟩⟩⟩⟩⟩⟩⟩⟩⟩⟩⟩⟩⟩⟩⟩⟩⟩⟩
theorem ro_164 : pz_rowOK rw_164 := ⟨by decide +kernel, wm_1160, wm_11, by decide +kernel⟩
theorem o_164_0 : pz_OK false rw_164 0 (op_iload 0 1) := ok_iload_n (k := 0) (by decide +kernel)
theorem o_164_1 : pz_OK false rw_164 1 (op_stk (sg_const (43)) 3) := ok_bipush (by decide +kernel) (by unfold pz_in; decide) (by decide)
theorem o_164_3 : pz_OK false rw_164 3 (op_icmp c_ne 10 6) := ok_icmp_ne (off := 7) (by decide +kernel) (by decide)
theorem o_164_6 : pz_OK false rw_164 6 (op_stk (sg_const (2)) 7) := ok_iconst (by decide +kernel) (by unfold pz_in; decide)
theorem o_164_7 : pz_OK false rw_164 7 (op_goto 52) := ok_goto (off := 45) (by decide +kernel) (by decide)
theorem o_164_10 : pz_OK false rw_164 10 (op_iload 0 11) := ok_iload_n (k := 0) (by decide +kernel)
theorem o_164_11 : pz_OK false rw_164 11 (op_stk (sg_const (45)) 13) := ok_bipush (by decide +kernel) (by unfold pz_in; decide) (by decide)
theorem o_164_13 : pz_OK false rw_164 13 (op_icmp c_ne 20 16) := ok_icmp_ne (off := 7) (by decide +kernel) (by decide)
theorem o_164_16 : pz_OK false rw_164 16 (op_stk (sg_const (3)) 17) := ok_iconst (by decide +kernel) (by unfold pz_in; decide)
theorem o_164_17 : pz_OK false rw_164 17 (op_goto 52) := ok_goto (off := 35) (by decide +kernel) (by decide)
theorem o_164_20 : pz_OK false rw_164 20 (op_iload 0 21) := ok_iload_n (k := 0) (by decide +kernel)
theorem o_164_21 : pz_OK false rw_164 21 (op_stk (sg_const (42)) 23) := ok_bipush (by decide +kernel) (by unfold pz_in; decide) (by decide)
theorem o_164_23 : pz_OK false rw_164 23 (op_icmp c_ne 30 26) := ok_icmp_ne (off := 7) (by decide +kernel) (by decide)
theorem o_164_26 : pz_OK false rw_164 26 (op_stk (sg_const (4)) 27) := ok_iconst (by decide +kernel) (by unfold pz_in; decide)
theorem o_164_27 : pz_OK false rw_164 27 (op_goto 52) := ok_goto (off := 25) (by decide +kernel) (by decide)
theorem o_164_30 : pz_OK false rw_164 30 (op_iload 0 31) := ok_iload_n (k := 0) (by decide +kernel)
theorem o_164_31 : pz_OK false rw_164 31 (op_stk (sg_const (47)) 33) := ok_bipush (by decide +kernel) (by unfold pz_in; decide) (by decide)
theorem o_164_33 : pz_OK false rw_164 33 (op_icmp c_ne 40 36) := ok_icmp_ne (off := 7) (by decide +kernel) (by decide)
theorem o_164_36 : pz_OK false rw_164 36 (op_stk (sg_const (5)) 37) := ok_iconst (by decide +kernel) (by unfold pz_in; decide)
theorem o_164_37 : pz_OK false rw_164 37 (op_goto 52) := ok_goto (off := 15) (by decide +kernel) (by decide)
theorem o_164_40 : pz_OK false rw_164 40 (op_iload 0 41) := ok_iload_n (k := 0) (by decide +kernel)
theorem o_164_41 : pz_OK false rw_164 41 (op_stk (sg_const (37)) 43) := ok_bipush (by decide +kernel) (by unfold pz_in; decide) (by decide)
theorem o_164_43 : pz_OK false rw_164 43 (op_icmp c_ne 51 46) := ok_icmp_ne (off := 8) (by decide +kernel) (by decide)
theorem o_164_46 : pz_OK false rw_164 46 (op_stk (sg_const (6)) 48) := ok_bipush (by decide +kernel) (by unfold pz_in; decide) (by decide)
theorem o_164_48 : pz_OK false rw_164 48 (op_goto 52) := ok_goto (off := 4) (by decide +kernel) (by decide)
theorem o_164_51 : pz_OK false rw_164 51 (op_stk (sg_const (-1)) 52) := ok_iconst (by decide +kernel) (by unfold pz_in; decide)
theorem o_164_52 : pz_OK false rw_164 52 (op_iret g_int) := ok_iret (by decide +kernel) rfl pz_g_int
set_option maxRecDepth 20000 in
theorem a_164 : pz_all false 138 rw_164 pg_164 := ⟨o_164_0, ⟨o_164_1, ⟨o_164_3, ⟨o_164_6, ⟨o_164_7, ⟨o_164_10, ⟨o_164_11, ⟨o_164_13, ⟨o_164_16, ⟨o_164_17, ⟨o_164_20, ⟨o_164_21, ⟨o_164_23, ⟨o_164_26, ⟨o_164_27, ⟨o_164_30, ⟨o_164_31, ⟨o_164_33, ⟨o_164_36, ⟨o_164_37, ⟨o_164_40, ⟨o_164_41, ⟨o_164_43, ⟨o_164_46, ⟨o_164_48, ⟨o_164_51, ⟨o_164_52, trivial⟩⟩⟩⟩⟩⟩⟩⟩⟩⟩⟩⟩⟩⟩⟩⟩⟩⟩⟩⟩⟩⟩⟩⟩⟩⟩⟩
theorem ro_165 : pz_rowOK rw_165 := ⟨by decide +kernel, wm_1164, wm_11, by decide +kernel⟩
theorem o_165_0 : pz_OK false rw_165 0 (op_aload 0 1) := ok_aload_n (k := 0) (by decide +kernel)
theorem k_165_1 : pz_callOK false rw_165 rw_162 1 1 12 := ⟨174, (Or.inl wm_1165), Or.inr ⟨(by decide +kernel), wm_1167, ws_51, by unfold pz_np; decide +kernel, by decide, Or.inl ⟨_, _, rfl, by decide, rfl⟩⟩⟩
theorem o_165_4 : pz_OK false rw_165 4 (op_stk (sg_const (4)) 5) := ok_iconst (by decide +kernel) (by unfold pz_in; decide)
theorem o_165_5 : pz_OK false rw_165 5 (op_icmp c_lt 17 8) := ok_icmp_lt (off := 12) (by decide +kernel) (by decide)
theorem o_165_8 : pz_OK false rw_165 8 (op_aload 0 9) := ok_aload_n (k := 0) (by decide +kernel)
theorem k_165_9 : pz_callOK false rw_165 rw_162 9 1 12 := ⟨174, (Or.inl wm_1165), Or.inr ⟨(by decide +kernel), wm_1167, ws_51, by unfold pz_np; decide +kernel, by decide, Or.inl ⟨_, _, rfl, by decide, rfl⟩⟩⟩
theorem o_165_12 : pz_OK false rw_165 12 (op_stk (sg_const (6)) 14) := ok_bipush (by decide +kernel) (by unfold pz_in; decide) (by decide)
theorem o_165_14 : pz_OK false rw_165 14 (op_icmp c_le 37 17) := ok_icmp_le (off := 23) (by decide +kernel) (by decide)
theorem o_165_17 : pz_OK false rw_165 17 (op_iload 1 18) := ok_iload_n (k := 1) (by decide +kernel)
theorem o_165_18 : pz_OK false rw_165 18 (op_ifz c_eq 59 21) := ok_if_eq (off := 41) (by decide +kernel) (by decide)
theorem o_165_21 : pz_OK false rw_165 21 (op_aload 0 22) := ok_aload_n (k := 0) (by decide +kernel)
theorem k_165_22 : pz_callOK false rw_165 rw_162 22 1 12 := ⟨174, (Or.inl wm_1165), Or.inr ⟨(by decide +kernel), wm_1167, ws_51, by unfold pz_np; decide +kernel, by decide, Or.inl ⟨_, _, rfl, by decide, rfl⟩⟩⟩
theorem o_165_25 : pz_OK false rw_165 25 (op_stk (sg_const (2)) 26) := ok_iconst (by decide +kernel) (by unfold pz_in; decide)
theorem o_165_26 : pz_OK false rw_165 26 (op_icmp c_eq 37 29) := ok_icmp_eq (off := 11) (by decide +kernel) (by decide)
theorem o_165_29 : pz_OK false rw_165 29 (op_aload 0 30) := ok_aload_n (k := 0) (by decide +kernel)
theorem k_165_30 : pz_callOK false rw_165 rw_162 30 1 12 := ⟨174, (Or.inl wm_1165), Or.inr ⟨(by decide +kernel), wm_1167, ws_51, by unfold pz_np; decide +kernel, by decide, Or.inl ⟨_, _, rfl, by decide, rfl⟩⟩⟩
theorem o_165_33 : pz_OK false rw_165 33 (op_stk (sg_const (3)) 34) := ok_iconst (by decide +kernel) (by unfold pz_in; decide)
theorem o_165_34 : pz_OK false rw_165 34 (op_icmp c_ne 59 37) := ok_icmp_ne (off := 25) (by decide +kernel) (by decide)
theorem o_165_37 : pz_OK false rw_165 37 (op_aload 0 38) := ok_aload_n (k := 0) (by decide +kernel)
theorem o_165_38 : pz_OK false rw_165 38 (op_aload 0 39) := ok_aload_n (k := 0) (by decide +kernel)
theorem k_165_39 : pz_callOK false rw_165 rw_162 39 1 12 := ⟨174, (Or.inl wm_1165), Or.inr ⟨(by decide +kernel), wm_1167, ws_51, by unfold pz_np; decide +kernel, by decide, Or.inl ⟨_, _, rfl, by decide, rfl⟩⟩⟩
theorem o_165_42 : pz_OK false rw_165 42 (op_stk (sg_const (0)) 43) := ok_iconst (by decide +kernel) (by unfold pz_in; decide)
theorem k_165_43 : pz_callOK false rw_165 rw_160 43 3 12 := ⟨177, (Or.inl wm_1151), Or.inr ⟨(by decide +kernel), wm_1153, ws_49, by unfold pz_np; decide +kernel, by decide, Or.inl ⟨_, _, rfl, by decide, rfl⟩⟩⟩
theorem o_165_46 : pz_OK false rw_165 46 (op_aload 0 47) := ok_aload_n (k := 0) (by decide +kernel)
theorem o_165_47 : pz_OK false rw_165 47 (op_aload 0 48) := ok_aload_n (k := 0) (by decide +kernel)
theorem o_165_48 : pz_OK false rw_165 48 (op_getI 11 15 51) := ok_getI cc_11 (by decide) rfl rfl (Or.inl wm_940) (by decide +kernel)
theorem o_165_51 : pz_OK false rw_165 51 (op_stk (sg_const (1)) 52) := ok_iconst (by decide +kernel) (by unfold pz_in; decide)
theorem o_165_52 : pz_OK false rw_165 52 (op_stk (sg_bin f_sub) 53) := ok_isub (by decide +kernel)
theorem o_165_53 : pz_OK false rw_165 53 (op_putI false 11 15 56) := ok_putI cc_11 (by decide) rfl rfl (Or.inl wm_940) rfl (by decide +kernel) (by decide +kernel)
theorem o_165_56 : pz_OK false rw_165 56 (op_goto 0) := ok_goto (off := -56) (by decide +kernel) (by decide)
theorem o_165_59 : pz_OK false rw_165 59 (op_ret) := ok_ret (by decide +kernel) rfl
set_option maxRecDepth 20000 in
theorem a_165 : pz_all false 138 rw_165 pg_165 := ⟨o_165_0, ⟨⟨rw_162, tq_162, rfl, k_165_1⟩, ⟨o_165_4, ⟨o_165_5, ⟨o_165_8, ⟨⟨rw_162, tq_162, rfl, k_165_9⟩, ⟨o_165_12, ⟨o_165_14, ⟨o_165_17, ⟨o_165_18, ⟨o_165_21, ⟨⟨rw_162, tq_162, rfl, k_165_22⟩, ⟨o_165_25, ⟨o_165_26, ⟨o_165_29, ⟨⟨rw_162, tq_162, rfl, k_165_30⟩, ⟨o_165_33, ⟨o_165_34, ⟨o_165_37, ⟨o_165_38, ⟨⟨rw_162, tq_162, rfl, k_165_39⟩, ⟨o_165_42, ⟨⟨rw_160, tq_160, rfl, k_165_43⟩, ⟨o_165_46, ⟨o_165_47, ⟨o_165_48, ⟨o_165_51, ⟨o_165_52, ⟨o_165_53, ⟨o_165_56, ⟨o_165_59, trivial⟩⟩⟩⟩⟩⟩⟩⟩⟩⟩⟩⟩⟩⟩⟩⟩⟩⟩⟩⟩⟩⟩⟩⟩⟩⟩⟩⟩⟩⟩⟩
theorem ro_166 : pz_rowOK rw_166 := ⟨by decide +kernel, wm_1137, wm_11, by decide +kernel⟩
theorem o_166_0 : pz_OK false rw_166 0 (op_aload 0 1) := ok_aload_n (k := 0) (by decide +kernel)
theorem k_166_1 : pz_callOK false rw_166 rw_155 1 1 12 := ⟨147, (Or.inl wm_1122), Or.inr ⟨(by decide +kernel), wm_1124, ws_42, by unfold pz_np; decide +kernel, by decide, Or.inl ⟨_, _, rfl, by decide, rfl⟩⟩⟩
theorem o_166_4 : pz_OK false rw_166 4 (op_stk (sg_const (91)) 6) := ok_bipush (by decide +kernel) (by unfold pz_in; decide) (by decide)
theorem o_166_6 : pz_OK false rw_166 6 (op_icmp c_ne 20 9) := ok_icmp_ne (off := 14) (by decide +kernel) (by decide)
theorem o_166_9 : pz_OK false rw_166 9 (op_aload 0 10) := ok_aload_n (k := 0) (by decide +kernel)
theorem o_166_10 : pz_OK false rw_166 10 (op_stk (sg_const (14)) 12) := ok_bipush (by decide +kernel) (by unfold pz_in; decide) (by decide)
theorem k_166_12 : pz_callOK false rw_166 rw_161 12 2 12 := ⟨180, (Or.inl wm_1138), Or.inr ⟨(by decide +kernel), wm_1140, ws_46, by unfold pz_np; decide +kernel, by decide, Or.inl ⟨_, _, rfl, by decide, rfl⟩⟩⟩
theorem o_166_15 : pz_OK false rw_166 15 (op_ifz c_ne 0 18) := ok_if_ne (off := -15) (by decide +kernel) (by decide)
theorem o_166_18 : pz_OK false rw_166 18 (op_stk (sg_const (0)) 19) := ok_iconst (by decide +kernel) (by unfold pz_in; decide)
theorem o_166_19 : pz_OK false rw_166 19 (op_iret g_bool) := ok_iret (by decide +kernel) rfl pz_g_bool
theorem o_166_20 : pz_OK false rw_166 20 (op_aload 0 21) := ok_aload_n (k := 0) (by decide +kernel)
theorem k_166_21 : pz_callOK false rw_166 rw_156 21 1 12 := ⟨160, (Or.inl wm_1143), Or.inr ⟨(by decide +kernel), wm_1145, ws_47, by unfold pz_np; decide +kernel, by decide, Or.inl ⟨_, _, rfl, by decide, rfl⟩⟩⟩
theorem o_166_24 : pz_OK false rw_166 24 (op_ifz c_eq 47 27) := ok_if_eq (off := 23) (by decide +kernel) (by decide)
theorem o_166_27 : pz_OK false rw_166 27 (op_aload 0 28) := ok_aload_n (k := 0) (by decide +kernel)
theorem k_166_28 : pz_callOK false rw_166 rw_159 28 1 12 := ⟨183, (Or.inl wm_1147), Or.inr ⟨(by decide +kernel), wm_1149, ws_48, by unfold pz_np; decide +kernel, by decide, Or.inl ⟨_, _, rfl, by decide, rfl⟩⟩⟩
theorem o_166_31 : pz_OK false rw_166 31 (op_ifz c_ne 36 34) := ok_if_ne (off := 5) (by decide +kernel) (by decide)
theorem o_166_34 : pz_OK false rw_166 34 (op_stk (sg_const (0)) 35) := ok_iconst (by decide +kernel) (by unfold pz_in; decide)
theorem o_166_35 : pz_OK false rw_166 35 (op_iret g_bool) := ok_iret (by decide +kernel) rfl pz_g_bool
theorem o_166_36 : pz_OK false rw_166 36 (op_aload 0 37) := ok_aload_n (k := 0) (by decide +kernel)
theorem o_166_37 : pz_OK false rw_166 37 (op_stk (sg_const (0)) 38) := ok_iconst (by decide +kernel) (by unfold pz_in; decide)
theorem o_166_38 : pz_OK false rw_166 38 (op_aload 0 39) := ok_aload_n (k := 0) (by decide +kernel)
theorem o_166_39 : pz_OK false rw_166 39 (op_getI 11 12 42) := ok_getI cc_11 (by decide) rfl rfl (Or.inl wm_937) (by decide +kernel)
theorem k_166_42 : pz_callOK false rw_166 rw_160 42 3 12 := ⟨177, (Or.inl wm_1151), Or.inr ⟨(by decide +kernel), wm_1153, ws_49, by unfold pz_np; decide +kernel, by decide, Or.inl ⟨_, _, rfl, by decide, rfl⟩⟩⟩
theorem o_166_45 : pz_OK false rw_166 45 (op_stk (sg_const (1)) 46) := ok_iconst (by decide +kernel) (by unfold pz_in; decide)
theorem o_166_46 : pz_OK false rw_166 46 (op_iret g_bool) := ok_iret (by decide +kernel) rfl pz_g_bool
theorem o_166_47 : pz_OK false rw_166 47 (op_aload 0 48) := ok_aload_n (k := 0) (by decide +kernel)
theorem k_166_48 : pz_callOK false rw_166 rw_155 48 1 12 := ⟨147, (Or.inl wm_1122), Or.inr ⟨(by decide +kernel), wm_1124, ws_42, by unfold pz_np; decide +kernel, by decide, Or.inl ⟨_, _, rfl, by decide, rfl⟩⟩⟩
theorem k_166_51 : pz_callOK false rw_166 rw_163 51 1 0 := ⟨186, (Or.inl wm_1155), Or.inl ⟨(by decide +kernel), wm_1156, by unfold pz_np; decide +kernel⟩⟩
theorem o_166_54 : pz_OK false rw_166 54 (op_istore 1 55) := ok_istore_n (k := 1) (by decide +kernel)
theorem o_166_55 : pz_OK false rw_166 55 (op_iload 1 56) := ok_iload_n (k := 1) (by decide +kernel)
theorem o_166_56 : pz_OK false rw_166 56 (op_stk (sg_const (-1)) 57) := ok_iconst (by decide +kernel) (by unfold pz_in; decide)
theorem o_166_57 : pz_OK false rw_166 57 (op_icmp c_ne 70 60) := ok_icmp_ne (off := 13) (by decide +kernel) (by decide)
theorem o_166_60 : pz_OK false rw_166 60 (op_aload 0 61) := ok_aload_n (k := 0) (by decide +kernel)
theorem o_166_61 : pz_OK false rw_166 61 (op_stk (sg_const (1)) 62) := ok_iconst (by decide +kernel) (by unfold pz_in; decide)
theorem o_166_62 : pz_OK false rw_166 62 (op_aload 0 63) := ok_aload_n (k := 0) (by decide +kernel)
theorem o_166_63 : pz_OK false rw_166 63 (op_getI 11 9 66) := ok_getI cc_11 (by decide) rfl rfl (Or.inl wm_934) (by decide +kernel)
theorem k_166_66 : pz_callOK false rw_166 rw_157 66 3 12 := ⟨154, (Or.inl wm_1126), Or.inr ⟨(by decide +kernel), wm_1128, ws_43, by unfold pz_np; decide +kernel, by decide, Or.inl ⟨_, _, rfl, by decide, rfl⟩⟩⟩
theorem o_166_69 : pz_OK false rw_166 69 (op_iret g_bool) := ok_iret (by decide +kernel) rfl pz_g_bool
theorem o_166_70 : pz_OK false rw_166 70 (op_aload 0 71) := ok_aload_n (k := 0) (by decide +kernel)
theorem o_166_71 : pz_OK false rw_166 71 (op_stk (sg_const (1)) 72) := ok_iconst (by decide +kernel) (by unfold pz_in; decide)
theorem o_166_72 : pz_OK false rw_166 72 (op_iload 1 73) := ok_iload_n (k := 1) (by decide +kernel)
theorem k_166_73 : pz_callOK false rw_166 rw_160 73 3 12 := ⟨177, (Or.inl wm_1151), Or.inr ⟨(by decide +kernel), wm_1153, ws_49, by unfold pz_np; decide +kernel, by decide, Or.inl ⟨_, _, rfl, by decide, rfl⟩⟩⟩
theorem o_166_76 : pz_OK false rw_166 76 (op_aload 0 77) := ok_aload_n (k := 0) (by decide +kernel)
theorem o_166_77 : pz_OK false rw_166 77 (op_aload 0 78) := ok_aload_n (k := 0) (by decide +kernel)
theorem o_166_78 : pz_OK false rw_166 78 (op_getI 11 9 81) := ok_getI cc_11 (by decide) rfl rfl (Or.inl wm_934) (by decide +kernel)
theorem o_166_81 : pz_OK false rw_166 81 (op_stk (sg_const (1)) 82) := ok_iconst (by decide +kernel) (by unfold pz_in; decide)
theorem o_166_82 : pz_OK false rw_166 82 (op_stk (sg_bin f_add) 83) := ok_iadd (by decide +kernel)
theorem o_166_83 : pz_OK false rw_166 83 (op_putI false 11 9 86) := ok_putI cc_11 (by decide) rfl rfl (Or.inl wm_934) rfl (by decide +kernel) (by decide +kernel)
theorem o_166_86 : pz_OK false rw_166 86 (op_stk (sg_const (1)) 87) := ok_iconst (by decide +kernel) (by unfold pz_in; decide)
theorem o_166_87 : pz_OK false rw_166 87 (op_iret g_bool) := ok_iret (by decide +kernel) rfl pz_g_bool
set_option maxRecDepth 20000 in
theorem a_166 : pz_all false 138 rw_166 pg_166 := ⟨o_166_0, ⟨⟨rw_155, tq_155, rfl, k_166_1⟩, ⟨o_166_4, ⟨o_166_6, ⟨o_166_9, ⟨o_166_10, ⟨⟨rw_161, tq_161, rfl, k_166_12⟩, ⟨o_166_15, ⟨o_166_18, ⟨o_166_19, ⟨o_166_20, ⟨⟨rw_156, tq_156, rfl, k_166_21⟩, ⟨o_166_24, ⟨o_166_27, ⟨⟨rw_159, tq_159, rfl, k_166_28⟩, ⟨o_166_31, ⟨o_166_34, ⟨o_166_35, ⟨o_166_36, ⟨o_166_37, ⟨o_166_38, ⟨o_166_39, ⟨⟨rw_160, tq_160, rfl, k_166_42⟩, ⟨o_166_45, ⟨o_166_46, ⟨o_166_47, ⟨⟨rw_155, tq_155, rfl, k_166_48⟩, ⟨⟨rw_163, tq_163, rfl, k_166_51⟩, ⟨o_166_54, ⟨o_166_55, ⟨o_166_56, ⟨o_166_57, ⟨o_166_60, ⟨o_166_61, ⟨o_166_62, ⟨o_166_63, ⟨⟨rw_157, tq_157, rfl, k_166_66⟩, ⟨o_166_69, ⟨o_166_70, ⟨o_166_71, ⟨o_166_72, ⟨⟨rw_160, tq_160, rfl, k_166_73⟩, ⟨o_166_76, ⟨o_166_77, ⟨o_166_78, ⟨o_166_81, ⟨o_166_82, ⟨o_166_83, ⟨o_166_86, ⟨o_166_87, trivial⟩⟩⟩⟩⟩⟩⟩⟩⟩⟩⟩⟩⟩⟩⟩⟩⟩⟩⟩⟩⟩⟩⟩⟩⟩⟩⟩⟩⟩⟩⟩⟩⟩⟩⟩⟩⟩⟩⟩⟩⟩⟩⟩⟩⟩⟩⟩⟩⟩⟩
theorem ro_167 : pz_rowOK rw_167 := ⟨by decide +kernel, wm_1172, wm_11, by decide +kernel⟩
theorem o_167_0 : pz_OK false rw_167 0 (op_iload 1 1) := ok_iload_n (k := 1) (by decide +kernel)
theorem o_167_1 : pz_OK false rw_167 1 (op_istore 2 2) := ok_istore_n (k := 2) (by decide +kernel)
theorem o_167_2 : pz_OK false rw_167 2 (op_iload 2 3) := ok_iload_n (k := 2) (by decide +kernel)
theorem o_167_3 : pz_OK false rw_167 3 (op_aload 0 4) := ok_aload_n (k := 0) (by decide +kernel)
theorem o_167_4 : pz_OK false rw_167 4 (op_getI 11 15 7) := ok_getI cc_11 (by decide) rfl rfl (Or.inl wm_940) (by decide +kernel)
theorem o_167_7 : pz_OK false rw_167 7 (op_icmp c_ge 32 10) := ok_icmp_ge (off := 25) (by decide +kernel) (by decide)
theorem o_167_10 : pz_OK false rw_167 10 (op_aload 0 11) := ok_aload_n (k := 0) (by decide +kernel)
theorem o_167_11 : pz_OK false rw_167 11 (op_getR 11 19 14) := ok_getR cc_11 (by decide) rfl rfl (Or.inl wm_944) (by decide +kernel)
theorem o_167_14 : pz_OK false rw_167 14 (op_iload 2 15) := ok_iload_n (k := 2) (by decide +kernel)
theorem o_167_15 : pz_OK false rw_167 15 (op_iald 21 16) := ok_iald (by decide +kernel) rfl (by decide)
theorem o_167_16 : pz_OK false rw_167 16 (op_stk (sg_const (1048576)) 18) := ok_ldc (z := 1048576) (by decide +kernel) wm_1142 (by unfold pz_in; decide) (by decide)
theorem o_167_18 : pz_OK false rw_167 18 (op_stk (sg_div f_div) 19) := ok_idiv (by decide +kernel)
theorem o_167_19 : pz_OK false rw_167 19 (op_stk (sg_const (14)) 21) := ok_bipush (by decide +kernel) (by unfold pz_in; decide) (by decide)
theorem o_167_21 : pz_OK false rw_167 21 (op_icmp c_ne 26 24) := ok_icmp_ne (off := 5) (by decide +kernel) (by decide)
theorem o_167_24 : pz_OK false rw_167 24 (op_stk (sg_const (1)) 25) := ok_iconst (by decide +kernel) (by unfold pz_in; decide)
theorem o_167_25 : pz_OK false rw_167 25 (op_iret g_bool) := ok_iret (by decide +kernel) rfl pz_g_bool
theorem o_167_26 : pz_OK false rw_167 26 (op_iinc 2 (1) 29) := ok_iinc (by decide +kernel)
theorem o_167_29 : pz_OK false rw_167 29 (op_goto 2) := ok_goto (off := -27) (by decide +kernel) (by decide)
theorem o_167_32 : pz_OK false rw_167 32 (op_stk (sg_const (0)) 33) := ok_iconst (by decide +kernel) (by unfold pz_in; decide)
theorem o_167_33 : pz_OK false rw_167 33 (op_iret g_bool) := ok_iret (by decide +kernel) rfl pz_g_bool
set_option maxRecDepth 20000 in
theorem a_167 : pz_all false 138 rw_167 pg_167 := ⟨o_167_0, ⟨o_167_1, ⟨o_167_2, ⟨o_167_3, ⟨o_167_4, ⟨o_167_7, ⟨o_167_10, ⟨o_167_11, ⟨o_167_14, ⟨o_167_15, ⟨o_167_16, ⟨o_167_18, ⟨o_167_19, ⟨o_167_21, ⟨o_167_24, ⟨o_167_25, ⟨o_167_26, ⟨o_167_29, ⟨o_167_32, ⟨o_167_33, trivial⟩⟩⟩⟩⟩⟩⟩⟩⟩⟩⟩⟩⟩⟩⟩⟩⟩⟩⟩⟩
theorem ro_168 : pz_rowOK rw_168 := ⟨by decide +kernel, wm_1133, wm_11, by decide +kernel⟩
theorem o_168_0 : pz_OK false rw_168 0 (op_aload 0 1) := ok_aload_n (k := 0) (by decide +kernel)
theorem o_168_1 : pz_OK false rw_168 1 (op_getI 11 15 4) := ok_getI cc_11 (by decide) rfl rfl (Or.inl wm_940) (by decide +kernel)
theorem o_168_4 : pz_OK false rw_168 4 (op_istore 1 5) := ok_istore_n (k := 1) (by decide +kernel)
theorem o_168_5 : pz_OK false rw_168 5 (op_aload 0 6) := ok_aload_n (k := 0) (by decide +kernel)
theorem k_168_6 : pz_callOK false rw_168 rw_166 6 1 12 := ⟨189, (Or.inl wm_1134), Or.inr ⟨(by decide +kernel), wm_1136, ws_45, by unfold pz_np; decide +kernel, by decide, Or.inl ⟨_, _, rfl, by decide, rfl⟩⟩⟩
theorem o_168_9 : pz_OK false rw_168 9 (op_ifz c_ne 14 12) := ok_if_ne (off := 5) (by decide +kernel) (by decide)
theorem o_168_12 : pz_OK false rw_168 12 (op_stk (sg_const (0)) 13) := ok_iconst (by decide +kernel) (by unfold pz_in; decide)
theorem o_168_13 : pz_OK false rw_168 13 (op_iret g_bool) := ok_iret (by decide +kernel) rfl pz_g_bool
theorem o_168_14 : pz_OK false rw_168 14 (op_aload 0 15) := ok_aload_n (k := 0) (by decide +kernel)
theorem k_168_15 : pz_callOK false rw_168 rw_155 15 1 12 := ⟨147, (Or.inl wm_1122), Or.inr ⟨(by decide +kernel), wm_1124, ws_42, by unfold pz_np; decide +kernel, by decide, Or.inl ⟨_, _, rfl, by decide, rfl⟩⟩⟩
theorem k_168_18 : pz_callOK false rw_168 rw_164 18 1 0 := ⟨192, (Or.inl wm_1158), Or.inl ⟨(by decide +kernel), wm_1159, by unfold pz_np; decide +kernel⟩⟩
theorem o_168_21 : pz_OK false rw_168 21 (op_istore 2 22) := ok_istore_n (k := 2) (by decide +kernel)
theorem o_168_22 : pz_OK false rw_168 22 (op_iload 2 23) := ok_iload_n (k := 2) (by decide +kernel)
theorem o_168_23 : pz_OK false rw_168 23 (op_stk (sg_const (-1)) 24) := ok_iconst (by decide +kernel) (by unfold pz_in; decide)
theorem o_168_24 : pz_OK false rw_168 24 (op_icmp c_eq 83 27) := ok_icmp_eq (off := 59) (by decide +kernel) (by decide)
theorem o_168_27 : pz_OK false rw_168 27 (op_aload 0 28) := ok_aload_n (k := 0) (by decide +kernel)
theorem o_168_28 : pz_OK false rw_168 28 (op_iload 2 29) := ok_iload_n (k := 2) (by decide +kernel)
theorem o_168_29 : pz_OK false rw_168 29 (op_stk (sg_const (4)) 30) := ok_iconst (by decide +kernel) (by unfold pz_in; decide)
theorem o_168_30 : pz_OK false rw_168 30 (op_icmp c_ge 37 33) := ok_icmp_ge (off := 7) (by decide +kernel) (by decide)
theorem o_168_33 : pz_OK false rw_168 33 (op_stk (sg_const (1)) 34) := ok_iconst (by decide +kernel) (by unfold pz_in; decide)
theorem o_168_34 : pz_OK false rw_168 34 (op_goto 38) := ok_goto (off := 4) (by decide +kernel) (by decide)
theorem o_168_37 : pz_OK false rw_168 37 (op_stk (sg_const (0)) 38) := ok_iconst (by decide +kernel) (by unfold pz_in; decide)
theorem k_168_38 : pz_callOK false rw_168 rw_165 38 2 12 := ⟨195, (Or.inl wm_1161), Or.inr ⟨(by decide +kernel), wm_1163, ws_50, by unfold pz_np; decide +kernel, by decide, Or.inl ⟨_, _, rfl, by decide, rfl⟩⟩⟩
theorem o_168_41 : pz_OK false rw_168 41 (op_aload 0 42) := ok_aload_n (k := 0) (by decide +kernel)
theorem o_168_42 : pz_OK false rw_168 42 (op_getR 11 19 45) := ok_getR cc_11 (by decide) rfl rfl (Or.inl wm_944) (by decide +kernel)
theorem o_168_45 : pz_OK false rw_168 45 (op_aload 0 46) := ok_aload_n (k := 0) (by decide +kernel)
theorem o_168_46 : pz_OK false rw_168 46 (op_getI 11 15 49) := ok_getI cc_11 (by decide) rfl rfl (Or.inl wm_940) (by decide +kernel)
theorem o_168_49 : pz_OK false rw_168 49 (op_stk (sg_const (1048576)) 51) := ok_ldc (z := 1048576) (by decide +kernel) wm_1142 (by unfold pz_in; decide) (by decide)
theorem o_168_51 : pz_OK false rw_168 51 (op_iload 2 52) := ok_iload_n (k := 2) (by decide +kernel)
theorem o_168_52 : pz_OK false rw_168 52 (op_stk (sg_bin f_mul) 53) := ok_imul (by decide +kernel)
theorem o_168_53 : pz_OK false rw_168 53 (op_iast 21 54) := ok_iast (by decide +kernel) rfl (by decide)
theorem o_168_54 : pz_OK false rw_168 54 (op_aload 0 55) := ok_aload_n (k := 0) (by decide +kernel)
theorem o_168_55 : pz_OK false rw_168 55 (op_aload 0 56) := ok_aload_n (k := 0) (by decide +kernel)
theorem o_168_56 : pz_OK false rw_168 56 (op_getI 11 15 59) := ok_getI cc_11 (by decide) rfl rfl (Or.inl wm_940) (by decide +kernel)
theorem o_168_59 : pz_OK false rw_168 59 (op_stk (sg_const (1)) 60) := ok_iconst (by decide +kernel) (by unfold pz_in; decide)
theorem o_168_60 : pz_OK false rw_168 60 (op_stk (sg_bin f_add) 61) := ok_iadd (by decide +kernel)
theorem o_168_61 : pz_OK false rw_168 61 (op_putI false 11 15 64) := ok_putI cc_11 (by decide) rfl rfl (Or.inl wm_940) rfl (by decide +kernel) (by decide +kernel)
theorem o_168_64 : pz_OK false rw_168 64 (op_aload 0 65) := ok_aload_n (k := 0) (by decide +kernel)
theorem o_168_65 : pz_OK false rw_168 65 (op_aload 0 66) := ok_aload_n (k := 0) (by decide +kernel)
theorem o_168_66 : pz_OK false rw_168 66 (op_getI 11 9 69) := ok_getI cc_11 (by decide) rfl rfl (Or.inl wm_934) (by decide +kernel)
theorem o_168_69 : pz_OK false rw_168 69 (op_stk (sg_const (1)) 70) := ok_iconst (by decide +kernel) (by unfold pz_in; decide)
theorem o_168_70 : pz_OK false rw_168 70 (op_stk (sg_bin f_add) 71) := ok_iadd (by decide +kernel)
theorem o_168_71 : pz_OK false rw_168 71 (op_putI false 11 9 74) := ok_putI cc_11 (by decide) rfl rfl (Or.inl wm_934) rfl (by decide +kernel) (by decide +kernel)
theorem o_168_74 : pz_OK false rw_168 74 (op_aload 0 75) := ok_aload_n (k := 0) (by decide +kernel)
theorem k_168_75 : pz_callOK false rw_168 rw_166 75 1 12 := ⟨189, (Or.inl wm_1134), Or.inr ⟨(by decide +kernel), wm_1136, ws_45, by unfold pz_np; decide +kernel, by decide, Or.inl ⟨_, _, rfl, by decide, rfl⟩⟩⟩
theorem o_168_78 : pz_OK false rw_168 78 (op_ifz c_ne 163 81) := ok_if_ne (off := 85) (by decide +kernel) (by decide)
theorem o_168_81 : pz_OK false rw_168 81 (op_stk (sg_const (0)) 82) := ok_iconst (by decide +kernel) (by unfold pz_in; decide)
theorem o_168_82 : pz_OK false rw_168 82 (op_iret g_bool) := ok_iret (by decide +kernel) rfl pz_g_bool
theorem o_168_83 : pz_OK false rw_168 83 (op_aload 0 84) := ok_aload_n (k := 0) (by decide +kernel)
theorem k_168_84 : pz_callOK false rw_168 rw_155 84 1 12 := ⟨147, (Or.inl wm_1122), Or.inr ⟨(by decide +kernel), wm_1124, ws_42, by unfold pz_np; decide +kernel, by decide, Or.inl ⟨_, _, rfl, by decide, rfl⟩⟩⟩
theorem o_168_87 : pz_OK false rw_168 87 (op_stk (sg_const (93)) 89) := ok_bipush (by decide +kernel) (by unfold pz_in; decide) (by decide)
theorem o_168_89 : pz_OK false rw_168 89 (op_icmp c_ne 138 92) := ok_icmp_ne (off := 49) (by decide +kernel) (by decide)
theorem o_168_92 : pz_OK false rw_168 92 (op_aload 0 93) := ok_aload_n (k := 0) (by decide +kernel)
theorem o_168_93 : pz_OK false rw_168 93 (op_iload 1 94) := ok_iload_n (k := 1) (by decide +kernel)
theorem k_168_94 : pz_callOK false rw_168 rw_167 94 2 12 := ⟨199, (Or.inl wm_1169), Or.inr ⟨(by decide +kernel), wm_1171, ws_52, by unfold pz_np; decide +kernel, by decide, Or.inl ⟨_, _, rfl, by decide, rfl⟩⟩⟩
theorem o_168_97 : pz_OK false rw_168 97 (op_ifz c_eq 138 100) := ok_if_eq (off := 41) (by decide +kernel) (by decide)
theorem o_168_100 : pz_OK false rw_168 100 (op_aload 0 101) := ok_aload_n (k := 0) (by decide +kernel)
theorem o_168_101 : pz_OK false rw_168 101 (op_stk (sg_const (1)) 102) := ok_iconst (by decide +kernel) (by unfold pz_in; decide)
theorem k_168_102 : pz_callOK false rw_168 rw_165 102 2 12 := ⟨195, (Or.inl wm_1161), Or.inr ⟨(by decide +kernel), wm_1163, ws_50, by unfold pz_np; decide +kernel, by decide, Or.inl ⟨_, _, rfl, by decide, rfl⟩⟩⟩
theorem o_168_105 : pz_OK false rw_168 105 (op_aload 0 106) := ok_aload_n (k := 0) (by decide +kernel)
theorem o_168_106 : pz_OK false rw_168 106 (op_aload 0 107) := ok_aload_n (k := 0) (by decide +kernel)
theorem o_168_107 : pz_OK false rw_168 107 (op_getI 11 15 110) := ok_getI cc_11 (by decide) rfl rfl (Or.inl wm_940) (by decide +kernel)
theorem o_168_110 : pz_OK false rw_168 110 (op_stk (sg_const (1)) 111) := ok_iconst (by decide +kernel) (by unfold pz_in; decide)
theorem o_168_111 : pz_OK false rw_168 111 (op_stk (sg_bin f_sub) 112) := ok_isub (by decide +kernel)
theorem o_168_112 : pz_OK false rw_168 112 (op_putI false 11 15 115) := ok_putI cc_11 (by decide) rfl rfl (Or.inl wm_940) rfl (by decide +kernel) (by decide +kernel)
theorem o_168_115 : pz_OK false rw_168 115 (op_aload 0 116) := ok_aload_n (k := 0) (by decide +kernel)
theorem o_168_116 : pz_OK false rw_168 116 (op_aload 0 117) := ok_aload_n (k := 0) (by decide +kernel)
theorem o_168_117 : pz_OK false rw_168 117 (op_getI 11 13 120) := ok_getI cc_11 (by decide) rfl rfl (Or.inl wm_938) (by decide +kernel)
theorem o_168_120 : pz_OK false rw_168 120 (op_stk (sg_const (1)) 121) := ok_iconst (by decide +kernel) (by unfold pz_in; decide)
theorem o_168_121 : pz_OK false rw_168 121 (op_stk (sg_bin f_sub) 122) := ok_isub (by decide +kernel)
theorem o_168_122 : pz_OK false rw_168 122 (op_putI false 11 13 125) := ok_putI cc_11 (by decide) rfl rfl (Or.inl wm_938) rfl (by decide +kernel) (by decide +kernel)
theorem o_168_125 : pz_OK false rw_168 125 (op_aload 0 126) := ok_aload_n (k := 0) (by decide +kernel)
theorem o_168_126 : pz_OK false rw_168 126 (op_aload 0 127) := ok_aload_n (k := 0) (by decide +kernel)
theorem o_168_127 : pz_OK false rw_168 127 (op_getI 11 9 130) := ok_getI cc_11 (by decide) rfl rfl (Or.inl wm_934) (by decide +kernel)
theorem o_168_130 : pz_OK false rw_168 130 (op_stk (sg_const (1)) 131) := ok_iconst (by decide +kernel) (by unfold pz_in; decide)
theorem o_168_131 : pz_OK false rw_168 131 (op_stk (sg_bin f_add) 132) := ok_iadd (by decide +kernel)
theorem o_168_132 : pz_OK false rw_168 132 (op_putI false 11 9 135) := ok_putI cc_11 (by decide) rfl rfl (Or.inl wm_934) rfl (by decide +kernel) (by decide +kernel)
theorem o_168_135 : pz_OK false rw_168 135 (op_goto 163) := ok_goto (off := 28) (by decide +kernel) (by decide)
theorem o_168_138 : pz_OK false rw_168 138 (op_aload 0 139) := ok_aload_n (k := 0) (by decide +kernel)
theorem o_168_139 : pz_OK false rw_168 139 (op_iload 1 140) := ok_iload_n (k := 1) (by decide +kernel)
theorem k_168_140 : pz_callOK false rw_168 rw_167 140 2 12 := ⟨199, (Or.inl wm_1169), Or.inr ⟨(by decide +kernel), wm_1171, ws_52, by unfold pz_np; decide +kernel, by decide, Or.inl ⟨_, _, rfl, by decide, rfl⟩⟩⟩
theorem o_168_143 : pz_OK false rw_168 143 (op_ifz c_eq 156 146) := ok_if_eq (off := 13) (by decide +kernel) (by decide)
theorem o_168_146 : pz_OK false rw_168 146 (op_aload 0 147) := ok_aload_n (k := 0) (by decide +kernel)
theorem o_168_147 : pz_OK false rw_168 147 (op_stk (sg_const (1)) 148) := ok_iconst (by decide +kernel) (by unfold pz_in; decide)
theorem o_168_148 : pz_OK false rw_168 148 (op_aload 0 149) := ok_aload_n (k := 0) (by decide +kernel)
theorem o_168_149 : pz_OK false rw_168 149 (op_getI 11 9 152) := ok_getI cc_11 (by decide) rfl rfl (Or.inl wm_934) (by decide +kernel)
theorem k_168_152 : pz_callOK false rw_168 rw_157 152 3 12 := ⟨154, (Or.inl wm_1126), Or.inr ⟨(by decide +kernel), wm_1128, ws_43, by unfold pz_np; decide +kernel, by decide, Or.inl ⟨_, _, rfl, by decide, rfl⟩⟩⟩
theorem o_168_155 : pz_OK false rw_168 155 (op_iret g_bool) := ok_iret (by decide +kernel) rfl pz_g_bool
theorem o_168_156 : pz_OK false rw_168 156 (op_aload 0 157) := ok_aload_n (k := 0) (by decide +kernel)
theorem o_168_157 : pz_OK false rw_168 157 (op_stk (sg_const (1)) 158) := ok_iconst (by decide +kernel) (by unfold pz_in; decide)
theorem k_168_158 : pz_callOK false rw_168 rw_165 158 2 12 := ⟨195, (Or.inl wm_1161), Or.inr ⟨(by decide +kernel), wm_1163, ws_50, by unfold pz_np; decide +kernel, by decide, Or.inl ⟨_, _, rfl, by decide, rfl⟩⟩⟩
theorem o_168_161 : pz_OK false rw_168 161 (op_stk (sg_const (1)) 162) := ok_iconst (by decide +kernel) (by unfold pz_in; decide)
theorem o_168_162 : pz_OK false rw_168 162 (op_iret g_bool) := ok_iret (by decide +kernel) rfl pz_g_bool
theorem o_168_163 : pz_OK false rw_168 163 (op_goto 14) := ok_goto (off := -149) (by decide +kernel) (by decide)
set_option maxRecDepth 20000 in
theorem a_168 : pz_all false 138 rw_168 pg_168 := ⟨o_168_0, ⟨o_168_1, ⟨o_168_4, ⟨o_168_5, ⟨⟨rw_166, tq_166, rfl, k_168_6⟩, ⟨o_168_9, ⟨o_168_12, ⟨o_168_13, ⟨o_168_14, ⟨⟨rw_155, tq_155, rfl, k_168_15⟩, ⟨⟨rw_164, tq_164, rfl, k_168_18⟩, ⟨o_168_21, ⟨o_168_22, ⟨o_168_23, ⟨o_168_24, ⟨o_168_27, ⟨o_168_28, ⟨o_168_29, ⟨o_168_30, ⟨o_168_33, ⟨o_168_34, ⟨o_168_37, ⟨⟨rw_165, tq_165, rfl, k_168_38⟩, ⟨o_168_41, ⟨o_168_42, ⟨o_168_45, ⟨o_168_46, ⟨o_168_49, ⟨o_168_51, ⟨o_168_52, ⟨o_168_53, ⟨o_168_54, ⟨o_168_55, ⟨o_168_56, ⟨o_168_59, ⟨o_168_60, ⟨o_168_61, ⟨o_168_64, ⟨o_168_65, ⟨o_168_66, ⟨o_168_69, ⟨o_168_70, ⟨o_168_71, ⟨o_168_74, ⟨⟨rw_166, tq_166, rfl, k_168_75⟩, ⟨o_168_78, ⟨o_168_81, ⟨o_168_82, ⟨o_168_83, ⟨⟨rw_155, tq_155, rfl, k_168_84⟩, ⟨o_168_87, ⟨o_168_89, ⟨o_168_92, ⟨o_168_93, ⟨⟨rw_167, tq_167, rfl, k_168_94⟩, ⟨o_168_97, ⟨o_168_100, ⟨o_168_101, ⟨⟨rw_165, tq_165, rfl, k_168_102⟩, ⟨o_168_105, ⟨o_168_106, ⟨o_168_107, ⟨o_168_110, ⟨o_168_111, ⟨o_168_112, ⟨o_168_115, ⟨o_168_116, ⟨o_168_117, ⟨o_168_120, ⟨o_168_121, ⟨o_168_122, ⟨o_168_125, ⟨o_168_126, ⟨o_168_127, ⟨o_168_130, ⟨o_168_131, ⟨o_168_132, ⟨o_168_135, ⟨o_168_138, ⟨o_168_139, ⟨⟨rw_167, tq_167, rfl, k_168_140⟩, ⟨o_168_143, ⟨o_168_146, ⟨o_168_147, ⟨o_168_148, ⟨o_168_149, ⟨⟨rw_157, tq_157, rfl, k_168_152⟩, ⟨o_168_155, ⟨o_168_156, ⟨o_168_157, ⟨⟨rw_165, tq_165, rfl, k_168_158⟩, ⟨o_168_161, ⟨o_168_162, ⟨o_168_163, trivial⟩⟩⟩⟩⟩⟩⟩⟩⟩⟩⟩⟩⟩⟩⟩⟩⟩⟩⟩⟩⟩⟩⟩⟩⟩⟩⟩⟩⟩⟩⟩⟩⟩⟩⟩⟩⟩⟩⟩⟩⟩⟩⟩⟩⟩⟩⟩⟩⟩⟩⟩⟩⟩⟩⟩⟩⟩⟩⟩⟩⟩⟩⟩⟩⟩⟩⟩⟩⟩⟩⟩⟩⟩⟩⟩⟩⟩⟩⟩⟩⟩⟩⟩⟩⟩⟩⟩⟩⟩⟩⟩⟩⟩⟩
theorem ro_169 : pz_rowOK rw_169 := ⟨by decide +kernel, wm_1184, wm_11, by decide +kernel⟩
theorem o_169_0 : pz_OK false rw_169 0 (op_aload 0 1) := ok_aload_n (k := 0) (by decide +kernel)
theorem k_169_1 : pz_callOK false rw_169 rw_162 1 1 12 := ⟨174, (Or.inl wm_1165), Or.inr ⟨(by decide +kernel), wm_1167, ws_51, by unfold pz_np; decide +kernel, by decide, Or.inl ⟨_, _, rfl, by decide, rfl⟩⟩⟩
theorem o_169_4 : pz_OK false rw_169 4 (op_stk (sg_const (10)) 6) := ok_bipush (by decide +kernel) (by unfold pz_in; decide) (by decide)
theorem o_169_6 : pz_OK false rw_169 6 (op_icmp c_ne 39 9) := ok_icmp_ne (off := 33) (by decide +kernel) (by decide)
theorem o_169_9 : pz_OK false rw_169 9 (op_aload 0 10) := ok_aload_n (k := 0) (by decide +kernel)
theorem o_169_10 : pz_OK false rw_169 10 (op_stk (sg_const (10)) 12) := ok_bipush (by decide +kernel) (by unfold pz_in; decide) (by decide)
theorem o_169_12 : pz_OK false rw_169 12 (op_stk (sg_const (0)) 13) := ok_iconst (by decide +kernel) (by unfold pz_in; decide)
theorem k_169_13 : pz_callOK false rw_169 rw_160 13 3 12 := ⟨177, (Or.inl wm_1151), Or.inr ⟨(by decide +kernel), wm_1153, ws_49, by unfold pz_np; decide +kernel, by decide, Or.inl ⟨_, _, rfl, by decide, rfl⟩⟩⟩
theorem o_169_16 : pz_OK false rw_169 16 (op_aload 0 17) := ok_aload_n (k := 0) (by decide +kernel)
theorem o_169_17 : pz_OK false rw_169 17 (op_aload 0 18) := ok_aload_n (k := 0) (by decide +kernel)
theorem o_169_18 : pz_OK false rw_169 18 (op_getI 11 15 21) := ok_getI cc_11 (by decide) rfl rfl (Or.inl wm_940) (by decide +kernel)
theorem o_169_21 : pz_OK false rw_169 21 (op_stk (sg_const (1)) 22) := ok_iconst (by decide +kernel) (by unfold pz_in; decide)
theorem o_169_22 : pz_OK false rw_169 22 (op_stk (sg_bin f_sub) 23) := ok_isub (by decide +kernel)
theorem o_169_23 : pz_OK false rw_169 23 (op_putI false 11 15 26) := ok_putI cc_11 (by decide) rfl rfl (Or.inl wm_940) rfl (by decide +kernel) (by decide +kernel)
theorem o_169_26 : pz_OK false rw_169 26 (op_aload 0 27) := ok_aload_n (k := 0) (by decide +kernel)
theorem o_169_27 : pz_OK false rw_169 27 (op_aload 0 28) := ok_aload_n (k := 0) (by decide +kernel)
theorem o_169_28 : pz_OK false rw_169 28 (op_getI 11 13 31) := ok_getI cc_11 (by decide) rfl rfl (Or.inl wm_938) (by decide +kernel)
theorem o_169_31 : pz_OK false rw_169 31 (op_stk (sg_const (1)) 32) := ok_iconst (by decide +kernel) (by unfold pz_in; decide)
theorem o_169_32 : pz_OK false rw_169 32 (op_stk (sg_bin f_sub) 33) := ok_isub (by decide +kernel)
theorem o_169_33 : pz_OK false rw_169 33 (op_putI false 11 13 36) := ok_putI cc_11 (by decide) rfl rfl (Or.inl wm_938) rfl (by decide +kernel) (by decide +kernel)
theorem o_169_36 : pz_OK false rw_169 36 (op_goto 0) := ok_goto (off := -36) (by decide +kernel) (by decide)
theorem o_169_39 : pz_OK false rw_169 39 (op_ret) := ok_ret (by decide +kernel) rfl
set_option maxRecDepth 20000 in
theorem a_169 : pz_all false 138 rw_169 pg_169 := ⟨o_169_0, ⟨⟨rw_162, tq_162, rfl, k_169_1⟩, ⟨o_169_4, ⟨o_169_6, ⟨o_169_9, ⟨o_169_10, ⟨o_169_12, ⟨⟨rw_160, tq_160, rfl, k_169_13⟩, ⟨o_169_16, ⟨o_169_17, ⟨o_169_18, ⟨o_169_21, ⟨o_169_22, ⟨o_169_23, ⟨o_169_26, ⟨o_169_27, ⟨o_169_28, ⟨o_169_31, ⟨o_169_32, ⟨o_169_33, ⟨o_169_36, ⟨o_169_39, trivial⟩⟩⟩⟩⟩⟩⟩⟩⟩⟩⟩⟩⟩⟩⟩⟩⟩⟩⟩⟩⟩⟩
theorem ro_170 : pz_rowOK rw_170 := ⟨by decide +kernel, wm_1188, wm_11, by decide +kernel⟩
theorem o_170_0 : pz_OK false rw_170 0 (op_aload 0 1) := ok_aload_n (k := 0) (by decide +kernel)
theorem k_170_1 : pz_callOK false rw_170 rw_162 1 1 12 := ⟨174, (Or.inl wm_1165), Or.inr ⟨(by decide +kernel), wm_1167, ws_51, by unfold pz_np; decide +kernel, by decide, Or.inl ⟨_, _, rfl, by decide, rfl⟩⟩⟩
theorem o_170_4 : pz_OK false rw_170 4 (op_stk (sg_const (11)) 6) := ok_bipush (by decide +kernel) (by unfold pz_in; decide) (by decide)
theorem o_170_6 : pz_OK false rw_170 6 (op_icmp c_eq 22 9) := ok_icmp_eq (off := 16) (by decide +kernel) (by decide)
theorem o_170_9 : pz_OK false rw_170 9 (op_iload 1 10) := ok_iload_n (k := 1) (by decide +kernel)
theorem o_170_10 : pz_OK false rw_170 10 (op_ifz c_eq 73 13) := ok_if_eq (off := 63) (by decide +kernel) (by decide)
theorem o_170_13 : pz_OK false rw_170 13 (op_aload 0 14) := ok_aload_n (k := 0) (by decide +kernel)
theorem k_170_14 : pz_callOK false rw_170 rw_162 14 1 12 := ⟨174, (Or.inl wm_1165), Or.inr ⟨(by decide +kernel), wm_1167, ws_51, by unfold pz_np; decide +kernel, by decide, Or.inl ⟨_, _, rfl, by decide, rfl⟩⟩⟩
theorem o_170_17 : pz_OK false rw_170 17 (op_stk (sg_const (12)) 19) := ok_bipush (by decide +kernel) (by unfold pz_in; decide) (by decide)
theorem o_170_19 : pz_OK false rw_170 19 (op_icmp c_ne 73 22) := ok_icmp_ne (off := 54) (by decide +kernel) (by decide)
theorem o_170_22 : pz_OK false rw_170 22 (op_aload 0 23) := ok_aload_n (k := 0) (by decide +kernel)
theorem o_170_23 : pz_OK false rw_170 23 (op_getR 11 19 26) := ok_getR cc_11 (by decide) rfl rfl (Or.inl wm_944) (by decide +kernel)
theorem o_170_26 : pz_OK false rw_170 26 (op_aload 0 27) := ok_aload_n (k := 0) (by decide +kernel)
theorem o_170_27 : pz_OK false rw_170 27 (op_getI 11 15 30) := ok_getI cc_11 (by decide) rfl rfl (Or.inl wm_940) (by decide +kernel)
theorem o_170_30 : pz_OK false rw_170 30 (op_stk (sg_const (1)) 31) := ok_iconst (by decide +kernel) (by unfold pz_in; decide)
theorem o_170_31 : pz_OK false rw_170 31 (op_stk (sg_bin f_sub) 32) := ok_isub (by decide +kernel)
theorem o_170_32 : pz_OK false rw_170 32 (op_iald 21 33) := ok_iald (by decide +kernel) rfl (by decide)
theorem o_170_33 : pz_OK false rw_170 33 (op_stk (sg_const (1048576)) 35) := ok_ldc (z := 1048576) (by decide +kernel) wm_1142 (by unfold pz_in; decide) (by decide)
theorem o_170_35 : pz_OK false rw_170 35 (op_stk (sg_div f_rem) 36) := ok_irem (by decide +kernel)
theorem o_170_36 : pz_OK false rw_170 36 (op_istore 2 37) := ok_istore_n (k := 2) (by decide +kernel)
theorem o_170_37 : pz_OK false rw_170 37 (op_aload 0 38) := ok_aload_n (k := 0) (by decide +kernel)
theorem o_170_38 : pz_OK false rw_170 38 (op_getR 11 18 41) := ok_getR cc_11 (by decide) rfl rfl (Or.inl wm_943) (by decide +kernel)
theorem o_170_41 : pz_OK false rw_170 41 (op_iload 2 42) := ok_iload_n (k := 2) (by decide +kernel)
theorem o_170_42 : pz_OK false rw_170 42 (op_stk (sg_const (1048576)) 44) := ok_ldc (z := 1048576) (by decide +kernel) wm_1142 (by unfold pz_in; decide) (by decide)
theorem o_170_44 : pz_OK false rw_170 44 (op_aload 0 45) := ok_aload_n (k := 0) (by decide +kernel)
theorem o_170_45 : pz_OK false rw_170 45 (op_getR 11 18 48) := ok_getR cc_11 (by decide) rfl rfl (Or.inl wm_943) (by decide +kernel)
theorem o_170_48 : pz_OK false rw_170 48 (op_iload 2 49) := ok_iload_n (k := 2) (by decide +kernel)
theorem o_170_49 : pz_OK false rw_170 49 (op_iald 21 50) := ok_iald (by decide +kernel) rfl (by decide)
theorem o_170_50 : pz_OK false rw_170 50 (op_stk (sg_const (1048576)) 52) := ok_ldc (z := 1048576) (by decide +kernel) wm_1142 (by unfold pz_in; decide) (by decide)
theorem o_170_52 : pz_OK false rw_170 52 (op_stk (sg_div f_div) 53) := ok_idiv (by decide +kernel)
theorem o_170_53 : pz_OK false rw_170 53 (op_stk (sg_bin f_mul) 54) := ok_imul (by decide +kernel)
theorem o_170_54 : pz_OK false rw_170 54 (op_aload 0 55) := ok_aload_n (k := 0) (by decide +kernel)
theorem o_170_55 : pz_OK false rw_170 55 (op_getI 11 14 58) := ok_getI cc_11 (by decide) rfl rfl (Or.inl wm_939) (by decide +kernel)
theorem o_170_58 : pz_OK false rw_170 58 (op_stk (sg_bin f_add) 59) := ok_iadd (by decide +kernel)
theorem o_170_59 : pz_OK false rw_170 59 (op_iast 21 60) := ok_iast (by decide +kernel) rfl (by decide)
theorem o_170_60 : pz_OK false rw_170 60 (op_aload 0 61) := ok_aload_n (k := 0) (by decide +kernel)
theorem o_170_61 : pz_OK false rw_170 61 (op_aload 0 62) := ok_aload_n (k := 0) (by decide +kernel)
theorem o_170_62 : pz_OK false rw_170 62 (op_getI 11 15 65) := ok_getI cc_11 (by decide) rfl rfl (Or.inl wm_940) (by decide +kernel)
theorem o_170_65 : pz_OK false rw_170 65 (op_stk (sg_const (1)) 66) := ok_iconst (by decide +kernel) (by unfold pz_in; decide)
theorem o_170_66 : pz_OK false rw_170 66 (op_stk (sg_bin f_sub) 67) := ok_isub (by decide +kernel)
theorem o_170_67 : pz_OK false rw_170 67 (op_putI false 11 15 70) := ok_putI cc_11 (by decide) rfl rfl (Or.inl wm_940) rfl (by decide +kernel) (by decide +kernel)
theorem o_170_70 : pz_OK false rw_170 70 (op_goto 0) := ok_goto (off := -70) (by decide +kernel) (by decide)
theorem o_170_73 : pz_OK false rw_170 73 (op_ret) := ok_ret (by decide +kernel) rfl
set_option maxRecDepth 20000 in
theorem a_170 : pz_all false 138 rw_170 pg_170 := ⟨o_170_0, ⟨⟨rw_162, tq_162, rfl, k_170_1⟩, ⟨o_170_4, ⟨o_170_6, ⟨o_170_9, ⟨o_170_10, ⟨o_170_13, ⟨⟨rw_162, tq_162, rfl, k_170_14⟩, ⟨o_170_17, ⟨o_170_19, ⟨o_170_22, ⟨o_170_23, ⟨o_170_26, ⟨o_170_27, ⟨o_170_30, ⟨o_170_31, ⟨o_170_32, ⟨o_170_33, ⟨o_170_35, ⟨o_170_36, ⟨o_170_37, ⟨o_170_38, ⟨o_170_41, ⟨o_170_42, ⟨o_170_44, ⟨o_170_45, ⟨o_170_48, ⟨o_170_49, ⟨o_170_50, ⟨o_170_52, ⟨o_170_53, ⟨o_170_54, ⟨o_170_55, ⟨o_170_58, ⟨o_170_59, ⟨o_170_60, ⟨o_170_61, ⟨o_170_62, ⟨o_170_65, ⟨o_170_66, ⟨o_170_67, ⟨o_170_70, ⟨o_170_73, trivial⟩⟩⟩⟩⟩⟩⟩⟩⟩⟩⟩⟩⟩⟩⟩⟩⟩⟩⟩⟩⟩⟩⟩⟩⟩⟩⟩⟩⟩⟩⟩⟩⟩⟩⟩⟩⟩⟩⟩⟩⟩⟩⟩
theorem ro_171 : pz_rowOK rw_171 := ⟨by decide +kernel, wm_1192, wm_11, by decide +kernel⟩
theorem o_171_0 : pz_OK false rw_171 0 (op_aload 0 1) := ok_aload_n (k := 0) (by decide +kernel)
theorem o_171_1 : pz_OK false rw_171 1 (op_getR 11 19 4) := ok_getR cc_11 (by decide) rfl rfl (Or.inl wm_944) (by decide +kernel)
theorem o_171_4 : pz_OK false rw_171 4 (op_aload 0 5) := ok_aload_n (k := 0) (by decide +kernel)
theorem o_171_5 : pz_OK false rw_171 5 (op_getI 11 15 8) := ok_getI cc_11 (by decide) rfl rfl (Or.inl wm_940) (by decide +kernel)
theorem o_171_8 : pz_OK false rw_171 8 (op_stk (sg_const (1048576)) 10) := ok_ldc (z := 1048576) (by decide +kernel) wm_1142 (by unfold pz_in; decide) (by decide)
theorem o_171_10 : pz_OK false rw_171 10 (op_iload 1 11) := ok_iload_n (k := 1) (by decide +kernel)
theorem o_171_11 : pz_OK false rw_171 11 (op_stk (sg_bin f_mul) 12) := ok_imul (by decide +kernel)
theorem o_171_12 : pz_OK false rw_171 12 (op_aload 0 13) := ok_aload_n (k := 0) (by decide +kernel)
theorem o_171_13 : pz_OK false rw_171 13 (op_getI 11 14 16) := ok_getI cc_11 (by decide) rfl rfl (Or.inl wm_939) (by decide +kernel)
theorem o_171_16 : pz_OK false rw_171 16 (op_stk (sg_bin f_add) 17) := ok_iadd (by decide +kernel)
theorem o_171_17 : pz_OK false rw_171 17 (op_iast 21 18) := ok_iast (by decide +kernel) rfl (by decide)
theorem o_171_18 : pz_OK false rw_171 18 (op_aload 0 19) := ok_aload_n (k := 0) (by decide +kernel)
theorem o_171_19 : pz_OK false rw_171 19 (op_aload 0 20) := ok_aload_n (k := 0) (by decide +kernel)
theorem o_171_20 : pz_OK false rw_171 20 (op_getI 11 15 23) := ok_getI cc_11 (by decide) rfl rfl (Or.inl wm_940) (by decide +kernel)
theorem o_171_23 : pz_OK false rw_171 23 (op_stk (sg_const (1)) 24) := ok_iconst (by decide +kernel) (by unfold pz_in; decide)
theorem o_171_24 : pz_OK false rw_171 24 (op_stk (sg_bin f_add) 25) := ok_iadd (by decide +kernel)
theorem o_171_25 : pz_OK false rw_171 25 (op_putI false 11 15 28) := ok_putI cc_11 (by decide) rfl rfl (Or.inl wm_940) rfl (by decide +kernel) (by decide +kernel)
theorem o_171_28 : pz_OK false rw_171 28 (op_aload 0 29) := ok_aload_n (k := 0) (by decide +kernel)
theorem o_171_29 : pz_OK false rw_171 29 (op_iload 1 30) := ok_iload_n (k := 1) (by decide +kernel)
theorem o_171_30 : pz_OK false rw_171 30 (op_stk (sg_const (0)) 31) := ok_iconst (by decide +kernel) (by unfold pz_in; decide)
theorem k_171_31 : pz_callOK false rw_171 rw_160 31 3 12 := ⟨177, (Or.inl wm_1151), Or.inr ⟨(by decide +kernel), wm_1153, ws_49, by unfold pz_np; decide +kernel, by decide, Or.inl ⟨_, _, rfl, by decide, rfl⟩⟩⟩
theorem o_171_34 : pz_OK false rw_171 34 (op_aload 0 35) := ok_aload_n (k := 0) (by decide +kernel)
theorem o_171_35 : pz_OK false rw_171 35 (op_aload 0 36) := ok_aload_n (k := 0) (by decide +kernel)
theorem o_171_36 : pz_OK false rw_171 36 (op_getI 11 9 39) := ok_getI cc_11 (by decide) rfl rfl (Or.inl wm_934) (by decide +kernel)
theorem o_171_39 : pz_OK false rw_171 39 (op_stk (sg_const (1)) 40) := ok_iconst (by decide +kernel) (by unfold pz_in; decide)
theorem o_171_40 : pz_OK false rw_171 40 (op_stk (sg_bin f_add) 41) := ok_iadd (by decide +kernel)
theorem o_171_41 : pz_OK false rw_171 41 (op_putI false 11 9 44) := ok_putI cc_11 (by decide) rfl rfl (Or.inl wm_934) rfl (by decide +kernel) (by decide +kernel)
theorem o_171_44 : pz_OK false rw_171 44 (op_ret) := ok_ret (by decide +kernel) rfl
set_option maxRecDepth 20000 in
theorem a_171 : pz_all false 138 rw_171 pg_171 := ⟨o_171_0, ⟨o_171_1, ⟨o_171_4, ⟨o_171_5, ⟨o_171_8, ⟨o_171_10, ⟨o_171_11, ⟨o_171_12, ⟨o_171_13, ⟨o_171_16, ⟨o_171_17, ⟨o_171_18, ⟨o_171_19, ⟨o_171_20, ⟨o_171_23, ⟨o_171_24, ⟨o_171_25, ⟨o_171_28, ⟨o_171_29, ⟨o_171_30, ⟨⟨rw_160, tq_160, rfl, k_171_31⟩, ⟨o_171_34, ⟨o_171_35, ⟨o_171_36, ⟨o_171_39, ⟨o_171_40, ⟨o_171_41, ⟨o_171_44, trivial⟩⟩⟩⟩⟩⟩⟩⟩⟩⟩⟩⟩⟩⟩⟩⟩⟩⟩⟩⟩⟩⟩⟩⟩⟩⟩⟩⟩
theorem ro_172 : pz_rowOK rw_172 := ⟨by decide +kernel, wm_1180, wm_11, by decide +kernel⟩
theorem o_172_0 : pz_OK false rw_172 0 (op_aload 0 1) := ok_aload_n (k := 0) (by decide +kernel)
theorem k_172_1 : pz_callOK false rw_172 rw_168 1 1 12 := ⟨202, (Or.inl wm_1130), Or.inr ⟨(by decide +kernel), wm_1132, ws_44, by unfold pz_np; decide +kernel, by decide, Or.inl ⟨_, _, rfl, by decide, rfl⟩⟩⟩
theorem o_172_4 : pz_OK false rw_172 4 (op_ifz c_ne 9 7) := ok_if_ne (off := 5) (by decide +kernel) (by decide)
theorem o_172_7 : pz_OK false rw_172 7 (op_stk (sg_const (0)) 8) := ok_iconst (by decide +kernel) (by unfold pz_in; decide)
theorem o_172_8 : pz_OK false rw_172 8 (op_iret g_bool) := ok_iret (by decide +kernel) rfl pz_g_bool
theorem o_172_9 : pz_OK false rw_172 9 (op_aload 0 10) := ok_aload_n (k := 0) (by decide +kernel)
theorem k_172_10 : pz_callOK false rw_172 rw_155 10 1 12 := ⟨147, (Or.inl wm_1122), Or.inr ⟨(by decide +kernel), wm_1124, ws_42, by unfold pz_np; decide +kernel, by decide, Or.inl ⟨_, _, rfl, by decide, rfl⟩⟩⟩
theorem o_172_13 : pz_OK false rw_172 13 (op_stk (sg_const (60)) 15) := ok_bipush (by decide +kernel) (by unfold pz_in; decide) (by decide)
theorem o_172_15 : pz_OK false rw_172 15 (op_icmp c_ne 23 18) := ok_icmp_ne (off := 8) (by decide +kernel) (by decide)
theorem o_172_18 : pz_OK false rw_172 18 (op_stk (sg_const (7)) 20) := ok_bipush (by decide +kernel) (by unfold pz_in; decide) (by decide)
theorem o_172_20 : pz_OK false rw_172 20 (op_goto 52) := ok_goto (off := 32) (by decide +kernel) (by decide)
theorem o_172_23 : pz_OK false rw_172 23 (op_aload 0 24) := ok_aload_n (k := 0) (by decide +kernel)
theorem k_172_24 : pz_callOK false rw_172 rw_155 24 1 12 := ⟨147, (Or.inl wm_1122), Or.inr ⟨(by decide +kernel), wm_1124, ws_42, by unfold pz_np; decide +kernel, by decide, Or.inl ⟨_, _, rfl, by decide, rfl⟩⟩⟩
theorem o_172_27 : pz_OK false rw_172 27 (op_stk (sg_const (62)) 29) := ok_bipush (by decide +kernel) (by unfold pz_in; decide) (by decide)
theorem o_172_29 : pz_OK false rw_172 29 (op_icmp c_ne 37 32) := ok_icmp_ne (off := 8) (by decide +kernel) (by decide)
theorem o_172_32 : pz_OK false rw_172 32 (op_stk (sg_const (8)) 34) := ok_bipush (by decide +kernel) (by unfold pz_in; decide) (by decide)
theorem o_172_34 : pz_OK false rw_172 34 (op_goto 52) := ok_goto (off := 18) (by decide +kernel) (by decide)
theorem o_172_37 : pz_OK false rw_172 37 (op_aload 0 38) := ok_aload_n (k := 0) (by decide +kernel)
theorem k_172_38 : pz_callOK false rw_172 rw_155 38 1 12 := ⟨147, (Or.inl wm_1122), Or.inr ⟨(by decide +kernel), wm_1124, ws_42, by unfold pz_np; decide +kernel, by decide, Or.inl ⟨_, _, rfl, by decide, rfl⟩⟩⟩
theorem o_172_41 : pz_OK false rw_172 41 (op_stk (sg_const (61)) 43) := ok_bipush (by decide +kernel) (by unfold pz_in; decide) (by decide)
theorem o_172_43 : pz_OK false rw_172 43 (op_icmp c_ne 51 46) := ok_icmp_ne (off := 8) (by decide +kernel) (by decide)
theorem o_172_46 : pz_OK false rw_172 46 (op_stk (sg_const (9)) 48) := ok_bipush (by decide +kernel) (by unfold pz_in; decide) (by decide)
theorem o_172_48 : pz_OK false rw_172 48 (op_goto 52) := ok_goto (off := 4) (by decide +kernel) (by decide)
theorem o_172_51 : pz_OK false rw_172 51 (op_stk (sg_const (-1)) 52) := ok_iconst (by decide +kernel) (by unfold pz_in; decide)
theorem o_172_52 : pz_OK false rw_172 52 (op_istore 1 53) := ok_istore_n (k := 1) (by decide +kernel)
theorem o_172_53 : pz_OK false rw_172 53 (op_iload 1 54) := ok_iload_n (k := 1) (by decide +kernel)
theorem o_172_54 : pz_OK false rw_172 54 (op_stk (sg_const (-1)) 55) := ok_iconst (by decide +kernel) (by unfold pz_in; decide)
theorem o_172_55 : pz_OK false rw_172 55 (op_icmp c_ne 68 58) := ok_icmp_ne (off := 13) (by decide +kernel) (by decide)
theorem o_172_58 : pz_OK false rw_172 58 (op_aload 0 59) := ok_aload_n (k := 0) (by decide +kernel)
theorem o_172_59 : pz_OK false rw_172 59 (op_stk (sg_const (1)) 60) := ok_iconst (by decide +kernel) (by unfold pz_in; decide)
theorem o_172_60 : pz_OK false rw_172 60 (op_aload 0 61) := ok_aload_n (k := 0) (by decide +kernel)
theorem o_172_61 : pz_OK false rw_172 61 (op_getI 11 9 64) := ok_getI cc_11 (by decide) rfl rfl (Or.inl wm_934) (by decide +kernel)
theorem k_172_64 : pz_callOK false rw_172 rw_157 64 3 12 := ⟨154, (Or.inl wm_1126), Or.inr ⟨(by decide +kernel), wm_1128, ws_43, by unfold pz_np; decide +kernel, by decide, Or.inl ⟨_, _, rfl, by decide, rfl⟩⟩⟩
theorem o_172_67 : pz_OK false rw_172 67 (op_iret g_bool) := ok_iret (by decide +kernel) rfl pz_g_bool
theorem o_172_68 : pz_OK false rw_172 68 (op_aload 0 69) := ok_aload_n (k := 0) (by decide +kernel)
theorem o_172_69 : pz_OK false rw_172 69 (op_aload 0 70) := ok_aload_n (k := 0) (by decide +kernel)
theorem o_172_70 : pz_OK false rw_172 70 (op_getI 11 9 73) := ok_getI cc_11 (by decide) rfl rfl (Or.inl wm_934) (by decide +kernel)
theorem o_172_73 : pz_OK false rw_172 73 (op_stk (sg_const (1)) 74) := ok_iconst (by decide +kernel) (by unfold pz_in; decide)
theorem o_172_74 : pz_OK false rw_172 74 (op_stk (sg_bin f_add) 75) := ok_iadd (by decide +kernel)
theorem o_172_75 : pz_OK false rw_172 75 (op_putI false 11 9 78) := ok_putI cc_11 (by decide) rfl rfl (Or.inl wm_934) rfl (by decide +kernel) (by decide +kernel)
theorem o_172_78 : pz_OK false rw_172 78 (op_aload 0 79) := ok_aload_n (k := 0) (by decide +kernel)
theorem k_172_79 : pz_callOK false rw_172 rw_168 79 1 12 := ⟨202, (Or.inl wm_1130), Or.inr ⟨(by decide +kernel), wm_1132, ws_44, by unfold pz_np; decide +kernel, by decide, Or.inl ⟨_, _, rfl, by decide, rfl⟩⟩⟩
theorem o_172_82 : pz_OK false rw_172 82 (op_ifz c_ne 87 85) := ok_if_ne (off := 5) (by decide +kernel) (by decide)
theorem o_172_85 : pz_OK false rw_172 85 (op_stk (sg_const (0)) 86) := ok_iconst (by decide +kernel) (by unfold pz_in; decide)
theorem o_172_86 : pz_OK false rw_172 86 (op_iret g_bool) := ok_iret (by decide +kernel) rfl pz_g_bool
theorem o_172_87 : pz_OK false rw_172 87 (op_aload 0 88) := ok_aload_n (k := 0) (by decide +kernel)
theorem o_172_88 : pz_OK false rw_172 88 (op_iload 1 89) := ok_iload_n (k := 1) (by decide +kernel)
theorem o_172_89 : pz_OK false rw_172 89 (op_stk (sg_const (0)) 90) := ok_iconst (by decide +kernel) (by unfold pz_in; decide)
theorem k_172_90 : pz_callOK false rw_172 rw_160 90 3 12 := ⟨177, (Or.inl wm_1151), Or.inr ⟨(by decide +kernel), wm_1153, ws_49, by unfold pz_np; decide +kernel, by decide, Or.inl ⟨_, _, rfl, by decide, rfl⟩⟩⟩
theorem o_172_93 : pz_OK false rw_172 93 (op_aload 0 94) := ok_aload_n (k := 0) (by decide +kernel)
theorem k_172_94 : pz_callOK false rw_172 rw_169 94 1 12 := ⟨205, (Or.inl wm_1181), Or.inr ⟨(by decide +kernel), wm_1183, ws_55, by unfold pz_np; decide +kernel, by decide, Or.inl ⟨_, _, rfl, by decide, rfl⟩⟩⟩
theorem o_172_97 : pz_OK false rw_172 97 (op_stk (sg_const (1)) 98) := ok_iconst (by decide +kernel) (by unfold pz_in; decide)
theorem o_172_98 : pz_OK false rw_172 98 (op_iret g_bool) := ok_iret (by decide +kernel) rfl pz_g_bool
set_option maxRecDepth 20000 in
theorem a_172 : pz_all false 138 rw_172 pg_172 := ⟨o_172_0, ⟨⟨rw_168, tq_168, rfl, k_172_1⟩, ⟨o_172_4, ⟨o_172_7, ⟨o_172_8, ⟨o_172_9, ⟨⟨rw_155, tq_155, rfl, k_172_10⟩, ⟨o_172_13, ⟨o_172_15, ⟨o_172_18, ⟨o_172_20, ⟨o_172_23, ⟨⟨rw_155, tq_155, rfl, k_172_24⟩, ⟨o_172_27, ⟨o_172_29, ⟨o_172_32, ⟨o_172_34, ⟨o_172_37, ⟨⟨rw_155, tq_155, rfl, k_172_38⟩, ⟨o_172_41, ⟨o_172_43, ⟨o_172_46, ⟨o_172_48, ⟨o_172_51, ⟨o_172_52, ⟨o_172_53, ⟨o_172_54, ⟨o_172_55, ⟨o_172_58, ⟨o_172_59, ⟨o_172_60, ⟨o_172_61, ⟨⟨rw_157, tq_157, rfl, k_172_64⟩, ⟨o_172_67, ⟨o_172_68, ⟨o_172_69, ⟨o_172_70, ⟨o_172_73, ⟨o_172_74, ⟨o_172_75, ⟨o_172_78, ⟨⟨rw_168, tq_168, rfl, k_172_79⟩, ⟨o_172_82, ⟨o_172_85, ⟨o_172_86, ⟨o_172_87, ⟨o_172_88, ⟨o_172_89, ⟨⟨rw_160, tq_160, rfl, k_172_90⟩, ⟨o_172_93, ⟨⟨rw_169, tq_169, rfl, k_172_94⟩, ⟨o_172_97, ⟨o_172_98, trivial⟩⟩⟩⟩⟩⟩⟩⟩⟩⟩⟩⟩⟩⟩⟩⟩⟩⟩⟩⟩⟩⟩⟩⟩⟩⟩⟩⟩⟩⟩⟩⟩⟩⟩⟩⟩⟩⟩⟩⟩⟩⟩⟩⟩⟩⟩⟩⟩⟩⟩⟩⟩⟩
