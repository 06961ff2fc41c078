theorem ro_0 : pz_rowOK rw_0 := ⟨by decide +kernel, wm_507, wm_5, by decide +kernel⟩
theorem o_0_0 : pz_OK true rw_0 0 (op_aload 0 1) := ok_aload_n (k := 0) (by decide +kernel)
theorem o_0_1 : pz_OK true rw_0 1 (op_iload 2 2) := ok_iload_n (k := 2) (by decide +kernel)
theorem o_0_2 : pz_OK true rw_0 2 (op_putI false 0 3 5) := ok_putI cc_0 (by decide) rfl rfl (Or.inl wm_139) rfl (by decide +kernel) (by decide +kernel)
theorem o_0_5 : pz_OK true rw_0 5 (op_aload 0 6) := ok_aload_n (k := 0) (by decide +kernel)
theorem o_0_6 : pz_OK true rw_0 6 (op_stk (sg_const (0)) 7) := ok_iconst (by decide +kernel) (by unfold pz_in; decide)
theorem o_0_7 : pz_OK true rw_0 7 (op_putI false 0 2 10) := ok_putI cc_0 (by decide) rfl rfl (Or.inl wm_138) rfl (by decide +kernel) (by decide +kernel)
theorem o_0_10 : pz_OK true rw_0 10 (op_aload 0 11) := ok_aload_n (k := 0) (by decide +kernel)
theorem o_0_11 : pz_OK true rw_0 11 (op_getR 0 1 14) := ok_getR cc_0 (by decide) rfl rfl (Or.inl wm_137) (by decide +kernel)
theorem o_0_14 : pz_OK true rw_0 14 (op_stk (sg_const (-1)) 15) := ok_iconst (by decide +kernel) (by unfold pz_in; decide)
theorem k_0_15 : pz_callOK true rw_0 rw_132 15 2 0 := ⟨25, (Or.inl wm_508), Or.inl ⟨(by decide +kernel), wm_471, by unfold pz_np; decide +kernel⟩⟩
theorem o_0_18 : pz_OK true rw_0 18 (op_stk (sg_const (0)) 19) := ok_iconst (by decide +kernel) (by unfold pz_in; decide)
theorem o_0_19 : pz_OK true rw_0 19 (op_istore 3 20) := ok_istore_n (k := 3) (by decide +kernel)
theorem o_0_20 : pz_OK true rw_0 20 (op_iload 3 21) := ok_iload_n (k := 3) (by decide +kernel)
theorem o_0_21 : pz_OK true rw_0 21 (op_stk (sg_const (12)) 23) := ok_bipush (by decide +kernel) (by unfold pz_in; decide) (by decide)
theorem o_0_23 : pz_OK true rw_0 23 (op_icmp c_gt 62 26) := ok_icmp_gt (off := 39) (by decide +kernel) (by decide)
theorem o_0_26 : pz_OK true rw_0 26 (op_aload 0 27) := ok_aload_n (k := 0) (by decide +kernel)
theorem o_0_27 : pz_OK true rw_0 27 (op_aload 1 28) := ok_aload_n (k := 1) (by decide +kernel)
theorem k_0_28 : pz_callOK true rw_0 rw_1 28 2 1 := ⟨31, (Or.inl wm_509), Or.inr ⟨(by decide +kernel), wm_511, ws_4, by unfold pz_np; decide +kernel, by decide, Or.inl ⟨_, _, rfl, by decide, rfl⟩⟩⟩
theorem o_0_31 : pz_OK true rw_0 31 (op_ifz c_ne 36 34) := ok_if_ne (off := 5) (by decide +kernel) (by decide)
theorem o_0_34 : pz_OK true rw_0 34 (op_stk (sg_const (0)) 35) := ok_iconst (by decide +kernel) (by unfold pz_in; decide)
theorem o_0_35 : pz_OK true rw_0 35 (op_iret g_bool) := ok_iret (by decide +kernel) rfl pz_g_bool
theorem o_0_36 : pz_OK true rw_0 36 (op_aload 1 37) := ok_aload_n (k := 1) (by decide +kernel)
theorem k_0_37 : pz_callOK true rw_0 rw_65 37 1 9 := ⟨35, (Or.inl wm_537), Or.inr ⟨(by decide +kernel), wm_458, wm_459, by unfold pz_np; decide +kernel, by decide, Or.inl ⟨_, _, rfl, by decide, rfl⟩⟩⟩
theorem o_0_40 : pz_OK true rw_0 40 (op_ifz c_eq 45 43) := ok_if_eq (off := 5) (by decide +kernel) (by decide)
theorem o_0_43 : pz_OK true rw_0 43 (op_stk (sg_const (1)) 44) := ok_iconst (by decide +kernel) (by unfold pz_in; decide)
theorem o_0_44 : pz_OK true rw_0 44 (op_iret g_bool) := ok_iret (by decide +kernel) rfl pz_g_bool
theorem o_0_45 : pz_OK true rw_0 45 (op_aload 1 46) := ok_aload_n (k := 1) (by decide +kernel)
theorem o_0_46 : pz_OK true rw_0 46 (op_stk (sg_const (59)) 48) := ok_bipush (by decide +kernel) (by unfold pz_in; decide) (by decide)
theorem k_0_48 : pz_callOK true rw_0 rw_68 48 2 9 := ⟨41, (Or.inl wm_538), Or.inr ⟨(by decide +kernel), wm_426, wm_427, by unfold pz_np; decide +kernel, by decide, Or.inl ⟨_, _, rfl, by decide, rfl⟩⟩⟩
theorem o_0_51 : pz_OK true rw_0 51 (op_ifz c_ne 56 54) := ok_if_ne (off := 5) (by decide +kernel) (by decide)
theorem o_0_54 : pz_OK true rw_0 54 (op_stk (sg_const (0)) 55) := ok_iconst (by decide +kernel) (by unfold pz_in; decide)
theorem o_0_55 : pz_OK true rw_0 55 (op_iret g_bool) := ok_iret (by decide +kernel) rfl pz_g_bool
theorem o_0_56 : pz_OK true rw_0 56 (op_iinc 3 (1) 59) := ok_iinc (by decide +kernel)
theorem o_0_59 : pz_OK true rw_0 59 (op_goto 20) := ok_goto (off := -39) (by decide +kernel) (by decide)
theorem o_0_62 : pz_OK true rw_0 62 (op_stk (sg_const (0)) 63) := ok_iconst (by decide +kernel) (by unfold pz_in; decide)
theorem o_0_63 : pz_OK true rw_0 63 (op_iret g_bool) := ok_iret (by decide +kernel) rfl pz_g_bool
set_option maxRecDepth 20000 in
theorem a_0 : pz_all true 138 rw_0 pg_0 := ⟨o_0_0, ⟨o_0_1, ⟨o_0_2, ⟨o_0_5, ⟨o_0_6, ⟨o_0_7, ⟨o_0_10, ⟨o_0_11, ⟨o_0_14, ⟨⟨rw_132, tq_132, rfl, k_0_15⟩, ⟨o_0_18, ⟨o_0_19, ⟨o_0_20, ⟨o_0_21, ⟨o_0_23, ⟨o_0_26, ⟨o_0_27, ⟨⟨rw_1, tq_1, rfl, k_0_28⟩, ⟨o_0_31, ⟨o_0_34, ⟨o_0_35, ⟨o_0_36, ⟨⟨rw_65, tq_65, rfl, k_0_37⟩, ⟨o_0_40, ⟨o_0_43, ⟨o_0_44, ⟨o_0_45, ⟨o_0_46, ⟨⟨rw_68, tq_68, rfl, k_0_48⟩, ⟨o_0_51, ⟨o_0_54, ⟨o_0_55, ⟨o_0_56, ⟨o_0_59, ⟨o_0_62, ⟨o_0_63, trivial⟩⟩⟩⟩⟩⟩⟩⟩⟩⟩⟩⟩⟩⟩⟩⟩⟩⟩⟩⟩⟩⟩⟩⟩⟩⟩⟩⟩⟩⟩⟩⟩⟩⟩⟩⟩
theorem ro_1 : pz_rowOK rw_1 := ⟨by decide +kernel, wm_512, wm_5, by decide +kernel⟩
theorem o_1_0 : pz_OK true rw_1 0 (op_aload 1 1) := ok_aload_n (k := 1) (by decide +kernel)
theorem k_1_1 : pz_callOK true rw_1 rw_70 1 1 9 := ⟨45, (Or.inl wm_513), Or.inr ⟨(by decide +kernel), wm_514, wm_515, by unfold pz_np; decide +kernel, by decide, Or.inl ⟨_, _, rfl, by decide, rfl⟩⟩⟩
theorem o_1_4 : pz_OK true rw_1 4 (op_ifz c_ne 27 7) := ok_if_ne (off := 23) (by decide +kernel) (by decide)
theorem o_1_7 : pz_OK true rw_1 7 (op_aload 0 8) := ok_aload_n (k := 0) (by decide +kernel)
theorem o_1_8 : pz_OK true rw_1 8 (op_aload 1 9) := ok_aload_n (k := 1) (by decide +kernel)
theorem k_1_9 : pz_callOK true rw_1 rw_66 9 1 9 := ⟨48, (Or.inl wm_517), Or.inr ⟨(by decide +kernel), wm_359, wm_360, by unfold pz_np; decide +kernel, by decide, Or.inl ⟨_, _, rfl, by decide, rfl⟩⟩⟩
theorem o_1_12 : pz_OK true rw_1 12 (op_stk (sg_const (97)) 14) := ok_bipush (by decide +kernel) (by unfold pz_in; decide) (by decide)
theorem o_1_14 : pz_OK true rw_1 14 (op_stk (sg_bin f_sub) 15) := ok_isub (by decide +kernel)
theorem k_1_15 : pz_callOK true rw_1 rw_3 15 2 1 := ⟨52, (Or.inl wm_518), Or.inr ⟨(by decide +kernel), wm_520, ws_5, by unfold pz_np; decide +kernel, by decide, Or.inl ⟨_, _, rfl, by decide, rfl⟩⟩⟩
theorem o_1_18 : pz_OK true rw_1 18 (op_ifz c_ne 27 21) := ok_if_ne (off := 9) (by decide +kernel) (by decide)
theorem o_1_21 : pz_OK true rw_1 21 (op_aload 1 22) := ok_aload_n (k := 1) (by decide +kernel)
theorem o_1_22 : pz_OK true rw_1 22 (op_stk (sg_const (1)) 23) := ok_iconst (by decide +kernel) (by unfold pz_in; decide)
theorem k_1_23 : pz_callOK true rw_1 rw_72 23 2 9 := ⟨56, (Or.inl wm_522), Or.inr ⟨(by decide +kernel), wm_411, wm_412, by unfold pz_np; decide +kernel, by decide, Or.inl ⟨_, _, rfl, by decide, rfl⟩⟩⟩
theorem o_1_26 : pz_OK true rw_1 26 (op_iret g_bool) := ok_iret (by decide +kernel) rfl pz_g_bool
theorem o_1_27 : pz_OK true rw_1 27 (op_aload 0 28) := ok_aload_n (k := 0) (by decide +kernel)
theorem o_1_28 : pz_OK true rw_1 28 (op_getI 0 2 31) := ok_getI cc_0 (by decide) rfl rfl (Or.inl wm_138) (by decide +kernel)
theorem o_1_31 : pz_OK true rw_1 31 (op_stk (sg_const (12)) 33) := ok_bipush (by decide +kernel) (by unfold pz_in; decide) (by decide)
theorem o_1_33 : pz_OK true rw_1 33 (op_icmp c_lt 42 36) := ok_icmp_lt (off := 9) (by decide +kernel) (by decide)
theorem o_1_36 : pz_OK true rw_1 36 (op_aload 1 37) := ok_aload_n (k := 1) (by decide +kernel)
theorem o_1_37 : pz_OK true rw_1 37 (op_stk (sg_const (4)) 38) := ok_iconst (by decide +kernel) (by unfold pz_in; decide)
theorem k_1_38 : pz_callOK true rw_1 rw_72 38 2 9 := ⟨56, (Or.inl wm_522), Or.inr ⟨(by decide +kernel), wm_411, wm_412, by unfold pz_np; decide +kernel, by decide, Or.inl ⟨_, _, rfl, by decide, rfl⟩⟩⟩
theorem o_1_41 : pz_OK true rw_1 41 (op_iret g_bool) := ok_iret (by decide +kernel) rfl pz_g_bool
theorem o_1_42 : pz_OK true rw_1 42 (op_stk (sg_const (1)) 43) := ok_iconst (by decide +kernel) (by unfold pz_in; decide)
theorem o_1_43 : pz_OK true rw_1 43 (op_istore 2 44) := ok_istore_n (k := 2) (by decide +kernel)
theorem o_1_44 : pz_OK true rw_1 44 (op_aload 1 45) := ok_aload_n (k := 1) (by decide +kernel)
theorem k_1_45 : pz_callOK true rw_1 rw_70 45 1 9 := ⟨45, (Or.inl wm_513), Or.inr ⟨(by decide +kernel), wm_514, wm_515, by unfold pz_np; decide +kernel, by decide, Or.inl ⟨_, _, rfl, by decide, rfl⟩⟩⟩
theorem o_1_48 : pz_OK true rw_1 48 (op_ifz c_eq 79 51) := ok_if_eq (off := 31) (by decide +kernel) (by decide)
theorem o_1_51 : pz_OK true rw_1 51 (op_aload 1 52) := ok_aload_n (k := 1) (by decide +kernel)
theorem o_1_52 : pz_OK true rw_1 52 (op_getI 8 2 55) := ok_getI cc_8 (by decide) rfl rfl (Or.inr ⟨_, wm_115⟩) (by decide +kernel)
theorem o_1_55 : pz_OK true rw_1 55 (op_istore 3 56) := ok_istore_n (k := 3) (by decide +kernel)
theorem o_1_56 : pz_OK true rw_1 56 (op_aload 1 57) := ok_aload_n (k := 1) (by decide +kernel)
theorem o_1_57 : pz_OK true rw_1 57 (op_stk (sg_const (2)) 58) := ok_iconst (by decide +kernel) (by unfold pz_in; decide)
theorem k_1_58 : pz_callOK true rw_1 rw_71 58 2 9 := ⟨62, (Or.inl wm_523), Or.inr ⟨(by decide +kernel), wm_437, wm_438, by unfold pz_np; decide +kernel, by decide, Or.inl ⟨_, _, rfl, by decide, rfl⟩⟩⟩
theorem o_1_61 : pz_OK true rw_1 61 (op_istore 2 62) := ok_istore_n (k := 2) (by decide +kernel)
theorem o_1_62 : pz_OK true rw_1 62 (op_iload 2 63) := ok_iload_n (k := 2) (by decide +kernel)
theorem o_1_63 : pz_OK true rw_1 63 (op_ifz c_ge 68 66) := ok_if_ge (off := 5) (by decide +kernel) (by decide)
theorem o_1_66 : pz_OK true rw_1 66 (op_stk (sg_const (0)) 67) := ok_iconst (by decide +kernel) (by unfold pz_in; decide)
theorem o_1_67 : pz_OK true rw_1 67 (op_iret g_bool) := ok_iret (by decide +kernel) rfl pz_g_bool
theorem o_1_68 : pz_OK true rw_1 68 (op_iload 2 69) := ok_iload_n (k := 2) (by decide +kernel)
theorem o_1_69 : pz_OK true rw_1 69 (op_ifz c_ne 79 72) := ok_if_ne (off := 10) (by decide +kernel) (by decide)
theorem o_1_72 : pz_OK true rw_1 72 (op_aload 1 73) := ok_aload_n (k := 1) (by decide +kernel)
theorem o_1_73 : pz_OK true rw_1 73 (op_stk (sg_const (3)) 74) := ok_iconst (by decide +kernel) (by unfold pz_in; decide)
theorem o_1_74 : pz_OK true rw_1 74 (op_iload 3 75) := ok_iload_n (k := 3) (by decide +kernel)
theorem k_1_75 : pz_callOK true rw_1 rw_73 75 3 9 := ⟨66, (Or.inl wm_524), Or.inr ⟨(by decide +kernel), wm_525, wm_526, by unfold pz_np; decide +kernel, by decide, Or.inl ⟨_, _, rfl, by decide, rfl⟩⟩⟩
theorem o_1_78 : pz_OK true rw_1 78 (op_iret g_bool) := ok_iret (by decide +kernel) rfl pz_g_bool
theorem o_1_79 : pz_OK true rw_1 79 (op_aload 0 80) := ok_aload_n (k := 0) (by decide +kernel)
theorem o_1_80 : pz_OK true rw_1 80 (op_getR 0 0 83) := ok_getR cc_0 (by decide) rfl rfl (Or.inl wm_136) (by decide +kernel)
theorem o_1_83 : pz_OK true rw_1 83 (op_aload 0 84) := ok_aload_n (k := 0) (by decide +kernel)
theorem o_1_84 : pz_OK true rw_1 84 (op_getI 0 2 87) := ok_getI cc_0 (by decide) rfl rfl (Or.inl wm_138) (by decide +kernel)
theorem o_1_87 : pz_OK true rw_1 87 (op_iload 2 88) := ok_iload_n (k := 2) (by decide +kernel)
theorem o_1_88 : pz_OK true rw_1 88 (op_iast 20 89) := ok_iast (by decide +kernel) rfl (by decide)
theorem o_1_89 : pz_OK true rw_1 89 (op_stk (sg_const (0)) 90) := ok_iconst (by decide +kernel) (by unfold pz_in; decide)
theorem o_1_90 : pz_OK true rw_1 90 (op_istore 3 91) := ok_istore_n (k := 3) (by decide +kernel)
theorem o_1_91 : pz_OK true rw_1 91 (op_iload 3 92) := ok_iload_n (k := 3) (by decide +kernel)
theorem o_1_92 : pz_OK true rw_1 92 (op_aload 0 93) := ok_aload_n (k := 0) (by decide +kernel)
theorem o_1_93 : pz_OK true rw_1 93 (op_getI 0 3 96) := ok_getI cc_0 (by decide) rfl rfl (Or.inl wm_139) (by decide +kernel)
theorem o_1_96 : pz_OK true rw_1 96 (op_icmp c_ge 116 99) := ok_icmp_ge (off := 20) (by decide +kernel) (by decide)
theorem o_1_99 : pz_OK true rw_1 99 (op_aload 0 100) := ok_aload_n (k := 0) (by decide +kernel)
theorem o_1_100 : pz_OK true rw_1 100 (op_aload 1 101) := ok_aload_n (k := 1) (by decide +kernel)
theorem o_1_101 : pz_OK true rw_1 101 (op_iload 3 102) := ok_iload_n (k := 3) (by decide +kernel)
theorem k_1_102 : pz_callOK true rw_1 rw_2 102 3 1 := ⟨70, (Or.inl wm_528), Or.inr ⟨(by decide +kernel), wm_530, ws_6, by unfold pz_np; decide +kernel, by decide, Or.inl ⟨_, _, rfl, by decide, rfl⟩⟩⟩
theorem o_1_105 : pz_OK true rw_1 105 (op_ifz c_ne 110 108) := ok_if_ne (off := 5) (by decide +kernel) (by decide)
theorem o_1_108 : pz_OK true rw_1 108 (op_stk (sg_const (0)) 109) := ok_iconst (by decide +kernel) (by unfold pz_in; decide)
theorem o_1_109 : pz_OK true rw_1 109 (op_iret g_bool) := ok_iret (by decide +kernel) rfl pz_g_bool
theorem o_1_110 : pz_OK true rw_1 110 (op_iinc 3 (1) 113) := ok_iinc (by decide +kernel)
theorem o_1_113 : pz_OK true rw_1 113 (op_goto 91) := ok_goto (off := -22) (by decide +kernel) (by decide)
theorem o_1_116 : pz_OK true rw_1 116 (op_aload 0 117) := ok_aload_n (k := 0) (by decide +kernel)
theorem o_1_117 : pz_OK true rw_1 117 (op_stk sg_dup 118) := ok_dup (by decide +kernel)
theorem o_1_118 : pz_OK true rw_1 118 (op_getI 0 2 121) := ok_getI cc_0 (by decide) rfl rfl (Or.inl wm_138) (by decide +kernel)
theorem o_1_121 : pz_OK true rw_1 121 (op_stk (sg_const (1)) 122) := ok_iconst (by decide +kernel) (by unfold pz_in; decide)
theorem o_1_122 : pz_OK true rw_1 122 (op_stk (sg_bin f_add) 123) := ok_iadd (by decide +kernel)
theorem o_1_123 : pz_OK true rw_1 123 (op_putI false 0 2 126) := ok_putI cc_0 (by decide) rfl rfl (Or.inl wm_138) rfl (by decide +kernel) (by decide +kernel)
theorem o_1_126 : pz_OK true rw_1 126 (op_stk (sg_const (1)) 127) := ok_iconst (by decide +kernel) (by unfold pz_in; decide)
theorem o_1_127 : pz_OK true rw_1 127 (op_iret g_bool) := ok_iret (by decide +kernel) rfl pz_g_bool
set_option maxRecDepth 20000 in
theorem a_1 : pz_all true 138 rw_1 pg_1 := ⟨o_1_0, ⟨⟨rw_70, tq_70, rfl, k_1_1⟩, ⟨o_1_4, ⟨o_1_7, ⟨o_1_8, ⟨⟨rw_66, tq_66, rfl, k_1_9⟩, ⟨o_1_12, ⟨o_1_14, ⟨⟨rw_3, tq_3, rfl, k_1_15⟩, ⟨o_1_18, ⟨o_1_21, ⟨o_1_22, ⟨⟨rw_72, tq_72, rfl, k_1_23⟩, ⟨o_1_26, ⟨o_1_27, ⟨o_1_28, ⟨o_1_31, ⟨o_1_33, ⟨o_1_36, ⟨o_1_37, ⟨⟨rw_72, tq_72, rfl, k_1_38⟩, ⟨o_1_41, ⟨o_1_42, ⟨o_1_43, ⟨o_1_44, ⟨⟨rw_70, tq_70, rfl, k_1_45⟩, ⟨o_1_48, ⟨o_1_51, ⟨o_1_52, ⟨o_1_55, ⟨o_1_56, ⟨o_1_57, ⟨⟨rw_71, tq_71, rfl, k_1_58⟩, ⟨o_1_61, ⟨o_1_62, ⟨o_1_63, ⟨o_1_66, ⟨o_1_67, ⟨o_1_68, ⟨o_1_69, ⟨o_1_72, ⟨o_1_73, ⟨o_1_74, ⟨⟨rw_73, tq_73, rfl, k_1_75⟩, ⟨o_1_78, ⟨o_1_79, ⟨o_1_80, ⟨o_1_83, ⟨o_1_84, ⟨o_1_87, ⟨o_1_88, ⟨o_1_89, ⟨o_1_90, ⟨o_1_91, ⟨o_1_92, ⟨o_1_93, ⟨o_1_96, ⟨o_1_99, ⟨o_1_100, ⟨o_1_101, ⟨⟨rw_2, tq_2, rfl, k_1_102⟩, ⟨o_1_105, ⟨o_1_108, ⟨o_1_109, ⟨o_1_110, ⟨o_1_113, ⟨o_1_116, ⟨o_1_117, ⟨o_1_118, ⟨o_1_121, ⟨o_1_122, ⟨o_1_123, ⟨o_1_126, ⟨o_1_127, trivial⟩⟩⟩⟩⟩⟩⟩⟩⟩⟩⟩⟩⟩⟩⟩⟩⟩⟩⟩⟩⟩⟩⟩⟩⟩⟩⟩⟩⟩⟩⟩⟩⟩⟩⟩⟩⟩⟩⟩⟩⟩⟩⟩⟩⟩⟩⟩⟩⟩⟩⟩⟩⟩⟩⟩⟩⟩⟩⟩⟩⟩⟩⟩⟩⟩⟩⟩⟩⟩⟩⟩⟩⟩⟩
theorem ro_2 : pz_rowOK rw_2 := ⟨by decide +kernel, wm_531, wm_5, by decide +kernel⟩
theorem o_2_0 : pz_OK true rw_2 0 (op_aload 1 1) := ok_aload_n (k := 1) (by decide +kernel)
theorem k_2_1 : pz_callOK true rw_2 rw_66 1 1 9 := ⟨48, (Or.inl wm_517), Or.inr ⟨(by decide +kernel), wm_359, wm_360, by unfold pz_np; decide +kernel, by decide, Or.inl ⟨_, _, rfl, by decide, rfl⟩⟩⟩
theorem o_2_4 : pz_OK true rw_2 4 (op_stk (sg_const (97)) 6) := ok_bipush (by decide +kernel) (by unfold pz_in; decide) (by decide)
theorem o_2_6 : pz_OK true rw_2 6 (op_stk (sg_bin f_sub) 7) := ok_isub (by decide +kernel)
theorem o_2_7 : pz_OK true rw_2 7 (op_istore 3 8) := ok_istore_n (k := 3) (by decide +kernel)
theorem o_2_8 : pz_OK true rw_2 8 (op_aload 0 9) := ok_aload_n (k := 0) (by decide +kernel)
theorem o_2_9 : pz_OK true rw_2 9 (op_iload 3 10) := ok_iload_n (k := 3) (by decide +kernel)
theorem k_2_10 : pz_callOK true rw_2 rw_3 10 2 1 := ⟨52, (Or.inl wm_518), Or.inr ⟨(by decide +kernel), wm_520, ws_5, by unfold pz_np; decide +kernel, by decide, Or.inl ⟨_, _, rfl, by decide, rfl⟩⟩⟩
theorem o_2_13 : pz_OK true rw_2 13 (op_ifz c_ne 22 16) := ok_if_ne (off := 9) (by decide +kernel) (by decide)
theorem o_2_16 : pz_OK true rw_2 16 (op_aload 1 17) := ok_aload_n (k := 1) (by decide +kernel)
theorem o_2_17 : pz_OK true rw_2 17 (op_stk (sg_const (1)) 18) := ok_iconst (by decide +kernel) (by unfold pz_in; decide)
theorem k_2_18 : pz_callOK true rw_2 rw_72 18 2 9 := ⟨56, (Or.inl wm_522), Or.inr ⟨(by decide +kernel), wm_411, wm_412, by unfold pz_np; decide +kernel, by decide, Or.inl ⟨_, _, rfl, by decide, rfl⟩⟩⟩
theorem o_2_21 : pz_OK true rw_2 21 (op_iret g_bool) := ok_iret (by decide +kernel) rfl pz_g_bool
theorem o_2_22 : pz_OK true rw_2 22 (op_aload 0 23) := ok_aload_n (k := 0) (by decide +kernel)
theorem o_2_23 : pz_OK true rw_2 23 (op_aload 0 24) := ok_aload_n (k := 0) (by decide +kernel)
theorem o_2_24 : pz_OK true rw_2 24 (op_getI 0 2 27) := ok_getI cc_0 (by decide) rfl rfl (Or.inl wm_138) (by decide +kernel)
theorem o_2_27 : pz_OK true rw_2 27 (op_iload 3 28) := ok_iload_n (k := 3) (by decide +kernel)
theorem k_2_28 : pz_callOK true rw_2 rw_4 28 3 1 := ⟨74, (Or.inl wm_532), Or.inr ⟨(by decide +kernel), wm_534, ws_7, by unfold pz_np; decide +kernel, by decide, Or.inl ⟨_, _, rfl, by decide, rfl⟩⟩⟩
theorem o_2_31 : pz_OK true rw_2 31 (op_ifz c_lt 41 34) := ok_if_lt (off := 10) (by decide +kernel) (by decide)
theorem o_2_34 : pz_OK true rw_2 34 (op_aload 1 35) := ok_aload_n (k := 1) (by decide +kernel)
theorem o_2_35 : pz_OK true rw_2 35 (op_stk (sg_const (6)) 37) := ok_bipush (by decide +kernel) (by unfold pz_in; decide) (by decide)
theorem k_2_37 : pz_callOK true rw_2 rw_72 37 2 9 := ⟨56, (Or.inl wm_522), Or.inr ⟨(by decide +kernel), wm_411, wm_412, by unfold pz_np; decide +kernel, by decide, Or.inl ⟨_, _, rfl, by decide, rfl⟩⟩⟩
theorem o_2_40 : pz_OK true rw_2 40 (op_iret g_bool) := ok_iret (by decide +kernel) rfl pz_g_bool
theorem o_2_41 : pz_OK true rw_2 41 (op_aload 0 42) := ok_aload_n (k := 0) (by decide +kernel)
theorem o_2_42 : pz_OK true rw_2 42 (op_getR 0 1 45) := ok_getR cc_0 (by decide) rfl rfl (Or.inl wm_137) (by decide +kernel)
theorem o_2_45 : pz_OK true rw_2 45 (op_aload 0 46) := ok_aload_n (k := 0) (by decide +kernel)
theorem o_2_46 : pz_OK true rw_2 46 (op_getI 0 2 49) := ok_getI cc_0 (by decide) rfl rfl (Or.inl wm_138) (by decide +kernel)
theorem o_2_49 : pz_OK true rw_2 49 (op_stk (sg_const (6)) 51) := ok_bipush (by decide +kernel) (by unfold pz_in; decide) (by decide)
theorem o_2_51 : pz_OK true rw_2 51 (op_stk (sg_bin f_mul) 52) := ok_imul (by decide +kernel)
theorem o_2_52 : pz_OK true rw_2 52 (op_iload 3 53) := ok_iload_n (k := 3) (by decide +kernel)
theorem o_2_53 : pz_OK true rw_2 53 (op_stk (sg_bin f_add) 54) := ok_iadd (by decide +kernel)
theorem o_2_54 : pz_OK true rw_2 54 (op_iload 2 55) := ok_iload_n (k := 2) (by decide +kernel)
theorem o_2_55 : pz_OK true rw_2 55 (op_iast 20 56) := ok_iast (by decide +kernel) rfl (by decide)
theorem o_2_56 : pz_OK true rw_2 56 (op_aload 1 57) := ok_aload_n (k := 1) (by decide +kernel)
theorem k_2_57 : pz_callOK true rw_2 rw_67 57 1 9 := ⟨78, (Or.inl wm_536), Or.inr ⟨(by decide +kernel), wm_415, wm_416, by unfold pz_np; decide +kernel, by decide, Or.inl ⟨_, _, rfl, by decide, rfl⟩⟩⟩
theorem o_2_60 : pz_OK true rw_2 60 (op_stk (sg_const (1)) 61) := ok_iconst (by decide +kernel) (by unfold pz_in; decide)
theorem o_2_61 : pz_OK true rw_2 61 (op_iret g_bool) := ok_iret (by decide +kernel) rfl pz_g_bool
set_option maxRecDepth 20000 in
theorem a_2 : pz_all true 138 rw_2 pg_2 := ⟨o_2_0, ⟨⟨rw_66, tq_66, rfl, k_2_1⟩, ⟨o_2_4, ⟨o_2_6, ⟨o_2_7, ⟨o_2_8, ⟨o_2_9, ⟨⟨rw_3, tq_3, rfl, k_2_10⟩, ⟨o_2_13, ⟨o_2_16, ⟨o_2_17, ⟨⟨rw_72, tq_72, rfl, k_2_18⟩, ⟨o_2_21, ⟨o_2_22, ⟨o_2_23, ⟨o_2_24, ⟨o_2_27, ⟨⟨rw_4, tq_4, rfl, k_2_28⟩, ⟨o_2_31, ⟨o_2_34, ⟨o_2_35, ⟨⟨rw_72, tq_72, rfl, k_2_37⟩, ⟨o_2_40, ⟨o_2_41, ⟨o_2_42, ⟨o_2_45, ⟨o_2_46, ⟨o_2_49, ⟨o_2_51, ⟨o_2_52, ⟨o_2_53, ⟨o_2_54, ⟨o_2_55, ⟨o_2_56, ⟨⟨rw_67, tq_67, rfl, k_2_57⟩, ⟨o_2_60, ⟨o_2_61, trivial⟩⟩⟩⟩⟩⟩⟩⟩⟩⟩⟩⟩⟩⟩⟩⟩⟩⟩⟩⟩⟩⟩⟩⟩⟩⟩⟩⟩⟩⟩⟩⟩⟩⟩⟩⟩⟩
theorem ro_3 : pz_rowOK rw_3 := ⟨by decide +kernel, wm_521, wm_5, by decide +kernel⟩
theorem o_3_0 : pz_OK true rw_3 0 (op_iload 1 1) := ok_iload_n (k := 1) (by decide +kernel)
theorem o_3_1 : pz_OK true rw_3 1 (op_ifz c_lt 22 4) := ok_if_lt (off := 21) (by decide +kernel) (by decide)
theorem o_3_4 : pz_OK true rw_3 4 (op_iload 1 5) := ok_iload_n (k := 1) (by decide +kernel)
theorem o_3_5 : pz_OK true rw_3 5 (op_aload 0 6) := ok_aload_n (k := 0) (by decide +kernel)
theorem o_3_6 : pz_OK true rw_3 6 (op_getI 0 3 9) := ok_getI cc_0 (by decide) rfl rfl (Or.inl wm_139) (by decide +kernel)
theorem o_3_9 : pz_OK true rw_3 9 (op_icmp c_ge 22 12) := ok_icmp_ge (off := 13) (by decide +kernel) (by decide)
theorem o_3_12 : pz_OK true rw_3 12 (op_iload 1 13) := ok_iload_n (k := 1) (by decide +kernel)
theorem o_3_13 : pz_OK true rw_3 13 (op_stk (sg_const (6)) 15) := ok_bipush (by decide +kernel) (by unfold pz_in; decide) (by decide)
theorem o_3_15 : pz_OK true rw_3 15 (op_icmp c_ge 22 18) := ok_icmp_ge (off := 7) (by decide +kernel) (by decide)
theorem o_3_18 : pz_OK true rw_3 18 (op_stk (sg_const (1)) 19) := ok_iconst (by decide +kernel) (by unfold pz_in; decide)
theorem o_3_19 : pz_OK true rw_3 19 (op_goto 23) := ok_goto (off := 4) (by decide +kernel) (by decide)
theorem o_3_22 : pz_OK true rw_3 22 (op_stk (sg_const (0)) 23) := ok_iconst (by decide +kernel) (by unfold pz_in; decide)
theorem o_3_23 : pz_OK true rw_3 23 (op_iret g_bool) := ok_iret (by decide +kernel) rfl pz_g_bool
set_option maxRecDepth 20000 in
theorem a_3 : pz_all true 138 rw_3 pg_3 := ⟨o_3_0, ⟨o_3_1, ⟨o_3_4, ⟨o_3_5, ⟨o_3_6, ⟨o_3_9, ⟨o_3_12, ⟨o_3_13, ⟨o_3_15, ⟨o_3_18, ⟨o_3_19, ⟨o_3_22, ⟨o_3_23, trivial⟩⟩⟩⟩⟩⟩⟩⟩⟩⟩⟩⟩⟩
theorem ro_4 : pz_rowOK rw_4 := ⟨by decide +kernel, wm_535, wm_5, by decide +kernel⟩
theorem o_4_0 : pz_OK true rw_4 0 (op_aload 0 1) := ok_aload_n (k := 0) (by decide +kernel)
theorem o_4_1 : pz_OK true rw_4 1 (op_getR 0 1 4) := ok_getR cc_0 (by decide) rfl rfl (Or.inl wm_137) (by decide +kernel)
theorem o_4_4 : pz_OK true rw_4 4 (op_iload 1 5) := ok_iload_n (k := 1) (by decide +kernel)
theorem o_4_5 : pz_OK true rw_4 5 (op_stk (sg_const (6)) 7) := ok_bipush (by decide +kernel) (by unfold pz_in; decide) (by decide)
theorem o_4_7 : pz_OK true rw_4 7 (op_stk (sg_bin f_mul) 8) := ok_imul (by decide +kernel)
theorem o_4_8 : pz_OK true rw_4 8 (op_iload 2 9) := ok_iload_n (k := 2) (by decide +kernel)
theorem o_4_9 : pz_OK true rw_4 9 (op_stk (sg_bin f_add) 10) := ok_iadd (by decide +kernel)
theorem o_4_10 : pz_OK true rw_4 10 (op_iald 20 11) := ok_iald (by decide +kernel) rfl (by decide)
theorem o_4_11 : pz_OK true rw_4 11 (op_iret g_int) := ok_iret (by decide +kernel) rfl pz_g_int
set_option maxRecDepth 20000 in
theorem a_4 : pz_all true 138 rw_4 pg_4 := ⟨o_4_0, ⟨o_4_1, ⟨o_4_4, ⟨o_4_5, ⟨o_4_7, ⟨o_4_8, ⟨o_4_9, ⟨o_4_10, ⟨o_4_11, trivial⟩⟩⟩⟩⟩⟩⟩⟩⟩
theorem ro_5 : pz_rowOK rw_5 := ⟨by decide +kernel, wm_542, wm_5, by decide +kernel⟩
theorem o_5_0 : pz_OK true rw_5 0 (op_iload 1 1) := ok_iload_n (k := 1) (by decide +kernel)
theorem o_5_1 : pz_OK true rw_5 1 (op_sw [(100, 36), (101, 41), (102, 46), (103, 51), (104, 56)] 61) := ok_table (dflt := 60) (lo := 100) (hi := 104) (offs := #[35, 40, 45, 50, 55]) (len := 35) (by decide +kernel) (by decide) (by decide) (by decide) (by decide)
theorem o_5_36 : pz_OK true rw_5 36 (op_aload 0 37) := ok_aload_n (k := 0) (by decide +kernel)
theorem k_5_37 : pz_callOK true rw_5 rw_6 37 1 1 := ⟨81, (Or.inl wm_543), Or.inr ⟨(by decide +kernel), wm_545, ws_8, by unfold pz_np; decide +kernel, by decide, Or.inl ⟨_, _, rfl, by decide, rfl⟩⟩⟩
theorem o_5_40 : pz_OK true rw_5 40 (op_iret g_int) := ok_iret (by decide +kernel) rfl pz_g_int
theorem o_5_41 : pz_OK true rw_5 41 (op_aload 0 42) := ok_aload_n (k := 0) (by decide +kernel)
theorem k_5_42 : pz_callOK true rw_5 rw_9 42 1 1 := ⟨84, (Or.inl wm_547), Or.inr ⟨(by decide +kernel), wm_549, ws_9, by unfold pz_np; decide +kernel, by decide, Or.inl ⟨_, _, rfl, by decide, rfl⟩⟩⟩
theorem o_5_45 : pz_OK true rw_5 45 (op_iret g_int) := ok_iret (by decide +kernel) rfl pz_g_int
theorem o_5_46 : pz_OK true rw_5 46 (op_aload 0 47) := ok_aload_n (k := 0) (by decide +kernel)
theorem k_5_47 : pz_callOK true rw_5 rw_8 47 1 1 := ⟨87, (Or.inl wm_555), Or.inr ⟨(by decide +kernel), wm_557, ws_11, by unfold pz_np; decide +kernel, by decide, Or.inl ⟨_, _, rfl, by decide, rfl⟩⟩⟩
theorem o_5_50 : pz_OK true rw_5 50 (op_iret g_int) := ok_iret (by decide +kernel) rfl pz_g_int
theorem o_5_51 : pz_OK true rw_5 51 (op_aload 0 52) := ok_aload_n (k := 0) (by decide +kernel)
theorem k_5_52 : pz_callOK true rw_5 rw_11 52 1 1 := ⟨90, (Or.inl wm_563), Or.inr ⟨(by decide +kernel), wm_565, ws_13, by unfold pz_np; decide +kernel, by decide, Or.inl ⟨_, _, rfl, by decide, rfl⟩⟩⟩
theorem o_5_55 : pz_OK true rw_5 55 (op_iret g_int) := ok_iret (by decide +kernel) rfl pz_g_int
theorem o_5_56 : pz_OK true rw_5 56 (op_aload 0 57) := ok_aload_n (k := 0) (by decide +kernel)
theorem k_5_57 : pz_callOK true rw_5 rw_12 57 1 1 := ⟨93, (Or.inl wm_567), Or.inr ⟨(by decide +kernel), wm_569, ws_14, by unfold pz_np; decide +kernel, by decide, Or.inl ⟨_, _, rfl, by decide, rfl⟩⟩⟩
theorem o_5_60 : pz_OK true rw_5 60 (op_iret g_int) := ok_iret (by decide +kernel) rfl pz_g_int
theorem o_5_61 : pz_OK true rw_5 61 (op_aload 0 62) := ok_aload_n (k := 0) (by decide +kernel)
theorem o_5_62 : pz_OK true rw_5 62 (op_iload 1 63) := ok_iload_n (k := 1) (by decide +kernel)
theorem k_5_63 : pz_callOK true rw_5 rw_3 63 2 1 := ⟨52, (Or.inl wm_518), Or.inr ⟨(by decide +kernel), wm_520, ws_5, by unfold pz_np; decide +kernel, by decide, Or.inl ⟨_, _, rfl, by decide, rfl⟩⟩⟩
theorem o_5_66 : pz_OK true rw_5 66 (op_ifz c_eq 77 69) := ok_if_eq (off := 11) (by decide +kernel) (by decide)
theorem o_5_69 : pz_OK true rw_5 69 (op_aload 0 70) := ok_aload_n (k := 0) (by decide +kernel)
theorem o_5_70 : pz_OK true rw_5 70 (op_iload 1 71) := ok_iload_n (k := 1) (by decide +kernel)
theorem k_5_71 : pz_callOK true rw_5 rw_7 71 2 1 := ⟨96, (Or.inl wm_559), Or.inr ⟨(by decide +kernel), wm_561, ws_12, by unfold pz_np; decide +kernel, by decide, Or.inl ⟨_, _, rfl, by decide, rfl⟩⟩⟩
theorem o_5_74 : pz_OK true rw_5 74 (op_goto 78) := ok_goto (off := 4) (by decide +kernel) (by decide)
theorem o_5_77 : pz_OK true rw_5 77 (op_stk (sg_const (-1)) 78) := ok_iconst (by decide +kernel) (by unfold pz_in; decide)
theorem o_5_78 : pz_OK true rw_5 78 (op_iret g_int) := ok_iret (by decide +kernel) rfl pz_g_int
set_option maxRecDepth 20000 in
theorem a_5 : pz_all true 138 rw_5 pg_5 := ⟨o_5_0, ⟨o_5_1, ⟨o_5_36, ⟨⟨rw_6, tq_6, rfl, k_5_37⟩, ⟨o_5_40, ⟨o_5_41, ⟨⟨rw_9, tq_9, rfl, k_5_42⟩, ⟨o_5_45, ⟨o_5_46, ⟨⟨rw_8, tq_8, rfl, k_5_47⟩, ⟨o_5_50, ⟨o_5_51, ⟨⟨rw_11, tq_11, rfl, k_5_52⟩, ⟨o_5_55, ⟨o_5_56, ⟨⟨rw_12, tq_12, rfl, k_5_57⟩, ⟨o_5_60, ⟨o_5_61, ⟨o_5_62, ⟨⟨rw_3, tq_3, rfl, k_5_63⟩, ⟨o_5_66, ⟨o_5_69, ⟨o_5_70, ⟨⟨rw_7, tq_7, rfl, k_5_71⟩, ⟨o_5_74, ⟨o_5_77, ⟨o_5_78, trivial⟩⟩⟩⟩⟩⟩⟩⟩⟩⟩⟩⟩⟩⟩⟩⟩⟩⟩⟩⟩⟩⟩⟩⟩⟩⟩⟩
theorem ro_6 : pz_rowOK rw_6 := ⟨by decide +kernel, wm_546, wm_5, by decide +kernel⟩
theorem o_6_0 : pz_OK true rw_6 0 (op_stk (sg_const (0)) 1) := ok_iconst (by decide +kernel) (by unfold pz_in; decide)
theorem o_6_1 : pz_OK true rw_6 1 (op_istore 1 2) := ok_istore_n (k := 1) (by decide +kernel)
theorem o_6_2 : pz_OK true rw_6 2 (op_stk (sg_const (0)) 3) := ok_iconst (by decide +kernel) (by unfold pz_in; decide)
theorem o_6_3 : pz_OK true rw_6 3 (op_istore 2 4) := ok_istore_n (k := 2) (by decide +kernel)
theorem o_6_4 : pz_OK true rw_6 4 (op_iload 2 5) := ok_iload_n (k := 2) (by decide +kernel)
theorem o_6_5 : pz_OK true rw_6 5 (op_aload 0 6) := ok_aload_n (k := 0) (by decide +kernel)
theorem o_6_6 : pz_OK true rw_6 6 (op_getI 0 2 9) := ok_getI cc_0 (by decide) rfl rfl (Or.inl wm_138) (by decide +kernel)
theorem o_6_9 : pz_OK true rw_6 9 (op_icmp c_ge 27 12) := ok_icmp_ge (off := 18) (by decide +kernel) (by decide)
theorem o_6_12 : pz_OK true rw_6 12 (op_iload 1 13) := ok_iload_n (k := 1) (by decide +kernel)
theorem o_6_13 : pz_OK true rw_6 13 (op_aload 0 14) := ok_aload_n (k := 0) (by decide +kernel)
theorem o_6_14 : pz_OK true rw_6 14 (op_getR 0 0 17) := ok_getR cc_0 (by decide) rfl rfl (Or.inl wm_136) (by decide +kernel)
theorem o_6_17 : pz_OK true rw_6 17 (op_iload 2 18) := ok_iload_n (k := 2) (by decide +kernel)
theorem o_6_18 : pz_OK true rw_6 18 (op_iald 20 19) := ok_iald (by decide +kernel) rfl (by decide)
theorem o_6_19 : pz_OK true rw_6 19 (op_stk (sg_bin f_add) 20) := ok_iadd (by decide +kernel)
theorem o_6_20 : pz_OK true rw_6 20 (op_istore 1 21) := ok_istore_n (k := 1) (by decide +kernel)
theorem o_6_21 : pz_OK true rw_6 21 (op_iinc 2 (1) 24) := ok_iinc (by decide +kernel)
theorem o_6_24 : pz_OK true rw_6 24 (op_goto 4) := ok_goto (off := -20) (by decide +kernel) (by decide)
theorem o_6_27 : pz_OK true rw_6 27 (op_iload 1 28) := ok_iload_n (k := 1) (by decide +kernel)
theorem o_6_28 : pz_OK true rw_6 28 (op_iret g_int) := ok_iret (by decide +kernel) rfl pz_g_int
set_option maxRecDepth 20000 in
theorem a_6 : pz_all true 138 rw_6 pg_6 := ⟨o_6_0, ⟨o_6_1, ⟨o_6_2, ⟨o_6_3, ⟨o_6_4, ⟨o_6_5, ⟨o_6_6, ⟨o_6_9, ⟨o_6_12, ⟨o_6_13, ⟨o_6_14, ⟨o_6_17, ⟨o_6_18, ⟨o_6_19, ⟨o_6_20, ⟨o_6_21, ⟨o_6_24, ⟨o_6_27, ⟨o_6_28, trivial⟩⟩⟩⟩⟩⟩⟩⟩⟩⟩⟩⟩⟩⟩⟩⟩⟩⟩⟩
theorem ro_7 : pz_rowOK rw_7 := ⟨by decide +kernel, wm_562, wm_5, by decide +kernel⟩
theorem o_7_0 : pz_OK true rw_7 0 (op_stk (sg_const (0)) 1) := ok_iconst (by decide +kernel) (by unfold pz_in; decide)
theorem o_7_1 : pz_OK true rw_7 1 (op_istore 2 2) := ok_istore_n (k := 2) (by decide +kernel)
theorem o_7_2 : pz_OK true rw_7 2 (op_stk (sg_const (0)) 3) := ok_iconst (by decide +kernel) (by unfold pz_in; decide)
theorem o_7_3 : pz_OK true rw_7 3 (op_istore 3 4) := ok_istore_n (k := 3) (by decide +kernel)
theorem o_7_4 : pz_OK true rw_7 4 (op_iload 3 5) := ok_iload_n (k := 3) (by decide +kernel)
theorem o_7_5 : pz_OK true rw_7 5 (op_aload 0 6) := ok_aload_n (k := 0) (by decide +kernel)
theorem o_7_6 : pz_OK true rw_7 6 (op_getI 0 2 9) := ok_getI cc_0 (by decide) rfl rfl (Or.inl wm_138) (by decide +kernel)
theorem o_7_9 : pz_OK true rw_7 9 (op_icmp c_ge 41 12) := ok_icmp_ge (off := 32) (by decide +kernel) (by decide)
theorem o_7_12 : pz_OK true rw_7 12 (op_iload 2 13) := ok_iload_n (k := 2) (by decide +kernel)
theorem o_7_13 : pz_OK true rw_7 13 (op_aload 0 14) := ok_aload_n (k := 0) (by decide +kernel)
theorem o_7_14 : pz_OK true rw_7 14 (op_getR 0 0 17) := ok_getR cc_0 (by decide) rfl rfl (Or.inl wm_136) (by decide +kernel)
theorem o_7_17 : pz_OK true rw_7 17 (op_iload 3 18) := ok_iload_n (k := 3) (by decide +kernel)
theorem o_7_18 : pz_OK true rw_7 18 (op_iald 20 19) := ok_iald (by decide +kernel) rfl (by decide)
theorem o_7_19 : pz_OK true rw_7 19 (op_aload 0 20) := ok_aload_n (k := 0) (by decide +kernel)
theorem o_7_20 : pz_OK true rw_7 20 (op_getI 0 3 23) := ok_getI cc_0 (by decide) rfl rfl (Or.inl wm_139) (by decide +kernel)
theorem o_7_23 : pz_OK true rw_7 23 (op_stk (sg_const (1)) 24) := ok_iconst (by decide +kernel) (by unfold pz_in; decide)
theorem o_7_24 : pz_OK true rw_7 24 (op_stk (sg_bin f_sub) 25) := ok_isub (by decide +kernel)
theorem o_7_25 : pz_OK true rw_7 25 (op_aload 0 26) := ok_aload_n (k := 0) (by decide +kernel)
theorem o_7_26 : pz_OK true rw_7 26 (op_iload 3 27) := ok_iload_n (k := 3) (by decide +kernel)
theorem o_7_27 : pz_OK true rw_7 27 (op_iload 1 28) := ok_iload_n (k := 1) (by decide +kernel)
theorem k_7_28 : pz_callOK true rw_7 rw_4 28 3 1 := ⟨74, (Or.inl wm_532), Or.inr ⟨(by decide +kernel), wm_534, ws_7, by unfold pz_np; decide +kernel, by decide, Or.inl ⟨_, _, rfl, by decide, rfl⟩⟩⟩
theorem o_7_31 : pz_OK true rw_7 31 (op_stk (sg_bin f_sub) 32) := ok_isub (by decide +kernel)
theorem o_7_32 : pz_OK true rw_7 32 (op_stk (sg_bin f_mul) 33) := ok_imul (by decide +kernel)
theorem o_7_33 : pz_OK true rw_7 33 (op_stk (sg_bin f_add) 34) := ok_iadd (by decide +kernel)
theorem o_7_34 : pz_OK true rw_7 34 (op_istore 2 35) := ok_istore_n (k := 2) (by decide +kernel)
theorem o_7_35 : pz_OK true rw_7 35 (op_iinc 3 (1) 38) := ok_iinc (by decide +kernel)
theorem o_7_38 : pz_OK true rw_7 38 (op_goto 4) := ok_goto (off := -34) (by decide +kernel) (by decide)
theorem o_7_41 : pz_OK true rw_7 41 (op_iload 2 42) := ok_iload_n (k := 2) (by decide +kernel)
theorem o_7_42 : pz_OK true rw_7 42 (op_iret g_int) := ok_iret (by decide +kernel) rfl pz_g_int
set_option maxRecDepth 20000 in
theorem a_7 : pz_all true 138 rw_7 pg_7 := ⟨o_7_0, ⟨o_7_1, ⟨o_7_2, ⟨o_7_3, ⟨o_7_4, ⟨o_7_5, ⟨o_7_6, ⟨o_7_9, ⟨o_7_12, ⟨o_7_13, ⟨o_7_14, ⟨o_7_17, ⟨o_7_18, ⟨o_7_19, ⟨o_7_20, ⟨o_7_23, ⟨o_7_24, ⟨o_7_25, ⟨o_7_26, ⟨o_7_27, ⟨⟨rw_4, tq_4, rfl, k_7_28⟩, ⟨o_7_31, ⟨o_7_32, ⟨o_7_33, ⟨o_7_34, ⟨o_7_35, ⟨o_7_38, ⟨o_7_41, ⟨o_7_42, trivial⟩⟩⟩⟩⟩⟩⟩⟩⟩⟩⟩⟩⟩⟩⟩⟩⟩⟩⟩⟩⟩⟩⟩⟩⟩⟩⟩⟩⟩
theorem ro_8 : pz_rowOK rw_8 := ⟨by decide +kernel, wm_558, wm_5, by decide +kernel⟩
theorem o_8_0 : pz_OK true rw_8 0 (op_stk (sg_const (0)) 1) := ok_iconst (by decide +kernel) (by unfold pz_in; decide)
theorem o_8_1 : pz_OK true rw_8 1 (op_istore 1 2) := ok_istore_n (k := 1) (by decide +kernel)
theorem o_8_2 : pz_OK true rw_8 2 (op_stk (sg_const (1)) 3) := ok_iconst (by decide +kernel) (by unfold pz_in; decide)
theorem o_8_3 : pz_OK true rw_8 3 (op_istore 2 4) := ok_istore_n (k := 2) (by decide +kernel)
theorem o_8_4 : pz_OK true rw_8 4 (op_iload 2 5) := ok_iload_n (k := 2) (by decide +kernel)
theorem o_8_5 : pz_OK true rw_8 5 (op_aload 0 6) := ok_aload_n (k := 0) (by decide +kernel)
theorem o_8_6 : pz_OK true rw_8 6 (op_getI 0 3 9) := ok_getI cc_0 (by decide) rfl rfl (Or.inl wm_139) (by decide +kernel)
theorem o_8_9 : pz_OK true rw_8 9 (op_icmp c_ge 33 12) := ok_icmp_ge (off := 24) (by decide +kernel) (by decide)
theorem o_8_12 : pz_OK true rw_8 12 (op_aload 0 13) := ok_aload_n (k := 0) (by decide +kernel)
theorem o_8_13 : pz_OK true rw_8 13 (op_iload 2 14) := ok_iload_n (k := 2) (by decide +kernel)
theorem k_8_14 : pz_callOK true rw_8 rw_7 14 2 1 := ⟨96, (Or.inl wm_559), Or.inr ⟨(by decide +kernel), wm_561, ws_12, by unfold pz_np; decide +kernel, by decide, Or.inl ⟨_, _, rfl, by decide, rfl⟩⟩⟩
theorem o_8_17 : pz_OK true rw_8 17 (op_aload 0 18) := ok_aload_n (k := 0) (by decide +kernel)
theorem o_8_18 : pz_OK true rw_8 18 (op_iload 1 19) := ok_iload_n (k := 1) (by decide +kernel)
theorem k_8_19 : pz_callOK true rw_8 rw_7 19 2 1 := ⟨96, (Or.inl wm_559), Or.inr ⟨(by decide +kernel), wm_561, ws_12, by unfold pz_np; decide +kernel, by decide, Or.inl ⟨_, _, rfl, by decide, rfl⟩⟩⟩
theorem o_8_22 : pz_OK true rw_8 22 (op_icmp c_le 27 25) := ok_icmp_le (off := 5) (by decide +kernel) (by decide)
theorem o_8_25 : pz_OK true rw_8 25 (op_iload 2 26) := ok_iload_n (k := 2) (by decide +kernel)
theorem o_8_26 : pz_OK true rw_8 26 (op_istore 1 27) := ok_istore_n (k := 1) (by decide +kernel)
theorem o_8_27 : pz_OK true rw_8 27 (op_iinc 2 (1) 30) := ok_iinc (by decide +kernel)
theorem o_8_30 : pz_OK true rw_8 30 (op_goto 4) := ok_goto (off := -26) (by decide +kernel) (by decide)
theorem o_8_33 : pz_OK true rw_8 33 (op_iload 1 34) := ok_iload_n (k := 1) (by decide +kernel)
theorem o_8_34 : pz_OK true rw_8 34 (op_iret g_int) := ok_iret (by decide +kernel) rfl pz_g_int
set_option maxRecDepth 20000 in
theorem a_8 : pz_all true 138 rw_8 pg_8 := ⟨o_8_0, ⟨o_8_1, ⟨o_8_2, ⟨o_8_3, ⟨o_8_4, ⟨o_8_5, ⟨o_8_6, ⟨o_8_9, ⟨o_8_12, ⟨o_8_13, ⟨⟨rw_7, tq_7, rfl, k_8_14⟩, ⟨o_8_17, ⟨o_8_18, ⟨⟨rw_7, tq_7, rfl, k_8_19⟩, ⟨o_8_22, ⟨o_8_25, ⟨o_8_26, ⟨o_8_27, ⟨o_8_30, ⟨o_8_33, ⟨o_8_34, trivial⟩⟩⟩⟩⟩⟩⟩⟩⟩⟩⟩⟩⟩⟩⟩⟩⟩⟩⟩⟩⟩
theorem ro_9 : pz_rowOK rw_9 := ⟨by decide +kernel, wm_550, wm_5, by decide +kernel⟩
theorem o_9_0 : pz_OK true rw_9 0 (op_stk (sg_const (1)) 1) := ok_iconst (by decide +kernel) (by unfold pz_in; decide)
theorem o_9_1 : pz_OK true rw_9 1 (op_aload 0 2) := ok_aload_n (k := 0) (by decide +kernel)
theorem o_9_2 : pz_OK true rw_9 2 (op_getI 0 3 5) := ok_getI cc_0 (by decide) rfl rfl (Or.inl wm_139) (by decide +kernel)
theorem o_9_5 : pz_OK true rw_9 5 (op_stk (sg_bin f_shl) 6) := ok_ishl (by decide +kernel)
theorem o_9_6 : pz_OK true rw_9 6 (op_stk (sg_const (1)) 7) := ok_iconst (by decide +kernel) (by unfold pz_in; decide)
theorem o_9_7 : pz_OK true rw_9 7 (op_stk (sg_bin f_sub) 8) := ok_isub (by decide +kernel)
theorem o_9_8 : pz_OK true rw_9 8 (op_istore 1 9) := ok_istore_n (k := 1) (by decide +kernel)
theorem o_9_9 : pz_OK true rw_9 9 (op_stk (sg_const (0)) 10) := ok_iconst (by decide +kernel) (by unfold pz_in; decide)
theorem o_9_10 : pz_OK true rw_9 10 (op_istore 2 11) := ok_istore_n (k := 2) (by decide +kernel)
theorem o_9_11 : pz_OK true rw_9 11 (op_stk (sg_const (1)) 12) := ok_iconst (by decide +kernel) (by unfold pz_in; decide)
theorem o_9_12 : pz_OK true rw_9 12 (op_istore 3 13) := ok_istore_n (k := 3) (by decide +kernel)
theorem o_9_13 : pz_OK true rw_9 13 (op_iload 3 14) := ok_iload_n (k := 3) (by decide +kernel)
theorem o_9_14 : pz_OK true rw_9 14 (op_aload 0 15) := ok_aload_n (k := 0) (by decide +kernel)
theorem o_9_15 : pz_OK true rw_9 15 (op_getI 0 3 18) := ok_getI cc_0 (by decide) rfl rfl (Or.inl wm_139) (by decide +kernel)
theorem o_9_18 : pz_OK true rw_9 18 (op_icmp c_ge 44 21) := ok_icmp_ge (off := 26) (by decide +kernel) (by decide)
theorem o_9_21 : pz_OK true rw_9 21 (op_aload 0 22) := ok_aload_n (k := 0) (by decide +kernel)
theorem o_9_22 : pz_OK true rw_9 22 (op_iload 3 23) := ok_iload_n (k := 3) (by decide +kernel)
theorem o_9_23 : pz_OK true rw_9 23 (op_iload 1 24) := ok_iload_n (k := 1) (by decide +kernel)
theorem k_9_24 : pz_callOK true rw_9 rw_10 24 3 1 := ⟨99, (Or.inl wm_551), Or.inr ⟨(by decide +kernel), wm_553, ws_10, by unfold pz_np; decide +kernel, by decide, Or.inl ⟨_, _, rfl, by decide, rfl⟩⟩⟩
theorem o_9_27 : pz_OK true rw_9 27 (op_aload 0 28) := ok_aload_n (k := 0) (by decide +kernel)
theorem o_9_28 : pz_OK true rw_9 28 (op_iload 2 29) := ok_iload_n (k := 2) (by decide +kernel)
theorem o_9_29 : pz_OK true rw_9 29 (op_iload 1 30) := ok_iload_n (k := 1) (by decide +kernel)
theorem k_9_30 : pz_callOK true rw_9 rw_10 30 3 1 := ⟨99, (Or.inl wm_551), Or.inr ⟨(by decide +kernel), wm_553, ws_10, by unfold pz_np; decide +kernel, by decide, Or.inl ⟨_, _, rfl, by decide, rfl⟩⟩⟩
theorem o_9_33 : pz_OK true rw_9 33 (op_icmp c_le 38 36) := ok_icmp_le (off := 5) (by decide +kernel) (by decide)
theorem o_9_36 : pz_OK true rw_9 36 (op_iload 3 37) := ok_iload_n (k := 3) (by decide +kernel)
theorem o_9_37 : pz_OK true rw_9 37 (op_istore 2 38) := ok_istore_n (k := 2) (by decide +kernel)
theorem o_9_38 : pz_OK true rw_9 38 (op_iinc 3 (1) 41) := ok_iinc (by decide +kernel)
theorem o_9_41 : pz_OK true rw_9 41 (op_goto 13) := ok_goto (off := -28) (by decide +kernel) (by decide)
theorem o_9_44 : pz_OK true rw_9 44 (op_iload 2 45) := ok_iload_n (k := 2) (by decide +kernel)
theorem o_9_45 : pz_OK true rw_9 45 (op_iret g_int) := ok_iret (by decide +kernel) rfl pz_g_int
set_option maxRecDepth 20000 in
theorem a_9 : pz_all true 138 rw_9 pg_9 := ⟨o_9_0, ⟨o_9_1, ⟨o_9_2, ⟨o_9_5, ⟨o_9_6, ⟨o_9_7, ⟨o_9_8, ⟨o_9_9, ⟨o_9_10, ⟨o_9_11, ⟨o_9_12, ⟨o_9_13, ⟨o_9_14, ⟨o_9_15, ⟨o_9_18, ⟨o_9_21, ⟨o_9_22, ⟨o_9_23, ⟨⟨rw_10, tq_10, rfl, k_9_24⟩, ⟨o_9_27, ⟨o_9_28, ⟨o_9_29, ⟨⟨rw_10, tq_10, rfl, k_9_30⟩, ⟨o_9_33, ⟨o_9_36, ⟨o_9_37, ⟨o_9_38, ⟨o_9_41, ⟨o_9_44, ⟨o_9_45, trivial⟩⟩⟩⟩⟩⟩⟩⟩⟩⟩⟩⟩⟩⟩⟩⟩⟩⟩⟩⟩⟩⟩⟩⟩⟩⟩⟩⟩⟩⟩
theorem ro_10 : pz_rowOK rw_10 := ⟨by decide +kernel, wm_554, wm_5, by decide +kernel⟩
theorem o_10_0 : pz_OK true rw_10 0 (op_stk (sg_const (0)) 1) := ok_iconst (by decide +kernel) (by unfold pz_in; decide)
theorem o_10_1 : pz_OK true rw_10 1 (op_istore 3 2) := ok_istore_n (k := 3) (by decide +kernel)
theorem o_10_2 : pz_OK true rw_10 2 (op_stk (sg_const (0)) 3) := ok_iconst (by decide +kernel) (by unfold pz_in; decide)
theorem o_10_3 : pz_OK true rw_10 3 (op_istore 4 5) := ok_istore (by decide +kernel)
theorem o_10_5 : pz_OK true rw_10 5 (op_iload 4 7) := ok_iload (by decide +kernel)
theorem o_10_7 : pz_OK true rw_10 7 (op_aload 0 8) := ok_aload_n (k := 0) (by decide +kernel)
theorem o_10_8 : pz_OK true rw_10 8 (op_getI 0 2 11) := ok_getI cc_0 (by decide) rfl rfl (Or.inl wm_138) (by decide +kernel)
theorem o_10_11 : pz_OK true rw_10 11 (op_icmp c_ge 112 14) := ok_icmp_ge (off := 101) (by decide +kernel) (by decide)
theorem o_10_14 : pz_OK true rw_10 14 (op_stk (sg_const (1)) 15) := ok_iconst (by decide +kernel) (by unfold pz_in; decide)
theorem o_10_15 : pz_OK true rw_10 15 (op_istore 5 17) := ok_istore (by decide +kernel)
theorem o_10_17 : pz_OK true rw_10 17 (op_stk (sg_const (0)) 18) := ok_iconst (by decide +kernel) (by unfold pz_in; decide)
theorem o_10_18 : pz_OK true rw_10 18 (op_istore 6 20) := ok_istore (by decide +kernel)
theorem o_10_20 : pz_OK true rw_10 20 (op_iload 6 22) := ok_iload (by decide +kernel)
theorem o_10_22 : pz_OK true rw_10 22 (op_aload 0 23) := ok_aload_n (k := 0) (by decide +kernel)
theorem o_10_23 : pz_OK true rw_10 23 (op_getI 0 3 26) := ok_getI cc_0 (by decide) rfl rfl (Or.inl wm_139) (by decide +kernel)
theorem o_10_26 : pz_OK true rw_10 26 (op_icmp c_ge 87 29) := ok_icmp_ge (off := 61) (by decide +kernel) (by decide)
theorem o_10_29 : pz_OK true rw_10 29 (op_iload 2 30) := ok_iload_n (k := 2) (by decide +kernel)
theorem o_10_30 : pz_OK true rw_10 30 (op_iload 6 32) := ok_iload (by decide +kernel)
theorem o_10_32 : pz_OK true rw_10 32 (op_stk (sg_bin f_shr) 33) := ok_ishr (by decide +kernel)
theorem o_10_33 : pz_OK true rw_10 33 (op_stk (sg_const (1)) 34) := ok_iconst (by decide +kernel) (by unfold pz_in; decide)
theorem o_10_34 : pz_OK true rw_10 34 (op_stk (sg_bin f_and) 35) := ok_iand (by decide +kernel)
theorem o_10_35 : pz_OK true rw_10 35 (op_stk (sg_const (1)) 36) := ok_iconst (by decide +kernel) (by unfold pz_in; decide)
theorem o_10_36 : pz_OK true rw_10 36 (op_icmp c_ne 43 39) := ok_icmp_ne (off := 7) (by decide +kernel) (by decide)
theorem o_10_39 : pz_OK true rw_10 39 (op_stk (sg_const (1)) 40) := ok_iconst (by decide +kernel) (by unfold pz_in; decide)
theorem o_10_40 : pz_OK true rw_10 40 (op_goto 44) := ok_goto (off := 4) (by decide +kernel) (by decide)
theorem o_10_43 : pz_OK true rw_10 43 (op_stk (sg_const (0)) 44) := ok_iconst (by decide +kernel) (by unfold pz_in; decide)
theorem o_10_44 : pz_OK true rw_10 44 (op_istore 7 46) := ok_istore (by decide +kernel)
theorem o_10_46 : pz_OK true rw_10 46 (op_iload 5 48) := ok_iload (by decide +kernel)
theorem o_10_48 : pz_OK true rw_10 48 (op_ifz c_eq 78 51) := ok_if_eq (off := 30) (by decide +kernel) (by decide)
theorem o_10_51 : pz_OK true rw_10 51 (op_iload 7 53) := ok_iload (by decide +kernel)
theorem o_10_53 : pz_OK true rw_10 53 (op_ifz c_eq 74 56) := ok_if_eq (off := 21) (by decide +kernel) (by decide)
theorem o_10_56 : pz_OK true rw_10 56 (op_aload 0 57) := ok_aload_n (k := 0) (by decide +kernel)
theorem o_10_57 : pz_OK true rw_10 57 (op_iload 4 59) := ok_iload (by decide +kernel)
theorem o_10_59 : pz_OK true rw_10 59 (op_iload 6 61) := ok_iload (by decide +kernel)
theorem k_10_61 : pz_callOK true rw_10 rw_4 61 3 1 := ⟨74, (Or.inl wm_532), Or.inr ⟨(by decide +kernel), wm_534, ws_7, by unfold pz_np; decide +kernel, by decide, Or.inl ⟨_, _, rfl, by decide, rfl⟩⟩⟩
theorem o_10_64 : pz_OK true rw_10 64 (op_aload 0 65) := ok_aload_n (k := 0) (by decide +kernel)
theorem o_10_65 : pz_OK true rw_10 65 (op_iload 4 67) := ok_iload (by decide +kernel)
theorem o_10_67 : pz_OK true rw_10 67 (op_iload 1 68) := ok_iload_n (k := 1) (by decide +kernel)
theorem k_10_68 : pz_callOK true rw_10 rw_4 68 3 1 := ⟨74, (Or.inl wm_532), Or.inr ⟨(by decide +kernel), wm_534, ws_7, by unfold pz_np; decide +kernel, by decide, Or.inl ⟨_, _, rfl, by decide, rfl⟩⟩⟩
theorem o_10_71 : pz_OK true rw_10 71 (op_icmp c_lt 78 74) := ok_icmp_lt (off := 7) (by decide +kernel) (by decide)
theorem o_10_74 : pz_OK true rw_10 74 (op_stk (sg_const (1)) 75) := ok_iconst (by decide +kernel) (by unfold pz_in; decide)
theorem o_10_75 : pz_OK true rw_10 75 (op_goto 79) := ok_goto (off := 4) (by decide +kernel) (by decide)
theorem o_10_78 : pz_OK true rw_10 78 (op_stk (sg_const (0)) 79) := ok_iconst (by decide +kernel) (by unfold pz_in; decide)
theorem o_10_79 : pz_OK true rw_10 79 (op_istore 5 81) := ok_istore (by decide +kernel)
theorem o_10_81 : pz_OK true rw_10 81 (op_iinc 6 (1) 84) := ok_iinc (by decide +kernel)
theorem o_10_84 : pz_OK true rw_10 84 (op_goto 20) := ok_goto (off := -64) (by decide +kernel) (by decide)
theorem o_10_87 : pz_OK true rw_10 87 (op_iload 3 88) := ok_iload_n (k := 3) (by decide +kernel)
theorem o_10_88 : pz_OK true rw_10 88 (op_iload 5 90) := ok_iload (by decide +kernel)
theorem o_10_90 : pz_OK true rw_10 90 (op_ifz c_eq 103 93) := ok_if_eq (off := 13) (by decide +kernel) (by decide)
theorem o_10_93 : pz_OK true rw_10 93 (op_aload 0 94) := ok_aload_n (k := 0) (by decide +kernel)
theorem o_10_94 : pz_OK true rw_10 94 (op_getR 0 0 97) := ok_getR cc_0 (by decide) rfl rfl (Or.inl wm_136) (by decide +kernel)
theorem o_10_97 : pz_OK true rw_10 97 (op_iload 4 99) := ok_iload (by decide +kernel)
theorem o_10_99 : pz_OK true rw_10 99 (op_iald 20 100) := ok_iald (by decide +kernel) rfl (by decide)
theorem o_10_100 : pz_OK true rw_10 100 (op_goto 104) := ok_goto (off := 4) (by decide +kernel) (by decide)
theorem o_10_103 : pz_OK true rw_10 103 (op_stk (sg_const (0)) 104) := ok_iconst (by decide +kernel) (by unfold pz_in; decide)
theorem o_10_104 : pz_OK true rw_10 104 (op_stk (sg_bin f_add) 105) := ok_iadd (by decide +kernel)
theorem o_10_105 : pz_OK true rw_10 105 (op_istore 3 106) := ok_istore_n (k := 3) (by decide +kernel)
theorem o_10_106 : pz_OK true rw_10 106 (op_iinc 4 (1) 109) := ok_iinc (by decide +kernel)
theorem o_10_109 : pz_OK true rw_10 109 (op_goto 5) := ok_goto (off := -104) (by decide +kernel) (by decide)
theorem o_10_112 : pz_OK true rw_10 112 (op_iload 3 113) := ok_iload_n (k := 3) (by decide +kernel)
theorem o_10_113 : pz_OK true rw_10 113 (op_iret g_int) := ok_iret (by decide +kernel) rfl pz_g_int
set_option maxRecDepth 20000 in
theorem a_10 : pz_all true 138 rw_10 pg_10 := ⟨o_10_0, ⟨o_10_1, ⟨o_10_2, ⟨o_10_3, ⟨o_10_5, ⟨o_10_7, ⟨o_10_8, ⟨o_10_11, ⟨o_10_14, ⟨o_10_15, ⟨o_10_17, ⟨o_10_18, ⟨o_10_20, ⟨o_10_22, ⟨o_10_23, ⟨o_10_26, ⟨o_10_29, ⟨o_10_30, ⟨o_10_32, ⟨o_10_33, ⟨o_10_34, ⟨o_10_35, ⟨o_10_36, ⟨o_10_39, ⟨o_10_40, ⟨o_10_43, ⟨o_10_44, ⟨o_10_46, ⟨o_10_48, ⟨o_10_51, ⟨o_10_53, ⟨o_10_56, ⟨o_10_57, ⟨o_10_59, ⟨⟨rw_4, tq_4, rfl, k_10_61⟩, ⟨o_10_64, ⟨o_10_65, ⟨o_10_67, ⟨⟨rw_4, tq_4, rfl, k_10_68⟩, ⟨o_10_71, ⟨o_10_74, ⟨o_10_75, ⟨o_10_78, ⟨o_10_79, ⟨o_10_81, ⟨o_10_84, ⟨o_10_87, ⟨o_10_88, ⟨o_10_90, ⟨o_10_93, ⟨o_10_94, ⟨o_10_97, ⟨o_10_99, ⟨o_10_100, ⟨o_10_103, ⟨o_10_104, ⟨o_10_105, ⟨o_10_106, ⟨o_10_109, ⟨o_10_112, ⟨o_10_113, trivial⟩⟩⟩⟩⟩⟩⟩⟩⟩⟩⟩⟩⟩⟩⟩⟩⟩⟩⟩⟩⟩⟩⟩⟩⟩⟩⟩⟩⟩⟩⟩⟩⟩⟩⟩⟩⟩⟩⟩⟩⟩⟩⟩⟩⟩⟩⟩⟩⟩⟩⟩⟩⟩⟩⟩⟩⟩⟩⟩⟩⟩
theorem ro_11 : pz_rowOK rw_11 := ⟨by decide +kernel, wm_566, wm_5, by decide +kernel⟩
theorem o_11_0 : pz_OK true rw_11 0 (op_aload 0 1) := ok_aload_n (k := 0) (by decide +kernel)
theorem k_11_1 : pz_callOK true rw_11 rw_6 1 1 1 := ⟨81, (Or.inl wm_543), Or.inr ⟨(by decide +kernel), wm_545, ws_8, by unfold pz_np; decide +kernel, by decide, Or.inl ⟨_, _, rfl, by decide, rfl⟩⟩⟩
theorem o_11_4 : pz_OK true rw_11 4 (op_istore 1 5) := ok_istore_n (k := 1) (by decide +kernel)
theorem o_11_5 : pz_OK true rw_11 5 (op_stk (sg_const (0)) 6) := ok_iconst (by decide +kernel) (by unfold pz_in; decide)
theorem o_11_6 : pz_OK true rw_11 6 (op_istore 2 7) := ok_istore_n (k := 2) (by decide +kernel)
theorem o_11_7 : pz_OK true rw_11 7 (op_iload 2 8) := ok_iload_n (k := 2) (by decide +kernel)
theorem o_11_8 : pz_OK true rw_11 8 (op_aload 0 9) := ok_aload_n (k := 0) (by decide +kernel)
theorem o_11_9 : pz_OK true rw_11 9 (op_getI 0 3 12) := ok_getI cc_0 (by decide) rfl rfl (Or.inl wm_139) (by decide +kernel)
theorem o_11_12 : pz_OK true rw_11 12 (op_icmp c_ge 78 15) := ok_icmp_ge (off := 66) (by decide +kernel) (by decide)
theorem o_11_15 : pz_OK true rw_11 15 (op_stk (sg_const (1)) 16) := ok_iconst (by decide +kernel) (by unfold pz_in; decide)
theorem o_11_16 : pz_OK true rw_11 16 (op_istore 3 17) := ok_istore_n (k := 3) (by decide +kernel)
theorem o_11_17 : pz_OK true rw_11 17 (op_stk (sg_const (0)) 18) := ok_iconst (by decide +kernel) (by unfold pz_in; decide)
theorem o_11_18 : pz_OK true rw_11 18 (op_istore 4 20) := ok_istore (by decide +kernel)
theorem o_11_20 : pz_OK true rw_11 20 (op_iload 4 22) := ok_iload (by decide +kernel)
theorem o_11_22 : pz_OK true rw_11 22 (op_aload 0 23) := ok_aload_n (k := 0) (by decide +kernel)
theorem o_11_23 : pz_OK true rw_11 23 (op_getI 0 3 26) := ok_getI cc_0 (by decide) rfl rfl (Or.inl wm_139) (by decide +kernel)
theorem o_11_26 : pz_OK true rw_11 26 (op_icmp c_ge 66 29) := ok_icmp_ge (off := 40) (by decide +kernel) (by decide)
theorem o_11_29 : pz_OK true rw_11 29 (op_iload 3 30) := ok_iload_n (k := 3) (by decide +kernel)
theorem o_11_30 : pz_OK true rw_11 30 (op_ifz c_eq 58 33) := ok_if_eq (off := 28) (by decide +kernel) (by decide)
theorem o_11_33 : pz_OK true rw_11 33 (op_iload 4 35) := ok_iload (by decide +kernel)
theorem o_11_35 : pz_OK true rw_11 35 (op_iload 2 36) := ok_iload_n (k := 2) (by decide +kernel)
theorem o_11_36 : pz_OK true rw_11 36 (op_icmp c_eq 54 39) := ok_icmp_eq (off := 18) (by decide +kernel) (by decide)
theorem o_11_39 : pz_OK true rw_11 39 (op_stk (sg_const (2)) 40) := ok_iconst (by decide +kernel) (by unfold pz_in; decide)
theorem o_11_40 : pz_OK true rw_11 40 (op_aload 0 41) := ok_aload_n (k := 0) (by decide +kernel)
theorem o_11_41 : pz_OK true rw_11 41 (op_iload 2 42) := ok_iload_n (k := 2) (by decide +kernel)
theorem o_11_42 : pz_OK true rw_11 42 (op_stk (sg_const (1)) 43) := ok_iconst (by decide +kernel) (by unfold pz_in; decide)
theorem o_11_43 : pz_OK true rw_11 43 (op_iload 4 45) := ok_iload (by decide +kernel)
theorem o_11_45 : pz_OK true rw_11 45 (op_stk (sg_bin f_shl) 46) := ok_ishl (by decide +kernel)
theorem k_11_46 : pz_callOK true rw_11 rw_10 46 3 1 := ⟨99, (Or.inl wm_551), Or.inr ⟨(by decide +kernel), wm_553, ws_10, by unfold pz_np; decide +kernel, by decide, Or.inl ⟨_, _, rfl, by decide, rfl⟩⟩⟩
theorem o_11_49 : pz_OK true rw_11 49 (op_stk (sg_bin f_mul) 50) := ok_imul (by decide +kernel)
theorem o_11_50 : pz_OK true rw_11 50 (op_iload 1 51) := ok_iload_n (k := 1) (by decide +kernel)
theorem o_11_51 : pz_OK true rw_11 51 (op_icmp c_le 58 54) := ok_icmp_le (off := 7) (by decide +kernel) (by decide)
theorem o_11_54 : pz_OK true rw_11 54 (op_stk (sg_const (1)) 55) := ok_iconst (by decide +kernel) (by unfold pz_in; decide)
theorem o_11_55 : pz_OK true rw_11 55 (op_goto 59) := ok_goto (off := 4) (by decide +kernel) (by decide)
theorem o_11_58 : pz_OK true rw_11 58 (op_stk (sg_const (0)) 59) := ok_iconst (by decide +kernel) (by unfold pz_in; decide)
theorem o_11_59 : pz_OK true rw_11 59 (op_istore 3 60) := ok_istore_n (k := 3) (by decide +kernel)
theorem o_11_60 : pz_OK true rw_11 60 (op_iinc 4 (1) 63) := ok_iinc (by decide +kernel)
theorem o_11_63 : pz_OK true rw_11 63 (op_goto 20) := ok_goto (off := -43) (by decide +kernel) (by decide)
theorem o_11_66 : pz_OK true rw_11 66 (op_iload 3 67) := ok_iload_n (k := 3) (by decide +kernel)
theorem o_11_67 : pz_OK true rw_11 67 (op_ifz c_eq 72 70) := ok_if_eq (off := 5) (by decide +kernel) (by decide)
theorem o_11_70 : pz_OK true rw_11 70 (op_iload 2 71) := ok_iload_n (k := 2) (by decide +kernel)
theorem o_11_71 : pz_OK true rw_11 71 (op_iret g_int) := ok_iret (by decide +kernel) rfl pz_g_int
theorem o_11_72 : pz_OK true rw_11 72 (op_iinc 2 (1) 75) := ok_iinc (by decide +kernel)
theorem o_11_75 : pz_OK true rw_11 75 (op_goto 7) := ok_goto (off := -68) (by decide +kernel) (by decide)
theorem o_11_78 : pz_OK true rw_11 78 (op_stk (sg_const (-2)) 80) := ok_bipush (by decide +kernel) (by unfold pz_in; decide) (by decide)
theorem o_11_80 : pz_OK true rw_11 80 (op_iret g_int) := ok_iret (by decide +kernel) rfl pz_g_int
set_option maxRecDepth 20000 in
theorem a_11 : pz_all true 138 rw_11 pg_11 := ⟨o_11_0, ⟨⟨rw_6, tq_6, rfl, k_11_1⟩, ⟨o_11_4, ⟨o_11_5, ⟨o_11_6, ⟨o_11_7, ⟨o_11_8, ⟨o_11_9, ⟨o_11_12, ⟨o_11_15, ⟨o_11_16, ⟨o_11_17, ⟨o_11_18, ⟨o_11_20, ⟨o_11_22, ⟨o_11_23, ⟨o_11_26, ⟨o_11_29, ⟨o_11_30, ⟨o_11_33, ⟨o_11_35, ⟨o_11_36, ⟨o_11_39, ⟨o_11_40, ⟨o_11_41, ⟨o_11_42, ⟨o_11_43, ⟨o_11_45, ⟨⟨rw_10, tq_10, rfl, k_11_46⟩, ⟨o_11_49, ⟨o_11_50, ⟨o_11_51, ⟨o_11_54, ⟨o_11_55, ⟨o_11_58, ⟨o_11_59, ⟨o_11_60, ⟨o_11_63, ⟨o_11_66, ⟨o_11_67, ⟨o_11_70, ⟨o_11_71, ⟨o_11_72, ⟨o_11_75, ⟨o_11_78, ⟨o_11_80, trivial⟩⟩⟩⟩⟩⟩⟩⟩⟩⟩⟩⟩⟩⟩⟩⟩⟩⟩⟩⟩⟩⟩⟩⟩⟩⟩⟩⟩⟩⟩⟩⟩⟩⟩⟩⟩⟩⟩⟩⟩⟩⟩⟩⟩⟩⟩
theorem ro_12 : pz_rowOK rw_12 := ⟨by decide +kernel, wm_570, wm_5, by decide +kernel⟩
theorem o_12_0 : pz_OK true rw_12 0 (op_stk (sg_const (1)) 1) := ok_iconst (by decide +kernel) (by unfold pz_in; decide)
theorem o_12_1 : pz_OK true rw_12 1 (op_aload 0 2) := ok_aload_n (k := 0) (by decide +kernel)
theorem o_12_2 : pz_OK true rw_12 2 (op_getI 0 3 5) := ok_getI cc_0 (by decide) rfl rfl (Or.inl wm_139) (by decide +kernel)
theorem o_12_5 : pz_OK true rw_12 5 (op_stk (sg_bin f_shl) 6) := ok_ishl (by decide +kernel)
theorem o_12_6 : pz_OK true rw_12 6 (op_stk (sg_const (1)) 7) := ok_iconst (by decide +kernel) (by unfold pz_in; decide)
theorem o_12_7 : pz_OK true rw_12 7 (op_stk (sg_bin f_sub) 8) := ok_isub (by decide +kernel)
theorem o_12_8 : pz_OK true rw_12 8 (op_istore 1 9) := ok_istore_n (k := 1) (by decide +kernel)
theorem o_12_9 : pz_OK true rw_12 9 (op_stk (sg_const (1)) 10) := ok_iconst (by decide +kernel) (by unfold pz_in; decide)
theorem o_12_10 : pz_OK true rw_12 10 (op_istore 2 11) := ok_istore_n (k := 2) (by decide +kernel)
theorem o_12_11 : pz_OK true rw_12 11 (op_iload 2 12) := ok_iload_n (k := 2) (by decide +kernel)
theorem o_12_12 : pz_OK true rw_12 12 (op_aload 0 13) := ok_aload_n (k := 0) (by decide +kernel)
theorem o_12_13 : pz_OK true rw_12 13 (op_getI 0 3 16) := ok_getI cc_0 (by decide) rfl rfl (Or.inl wm_139) (by decide +kernel)
theorem o_12_16 : pz_OK true rw_12 16 (op_icmp c_ge 37 19) := ok_icmp_ge (off := 21) (by decide +kernel) (by decide)
theorem o_12_19 : pz_OK true rw_12 19 (op_iload 1 20) := ok_iload_n (k := 1) (by decide +kernel)
theorem o_12_20 : pz_OK true rw_12 20 (op_stk (sg_const (1)) 21) := ok_iconst (by decide +kernel) (by unfold pz_in; decide)
theorem o_12_21 : pz_OK true rw_12 21 (op_aload 0 22) := ok_aload_n (k := 0) (by decide +kernel)
theorem o_12_22 : pz_OK true rw_12 22 (op_iload 1 23) := ok_iload_n (k := 1) (by decide +kernel)
theorem k_12_23 : pz_callOK true rw_12 rw_13 23 2 1 := ⟨102, (Or.inl wm_571), Or.inr ⟨(by decide +kernel), wm_573, ws_15, by unfold pz_np; decide +kernel, by decide, Or.inl ⟨_, _, rfl, by decide, rfl⟩⟩⟩
theorem o_12_26 : pz_OK true rw_12 26 (op_stk (sg_bin f_shl) 27) := ok_ishl (by decide +kernel)
theorem o_12_27 : pz_OK true rw_12 27 (op_stk (sg_const (-1)) 28) := ok_iconst (by decide +kernel) (by unfold pz_in; decide)
theorem o_12_28 : pz_OK true rw_12 28 (op_stk (sg_bin f_xor) 29) := ok_ixor (by decide +kernel)
theorem o_12_29 : pz_OK true rw_12 29 (op_stk (sg_bin f_and) 30) := ok_iand (by decide +kernel)
theorem o_12_30 : pz_OK true rw_12 30 (op_istore 1 31) := ok_istore_n (k := 1) (by decide +kernel)
theorem o_12_31 : pz_OK true rw_12 31 (op_iinc 2 (1) 34) := ok_iinc (by decide +kernel)
theorem o_12_34 : pz_OK true rw_12 34 (op_goto 11) := ok_goto (off := -23) (by decide +kernel) (by decide)
theorem o_12_37 : pz_OK true rw_12 37 (op_iload 1 38) := ok_iload_n (k := 1) (by decide +kernel)
theorem k_12_38 : pz_callOK true rw_12 rw_131 38 1 0 := ⟨105, (Or.inl wm_575), Or.inl ⟨(by decide +kernel), wm_576, by unfold pz_np; decide +kernel⟩⟩
theorem o_12_41 : pz_OK true rw_12 41 (op_iret g_int) := ok_iret (by decide +kernel) rfl pz_g_int
set_option maxRecDepth 20000 in
theorem a_12 : pz_all true 138 rw_12 pg_12 := ⟨o_12_0, ⟨o_12_1, ⟨o_12_2, ⟨o_12_5, ⟨o_12_6, ⟨o_12_7, ⟨o_12_8, ⟨o_12_9, ⟨o_12_10, ⟨o_12_11, ⟨o_12_12, ⟨o_12_13, ⟨o_12_16, ⟨o_12_19, ⟨o_12_20, ⟨o_12_21, ⟨o_12_22, ⟨⟨rw_13, tq_13, rfl, k_12_23⟩, ⟨o_12_26, ⟨o_12_27, ⟨o_12_28, ⟨o_12_29, ⟨o_12_30, ⟨o_12_31, ⟨o_12_34, ⟨o_12_37, ⟨⟨rw_131, tq_131, rfl, k_12_38⟩, ⟨o_12_41, trivial⟩⟩⟩⟩⟩⟩⟩⟩⟩⟩⟩⟩⟩⟩⟩⟩⟩⟩⟩⟩⟩⟩⟩⟩⟩⟩⟩⟩
theorem ro_13 : pz_rowOK rw_13 := ⟨by decide +kernel, wm_574, wm_5, by decide +kernel⟩
theorem o_13_0 : pz_OK true rw_13 0 (op_stk (sg_const (0)) 1) := ok_iconst (by decide +kernel) (by unfold pz_in; decide)
theorem o_13_1 : pz_OK true rw_13 1 (op_istore 2 2) := ok_istore_n (k := 2) (by decide +kernel)
theorem o_13_2 : pz_OK true rw_13 2 (op_aload 0 3) := ok_aload_n (k := 0) (by decide +kernel)
theorem k_13_3 : pz_callOK true rw_13 rw_6 3 1 1 := ⟨81, (Or.inl wm_543), Or.inr ⟨(by decide +kernel), wm_545, ws_8, by unfold pz_np; decide +kernel, by decide, Or.inl ⟨_, _, rfl, by decide, rfl⟩⟩⟩
theorem o_13_6 : pz_OK true rw_13 6 (op_istore 3 7) := ok_istore_n (k := 3) (by decide +kernel)
theorem o_13_7 : pz_OK true rw_13 7 (op_stk (sg_const (0)) 8) := ok_iconst (by decide +kernel) (by unfold pz_in; decide)
theorem o_13_8 : pz_OK true rw_13 8 (op_istore 4 10) := ok_istore (by decide +kernel)
theorem o_13_10 : pz_OK true rw_13 10 (op_iload 4 12) := ok_iload (by decide +kernel)
theorem o_13_12 : pz_OK true rw_13 12 (op_aload 0 13) := ok_aload_n (k := 0) (by decide +kernel)
theorem o_13_13 : pz_OK true rw_13 13 (op_getI 0 3 16) := ok_getI cc_0 (by decide) rfl rfl (Or.inl wm_139) (by decide +kernel)
theorem o_13_16 : pz_OK true rw_13 16 (op_icmp c_ge 57 19) := ok_icmp_ge (off := 41) (by decide +kernel) (by decide)
theorem o_13_19 : pz_OK true rw_13 19 (op_iload 1 20) := ok_iload_n (k := 1) (by decide +kernel)
theorem o_13_20 : pz_OK true rw_13 20 (op_iload 4 22) := ok_iload (by decide +kernel)
theorem o_13_22 : pz_OK true rw_13 22 (op_stk (sg_bin f_shr) 23) := ok_ishr (by decide +kernel)
theorem o_13_23 : pz_OK true rw_13 23 (op_stk (sg_const (1)) 24) := ok_iconst (by decide +kernel) (by unfold pz_in; decide)
theorem o_13_24 : pz_OK true rw_13 24 (op_stk (sg_bin f_and) 25) := ok_iand (by decide +kernel)
theorem o_13_25 : pz_OK true rw_13 25 (op_stk (sg_const (1)) 26) := ok_iconst (by decide +kernel) (by unfold pz_in; decide)
theorem o_13_26 : pz_OK true rw_13 26 (op_icmp c_ne 51 29) := ok_icmp_ne (off := 25) (by decide +kernel) (by decide)
theorem o_13_29 : pz_OK true rw_13 29 (op_aload 0 30) := ok_aload_n (k := 0) (by decide +kernel)
theorem o_13_30 : pz_OK true rw_13 30 (op_iload 4 32) := ok_iload (by decide +kernel)
theorem o_13_32 : pz_OK true rw_13 32 (op_iload 1 33) := ok_iload_n (k := 1) (by decide +kernel)
theorem k_13_33 : pz_callOK true rw_13 rw_10 33 3 1 := ⟨99, (Or.inl wm_551), Or.inr ⟨(by decide +kernel), wm_553, ws_10, by unfold pz_np; decide +kernel, by decide, Or.inl ⟨_, _, rfl, by decide, rfl⟩⟩⟩
theorem o_13_36 : pz_OK true rw_13 36 (op_iload 3 37) := ok_iload_n (k := 3) (by decide +kernel)
theorem o_13_37 : pz_OK true rw_13 37 (op_icmp c_gt 51 40) := ok_icmp_gt (off := 14) (by decide +kernel) (by decide)
theorem o_13_40 : pz_OK true rw_13 40 (op_iload 4 42) := ok_iload (by decide +kernel)
theorem o_13_42 : pz_OK true rw_13 42 (op_istore 2 43) := ok_istore_n (k := 2) (by decide +kernel)
theorem o_13_43 : pz_OK true rw_13 43 (op_aload 0 44) := ok_aload_n (k := 0) (by decide +kernel)
theorem o_13_44 : pz_OK true rw_13 44 (op_iload 4 46) := ok_iload (by decide +kernel)
theorem o_13_46 : pz_OK true rw_13 46 (op_iload 1 47) := ok_iload_n (k := 1) (by decide +kernel)
theorem k_13_47 : pz_callOK true rw_13 rw_10 47 3 1 := ⟨99, (Or.inl wm_551), Or.inr ⟨(by decide +kernel), wm_553, ws_10, by unfold pz_np; decide +kernel, by decide, Or.inl ⟨_, _, rfl, by decide, rfl⟩⟩⟩
theorem o_13_50 : pz_OK true rw_13 50 (op_istore 3 51) := ok_istore_n (k := 3) (by decide +kernel)
theorem o_13_51 : pz_OK true rw_13 51 (op_iinc 4 (1) 54) := ok_iinc (by decide +kernel)
theorem o_13_54 : pz_OK true rw_13 54 (op_goto 10) := ok_goto (off := -44) (by decide +kernel) (by decide)
theorem o_13_57 : pz_OK true rw_13 57 (op_iload 2 58) := ok_iload_n (k := 2) (by decide +kernel)
theorem o_13_58 : pz_OK true rw_13 58 (op_iret g_int) := ok_iret (by decide +kernel) rfl pz_g_int
set_option maxRecDepth 20000 in
theorem a_13 : pz_all true 138 rw_13 pg_13 := ⟨o_13_0, ⟨o_13_1, ⟨o_13_2, ⟨⟨rw_6, tq_6, rfl, k_13_3⟩, ⟨o_13_6, ⟨o_13_7, ⟨o_13_8, ⟨o_13_10, ⟨o_13_12, ⟨o_13_13, ⟨o_13_16, ⟨o_13_19, ⟨o_13_20, ⟨o_13_22, ⟨o_13_23, ⟨o_13_24, ⟨o_13_25, ⟨o_13_26, ⟨o_13_29, ⟨o_13_30, ⟨o_13_32, ⟨⟨rw_10, tq_10, rfl, k_13_33⟩, ⟨o_13_36, ⟨o_13_37, ⟨o_13_40, ⟨o_13_42, ⟨o_13_43, ⟨o_13_44, ⟨o_13_46, ⟨⟨rw_10, tq_10, rfl, k_13_47⟩, ⟨o_13_50, ⟨o_13_51, ⟨o_13_54, ⟨o_13_57, ⟨o_13_58, trivial⟩⟩⟩⟩⟩⟩⟩⟩⟩⟩⟩⟩⟩⟩⟩⟩⟩⟩⟩⟩⟩⟩⟩⟩⟩⟩⟩⟩⟩⟩⟩⟩⟩⟩⟩
theorem ro_14 : pz_rowOK rw_14 := ⟨by decide +kernel, wm_469, wm_2, by decide +kernel⟩
theorem o_14_0 : pz_OK true rw_14 0 (op_aload 0 1) := ok_aload_n (k := 0) (by decide +kernel)
theorem o_14_1 : pz_OK true rw_14 1 (op_stk (sg_const (0)) 2) := ok_iconst (by decide +kernel) (by unfold pz_in; decide)
theorem o_14_2 : pz_OK true rw_14 2 (op_putI false 1 5 5) := ok_putI cc_1 (by decide) rfl rfl (Or.inl wm_48) rfl (by decide +kernel) (by decide +kernel)
theorem o_14_5 : pz_OK true rw_14 5 (op_aload 0 6) := ok_aload_n (k := 0) (by decide +kernel)
theorem o_14_6 : pz_OK true rw_14 6 (op_getR 1 4 9) := ok_getR cc_1 (by decide) rfl rfl (Or.inl wm_47) (by decide +kernel)
theorem o_14_9 : pz_OK true rw_14 9 (op_stk (sg_const (12)) 11) := ok_bipush (by decide +kernel) (by unfold pz_in; decide) (by decide)
theorem k_14_11 : pz_callOK true rw_14 rw_132 11 2 0 := ⟨31, (Or.inl wm_470), Or.inl ⟨(by decide +kernel), wm_471, by unfold pz_np; decide +kernel⟩⟩
theorem o_14_14 : pz_OK true rw_14 14 (op_stk (sg_const (0)) 15) := ok_iconst (by decide +kernel) (by unfold pz_in; decide)
theorem o_14_15 : pz_OK true rw_14 15 (op_istore 2 16) := ok_istore_n (k := 2) (by decide +kernel)
theorem o_14_16 : pz_OK true rw_14 16 (op_iload 2 17) := ok_iload_n (k := 2) (by decide +kernel)
theorem o_14_17 : pz_OK true rw_14 17 (op_stk (sg_const (24)) 19) := ok_bipush (by decide +kernel) (by unfold pz_in; decide) (by decide)
theorem o_14_19 : pz_OK true rw_14 19 (op_icmp c_gt 58 22) := ok_icmp_gt (off := 39) (by decide +kernel) (by decide)
theorem o_14_22 : pz_OK true rw_14 22 (op_aload 0 23) := ok_aload_n (k := 0) (by decide +kernel)
theorem o_14_23 : pz_OK true rw_14 23 (op_aload 1 24) := ok_aload_n (k := 1) (by decide +kernel)
theorem k_14_24 : pz_callOK true rw_14 rw_15 24 2 2 := ⟨37, (Or.inl wm_473), Or.inr ⟨(by decide +kernel), wm_475, ws_1, by unfold pz_np; decide +kernel, by decide, Or.inl ⟨_, _, rfl, by decide, rfl⟩⟩⟩
theorem o_14_27 : pz_OK true rw_14 27 (op_ifz c_ne 32 30) := ok_if_ne (off := 5) (by decide +kernel) (by decide)
theorem o_14_30 : pz_OK true rw_14 30 (op_stk (sg_const (0)) 31) := ok_iconst (by decide +kernel) (by unfold pz_in; decide)
theorem o_14_31 : pz_OK true rw_14 31 (op_iret g_bool) := ok_iret (by decide +kernel) rfl pz_g_bool
theorem o_14_32 : pz_OK true rw_14 32 (op_aload 1 33) := ok_aload_n (k := 1) (by decide +kernel)
theorem k_14_33 : pz_callOK true rw_14 rw_65 33 1 9 := ⟨41, (Or.inl wm_486), Or.inr ⟨(by decide +kernel), wm_458, wm_459, by unfold pz_np; decide +kernel, by decide, Or.inl ⟨_, _, rfl, by decide, rfl⟩⟩⟩
theorem o_14_36 : pz_OK true rw_14 36 (op_ifz c_eq 41 39) := ok_if_eq (off := 5) (by decide +kernel) (by decide)
theorem o_14_39 : pz_OK true rw_14 39 (op_stk (sg_const (1)) 40) := ok_iconst (by decide +kernel) (by unfold pz_in; decide)
theorem o_14_40 : pz_OK true rw_14 40 (op_iret g_bool) := ok_iret (by decide +kernel) rfl pz_g_bool
theorem o_14_41 : pz_OK true rw_14 41 (op_aload 1 42) := ok_aload_n (k := 1) (by decide +kernel)
theorem o_14_42 : pz_OK true rw_14 42 (op_stk (sg_const (59)) 44) := ok_bipush (by decide +kernel) (by unfold pz_in; decide) (by decide)
theorem k_14_44 : pz_callOK true rw_14 rw_68 44 2 9 := ⟨47, (Or.inl wm_487), Or.inr ⟨(by decide +kernel), wm_426, wm_427, by unfold pz_np; decide +kernel, by decide, Or.inl ⟨_, _, rfl, by decide, rfl⟩⟩⟩
theorem o_14_47 : pz_OK true rw_14 47 (op_ifz c_ne 52 50) := ok_if_ne (off := 5) (by decide +kernel) (by decide)
theorem o_14_50 : pz_OK true rw_14 50 (op_stk (sg_const (0)) 51) := ok_iconst (by decide +kernel) (by unfold pz_in; decide)
theorem o_14_51 : pz_OK true rw_14 51 (op_iret g_bool) := ok_iret (by decide +kernel) rfl pz_g_bool
theorem o_14_52 : pz_OK true rw_14 52 (op_iinc 2 (1) 55) := ok_iinc (by decide +kernel)
theorem o_14_55 : pz_OK true rw_14 55 (op_goto 16) := ok_goto (off := -39) (by decide +kernel) (by decide)
theorem o_14_58 : pz_OK true rw_14 58 (op_stk (sg_const (0)) 59) := ok_iconst (by decide +kernel) (by unfold pz_in; decide)
theorem o_14_59 : pz_OK true rw_14 59 (op_iret g_bool) := ok_iret (by decide +kernel) rfl pz_g_bool
set_option maxRecDepth 20000 in
theorem a_14 : pz_all true 138 rw_14 pg_14 := ⟨o_14_0, ⟨o_14_1, ⟨o_14_2, ⟨o_14_5, ⟨o_14_6, ⟨o_14_9, ⟨⟨rw_132, tq_132, rfl, k_14_11⟩, ⟨o_14_14, ⟨o_14_15, ⟨o_14_16, ⟨o_14_17, ⟨o_14_19, ⟨o_14_22, ⟨o_14_23, ⟨⟨rw_15, tq_15, rfl, k_14_24⟩, ⟨o_14_27, ⟨o_14_30, ⟨o_14_31, ⟨o_14_32, ⟨⟨rw_65, tq_65, rfl, k_14_33⟩, ⟨o_14_36, ⟨o_14_39, ⟨o_14_40, ⟨o_14_41, ⟨o_14_42, ⟨⟨rw_68, tq_68, rfl, k_14_44⟩, ⟨o_14_47, ⟨o_14_50, ⟨o_14_51, ⟨o_14_52, ⟨o_14_55, ⟨o_14_58, ⟨o_14_59, trivial⟩⟩⟩⟩⟩⟩⟩⟩⟩⟩⟩⟩⟩⟩⟩⟩⟩⟩⟩⟩⟩⟩⟩⟩⟩⟩⟩⟩⟩⟩⟩⟩⟩
theorem ro_15 : pz_rowOK rw_15 := ⟨by decide +kernel, wm_476, wm_2, by decide +kernel⟩
theorem o_15_0 : pz_OK true rw_15 0 (op_aload 1 1) := ok_aload_n (k := 1) (by decide +kernel)
theorem k_15_1 : pz_callOK true rw_15 rw_66 1 1 9 := ⟨51, (Or.inl wm_477), Or.inr ⟨(by decide +kernel), wm_359, wm_360, by unfold pz_np; decide +kernel, by decide, Or.inl ⟨_, _, rfl, by decide, rfl⟩⟩⟩
theorem o_15_4 : pz_OK true rw_15 4 (op_istore 2 5) := ok_istore_n (k := 2) (by decide +kernel)
theorem o_15_5 : pz_OK true rw_15 5 (op_iload 2 6) := ok_iload_n (k := 2) (by decide +kernel)
theorem o_15_6 : pz_OK true rw_15 6 (op_stk (sg_const (97)) 8) := ok_bipush (by decide +kernel) (by unfold pz_in; decide) (by decide)
theorem o_15_8 : pz_OK true rw_15 8 (op_icmp c_lt 17 11) := ok_icmp_lt (off := 9) (by decide +kernel) (by decide)
theorem o_15_11 : pz_OK true rw_15 11 (op_iload 2 12) := ok_iload_n (k := 2) (by decide +kernel)
theorem o_15_12 : pz_OK true rw_15 12 (op_stk (sg_const (112)) 14) := ok_bipush (by decide +kernel) (by unfold pz_in; decide) (by decide)
theorem o_15_14 : pz_OK true rw_15 14 (op_icmp c_le 23 17) := ok_icmp_le (off := 9) (by decide +kernel) (by decide)
theorem o_15_17 : pz_OK true rw_15 17 (op_aload 1 18) := ok_aload_n (k := 1) (by decide +kernel)
theorem o_15_18 : pz_OK true rw_15 18 (op_stk (sg_const (1)) 19) := ok_iconst (by decide +kernel) (by unfold pz_in; decide)
theorem k_15_19 : pz_callOK true rw_15 rw_72 19 2 9 := ⟨55, (Or.inl wm_478), Or.inr ⟨(by decide +kernel), wm_411, wm_412, by unfold pz_np; decide +kernel, by decide, Or.inl ⟨_, _, rfl, by decide, rfl⟩⟩⟩
theorem o_15_22 : pz_OK true rw_15 22 (op_iret g_bool) := ok_iret (by decide +kernel) rfl pz_g_bool
theorem o_15_23 : pz_OK true rw_15 23 (op_aload 0 24) := ok_aload_n (k := 0) (by decide +kernel)
theorem o_15_24 : pz_OK true rw_15 24 (op_getI 1 5 27) := ok_getI cc_1 (by decide) rfl rfl (Or.inl wm_48) (by decide +kernel)
theorem o_15_27 : pz_OK true rw_15 27 (op_stk (sg_const (24)) 29) := ok_bipush (by decide +kernel) (by unfold pz_in; decide) (by decide)
theorem o_15_29 : pz_OK true rw_15 29 (op_icmp c_lt 38 32) := ok_icmp_lt (off := 9) (by decide +kernel) (by decide)
theorem o_15_32 : pz_OK true rw_15 32 (op_aload 1 33) := ok_aload_n (k := 1) (by decide +kernel)
theorem o_15_33 : pz_OK true rw_15 33 (op_stk (sg_const (4)) 34) := ok_iconst (by decide +kernel) (by unfold pz_in; decide)
theorem k_15_34 : pz_callOK true rw_15 rw_72 34 2 9 := ⟨55, (Or.inl wm_478), Or.inr ⟨(by decide +kernel), wm_411, wm_412, by unfold pz_np; decide +kernel, by decide, Or.inl ⟨_, _, rfl, by decide, rfl⟩⟩⟩
theorem o_15_37 : pz_OK true rw_15 37 (op_iret g_bool) := ok_iret (by decide +kernel) rfl pz_g_bool
theorem o_15_38 : pz_OK true rw_15 38 (op_aload 1 39) := ok_aload_n (k := 1) (by decide +kernel)
theorem k_15_39 : pz_callOK true rw_15 rw_67 39 1 9 := ⟨59, (Or.inl wm_479), Or.inr ⟨(by decide +kernel), wm_415, wm_416, by unfold pz_np; decide +kernel, by decide, Or.inl ⟨_, _, rfl, by decide, rfl⟩⟩⟩
theorem o_15_42 : pz_OK true rw_15 42 (op_aload 1 43) := ok_aload_n (k := 1) (by decide +kernel)
theorem o_15_43 : pz_OK true rw_15 43 (op_stk (sg_const (2)) 44) := ok_iconst (by decide +kernel) (by unfold pz_in; decide)
theorem k_15_44 : pz_callOK true rw_15 rw_71 44 2 9 := ⟨62, (Or.inl wm_480), Or.inr ⟨(by decide +kernel), wm_437, wm_438, by unfold pz_np; decide +kernel, by decide, Or.inl ⟨_, _, rfl, by decide, rfl⟩⟩⟩
theorem o_15_47 : pz_OK true rw_15 47 (op_istore 3 48) := ok_istore_n (k := 3) (by decide +kernel)
theorem o_15_48 : pz_OK true rw_15 48 (op_iload 3 49) := ok_iload_n (k := 3) (by decide +kernel)
theorem o_15_49 : pz_OK true rw_15 49 (op_ifz c_ge 54 52) := ok_if_ge (off := 5) (by decide +kernel) (by decide)
theorem o_15_52 : pz_OK true rw_15 52 (op_stk (sg_const (0)) 53) := ok_iconst (by decide +kernel) (by unfold pz_in; decide)
theorem o_15_53 : pz_OK true rw_15 53 (op_iret g_bool) := ok_iret (by decide +kernel) rfl pz_g_bool
theorem o_15_54 : pz_OK true rw_15 54 (op_aload 0 55) := ok_aload_n (k := 0) (by decide +kernel)
theorem o_15_55 : pz_OK true rw_15 55 (op_getR 1 0 58) := ok_getR cc_1 (by decide) rfl rfl (Or.inl wm_36) (by decide +kernel)
theorem o_15_58 : pz_OK true rw_15 58 (op_aload 0 59) := ok_aload_n (k := 0) (by decide +kernel)
theorem o_15_59 : pz_OK true rw_15 59 (op_getI 1 5 62) := ok_getI cc_1 (by decide) rfl rfl (Or.inl wm_48) (by decide +kernel)
theorem o_15_62 : pz_OK true rw_15 62 (op_iload 2 63) := ok_iload_n (k := 2) (by decide +kernel)
theorem o_15_63 : pz_OK true rw_15 63 (op_stk (sg_const (97)) 65) := ok_bipush (by decide +kernel) (by unfold pz_in; decide) (by decide)
theorem o_15_65 : pz_OK true rw_15 65 (op_stk (sg_bin f_sub) 66) := ok_isub (by decide +kernel)
theorem o_15_66 : pz_OK true rw_15 66 (op_iast 20 67) := ok_iast (by decide +kernel) rfl (by decide)
theorem o_15_67 : pz_OK true rw_15 67 (op_aload 0 68) := ok_aload_n (k := 0) (by decide +kernel)
theorem o_15_68 : pz_OK true rw_15 68 (op_getR 1 1 71) := ok_getR cc_1 (by decide) rfl rfl (Or.inl wm_39) (by decide +kernel)
theorem o_15_71 : pz_OK true rw_15 71 (op_aload 0 72) := ok_aload_n (k := 0) (by decide +kernel)
theorem o_15_72 : pz_OK true rw_15 72 (op_getI 1 5 75) := ok_getI cc_1 (by decide) rfl rfl (Or.inl wm_48) (by decide +kernel)
theorem o_15_75 : pz_OK true rw_15 75 (op_iload 3 76) := ok_iload_n (k := 3) (by decide +kernel)
theorem o_15_76 : pz_OK true rw_15 76 (op_iast 20 77) := ok_iast (by decide +kernel) rfl (by decide)
theorem o_15_77 : pz_OK true rw_15 77 (op_aload 0 78) := ok_aload_n (k := 0) (by decide +kernel)
theorem o_15_78 : pz_OK true rw_15 78 (op_getR 1 2 81) := ok_getR cc_1 (by decide) rfl rfl (Or.inl wm_42) (by decide +kernel)
theorem o_15_81 : pz_OK true rw_15 81 (op_aload 0 82) := ok_aload_n (k := 0) (by decide +kernel)
theorem o_15_82 : pz_OK true rw_15 82 (op_getI 1 5 85) := ok_getI cc_1 (by decide) rfl rfl (Or.inl wm_48) (by decide +kernel)
theorem o_15_85 : pz_OK true rw_15 85 (op_stk (sg_const (0)) 86) := ok_iconst (by decide +kernel) (by unfold pz_in; decide)
theorem o_15_86 : pz_OK true rw_15 86 (op_iast 20 87) := ok_iast (by decide +kernel) rfl (by decide)
theorem o_15_87 : pz_OK true rw_15 87 (op_aload 0 88) := ok_aload_n (k := 0) (by decide +kernel)
theorem o_15_88 : pz_OK true rw_15 88 (op_getR 1 3 91) := ok_getR cc_1 (by decide) rfl rfl (Or.inl wm_45) (by decide +kernel)
theorem o_15_91 : pz_OK true rw_15 91 (op_aload 0 92) := ok_aload_n (k := 0) (by decide +kernel)
theorem o_15_92 : pz_OK true rw_15 92 (op_getI 1 5 95) := ok_getI cc_1 (by decide) rfl rfl (Or.inl wm_48) (by decide +kernel)
theorem o_15_95 : pz_OK true rw_15 95 (op_stk (sg_const (9)) 97) := ok_bipush (by decide +kernel) (by unfold pz_in; decide) (by decide)
theorem o_15_97 : pz_OK true rw_15 97 (op_iast 20 98) := ok_iast (by decide +kernel) rfl (by decide)
theorem o_15_98 : pz_OK true rw_15 98 (op_aload 1 99) := ok_aload_n (k := 1) (by decide +kernel)
theorem k_15_99 : pz_callOK true rw_15 rw_66 99 1 9 := ⟨51, (Or.inl wm_477), Or.inr ⟨(by decide +kernel), wm_359, wm_360, by unfold pz_np; decide +kernel, by decide, Or.inl ⟨_, _, rfl, by decide, rfl⟩⟩⟩
theorem o_15_102 : pz_OK true rw_15 102 (op_stk (sg_const (33)) 104) := ok_bipush (by decide +kernel) (by unfold pz_in; decide) (by decide)
theorem o_15_104 : pz_OK true rw_15 104 (op_icmp c_ne 121 107) := ok_icmp_ne (off := 17) (by decide +kernel) (by decide)
theorem o_15_107 : pz_OK true rw_15 107 (op_aload 1 108) := ok_aload_n (k := 1) (by decide +kernel)
theorem k_15_108 : pz_callOK true rw_15 rw_67 108 1 9 := ⟨59, (Or.inl wm_479), Or.inr ⟨(by decide +kernel), wm_415, wm_416, by unfold pz_np; decide +kernel, by decide, Or.inl ⟨_, _, rfl, by decide, rfl⟩⟩⟩
theorem o_15_111 : pz_OK true rw_15 111 (op_aload 0 112) := ok_aload_n (k := 0) (by decide +kernel)
theorem o_15_112 : pz_OK true rw_15 112 (op_getR 1 2 115) := ok_getR cc_1 (by decide) rfl rfl (Or.inl wm_42) (by decide +kernel)
theorem o_15_115 : pz_OK true rw_15 115 (op_aload 0 116) := ok_aload_n (k := 0) (by decide +kernel)
theorem o_15_116 : pz_OK true rw_15 116 (op_getI 1 5 119) := ok_getI cc_1 (by decide) rfl rfl (Or.inl wm_48) (by decide +kernel)
theorem o_15_119 : pz_OK true rw_15 119 (op_stk (sg_const (1)) 120) := ok_iconst (by decide +kernel) (by unfold pz_in; decide)
theorem o_15_120 : pz_OK true rw_15 120 (op_iast 20 121) := ok_iast (by decide +kernel) rfl (by decide)
theorem o_15_121 : pz_OK true rw_15 121 (op_aload 1 122) := ok_aload_n (k := 1) (by decide +kernel)
theorem k_15_122 : pz_callOK true rw_15 rw_66 122 1 9 := ⟨51, (Or.inl wm_477), Or.inr ⟨(by decide +kernel), wm_359, wm_360, by unfold pz_np; decide +kernel, by decide, Or.inl ⟨_, _, rfl, by decide, rfl⟩⟩⟩
theorem o_15_125 : pz_OK true rw_15 125 (op_stk (sg_const (62)) 127) := ok_bipush (by decide +kernel) (by unfold pz_in; decide) (by decide)
theorem o_15_127 : pz_OK true rw_15 127 (op_icmp c_ne 140 130) := ok_icmp_ne (off := 13) (by decide +kernel) (by decide)
theorem o_15_130 : pz_OK true rw_15 130 (op_aload 0 131) := ok_aload_n (k := 0) (by decide +kernel)
theorem o_15_131 : pz_OK true rw_15 131 (op_aload 1 132) := ok_aload_n (k := 1) (by decide +kernel)
theorem k_15_132 : pz_callOK true rw_15 rw_16 132 2 2 := ⟨66, (Or.inl wm_481), Or.inr ⟨(by decide +kernel), wm_483, ws_2, by unfold pz_np; decide +kernel, by decide, Or.inl ⟨_, _, rfl, by decide, rfl⟩⟩⟩
theorem o_15_135 : pz_OK true rw_15 135 (op_ifz c_ne 140 138) := ok_if_ne (off := 5) (by decide +kernel) (by decide)
theorem o_15_138 : pz_OK true rw_15 138 (op_stk (sg_const (0)) 139) := ok_iconst (by decide +kernel) (by unfold pz_in; decide)
theorem o_15_139 : pz_OK true rw_15 139 (op_iret g_bool) := ok_iret (by decide +kernel) rfl pz_g_bool
theorem o_15_140 : pz_OK true rw_15 140 (op_aload 0 141) := ok_aload_n (k := 0) (by decide +kernel)
theorem o_15_141 : pz_OK true rw_15 141 (op_stk sg_dup 142) := ok_dup (by decide +kernel)
theorem o_15_142 : pz_OK true rw_15 142 (op_getI 1 5 145) := ok_getI cc_1 (by decide) rfl rfl (Or.inl wm_48) (by decide +kernel)
theorem o_15_145 : pz_OK true rw_15 145 (op_stk (sg_const (1)) 146) := ok_iconst (by decide +kernel) (by unfold pz_in; decide)
theorem o_15_146 : pz_OK true rw_15 146 (op_stk (sg_bin f_add) 147) := ok_iadd (by decide +kernel)
theorem o_15_147 : pz_OK true rw_15 147 (op_putI false 1 5 150) := ok_putI cc_1 (by decide) rfl rfl (Or.inl wm_48) rfl (by decide +kernel) (by decide +kernel)
theorem o_15_150 : pz_OK true rw_15 150 (op_stk (sg_const (1)) 151) := ok_iconst (by decide +kernel) (by unfold pz_in; decide)
theorem o_15_151 : pz_OK true rw_15 151 (op_iret g_bool) := ok_iret (by decide +kernel) rfl pz_g_bool
set_option maxRecDepth 20000 in
theorem a_15 : pz_all true 138 rw_15 pg_15 := ⟨o_15_0, ⟨⟨rw_66, tq_66, rfl, k_15_1⟩, ⟨o_15_4, ⟨o_15_5, ⟨o_15_6, ⟨o_15_8, ⟨o_15_11, ⟨o_15_12, ⟨o_15_14, ⟨o_15_17, ⟨o_15_18, ⟨⟨rw_72, tq_72, rfl, k_15_19⟩, ⟨o_15_22, ⟨o_15_23, ⟨o_15_24, ⟨o_15_27, ⟨o_15_29, ⟨o_15_32, ⟨o_15_33, ⟨⟨rw_72, tq_72, rfl, k_15_34⟩, ⟨o_15_37, ⟨o_15_38, ⟨⟨rw_67, tq_67, rfl, k_15_39⟩, ⟨o_15_42, ⟨o_15_43, ⟨⟨rw_71, tq_71, rfl, k_15_44⟩, ⟨o_15_47, ⟨o_15_48, ⟨o_15_49, ⟨o_15_52, ⟨o_15_53, ⟨o_15_54, ⟨o_15_55, ⟨o_15_58, ⟨o_15_59, ⟨o_15_62, ⟨o_15_63, ⟨o_15_65, ⟨o_15_66, ⟨o_15_67, ⟨o_15_68, ⟨o_15_71, ⟨o_15_72, ⟨o_15_75, ⟨o_15_76, ⟨o_15_77, ⟨o_15_78, ⟨o_15_81, ⟨o_15_82, ⟨o_15_85, ⟨o_15_86, ⟨o_15_87, ⟨o_15_88, ⟨o_15_91, ⟨o_15_92, ⟨o_15_95, ⟨o_15_97, ⟨o_15_98, ⟨⟨rw_66, tq_66, rfl, k_15_99⟩, ⟨o_15_102, ⟨o_15_104, ⟨o_15_107, ⟨⟨rw_67, tq_67, rfl, k_15_108⟩, ⟨o_15_111, ⟨o_15_112, ⟨o_15_115, ⟨o_15_116, ⟨o_15_119, ⟨o_15_120, ⟨o_15_121, ⟨⟨rw_66, tq_66, rfl, k_15_122⟩, ⟨o_15_125, ⟨o_15_127, ⟨o_15_130, ⟨o_15_131, ⟨⟨rw_16, tq_16, rfl, k_15_132⟩, ⟨o_15_135, ⟨o_15_138, ⟨o_15_139, ⟨o_15_140, ⟨o_15_141, ⟨o_15_142, ⟨o_15_145, ⟨o_15_146, ⟨o_15_147, ⟨o_15_150, ⟨o_15_151, trivial⟩⟩⟩⟩⟩⟩⟩⟩⟩⟩⟩⟩⟩⟩⟩⟩⟩⟩⟩⟩⟩⟩⟩⟩⟩⟩⟩⟩⟩⟩⟩⟩⟩⟩⟩⟩⟩⟩⟩⟩⟩⟩⟩⟩⟩⟩⟩⟩⟩⟩⟩⟩⟩⟩⟩⟩⟩⟩⟩⟩⟩⟩⟩⟩⟩⟩⟩⟩⟩⟩⟩⟩⟩⟩⟩⟩⟩⟩⟩⟩⟩⟩⟩⟩⟩⟩⟩
theorem ro_16 : pz_rowOK rw_16 := ⟨by decide +kernel, wm_484, wm_2, by decide +kernel⟩
theorem o_16_0 : pz_OK true rw_16 0 (op_aload 1 1) := ok_aload_n (k := 1) (by decide +kernel)
theorem k_16_1 : pz_callOK true rw_16 rw_67 1 1 9 := ⟨59, (Or.inl wm_479), Or.inr ⟨(by decide +kernel), wm_415, wm_416, by unfold pz_np; decide +kernel, by decide, Or.inl ⟨_, _, rfl, by decide, rfl⟩⟩⟩
theorem o_16_4 : pz_OK true rw_16 4 (op_aload 1 5) := ok_aload_n (k := 1) (by decide +kernel)
theorem k_16_5 : pz_callOK true rw_16 rw_66 5 1 9 := ⟨51, (Or.inl wm_477), Or.inr ⟨(by decide +kernel), wm_359, wm_360, by unfold pz_np; decide +kernel, by decide, Or.inl ⟨_, _, rfl, by decide, rfl⟩⟩⟩
theorem o_16_8 : pz_OK true rw_16 8 (op_stk (sg_const (48)) 10) := ok_bipush (by decide +kernel) (by unfold pz_in; decide) (by decide)
theorem o_16_10 : pz_OK true rw_16 10 (op_stk (sg_bin f_sub) 11) := ok_isub (by decide +kernel)
theorem o_16_11 : pz_OK true rw_16 11 (op_istore 2 12) := ok_istore_n (k := 2) (by decide +kernel)
theorem o_16_12 : pz_OK true rw_16 12 (op_iload 2 13) := ok_iload_n (k := 2) (by decide +kernel)
theorem k_16_13 : pz_callOK true rw_16 rw_124 13 1 0 := ⟨69, (Or.inr ⟨_, wm_485⟩), Or.inl ⟨(by decide +kernel), wm_316, by unfold pz_np; decide +kernel⟩⟩
theorem o_16_16 : pz_OK true rw_16 16 (op_ifz c_ne 25 19) := ok_if_ne (off := 9) (by decide +kernel) (by decide)
theorem o_16_19 : pz_OK true rw_16 19 (op_aload 1 20) := ok_aload_n (k := 1) (by decide +kernel)
theorem o_16_20 : pz_OK true rw_16 20 (op_stk (sg_const (1)) 21) := ok_iconst (by decide +kernel) (by unfold pz_in; decide)
theorem k_16_21 : pz_callOK true rw_16 rw_72 21 2 9 := ⟨55, (Or.inl wm_478), Or.inr ⟨(by decide +kernel), wm_411, wm_412, by unfold pz_np; decide +kernel, by decide, Or.inl ⟨_, _, rfl, by decide, rfl⟩⟩⟩
theorem o_16_24 : pz_OK true rw_16 24 (op_iret g_bool) := ok_iret (by decide +kernel) rfl pz_g_bool
theorem o_16_25 : pz_OK true rw_16 25 (op_aload 0 26) := ok_aload_n (k := 0) (by decide +kernel)
theorem o_16_26 : pz_OK true rw_16 26 (op_getR 1 4 29) := ok_getR cc_1 (by decide) rfl rfl (Or.inl wm_47) (by decide +kernel)
theorem o_16_29 : pz_OK true rw_16 29 (op_iload 2 30) := ok_iload_n (k := 2) (by decide +kernel)
theorem o_16_30 : pz_OK true rw_16 30 (op_iald 20 31) := ok_iald (by decide +kernel) rfl (by decide)
theorem o_16_31 : pz_OK true rw_16 31 (op_ifz c_gt 41 34) := ok_if_gt (off := 10) (by decide +kernel) (by decide)
theorem o_16_34 : pz_OK true rw_16 34 (op_aload 1 35) := ok_aload_n (k := 1) (by decide +kernel)
theorem o_16_35 : pz_OK true rw_16 35 (op_stk (sg_const (6)) 37) := ok_bipush (by decide +kernel) (by unfold pz_in; decide) (by decide)
theorem k_16_37 : pz_callOK true rw_16 rw_72 37 2 9 := ⟨55, (Or.inl wm_478), Or.inr ⟨(by decide +kernel), wm_411, wm_412, by unfold pz_np; decide +kernel, by decide, Or.inl ⟨_, _, rfl, by decide, rfl⟩⟩⟩
theorem o_16_40 : pz_OK true rw_16 40 (op_iret g_bool) := ok_iret (by decide +kernel) rfl pz_g_bool
theorem o_16_41 : pz_OK true rw_16 41 (op_aload 1 42) := ok_aload_n (k := 1) (by decide +kernel)
theorem k_16_42 : pz_callOK true rw_16 rw_67 42 1 9 := ⟨59, (Or.inl wm_479), Or.inr ⟨(by decide +kernel), wm_415, wm_416, by unfold pz_np; decide +kernel, by decide, Or.inl ⟨_, _, rfl, by decide, rfl⟩⟩⟩
theorem o_16_45 : pz_OK true rw_16 45 (op_aload 0 46) := ok_aload_n (k := 0) (by decide +kernel)
theorem o_16_46 : pz_OK true rw_16 46 (op_getR 1 4 49) := ok_getR cc_1 (by decide) rfl rfl (Or.inl wm_47) (by decide +kernel)
theorem o_16_49 : pz_OK true rw_16 49 (op_iload 2 50) := ok_iload_n (k := 2) (by decide +kernel)
theorem o_16_50 : pz_OK true rw_16 50 (op_stk sg_dup2 51) := ok_dup2 (by decide +kernel)
theorem o_16_51 : pz_OK true rw_16 51 (op_iald 20 52) := ok_iald (by decide +kernel) rfl (by decide)
theorem o_16_52 : pz_OK true rw_16 52 (op_stk (sg_const (1)) 53) := ok_iconst (by decide +kernel) (by unfold pz_in; decide)
theorem o_16_53 : pz_OK true rw_16 53 (op_stk (sg_bin f_sub) 54) := ok_isub (by decide +kernel)
theorem o_16_54 : pz_OK true rw_16 54 (op_iast 20 55) := ok_iast (by decide +kernel) rfl (by decide)
theorem o_16_55 : pz_OK true rw_16 55 (op_aload 0 56) := ok_aload_n (k := 0) (by decide +kernel)
theorem o_16_56 : pz_OK true rw_16 56 (op_getR 1 3 59) := ok_getR cc_1 (by decide) rfl rfl (Or.inl wm_45) (by decide +kernel)
theorem o_16_59 : pz_OK true rw_16 59 (op_aload 0 60) := ok_aload_n (k := 0) (by decide +kernel)
theorem o_16_60 : pz_OK true rw_16 60 (op_getI 1 5 63) := ok_getI cc_1 (by decide) rfl rfl (Or.inl wm_48) (by decide +kernel)
theorem o_16_63 : pz_OK true rw_16 63 (op_iload 2 64) := ok_iload_n (k := 2) (by decide +kernel)
theorem o_16_64 : pz_OK true rw_16 64 (op_iast 20 65) := ok_iast (by decide +kernel) rfl (by decide)
theorem o_16_65 : pz_OK true rw_16 65 (op_stk (sg_const (1)) 66) := ok_iconst (by decide +kernel) (by unfold pz_in; decide)
theorem o_16_66 : pz_OK true rw_16 66 (op_iret g_bool) := ok_iret (by decide +kernel) rfl pz_g_bool
set_option maxRecDepth 20000 in
theorem a_16 : pz_all true 138 rw_16 pg_16 := ⟨o_16_0, ⟨⟨rw_67, tq_67, rfl, k_16_1⟩, ⟨o_16_4, ⟨⟨rw_66, tq_66, rfl, k_16_5⟩, ⟨o_16_8, ⟨o_16_10, ⟨o_16_11, ⟨o_16_12, ⟨⟨rw_124, tq_124, rfl, k_16_13⟩, ⟨o_16_16, ⟨o_16_19, ⟨o_16_20, ⟨⟨rw_72, tq_72, rfl, k_16_21⟩, ⟨o_16_24, ⟨o_16_25, ⟨o_16_26, ⟨o_16_29, ⟨o_16_30, ⟨o_16_31, ⟨o_16_34, ⟨o_16_35, ⟨⟨rw_72, tq_72, rfl, k_16_37⟩, ⟨o_16_40, ⟨o_16_41, ⟨⟨rw_67, tq_67, rfl, k_16_42⟩, ⟨o_16_45, ⟨o_16_46, ⟨o_16_49, ⟨o_16_50, ⟨o_16_51, ⟨o_16_52, ⟨o_16_53, ⟨o_16_54, ⟨o_16_55, ⟨o_16_56, ⟨o_16_59, ⟨o_16_60, ⟨o_16_63, ⟨o_16_64, ⟨o_16_65, ⟨o_16_66, trivial⟩⟩⟩⟩⟩⟩⟩⟩⟩⟩⟩⟩⟩⟩⟩⟩⟩⟩⟩⟩⟩⟩⟩⟩⟩⟩⟩⟩⟩⟩⟩⟩⟩⟩⟩⟩⟩⟩⟩⟩⟩
theorem ro_17 : pz_rowOK rw_17 := ⟨by decide +kernel, wm_727, wm_2, by decide +kernel⟩
theorem o_17_0 : pz_OK true rw_17 0 (op_stk (sg_const (0)) 1) := ok_iconst (by decide +kernel) (by unfold pz_in; decide)
theorem o_17_1 : pz_OK true rw_17 1 (op_istore 1 2) := ok_istore_n (k := 1) (by decide +kernel)
theorem o_17_2 : pz_OK true rw_17 2 (op_stk (sg_const (0)) 3) := ok_iconst (by decide +kernel) (by unfold pz_in; decide)
theorem o_17_3 : pz_OK true rw_17 3 (op_istore 2 4) := ok_istore_n (k := 2) (by decide +kernel)
theorem o_17_4 : pz_OK true rw_17 4 (op_iload 2 5) := ok_iload_n (k := 2) (by decide +kernel)
theorem o_17_5 : pz_OK true rw_17 5 (op_aload 0 6) := ok_aload_n (k := 0) (by decide +kernel)
theorem o_17_6 : pz_OK true rw_17 6 (op_getI 1 5 9) := ok_getI cc_1 (by decide) rfl rfl (Or.inl wm_48) (by decide +kernel)
theorem o_17_9 : pz_OK true rw_17 9 (op_icmp c_ge 49 12) := ok_icmp_ge (off := 40) (by decide +kernel) (by decide)
theorem o_17_12 : pz_OK true rw_17 12 (op_stk (sg_const (0)) 13) := ok_iconst (by decide +kernel) (by unfold pz_in; decide)
theorem o_17_13 : pz_OK true rw_17 13 (op_istore 3 14) := ok_istore_n (k := 3) (by decide +kernel)
theorem o_17_14 : pz_OK true rw_17 14 (op_iload 3 15) := ok_iload_n (k := 3) (by decide +kernel)
theorem o_17_15 : pz_OK true rw_17 15 (op_iload 2 16) := ok_iload_n (k := 2) (by decide +kernel)
theorem o_17_16 : pz_OK true rw_17 16 (op_icmp c_ge 43 19) := ok_icmp_ge (off := 27) (by decide +kernel) (by decide)
theorem o_17_19 : pz_OK true rw_17 19 (op_aload 0 20) := ok_aload_n (k := 0) (by decide +kernel)
theorem o_17_20 : pz_OK true rw_17 20 (op_getR 1 0 23) := ok_getR cc_1 (by decide) rfl rfl (Or.inl wm_36) (by decide +kernel)
theorem o_17_23 : pz_OK true rw_17 23 (op_iload 2 24) := ok_iload_n (k := 2) (by decide +kernel)
theorem o_17_24 : pz_OK true rw_17 24 (op_iald 20 25) := ok_iald (by decide +kernel) rfl (by decide)
theorem o_17_25 : pz_OK true rw_17 25 (op_aload 0 26) := ok_aload_n (k := 0) (by decide +kernel)
theorem o_17_26 : pz_OK true rw_17 26 (op_getR 1 0 29) := ok_getR cc_1 (by decide) rfl rfl (Or.inl wm_36) (by decide +kernel)
theorem o_17_29 : pz_OK true rw_17 29 (op_iload 3 30) := ok_iload_n (k := 3) (by decide +kernel)
theorem o_17_30 : pz_OK true rw_17 30 (op_iald 20 31) := ok_iald (by decide +kernel) rfl (by decide)
theorem o_17_31 : pz_OK true rw_17 31 (op_icmp c_ne 37 34) := ok_icmp_ne (off := 6) (by decide +kernel) (by decide)
theorem o_17_34 : pz_OK true rw_17 34 (op_iinc 1 (1) 37) := ok_iinc (by decide +kernel)
theorem o_17_37 : pz_OK true rw_17 37 (op_iinc 3 (1) 40) := ok_iinc (by decide +kernel)
theorem o_17_40 : pz_OK true rw_17 40 (op_goto 14) := ok_goto (off := -26) (by decide +kernel) (by decide)
theorem o_17_43 : pz_OK true rw_17 43 (op_iinc 2 (1) 46) := ok_iinc (by decide +kernel)
theorem o_17_46 : pz_OK true rw_17 46 (op_goto 4) := ok_goto (off := -42) (by decide +kernel) (by decide)
theorem o_17_49 : pz_OK true rw_17 49 (op_iload 1 50) := ok_iload_n (k := 1) (by decide +kernel)
theorem o_17_50 : pz_OK true rw_17 50 (op_iret g_int) := ok_iret (by decide +kernel) rfl pz_g_int
set_option maxRecDepth 20000 in
theorem a_17 : pz_all true 138 rw_17 pg_17 := ⟨o_17_0, ⟨o_17_1, ⟨o_17_2, ⟨o_17_3, ⟨o_17_4, ⟨o_17_5, ⟨o_17_6, ⟨o_17_9, ⟨o_17_12, ⟨o_17_13, ⟨o_17_14, ⟨o_17_15, ⟨o_17_16, ⟨o_17_19, ⟨o_17_20, ⟨o_17_23, ⟨o_17_24, ⟨o_17_25, ⟨o_17_26, ⟨o_17_29, ⟨o_17_30, ⟨o_17_31, ⟨o_17_34, ⟨o_17_37, ⟨o_17_40, ⟨o_17_43, ⟨o_17_46, ⟨o_17_49, ⟨o_17_50, trivial⟩⟩⟩⟩⟩⟩⟩⟩⟩⟩⟩⟩⟩⟩⟩⟩⟩⟩⟩⟩⟩⟩⟩⟩⟩⟩⟩⟩⟩
theorem ro_18 : pz_rowOK rw_18 := ⟨by decide +kernel, wm_352, wm_3, by decide +kernel⟩
theorem o_18_0 : pz_OK true rw_18 0 (op_aload 0 1) := ok_aload_n (k := 0) (by decide +kernel)
theorem o_18_1 : pz_OK true rw_18 1 (op_stk (sg_const (0)) 2) := ok_iconst (by decide +kernel) (by unfold pz_in; decide)
theorem o_18_2 : pz_OK true rw_18 2 (op_putI false 2 3 5) := ok_putI cc_2 (by decide) rfl rfl (Or.inl wm_74) rfl (by decide +kernel) (by decide +kernel)
theorem o_18_5 : pz_OK true rw_18 5 (op_aload 0 6) := ok_aload_n (k := 0) (by decide +kernel)
theorem o_18_6 : pz_OK true rw_18 6 (op_stk (sg_const (0)) 7) := ok_iconst (by decide +kernel) (by unfold pz_in; decide)
theorem o_18_7 : pz_OK true rw_18 7 (op_putI false 2 6 10) := ok_putI cc_2 (by decide) rfl rfl (Or.inl wm_78) rfl (by decide +kernel) (by decide +kernel)
theorem o_18_10 : pz_OK true rw_18 10 (op_ret) := ok_ret (by decide +kernel) rfl
set_option maxRecDepth 20000 in
theorem a_18 : pz_all true 138 rw_18 pg_18 := ⟨o_18_0, ⟨o_18_1, ⟨o_18_2, ⟨o_18_5, ⟨o_18_6, ⟨o_18_7, ⟨o_18_10, trivial⟩⟩⟩⟩⟩⟩⟩
theorem ro_19 : pz_rowOK rw_19 := ⟨by decide +kernel, wm_456, wm_3, by decide +kernel⟩
theorem o_19_0 : pz_OK true rw_19 0 (op_aload 0 1) := ok_aload_n (k := 0) (by decide +kernel)
theorem o_19_1 : pz_OK true rw_19 1 (op_getI 2 3 4) := ok_getI cc_2 (by decide) rfl rfl (Or.inl wm_74) (by decide +kernel)
theorem o_19_4 : pz_OK true rw_19 4 (op_stk (sg_const (16)) 6) := ok_bipush (by decide +kernel) (by unfold pz_in; decide) (by decide)
theorem o_19_6 : pz_OK true rw_19 6 (op_icmp c_ge 49 9) := ok_icmp_ge (off := 43) (by decide +kernel) (by decide)
theorem o_19_9 : pz_OK true rw_19 9 (op_aload 0 10) := ok_aload_n (k := 0) (by decide +kernel)
theorem o_19_10 : pz_OK true rw_19 10 (op_getR 2 0 13) := ok_getR cc_2 (by decide) rfl rfl (Or.inl wm_71) (by decide +kernel)
theorem o_19_13 : pz_OK true rw_19 13 (op_aload 0 14) := ok_aload_n (k := 0) (by decide +kernel)
theorem o_19_14 : pz_OK true rw_19 14 (op_getI 2 3 17) := ok_getI cc_2 (by decide) rfl rfl (Or.inl wm_74) (by decide +kernel)
theorem o_19_17 : pz_OK true rw_19 17 (op_iload 1 18) := ok_iload_n (k := 1) (by decide +kernel)
theorem o_19_18 : pz_OK true rw_19 18 (op_iast 20 19) := ok_iast (by decide +kernel) rfl (by decide)
theorem o_19_19 : pz_OK true rw_19 19 (op_aload 0 20) := ok_aload_n (k := 0) (by decide +kernel)
theorem o_19_20 : pz_OK true rw_19 20 (op_getR 2 1 23) := ok_getR cc_2 (by decide) rfl rfl (Or.inl wm_72) (by decide +kernel)
theorem o_19_23 : pz_OK true rw_19 23 (op_aload 0 24) := ok_aload_n (k := 0) (by decide +kernel)
theorem o_19_24 : pz_OK true rw_19 24 (op_getI 2 3 27) := ok_getI cc_2 (by decide) rfl rfl (Or.inl wm_74) (by decide +kernel)
theorem o_19_27 : pz_OK true rw_19 27 (op_iload 2 28) := ok_iload_n (k := 2) (by decide +kernel)
theorem o_19_28 : pz_OK true rw_19 28 (op_iast 20 29) := ok_iast (by decide +kernel) rfl (by decide)
theorem o_19_29 : pz_OK true rw_19 29 (op_aload 0 30) := ok_aload_n (k := 0) (by decide +kernel)
theorem o_19_30 : pz_OK true rw_19 30 (op_getR 2 2 33) := ok_getR cc_2 (by decide) rfl rfl (Or.inl wm_73) (by decide +kernel)
theorem o_19_33 : pz_OK true rw_19 33 (op_aload 0 34) := ok_aload_n (k := 0) (by decide +kernel)
theorem o_19_34 : pz_OK true rw_19 34 (op_getI 2 3 37) := ok_getI cc_2 (by decide) rfl rfl (Or.inl wm_74) (by decide +kernel)
theorem o_19_37 : pz_OK true rw_19 37 (op_iload 3 38) := ok_iload_n (k := 3) (by decide +kernel)
theorem o_19_38 : pz_OK true rw_19 38 (op_iast 20 39) := ok_iast (by decide +kernel) rfl (by decide)
theorem o_19_39 : pz_OK true rw_19 39 (op_aload 0 40) := ok_aload_n (k := 0) (by decide +kernel)
theorem o_19_40 : pz_OK true rw_19 40 (op_stk sg_dup 41) := ok_dup (by decide +kernel)
theorem o_19_41 : pz_OK true rw_19 41 (op_getI 2 3 44) := ok_getI cc_2 (by decide) rfl rfl (Or.inl wm_74) (by decide +kernel)
theorem o_19_44 : pz_OK true rw_19 44 (op_stk (sg_const (1)) 45) := ok_iconst (by decide +kernel) (by unfold pz_in; decide)
theorem o_19_45 : pz_OK true rw_19 45 (op_stk (sg_bin f_add) 46) := ok_iadd (by decide +kernel)
theorem o_19_46 : pz_OK true rw_19 46 (op_putI false 2 3 49) := ok_putI cc_2 (by decide) rfl rfl (Or.inl wm_74) rfl (by decide +kernel) (by decide +kernel)
theorem o_19_49 : pz_OK true rw_19 49 (op_ret) := ok_ret (by decide +kernel) rfl
set_option maxRecDepth 20000 in
theorem a_19 : pz_all true 138 rw_19 pg_19 := ⟨o_19_0, ⟨o_19_1, ⟨o_19_4, ⟨o_19_6, ⟨o_19_9, ⟨o_19_10, ⟨o_19_13, ⟨o_19_14, ⟨o_19_17, ⟨o_19_18, ⟨o_19_19, ⟨o_19_20, ⟨o_19_23, ⟨o_19_24, ⟨o_19_27, ⟨o_19_28, ⟨o_19_29, ⟨o_19_30, ⟨o_19_33, ⟨o_19_34, ⟨o_19_37, ⟨o_19_38, ⟨o_19_39, ⟨o_19_40, ⟨o_19_41, ⟨o_19_44, ⟨o_19_45, ⟨o_19_46, ⟨o_19_49, trivial⟩⟩⟩⟩⟩⟩⟩⟩⟩⟩⟩⟩⟩⟩⟩⟩⟩⟩⟩⟩⟩⟩⟩⟩⟩⟩⟩⟩⟩
theorem ro_20 : pz_rowOK rw_20 := ⟨by decide +kernel, wm_435, wm_3, by decide +kernel⟩
theorem o_20_0 : pz_OK true rw_20 0 (op_aload 0 1) := ok_aload_n (k := 0) (by decide +kernel)
theorem o_20_1 : pz_OK true rw_20 1 (op_getI 2 6 4) := ok_getI cc_2 (by decide) rfl rfl (Or.inl wm_78) (by decide +kernel)
theorem o_20_4 : pz_OK true rw_20 4 (op_stk (sg_const (256)) 7) := ok_sipush (by decide +kernel) (by unfold pz_in; decide) (by decide)
theorem o_20_7 : pz_OK true rw_20 7 (op_icmp c_ge 40 10) := ok_icmp_ge (off := 33) (by decide +kernel) (by decide)
theorem o_20_10 : pz_OK true rw_20 10 (op_aload 0 11) := ok_aload_n (k := 0) (by decide +kernel)
theorem o_20_11 : pz_OK true rw_20 11 (op_getR 2 4 14) := ok_getR cc_2 (by decide) rfl rfl (Or.inl wm_76) (by decide +kernel)
theorem o_20_14 : pz_OK true rw_20 14 (op_aload 0 15) := ok_aload_n (k := 0) (by decide +kernel)
theorem o_20_15 : pz_OK true rw_20 15 (op_getI 2 6 18) := ok_getI cc_2 (by decide) rfl rfl (Or.inl wm_78) (by decide +kernel)
theorem o_20_18 : pz_OK true rw_20 18 (op_iload 1 19) := ok_iload_n (k := 1) (by decide +kernel)
theorem o_20_19 : pz_OK true rw_20 19 (op_iast 20 20) := ok_iast (by decide +kernel) rfl (by decide)
theorem o_20_20 : pz_OK true rw_20 20 (op_aload 0 21) := ok_aload_n (k := 0) (by decide +kernel)
theorem o_20_21 : pz_OK true rw_20 21 (op_getR 2 5 24) := ok_getR cc_2 (by decide) rfl rfl (Or.inl wm_77) (by decide +kernel)
theorem o_20_24 : pz_OK true rw_20 24 (op_aload 0 25) := ok_aload_n (k := 0) (by decide +kernel)
theorem o_20_25 : pz_OK true rw_20 25 (op_getI 2 6 28) := ok_getI cc_2 (by decide) rfl rfl (Or.inl wm_78) (by decide +kernel)
theorem o_20_28 : pz_OK true rw_20 28 (op_iload 2 29) := ok_iload_n (k := 2) (by decide +kernel)
theorem o_20_29 : pz_OK true rw_20 29 (op_iast 20 30) := ok_iast (by decide +kernel) rfl (by decide)
theorem o_20_30 : pz_OK true rw_20 30 (op_aload 0 31) := ok_aload_n (k := 0) (by decide +kernel)
theorem o_20_31 : pz_OK true rw_20 31 (op_stk sg_dup 32) := ok_dup (by decide +kernel)
theorem o_20_32 : pz_OK true rw_20 32 (op_getI 2 6 35) := ok_getI cc_2 (by decide) rfl rfl (Or.inl wm_78) (by decide +kernel)
theorem o_20_35 : pz_OK true rw_20 35 (op_stk (sg_const (1)) 36) := ok_iconst (by decide +kernel) (by unfold pz_in; decide)
theorem o_20_36 : pz_OK true rw_20 36 (op_stk (sg_bin f_add) 37) := ok_iadd (by decide +kernel)
theorem o_20_37 : pz_OK true rw_20 37 (op_putI false 2 6 40) := ok_putI cc_2 (by decide) rfl rfl (Or.inl wm_78) rfl (by decide +kernel) (by decide +kernel)
theorem o_20_40 : pz_OK true rw_20 40 (op_aload 0 41) := ok_aload_n (k := 0) (by decide +kernel)
theorem o_20_41 : pz_OK true rw_20 41 (op_getI 2 6 44) := ok_getI cc_2 (by decide) rfl rfl (Or.inl wm_78) (by decide +kernel)
theorem o_20_44 : pz_OK true rw_20 44 (op_stk (sg_const (1)) 45) := ok_iconst (by decide +kernel) (by unfold pz_in; decide)
theorem o_20_45 : pz_OK true rw_20 45 (op_stk (sg_bin f_sub) 46) := ok_isub (by decide +kernel)
theorem o_20_46 : pz_OK true rw_20 46 (op_iret g_int) := ok_iret (by decide +kernel) rfl pz_g_int
set_option maxRecDepth 20000 in
theorem a_20 : pz_all true 138 rw_20 pg_20 := ⟨o_20_0, ⟨o_20_1, ⟨o_20_4, ⟨o_20_7, ⟨o_20_10, ⟨o_20_11, ⟨o_20_14, ⟨o_20_15, ⟨o_20_18, ⟨o_20_19, ⟨o_20_20, ⟨o_20_21, ⟨o_20_24, ⟨o_20_25, ⟨o_20_28, ⟨o_20_29, ⟨o_20_30, ⟨o_20_31, ⟨o_20_32, ⟨o_20_35, ⟨o_20_36, ⟨o_20_37, ⟨o_20_40, ⟨o_20_41, ⟨o_20_44, ⟨o_20_45, ⟨o_20_46, trivial⟩⟩⟩⟩⟩⟩⟩⟩⟩⟩⟩⟩⟩⟩⟩⟩⟩⟩⟩⟩⟩⟩⟩⟩⟩⟩⟩
theorem ro_21 : pz_rowOK rw_21 := ⟨by decide +kernel, wm_452, wm_3, by decide +kernel⟩
theorem o_21_0 : pz_OK true rw_21 0 (op_iload 1 1) := ok_iload_n (k := 1) (by decide +kernel)
theorem o_21_1 : pz_OK true rw_21 1 (op_ifz c_lt 21 4) := ok_if_lt (off := 20) (by decide +kernel) (by decide)
theorem o_21_4 : pz_OK true rw_21 4 (op_iload 1 5) := ok_iload_n (k := 1) (by decide +kernel)
theorem o_21_5 : pz_OK true rw_21 5 (op_stk (sg_const (256)) 8) := ok_sipush (by decide +kernel) (by unfold pz_in; decide) (by decide)
theorem o_21_8 : pz_OK true rw_21 8 (op_icmp c_ge 21 11) := ok_icmp_ge (off := 13) (by decide +kernel) (by decide)
theorem o_21_11 : pz_OK true rw_21 11 (op_aload 0 12) := ok_aload_n (k := 0) (by decide +kernel)
theorem o_21_12 : pz_OK true rw_21 12 (op_getR 2 5 15) := ok_getR cc_2 (by decide) rfl rfl (Or.inl wm_77) (by decide +kernel)
theorem o_21_15 : pz_OK true rw_21 15 (op_iload 1 16) := ok_iload_n (k := 1) (by decide +kernel)
theorem o_21_16 : pz_OK true rw_21 16 (op_aload 0 17) := ok_aload_n (k := 0) (by decide +kernel)
theorem o_21_17 : pz_OK true rw_21 17 (op_getI 2 6 20) := ok_getI cc_2 (by decide) rfl rfl (Or.inl wm_78) (by decide +kernel)
theorem o_21_20 : pz_OK true rw_21 20 (op_iast 20 21) := ok_iast (by decide +kernel) rfl (by decide)
theorem o_21_21 : pz_OK true rw_21 21 (op_ret) := ok_ret (by decide +kernel) rfl
set_option maxRecDepth 20000 in
theorem a_21 : pz_all true 138 rw_21 pg_21 := ⟨o_21_0, ⟨o_21_1, ⟨o_21_4, ⟨o_21_5, ⟨o_21_8, ⟨o_21_11, ⟨o_21_12, ⟨o_21_15, ⟨o_21_16, ⟨o_21_17, ⟨o_21_20, ⟨o_21_21, trivial⟩⟩⟩⟩⟩⟩⟩⟩⟩⟩⟩⟩
theorem ro_22 : pz_rowOK rw_22 := ⟨by decide +kernel, wm_610, wm_3, by decide +kernel⟩
theorem o_22_0 : pz_OK true rw_22 0 (op_stk (sg_const (0)) 1) := ok_iconst (by decide +kernel) (by unfold pz_in; decide)
theorem o_22_1 : pz_OK true rw_22 1 (op_istore 4 3) := ok_istore (by decide +kernel)
theorem o_22_3 : pz_OK true rw_22 3 (op_iload 4 5) := ok_iload (by decide +kernel)
theorem o_22_5 : pz_OK true rw_22 5 (op_aload 0 6) := ok_aload_n (k := 0) (by decide +kernel)
theorem o_22_6 : pz_OK true rw_22 6 (op_getI 2 3 9) := ok_getI cc_2 (by decide) rfl rfl (Or.inl wm_74) (by decide +kernel)
theorem o_22_9 : pz_OK true rw_22 9 (op_icmp c_ge 63 12) := ok_icmp_ge (off := 54) (by decide +kernel) (by decide)
theorem o_22_12 : pz_OK true rw_22 12 (op_aload 0 13) := ok_aload_n (k := 0) (by decide +kernel)
theorem o_22_13 : pz_OK true rw_22 13 (op_getR 2 0 16) := ok_getR cc_2 (by decide) rfl rfl (Or.inl wm_71) (by decide +kernel)
theorem o_22_16 : pz_OK true rw_22 16 (op_iload 4 18) := ok_iload (by decide +kernel)
theorem o_22_18 : pz_OK true rw_22 18 (op_iald 20 19) := ok_iald (by decide +kernel) rfl (by decide)
theorem o_22_19 : pz_OK true rw_22 19 (op_iload 1 20) := ok_iload_n (k := 1) (by decide +kernel)
theorem o_22_20 : pz_OK true rw_22 20 (op_icmp c_ne 57 23) := ok_icmp_ne (off := 37) (by decide +kernel) (by decide)
theorem o_22_23 : pz_OK true rw_22 23 (op_aload 0 24) := ok_aload_n (k := 0) (by decide +kernel)
theorem o_22_24 : pz_OK true rw_22 24 (op_aload 0 25) := ok_aload_n (k := 0) (by decide +kernel)
theorem o_22_25 : pz_OK true rw_22 25 (op_getR 2 2 28) := ok_getR cc_2 (by decide) rfl rfl (Or.inl wm_73) (by decide +kernel)
theorem o_22_28 : pz_OK true rw_22 28 (op_iload 4 30) := ok_iload (by decide +kernel)
theorem o_22_30 : pz_OK true rw_22 30 (op_iald 20 31) := ok_iald (by decide +kernel) rfl (by decide)
theorem k_22_31 : pz_callOK true rw_22 rw_24 31 2 3 := ⟨42, (Or.inl wm_611), Or.inr ⟨(by decide +kernel), wm_613, ws_20, by unfold pz_np; decide +kernel, by decide, Or.inl ⟨_, _, rfl, by decide, rfl⟩⟩⟩
theorem o_22_34 : pz_OK true rw_22 34 (op_ifz c_eq 57 37) := ok_if_eq (off := 23) (by decide +kernel) (by decide)
theorem o_22_37 : pz_OK true rw_22 37 (op_stk (sg_const (0)) 38) := ok_iconst (by decide +kernel) (by unfold pz_in; decide)
theorem o_22_38 : pz_OK true rw_22 38 (op_iload 2 39) := ok_iload_n (k := 2) (by decide +kernel)
theorem o_22_39 : pz_OK true rw_22 39 (op_aload 0 40) := ok_aload_n (k := 0) (by decide +kernel)
theorem o_22_40 : pz_OK true rw_22 40 (op_aload 0 41) := ok_aload_n (k := 0) (by decide +kernel)
theorem o_22_41 : pz_OK true rw_22 41 (op_getR 2 1 44) := ok_getR cc_2 (by decide) rfl rfl (Or.inl wm_72) (by decide +kernel)
theorem o_22_44 : pz_OK true rw_22 44 (op_iload 4 46) := ok_iload (by decide +kernel)
theorem o_22_46 : pz_OK true rw_22 46 (op_iald 20 47) := ok_iald (by decide +kernel) rfl (by decide)
theorem k_22_47 : pz_callOK true rw_22 rw_24 47 2 3 := ⟨42, (Or.inl wm_611), Or.inr ⟨(by decide +kernel), wm_613, ws_20, by unfold pz_np; decide +kernel, by decide, Or.inl ⟨_, _, rfl, by decide, rfl⟩⟩⟩
theorem k_22_50 : pz_callOK true rw_22 rw_128 50 2 0 := ⟨46, (Or.inl wm_623), Or.inl ⟨(by decide +kernel), wm_624, by unfold pz_np; decide +kernel⟩⟩
theorem k_22_53 : pz_callOK true rw_22 rw_127 53 2 0 := ⟨52, (Or.inl wm_626), Or.inl ⟨(by decide +kernel), wm_627, by unfold pz_np; decide +kernel⟩⟩
theorem o_22_56 : pz_OK true rw_22 56 (op_iret g_int) := ok_iret (by decide +kernel) rfl pz_g_int
theorem o_22_57 : pz_OK true rw_22 57 (op_iinc 4 (1) 60) := ok_iinc (by decide +kernel)
theorem o_22_60 : pz_OK true rw_22 60 (op_goto 3) := ok_goto (off := -57) (by decide +kernel) (by decide)
theorem o_22_63 : pz_OK true rw_22 63 (op_iload 3 64) := ok_iload_n (k := 3) (by decide +kernel)
theorem o_22_64 : pz_OK true rw_22 64 (op_iret g_int) := ok_iret (by decide +kernel) rfl pz_g_int
set_option maxRecDepth 20000 in
theorem a_22 : pz_all true 138 rw_22 pg_22 := ⟨o_22_0, ⟨o_22_1, ⟨o_22_3, ⟨o_22_5, ⟨o_22_6, ⟨o_22_9, ⟨o_22_12, ⟨o_22_13, ⟨o_22_16, ⟨o_22_18, ⟨o_22_19, ⟨o_22_20, ⟨o_22_23, ⟨o_22_24, ⟨o_22_25, ⟨o_22_28, ⟨o_22_30, ⟨⟨rw_24, tq_24, rfl, k_22_31⟩, ⟨o_22_34, ⟨o_22_37, ⟨o_22_38, ⟨o_22_39, ⟨o_22_40, ⟨o_22_41, ⟨o_22_44, ⟨o_22_46, ⟨⟨rw_24, tq_24, rfl, k_22_47⟩, ⟨⟨rw_128, tq_128, rfl, k_22_50⟩, ⟨⟨rw_127, tq_127, rfl, k_22_53⟩, ⟨o_22_56, ⟨o_22_57, ⟨o_22_60, ⟨o_22_63, ⟨o_22_64, trivial⟩⟩⟩⟩⟩⟩⟩⟩⟩⟩⟩⟩⟩⟩⟩⟩⟩⟩⟩⟩⟩⟩⟩⟩⟩⟩⟩⟩⟩⟩⟩⟩⟩⟩
theorem ro_23 : pz_rowOK rw_23 := ⟨by decide +kernel, wm_646, wm_3, by decide +kernel⟩
theorem o_23_0 : pz_OK true rw_23 0 (op_stk (sg_const (0)) 1) := ok_iconst (by decide +kernel) (by unfold pz_in; decide)
theorem o_23_1 : pz_OK true rw_23 1 (op_istore 1 2) := ok_istore_n (k := 1) (by decide +kernel)
theorem o_23_2 : pz_OK true rw_23 2 (op_iload 1 3) := ok_iload_n (k := 1) (by decide +kernel)
theorem o_23_3 : pz_OK true rw_23 3 (op_aload 0 4) := ok_aload_n (k := 0) (by decide +kernel)
theorem o_23_4 : pz_OK true rw_23 4 (op_getI 2 3 7) := ok_getI cc_2 (by decide) rfl rfl (Or.inl wm_74) (by decide +kernel)
theorem o_23_7 : pz_OK true rw_23 7 (op_icmp c_ge 41 10) := ok_icmp_ge (off := 34) (by decide +kernel) (by decide)
theorem o_23_10 : pz_OK true rw_23 10 (op_aload 0 11) := ok_aload_n (k := 0) (by decide +kernel)
theorem o_23_11 : pz_OK true rw_23 11 (op_getR 2 0 14) := ok_getR cc_2 (by decide) rfl rfl (Or.inl wm_71) (by decide +kernel)
theorem o_23_14 : pz_OK true rw_23 14 (op_iload 1 15) := ok_iload_n (k := 1) (by decide +kernel)
theorem o_23_15 : pz_OK true rw_23 15 (op_iald 20 16) := ok_iald (by decide +kernel) rfl (by decide)
theorem o_23_16 : pz_OK true rw_23 16 (op_stk (sg_const (3)) 17) := ok_iconst (by decide +kernel) (by unfold pz_in; decide)
theorem o_23_17 : pz_OK true rw_23 17 (op_icmp c_ne 35 20) := ok_icmp_ne (off := 18) (by decide +kernel) (by decide)
theorem o_23_20 : pz_OK true rw_23 20 (op_aload 0 21) := ok_aload_n (k := 0) (by decide +kernel)
theorem o_23_21 : pz_OK true rw_23 21 (op_aload 0 22) := ok_aload_n (k := 0) (by decide +kernel)
theorem o_23_22 : pz_OK true rw_23 22 (op_getR 2 2 25) := ok_getR cc_2 (by decide) rfl rfl (Or.inl wm_73) (by decide +kernel)
theorem o_23_25 : pz_OK true rw_23 25 (op_iload 1 26) := ok_iload_n (k := 1) (by decide +kernel)
theorem o_23_26 : pz_OK true rw_23 26 (op_iald 20 27) := ok_iald (by decide +kernel) rfl (by decide)
theorem k_23_27 : pz_callOK true rw_23 rw_24 27 2 3 := ⟨42, (Or.inl wm_611), Or.inr ⟨(by decide +kernel), wm_613, ws_20, by unfold pz_np; decide +kernel, by decide, Or.inl ⟨_, _, rfl, by decide, rfl⟩⟩⟩
theorem o_23_30 : pz_OK true rw_23 30 (op_ifz c_eq 35 33) := ok_if_eq (off := 5) (by decide +kernel) (by decide)
theorem o_23_33 : pz_OK true rw_23 33 (op_stk (sg_const (1)) 34) := ok_iconst (by decide +kernel) (by unfold pz_in; decide)
theorem o_23_34 : pz_OK true rw_23 34 (op_iret g_bool) := ok_iret (by decide +kernel) rfl pz_g_bool
theorem o_23_35 : pz_OK true rw_23 35 (op_iinc 1 (1) 38) := ok_iinc (by decide +kernel)
theorem o_23_38 : pz_OK true rw_23 38 (op_goto 2) := ok_goto (off := -36) (by decide +kernel) (by decide)
theorem o_23_41 : pz_OK true rw_23 41 (op_stk (sg_const (0)) 42) := ok_iconst (by decide +kernel) (by unfold pz_in; decide)
theorem o_23_42 : pz_OK true rw_23 42 (op_iret g_bool) := ok_iret (by decide +kernel) rfl pz_g_bool
set_option maxRecDepth 20000 in
theorem a_23 : pz_all true 138 rw_23 pg_23 := ⟨o_23_0, ⟨o_23_1, ⟨o_23_2, ⟨o_23_3, ⟨o_23_4, ⟨o_23_7, ⟨o_23_10, ⟨o_23_11, ⟨o_23_14, ⟨o_23_15, ⟨o_23_16, ⟨o_23_17, ⟨o_23_20, ⟨o_23_21, ⟨o_23_22, ⟨o_23_25, ⟨o_23_26, ⟨⟨rw_24, tq_24, rfl, k_23_27⟩, ⟨o_23_30, ⟨o_23_33, ⟨o_23_34, ⟨o_23_35, ⟨o_23_38, ⟨o_23_41, ⟨o_23_42, trivial⟩⟩⟩⟩⟩⟩⟩⟩⟩⟩⟩⟩⟩⟩⟩⟩⟩⟩⟩⟩⟩⟩⟩⟩⟩
theorem ro_24 : pz_rowOK rw_24 := ⟨by decide +kernel, wm_614, wm_3, by decide +kernel⟩
theorem o_24_0 : pz_OK true rw_24 0 (op_aload 0 1) := ok_aload_n (k := 0) (by decide +kernel)
theorem o_24_1 : pz_OK true rw_24 1 (op_stk (sg_const (0)) 2) := ok_iconst (by decide +kernel) (by unfold pz_in; decide)
theorem o_24_2 : pz_OK true rw_24 2 (op_putI true 2 9 5) := ok_putI cc_2 (by decide) rfl rfl (Or.inl wm_83) rfl (by decide +kernel) (by decide +kernel)
theorem o_24_5 : pz_OK true rw_24 5 (op_stk (sg_const (0)) 6) := ok_iconst (by decide +kernel) (by unfold pz_in; decide)
theorem o_24_6 : pz_OK true rw_24 6 (op_istore 2 7) := ok_istore_n (k := 2) (by decide +kernel)
theorem o_24_7 : pz_OK true rw_24 7 (op_iload 1 8) := ok_iload_n (k := 1) (by decide +kernel)
theorem o_24_8 : pz_OK true rw_24 8 (op_istore 3 9) := ok_istore_n (k := 3) (by decide +kernel)
theorem o_24_9 : pz_OK true rw_24 9 (op_stk (sg_const (0)) 10) := ok_iconst (by decide +kernel) (by unfold pz_in; decide)
theorem o_24_10 : pz_OK true rw_24 10 (op_istore 4 12) := ok_istore (by decide +kernel)
theorem o_24_12 : pz_OK true rw_24 12 (op_iload 4 14) := ok_iload (by decide +kernel)
theorem o_24_14 : pz_OK true rw_24 14 (op_stk (sg_const (256)) 17) := ok_sipush (by decide +kernel) (by unfold pz_in; decide) (by decide)
theorem o_24_17 : pz_OK true rw_24 17 (op_icmp c_ge 245 20) := ok_icmp_ge (off := 228) (by decide +kernel) (by decide)
theorem o_24_20 : pz_OK true rw_24 20 (op_iload 3 21) := ok_iload_n (k := 3) (by decide +kernel)
theorem o_24_21 : pz_OK true rw_24 21 (op_ifz c_lt 245 24) := ok_if_lt (off := 224) (by decide +kernel) (by decide)
theorem o_24_24 : pz_OK true rw_24 24 (op_iload 3 25) := ok_iload_n (k := 3) (by decide +kernel)
theorem o_24_25 : pz_OK true rw_24 25 (op_aload 0 26) := ok_aload_n (k := 0) (by decide +kernel)
theorem o_24_26 : pz_OK true rw_24 26 (op_getI 2 6 29) := ok_getI cc_2 (by decide) rfl rfl (Or.inl wm_78) (by decide +kernel)
theorem o_24_29 : pz_OK true rw_24 29 (op_icmp c_ge 245 32) := ok_icmp_ge (off := 216) (by decide +kernel) (by decide)
theorem o_24_32 : pz_OK true rw_24 32 (op_aload 0 33) := ok_aload_n (k := 0) (by decide +kernel)
theorem o_24_33 : pz_OK true rw_24 33 (op_getR 2 4 36) := ok_getR cc_2 (by decide) rfl rfl (Or.inl wm_76) (by decide +kernel)
theorem o_24_36 : pz_OK true rw_24 36 (op_iload 3 37) := ok_iload_n (k := 3) (by decide +kernel)
theorem o_24_37 : pz_OK true rw_24 37 (op_iald 20 38) := ok_iald (by decide +kernel) rfl (by decide)
theorem o_24_38 : pz_OK true rw_24 38 (op_ifz c_ne 44 41) := ok_if_ne (off := 6) (by decide +kernel) (by decide)
theorem o_24_41 : pz_OK true rw_24 41 (op_goto 245) := ok_goto (off := 204) (by decide +kernel) (by decide)
theorem o_24_44 : pz_OK true rw_24 44 (op_aload 0 45) := ok_aload_n (k := 0) (by decide +kernel)
theorem o_24_45 : pz_OK true rw_24 45 (op_getR 2 4 48) := ok_getR cc_2 (by decide) rfl rfl (Or.inl wm_76) (by decide +kernel)
theorem o_24_48 : pz_OK true rw_24 48 (op_iload 3 49) := ok_iload_n (k := 3) (by decide +kernel)
theorem o_24_49 : pz_OK true rw_24 49 (op_iald 20 50) := ok_iald (by decide +kernel) rfl (by decide)
theorem o_24_50 : pz_OK true rw_24 50 (op_istore 5 52) := ok_istore (by decide +kernel)
theorem o_24_52 : pz_OK true rw_24 52 (op_aload 0 53) := ok_aload_n (k := 0) (by decide +kernel)
theorem o_24_53 : pz_OK true rw_24 53 (op_getR 2 5 56) := ok_getR cc_2 (by decide) rfl rfl (Or.inl wm_77) (by decide +kernel)
theorem o_24_56 : pz_OK true rw_24 56 (op_iload 3 57) := ok_iload_n (k := 3) (by decide +kernel)
theorem o_24_57 : pz_OK true rw_24 57 (op_iald 20 58) := ok_iald (by decide +kernel) rfl (by decide)
theorem o_24_58 : pz_OK true rw_24 58 (op_istore 6 60) := ok_istore (by decide +kernel)
theorem o_24_60 : pz_OK true rw_24 60 (op_iinc 3 (1) 63) := ok_iinc (by decide +kernel)
theorem o_24_63 : pz_OK true rw_24 63 (op_iload 5 65) := ok_iload (by decide +kernel)
theorem o_24_65 : pz_OK true rw_24 65 (op_stk (sg_const (2)) 66) := ok_iconst (by decide +kernel) (by unfold pz_in; decide)
theorem o_24_66 : pz_OK true rw_24 66 (op_icmp c_gt 106 69) := ok_icmp_gt (off := 40) (by decide +kernel) (by decide)
theorem o_24_69 : pz_OK true rw_24 69 (op_iload 2 70) := ok_iload_n (k := 2) (by decide +kernel)
theorem o_24_70 : pz_OK true rw_24 70 (op_stk (sg_const (32)) 72) := ok_bipush (by decide +kernel) (by unfold pz_in; decide) (by decide)
theorem o_24_72 : pz_OK true rw_24 72 (op_icmp c_lt 77 75) := ok_icmp_lt (off := 5) (by decide +kernel) (by decide)
theorem o_24_75 : pz_OK true rw_24 75 (op_stk (sg_const (0)) 76) := ok_iconst (by decide +kernel) (by unfold pz_in; decide)
theorem o_24_76 : pz_OK true rw_24 76 (op_iret g_int) := ok_iret (by decide +kernel) rfl pz_g_int
theorem o_24_77 : pz_OK true rw_24 77 (op_aload 0 78) := ok_aload_n (k := 0) (by decide +kernel)
theorem o_24_78 : pz_OK true rw_24 78 (op_getR 2 8 81) := ok_getR cc_2 (by decide) rfl rfl (Or.inl wm_82) (by decide +kernel)
theorem o_24_81 : pz_OK true rw_24 81 (op_iload 2 82) := ok_iload_n (k := 2) (by decide +kernel)
theorem o_24_82 : pz_OK true rw_24 82 (op_iload 5 84) := ok_iload (by decide +kernel)
theorem o_24_84 : pz_OK true rw_24 84 (op_stk (sg_const (1)) 85) := ok_iconst (by decide +kernel) (by unfold pz_in; decide)
theorem o_24_85 : pz_OK true rw_24 85 (op_icmp c_ne 93 88) := ok_icmp_ne (off := 8) (by decide +kernel) (by decide)
theorem o_24_88 : pz_OK true rw_24 88 (op_iload 6 90) := ok_iload (by decide +kernel)
theorem o_24_90 : pz_OK true rw_24 90 (op_goto 99) := ok_goto (off := 9) (by decide +kernel) (by decide)
theorem o_24_93 : pz_OK true rw_24 93 (op_aload 0 94) := ok_aload_n (k := 0) (by decide +kernel)
theorem o_24_94 : pz_OK true rw_24 94 (op_iload 6 96) := ok_iload (by decide +kernel)
theorem k_24_96 : pz_callOK true rw_24 rw_25 96 2 3 := ⟨55, (Or.inl wm_615), Or.inr ⟨(by decide +kernel), wm_617, ws_21, by unfold pz_np; decide +kernel, by decide, Or.inl ⟨_, _, rfl, by decide, rfl⟩⟩⟩
theorem o_24_99 : pz_OK true rw_24 99 (op_iast 20 100) := ok_iast (by decide +kernel) rfl (by decide)
theorem o_24_100 : pz_OK true rw_24 100 (op_iinc 2 (1) 103) := ok_iinc (by decide +kernel)
theorem o_24_103 : pz_OK true rw_24 103 (op_goto 230) := ok_goto (off := 127) (by decide +kernel) (by decide)
theorem o_24_106 : pz_OK true rw_24 106 (op_iload 5 108) := ok_iload (by decide +kernel)
theorem o_24_108 : pz_OK true rw_24 108 (op_stk (sg_const (5)) 109) := ok_iconst (by decide +kernel) (by unfold pz_in; decide)
theorem o_24_109 : pz_OK true rw_24 109 (op_icmp c_gt 192 112) := ok_icmp_gt (off := 83) (by decide +kernel) (by decide)
theorem o_24_112 : pz_OK true rw_24 112 (op_iload 2 113) := ok_iload_n (k := 2) (by decide +kernel)
theorem o_24_113 : pz_OK true rw_24 113 (op_stk (sg_const (1)) 114) := ok_iconst (by decide +kernel) (by unfold pz_in; decide)
theorem o_24_114 : pz_OK true rw_24 114 (op_icmp c_ge 119 117) := ok_icmp_ge (off := 5) (by decide +kernel) (by decide)
theorem o_24_117 : pz_OK true rw_24 117 (op_stk (sg_const (0)) 118) := ok_iconst (by decide +kernel) (by unfold pz_in; decide)
theorem o_24_118 : pz_OK true rw_24 118 (op_iret g_int) := ok_iret (by decide +kernel) rfl pz_g_int
theorem o_24_119 : pz_OK true rw_24 119 (op_aload 0 120) := ok_aload_n (k := 0) (by decide +kernel)
theorem o_24_120 : pz_OK true rw_24 120 (op_getR 2 8 123) := ok_getR cc_2 (by decide) rfl rfl (Or.inl wm_82) (by decide +kernel)
theorem o_24_123 : pz_OK true rw_24 123 (op_iload 2 124) := ok_iload_n (k := 2) (by decide +kernel)
theorem o_24_124 : pz_OK true rw_24 124 (op_stk (sg_const (1)) 125) := ok_iconst (by decide +kernel) (by unfold pz_in; decide)
theorem o_24_125 : pz_OK true rw_24 125 (op_stk (sg_bin f_sub) 126) := ok_isub (by decide +kernel)
theorem o_24_126 : pz_OK true rw_24 126 (op_iald 20 127) := ok_iald (by decide +kernel) rfl (by decide)
theorem o_24_127 : pz_OK true rw_24 127 (op_ifz c_eq 134 130) := ok_if_eq (off := 7) (by decide +kernel) (by decide)
theorem o_24_130 : pz_OK true rw_24 130 (op_stk (sg_const (1)) 131) := ok_iconst (by decide +kernel) (by unfold pz_in; decide)
theorem o_24_131 : pz_OK true rw_24 131 (op_goto 135) := ok_goto (off := 4) (by decide +kernel) (by decide)
theorem o_24_134 : pz_OK true rw_24 134 (op_stk (sg_const (0)) 135) := ok_iconst (by decide +kernel) (by unfold pz_in; decide)
theorem o_24_135 : pz_OK true rw_24 135 (op_istore 7 137) := ok_istore (by decide +kernel)
theorem o_24_137 : pz_OK true rw_24 137 (op_iload 5 139) := ok_iload (by decide +kernel)
theorem o_24_139 : pz_OK true rw_24 139 (op_stk (sg_const (3)) 140) := ok_iconst (by decide +kernel) (by unfold pz_in; decide)
theorem o_24_140 : pz_OK true rw_24 140 (op_icmp c_ne 164 143) := ok_icmp_ne (off := 24) (by decide +kernel) (by decide)
theorem o_24_143 : pz_OK true rw_24 143 (op_aload 0 144) := ok_aload_n (k := 0) (by decide +kernel)
theorem o_24_144 : pz_OK true rw_24 144 (op_getR 2 8 147) := ok_getR cc_2 (by decide) rfl rfl (Or.inl wm_82) (by decide +kernel)
theorem o_24_147 : pz_OK true rw_24 147 (op_iload 2 148) := ok_iload_n (k := 2) (by decide +kernel)
theorem o_24_148 : pz_OK true rw_24 148 (op_stk (sg_const (1)) 149) := ok_iconst (by decide +kernel) (by unfold pz_in; decide)
theorem o_24_149 : pz_OK true rw_24 149 (op_stk (sg_bin f_sub) 150) := ok_isub (by decide +kernel)
theorem o_24_150 : pz_OK true rw_24 150 (op_iload 7 152) := ok_iload (by decide +kernel)
theorem o_24_152 : pz_OK true rw_24 152 (op_ifz c_eq 159 155) := ok_if_eq (off := 7) (by decide +kernel) (by decide)
theorem o_24_155 : pz_OK true rw_24 155 (op_stk (sg_const (0)) 156) := ok_iconst (by decide +kernel) (by unfold pz_in; decide)
theorem o_24_156 : pz_OK true rw_24 156 (op_goto 160) := ok_goto (off := 4) (by decide +kernel) (by decide)
theorem o_24_159 : pz_OK true rw_24 159 (op_stk (sg_const (1)) 160) := ok_iconst (by decide +kernel) (by unfold pz_in; decide)
theorem o_24_160 : pz_OK true rw_24 160 (op_iast 20 161) := ok_iast (by decide +kernel) rfl (by decide)
theorem o_24_161 : pz_OK true rw_24 161 (op_goto 189) := ok_goto (off := 28) (by decide +kernel) (by decide)
theorem o_24_164 : pz_OK true rw_24 164 (op_iload 7 166) := ok_iload (by decide +kernel)
theorem o_24_166 : pz_OK true rw_24 166 (op_iload 5 168) := ok_iload (by decide +kernel)
theorem o_24_168 : pz_OK true rw_24 168 (op_stk (sg_const (5)) 169) := ok_iconst (by decide +kernel) (by unfold pz_in; decide)
theorem o_24_169 : pz_OK true rw_24 169 (op_icmp c_ne 176 172) := ok_icmp_ne (off := 7) (by decide +kernel) (by decide)
theorem o_24_172 : pz_OK true rw_24 172 (op_stk (sg_const (1)) 173) := ok_iconst (by decide +kernel) (by unfold pz_in; decide)
theorem o_24_173 : pz_OK true rw_24 173 (op_goto 177) := ok_goto (off := 4) (by decide +kernel) (by decide)
theorem o_24_176 : pz_OK true rw_24 176 (op_stk (sg_const (0)) 177) := ok_iconst (by decide +kernel) (by unfold pz_in; decide)
theorem o_24_177 : pz_OK true rw_24 177 (op_icmp c_ne 186 180) := ok_icmp_ne (off := 9) (by decide +kernel) (by decide)
theorem o_24_180 : pz_OK true rw_24 180 (op_iload 6 182) := ok_iload (by decide +kernel)
theorem o_24_182 : pz_OK true rw_24 182 (op_istore 3 183) := ok_istore_n (k := 3) (by decide +kernel)
theorem o_24_183 : pz_OK true rw_24 183 (op_goto 189) := ok_goto (off := 6) (by decide +kernel) (by decide)
theorem o_24_186 : pz_OK true rw_24 186 (op_iinc 2 (-1) 189) := ok_iinc (by decide +kernel)
theorem o_24_189 : pz_OK true rw_24 189 (op_goto 230) := ok_goto (off := 41) (by decide +kernel) (by decide)
theorem o_24_192 : pz_OK true rw_24 192 (op_iload 2 193) := ok_iload_n (k := 2) (by decide +kernel)
theorem o_24_193 : pz_OK true rw_24 193 (op_stk (sg_const (2)) 194) := ok_iconst (by decide +kernel) (by unfold pz_in; decide)
theorem o_24_194 : pz_OK true rw_24 194 (op_icmp c_ge 199 197) := ok_icmp_ge (off := 5) (by decide +kernel) (by decide)
theorem o_24_197 : pz_OK true rw_24 197 (op_stk (sg_const (0)) 198) := ok_iconst (by decide +kernel) (by unfold pz_in; decide)
theorem o_24_198 : pz_OK true rw_24 198 (op_iret g_int) := ok_iret (by decide +kernel) rfl pz_g_int
theorem o_24_199 : pz_OK true rw_24 199 (op_iinc 2 (-1) 202) := ok_iinc (by decide +kernel)
theorem o_24_202 : pz_OK true rw_24 202 (op_aload 0 203) := ok_aload_n (k := 0) (by decide +kernel)
theorem o_24_203 : pz_OK true rw_24 203 (op_getR 2 8 206) := ok_getR cc_2 (by decide) rfl rfl (Or.inl wm_82) (by decide +kernel)
theorem o_24_206 : pz_OK true rw_24 206 (op_iload 2 207) := ok_iload_n (k := 2) (by decide +kernel)
theorem o_24_207 : pz_OK true rw_24 207 (op_stk (sg_const (1)) 208) := ok_iconst (by decide +kernel) (by unfold pz_in; decide)
theorem o_24_208 : pz_OK true rw_24 208 (op_stk (sg_bin f_sub) 209) := ok_isub (by decide +kernel)
theorem o_24_209 : pz_OK true rw_24 209 (op_aload 0 210) := ok_aload_n (k := 0) (by decide +kernel)
theorem o_24_210 : pz_OK true rw_24 210 (op_iload 5 212) := ok_iload (by decide +kernel)
theorem o_24_212 : pz_OK true rw_24 212 (op_aload 0 213) := ok_aload_n (k := 0) (by decide +kernel)
theorem o_24_213 : pz_OK true rw_24 213 (op_getR 2 8 216) := ok_getR cc_2 (by decide) rfl rfl (Or.inl wm_82) (by decide +kernel)
theorem o_24_216 : pz_OK true rw_24 216 (op_iload 2 217) := ok_iload_n (k := 2) (by decide +kernel)
theorem o_24_217 : pz_OK true rw_24 217 (op_stk (sg_const (1)) 218) := ok_iconst (by decide +kernel) (by unfold pz_in; decide)
theorem o_24_218 : pz_OK true rw_24 218 (op_stk (sg_bin f_sub) 219) := ok_isub (by decide +kernel)
theorem o_24_219 : pz_OK true rw_24 219 (op_iald 20 220) := ok_iald (by decide +kernel) rfl (by decide)
theorem o_24_220 : pz_OK true rw_24 220 (op_aload 0 221) := ok_aload_n (k := 0) (by decide +kernel)
theorem o_24_221 : pz_OK true rw_24 221 (op_getR 2 8 224) := ok_getR cc_2 (by decide) rfl rfl (Or.inl wm_82) (by decide +kernel)
theorem o_24_224 : pz_OK true rw_24 224 (op_iload 2 225) := ok_iload_n (k := 2) (by decide +kernel)
theorem o_24_225 : pz_OK true rw_24 225 (op_iald 20 226) := ok_iald (by decide +kernel) rfl (by decide)
theorem k_24_226 : pz_callOK true rw_24 rw_26 226 4 3 := ⟨58, (Or.inl wm_619), Or.inr ⟨(by decide +kernel), wm_621, ws_22, by unfold pz_np; decide +kernel, by decide, Or.inl ⟨_, _, rfl, by decide, rfl⟩⟩⟩
theorem o_24_229 : pz_OK true rw_24 229 (op_iast 20 230) := ok_iast (by decide +kernel) rfl (by decide)
theorem o_24_230 : pz_OK true rw_24 230 (op_aload 0 231) := ok_aload_n (k := 0) (by decide +kernel)
theorem o_24_231 : pz_OK true rw_24 231 (op_getI 2 9 234) := ok_getI cc_2 (by decide) rfl rfl (Or.inl wm_83) (by decide +kernel)
theorem o_24_234 : pz_OK true rw_24 234 (op_ifz c_eq 239 237) := ok_if_eq (off := 5) (by decide +kernel) (by decide)
theorem o_24_237 : pz_OK true rw_24 237 (op_stk (sg_const (0)) 238) := ok_iconst (by decide +kernel) (by unfold pz_in; decide)
theorem o_24_238 : pz_OK true rw_24 238 (op_iret g_int) := ok_iret (by decide +kernel) rfl pz_g_int
theorem o_24_239 : pz_OK true rw_24 239 (op_iinc 4 (1) 242) := ok_iinc (by decide +kernel)
theorem o_24_242 : pz_OK true rw_24 242 (op_goto 12) := ok_goto (off := -230) (by decide +kernel) (by decide)
theorem o_24_245 : pz_OK true rw_24 245 (op_iload 2 246) := ok_iload_n (k := 2) (by decide +kernel)
theorem o_24_246 : pz_OK true rw_24 246 (op_ifz c_le 260 249) := ok_if_le (off := 14) (by decide +kernel) (by decide)
theorem o_24_249 : pz_OK true rw_24 249 (op_aload 0 250) := ok_aload_n (k := 0) (by decide +kernel)
theorem o_24_250 : pz_OK true rw_24 250 (op_getR 2 8 253) := ok_getR cc_2 (by decide) rfl rfl (Or.inl wm_82) (by decide +kernel)
theorem o_24_253 : pz_OK true rw_24 253 (op_iload 2 254) := ok_iload_n (k := 2) (by decide +kernel)
theorem o_24_254 : pz_OK true rw_24 254 (op_stk (sg_const (1)) 255) := ok_iconst (by decide +kernel) (by unfold pz_in; decide)
theorem o_24_255 : pz_OK true rw_24 255 (op_stk (sg_bin f_sub) 256) := ok_isub (by decide +kernel)
theorem o_24_256 : pz_OK true rw_24 256 (op_iald 20 257) := ok_iald (by decide +kernel) rfl (by decide)
theorem o_24_257 : pz_OK true rw_24 257 (op_goto 261) := ok_goto (off := 4) (by decide +kernel) (by decide)
theorem o_24_260 : pz_OK true rw_24 260 (op_stk (sg_const (0)) 261) := ok_iconst (by decide +kernel) (by unfold pz_in; decide)
theorem o_24_261 : pz_OK true rw_24 261 (op_iret g_int) := ok_iret (by decide +kernel) rfl pz_g_int
set_option maxRecDepth 20000 in
theorem a_24 : pz_all true 138 rw_24 pg_24 := ⟨o_24_0, ⟨o_24_1, ⟨o_24_2, ⟨o_24_5, ⟨o_24_6, ⟨o_24_7, ⟨o_24_8, ⟨o_24_9, ⟨o_24_10, ⟨o_24_12, ⟨o_24_14, ⟨o_24_17, ⟨o_24_20, ⟨o_24_21, ⟨o_24_24, ⟨o_24_25, ⟨o_24_26, ⟨o_24_29, ⟨o_24_32, ⟨o_24_33, ⟨o_24_36, ⟨o_24_37, ⟨o_24_38, ⟨o_24_41, ⟨o_24_44, ⟨o_24_45, ⟨o_24_48, ⟨o_24_49, ⟨o_24_50, ⟨o_24_52, ⟨o_24_53, ⟨o_24_56, ⟨o_24_57, ⟨o_24_58, ⟨o_24_60, ⟨o_24_63, ⟨o_24_65, ⟨o_24_66, ⟨o_24_69, ⟨o_24_70, ⟨o_24_72, ⟨o_24_75, ⟨o_24_76, ⟨o_24_77, ⟨o_24_78, ⟨o_24_81, ⟨o_24_82, ⟨o_24_84, ⟨o_24_85, ⟨o_24_88, ⟨o_24_90, ⟨o_24_93, ⟨o_24_94, ⟨⟨rw_25, tq_25, rfl, k_24_96⟩, ⟨o_24_99, ⟨o_24_100, ⟨o_24_103, ⟨o_24_106, ⟨o_24_108, ⟨o_24_109, ⟨o_24_112, ⟨o_24_113, ⟨o_24_114, ⟨o_24_117, ⟨o_24_118, ⟨o_24_119, ⟨o_24_120, ⟨o_24_123, ⟨o_24_124, ⟨o_24_125, ⟨o_24_126, ⟨o_24_127, ⟨o_24_130, ⟨o_24_131, ⟨o_24_134, ⟨o_24_135, ⟨o_24_137, ⟨o_24_139, ⟨o_24_140, ⟨o_24_143, ⟨o_24_144, ⟨o_24_147, ⟨o_24_148, ⟨o_24_149, ⟨o_24_150, ⟨o_24_152, ⟨o_24_155, ⟨o_24_156, ⟨o_24_159, ⟨o_24_160, ⟨o_24_161, ⟨o_24_164, ⟨o_24_166, ⟨o_24_168, ⟨o_24_169, ⟨o_24_172, ⟨o_24_173, ⟨o_24_176, ⟨o_24_177, ⟨o_24_180, ⟨o_24_182, ⟨o_24_183, ⟨o_24_186, ⟨o_24_189, ⟨o_24_192, ⟨o_24_193, ⟨o_24_194, ⟨o_24_197, ⟨o_24_198, ⟨o_24_199, ⟨o_24_202, ⟨o_24_203, ⟨o_24_206, ⟨o_24_207, ⟨o_24_208, ⟨o_24_209, ⟨o_24_210, ⟨o_24_212, ⟨o_24_213, ⟨o_24_216, ⟨o_24_217, ⟨o_24_218, ⟨o_24_219, ⟨o_24_220, ⟨o_24_221, ⟨o_24_224, ⟨o_24_225, ⟨⟨rw_26, tq_26, rfl, k_24_226⟩, ⟨o_24_229, ⟨o_24_230, ⟨o_24_231, ⟨o_24_234, ⟨o_24_237, ⟨o_24_238, ⟨o_24_239, ⟨o_24_242, ⟨o_24_245, ⟨o_24_246, ⟨o_24_249, ⟨o_24_250, ⟨o_24_253, ⟨o_24_254, ⟨o_24_255, ⟨o_24_256, ⟨o_24_257, ⟨o_24_260, ⟨o_24_261, trivial⟩⟩⟩⟩⟩⟩⟩⟩⟩⟩⟩⟩⟩⟩⟩⟩⟩⟩⟩⟩⟩⟩⟩⟩⟩⟩⟩⟩⟩⟩⟩⟩⟩⟩⟩⟩⟩⟩⟩⟩⟩⟩⟩⟩⟩⟩⟩⟩⟩⟩⟩⟩⟩⟩⟩⟩⟩⟩⟩⟩⟩⟩⟩⟩⟩⟩⟩⟩⟩⟩⟩⟩⟩⟩⟩⟩⟩⟩⟩⟩⟩⟩⟩⟩⟩⟩⟩⟩⟩⟩⟩⟩⟩⟩⟩⟩⟩⟩⟩⟩⟩⟩⟩⟩⟩⟩⟩⟩⟩⟩⟩⟩⟩⟩⟩⟩⟩⟩⟩⟩⟩⟩⟩⟩⟩⟩⟩⟩⟩⟩⟩⟩⟩⟩⟩⟩⟩⟩⟩⟩⟩⟩⟩⟩⟩⟩⟩
theorem ro_25 : pz_rowOK rw_25 := ⟨by decide +kernel, wm_618, wm_3, by decide +kernel⟩
theorem o_25_0 : pz_OK true rw_25 0 (op_iload 1 1) := ok_iload_n (k := 1) (by decide +kernel)
theorem o_25_1 : pz_OK true rw_25 1 (op_ifz c_lt 22 4) := ok_if_lt (off := 21) (by decide +kernel) (by decide)
theorem o_25_4 : pz_OK true rw_25 4 (op_iload 1 5) := ok_iload_n (k := 1) (by decide +kernel)
theorem o_25_5 : pz_OK true rw_25 5 (op_aload 0 6) := ok_aload_n (k := 0) (by decide +kernel)
theorem o_25_6 : pz_OK true rw_25 6 (op_getR 2 7 9) := ok_getR cc_2 (by decide) rfl rfl (Or.inl wm_80) (by decide +kernel)
theorem o_25_9 : pz_OK true rw_25 9 (op_alen 20 10) := ok_alen (by decide +kernel) rfl (by decide)
theorem o_25_10 : pz_OK true rw_25 10 (op_icmp c_ge 22 13) := ok_icmp_ge (off := 12) (by decide +kernel) (by decide)
theorem o_25_13 : pz_OK true rw_25 13 (op_aload 0 14) := ok_aload_n (k := 0) (by decide +kernel)
theorem o_25_14 : pz_OK true rw_25 14 (op_getR 2 7 17) := ok_getR cc_2 (by decide) rfl rfl (Or.inl wm_80) (by decide +kernel)
theorem o_25_17 : pz_OK true rw_25 17 (op_iload 1 18) := ok_iload_n (k := 1) (by decide +kernel)
theorem o_25_18 : pz_OK true rw_25 18 (op_iald 20 19) := ok_iald (by decide +kernel) rfl (by decide)
theorem o_25_19 : pz_OK true rw_25 19 (op_goto 23) := ok_goto (off := 4) (by decide +kernel) (by decide)
theorem o_25_22 : pz_OK true rw_25 22 (op_stk (sg_const (0)) 23) := ok_iconst (by decide +kernel) (by unfold pz_in; decide)
theorem o_25_23 : pz_OK true rw_25 23 (op_iret g_int) := ok_iret (by decide +kernel) rfl pz_g_int
set_option maxRecDepth 20000 in
theorem a_25 : pz_all true 138 rw_25 pg_25 := ⟨o_25_0, ⟨o_25_1, ⟨o_25_4, ⟨o_25_5, ⟨o_25_6, ⟨o_25_9, ⟨o_25_10, ⟨o_25_13, ⟨o_25_14, ⟨o_25_17, ⟨o_25_18, ⟨o_25_19, ⟨o_25_22, ⟨o_25_23, trivial⟩⟩⟩⟩⟩⟩⟩⟩⟩⟩⟩⟩⟩⟩
theorem ro_26 : pz_rowOK rw_26 := ⟨by decide +kernel, wm_622, wm_3, by decide +kernel⟩
theorem o_26_0 : pz_OK true rw_26 0 (op_iload 1 1) := ok_iload_n (k := 1) (by decide +kernel)
theorem o_26_1 : pz_OK true rw_26 1 (op_sw [(6, 48), (7, 52), (8, 56), (9, 93), (10, 93), (11, 60), (12, 71), (13, 82)] 93) := ok_table (dflt := 92) (lo := 6) (hi := 13) (offs := #[47, 51, 55, 92, 92, 59, 70, 81]) (len := 47) (by decide +kernel) (by decide) (by decide) (by decide) (by decide)
theorem o_26_48 : pz_OK true rw_26 48 (op_iload 2 49) := ok_iload_n (k := 2) (by decide +kernel)
theorem o_26_49 : pz_OK true rw_26 49 (op_iload 3 50) := ok_iload_n (k := 3) (by decide +kernel)
theorem o_26_50 : pz_OK true rw_26 50 (op_stk (sg_bin f_add) 51) := ok_iadd (by decide +kernel)
theorem o_26_51 : pz_OK true rw_26 51 (op_iret g_int) := ok_iret (by decide +kernel) rfl pz_g_int
theorem o_26_52 : pz_OK true rw_26 52 (op_iload 2 53) := ok_iload_n (k := 2) (by decide +kernel)
theorem o_26_53 : pz_OK true rw_26 53 (op_iload 3 54) := ok_iload_n (k := 3) (by decide +kernel)
theorem o_26_54 : pz_OK true rw_26 54 (op_stk (sg_bin f_sub) 55) := ok_isub (by decide +kernel)
theorem o_26_55 : pz_OK true rw_26 55 (op_iret g_int) := ok_iret (by decide +kernel) rfl pz_g_int
theorem o_26_56 : pz_OK true rw_26 56 (op_iload 2 57) := ok_iload_n (k := 2) (by decide +kernel)
theorem o_26_57 : pz_OK true rw_26 57 (op_iload 3 58) := ok_iload_n (k := 3) (by decide +kernel)
theorem o_26_58 : pz_OK true rw_26 58 (op_stk (sg_bin f_mul) 59) := ok_imul (by decide +kernel)
theorem o_26_59 : pz_OK true rw_26 59 (op_iret g_int) := ok_iret (by decide +kernel) rfl pz_g_int
theorem o_26_60 : pz_OK true rw_26 60 (op_iload 2 61) := ok_iload_n (k := 2) (by decide +kernel)
theorem o_26_61 : pz_OK true rw_26 61 (op_iload 3 62) := ok_iload_n (k := 3) (by decide +kernel)
theorem o_26_62 : pz_OK true rw_26 62 (op_icmp c_ge 69 65) := ok_icmp_ge (off := 7) (by decide +kernel) (by decide)
theorem o_26_65 : pz_OK true rw_26 65 (op_stk (sg_const (1)) 66) := ok_iconst (by decide +kernel) (by unfold pz_in; decide)
theorem o_26_66 : pz_OK true rw_26 66 (op_goto 70) := ok_goto (off := 4) (by decide +kernel) (by decide)
theorem o_26_69 : pz_OK true rw_26 69 (op_stk (sg_const (0)) 70) := ok_iconst (by decide +kernel) (by unfold pz_in; decide)
theorem o_26_70 : pz_OK true rw_26 70 (op_iret g_int) := ok_iret (by decide +kernel) rfl pz_g_int
theorem o_26_71 : pz_OK true rw_26 71 (op_iload 2 72) := ok_iload_n (k := 2) (by decide +kernel)
theorem o_26_72 : pz_OK true rw_26 72 (op_iload 3 73) := ok_iload_n (k := 3) (by decide +kernel)
theorem o_26_73 : pz_OK true rw_26 73 (op_icmp c_le 80 76) := ok_icmp_le (off := 7) (by decide +kernel) (by decide)
theorem o_26_76 : pz_OK true rw_26 76 (op_stk (sg_const (1)) 77) := ok_iconst (by decide +kernel) (by unfold pz_in; decide)
theorem o_26_77 : pz_OK true rw_26 77 (op_goto 81) := ok_goto (off := 4) (by decide +kernel) (by decide)
theorem o_26_80 : pz_OK true rw_26 80 (op_stk (sg_const (0)) 81) := ok_iconst (by decide +kernel) (by unfold pz_in; decide)
theorem o_26_81 : pz_OK true rw_26 81 (op_iret g_int) := ok_iret (by decide +kernel) rfl pz_g_int
theorem o_26_82 : pz_OK true rw_26 82 (op_iload 2 83) := ok_iload_n (k := 2) (by decide +kernel)
theorem o_26_83 : pz_OK true rw_26 83 (op_iload 3 84) := ok_iload_n (k := 3) (by decide +kernel)
theorem o_26_84 : pz_OK true rw_26 84 (op_icmp c_ne 91 87) := ok_icmp_ne (off := 7) (by decide +kernel) (by decide)
theorem o_26_87 : pz_OK true rw_26 87 (op_stk (sg_const (1)) 88) := ok_iconst (by decide +kernel) (by unfold pz_in; decide)
theorem o_26_88 : pz_OK true rw_26 88 (op_goto 92) := ok_goto (off := 4) (by decide +kernel) (by decide)
theorem o_26_91 : pz_OK true rw_26 91 (op_stk (sg_const (0)) 92) := ok_iconst (by decide +kernel) (by unfold pz_in; decide)
theorem o_26_92 : pz_OK true rw_26 92 (op_iret g_int) := ok_iret (by decide +kernel) rfl pz_g_int
theorem o_26_93 : pz_OK true rw_26 93 (op_iload 3 94) := ok_iload_n (k := 3) (by decide +kernel)
theorem o_26_94 : pz_OK true rw_26 94 (op_ifz c_ne 104 97) := ok_if_ne (off := 10) (by decide +kernel) (by decide)
theorem o_26_97 : pz_OK true rw_26 97 (op_aload 0 98) := ok_aload_n (k := 0) (by decide +kernel)
theorem o_26_98 : pz_OK true rw_26 98 (op_stk (sg_const (1)) 99) := ok_iconst (by decide +kernel) (by unfold pz_in; decide)
theorem o_26_99 : pz_OK true rw_26 99 (op_putI true 2 9 102) := ok_putI cc_2 (by decide) rfl rfl (Or.inl wm_83) rfl (by decide +kernel) (by decide +kernel)
theorem o_26_102 : pz_OK true rw_26 102 (op_stk (sg_const (0)) 103) := ok_iconst (by decide +kernel) (by unfold pz_in; decide)
theorem o_26_103 : pz_OK true rw_26 103 (op_iret g_int) := ok_iret (by decide +kernel) rfl pz_g_int
theorem o_26_104 : pz_OK true rw_26 104 (op_iload 1 105) := ok_iload_n (k := 1) (by decide +kernel)
theorem o_26_105 : pz_OK true rw_26 105 (op_stk (sg_const (9)) 107) := ok_bipush (by decide +kernel) (by unfold pz_in; decide) (by decide)
theorem o_26_107 : pz_OK true rw_26 107 (op_icmp c_ne 116 110) := ok_icmp_ne (off := 9) (by decide +kernel) (by decide)
theorem o_26_110 : pz_OK true rw_26 110 (op_iload 2 111) := ok_iload_n (k := 2) (by decide +kernel)
theorem o_26_111 : pz_OK true rw_26 111 (op_iload 3 112) := ok_iload_n (k := 3) (by decide +kernel)
theorem o_26_112 : pz_OK true rw_26 112 (op_stk (sg_div f_div) 113) := ok_idiv (by decide +kernel)
theorem o_26_113 : pz_OK true rw_26 113 (op_goto 119) := ok_goto (off := 6) (by decide +kernel) (by decide)
theorem o_26_116 : pz_OK true rw_26 116 (op_iload 2 117) := ok_iload_n (k := 2) (by decide +kernel)
theorem o_26_117 : pz_OK true rw_26 117 (op_iload 3 118) := ok_iload_n (k := 3) (by decide +kernel)
theorem o_26_118 : pz_OK true rw_26 118 (op_stk (sg_div f_rem) 119) := ok_irem (by decide +kernel)
theorem o_26_119 : pz_OK true rw_26 119 (op_iret g_int) := ok_iret (by decide +kernel) rfl pz_g_int
set_option maxRecDepth 20000 in
theorem a_26 : pz_all true 138 rw_26 pg_26 := ⟨o_26_0, ⟨o_26_1, ⟨o_26_48, ⟨o_26_49, ⟨o_26_50, ⟨o_26_51, ⟨o_26_52, ⟨o_26_53, ⟨o_26_54, ⟨o_26_55, ⟨o_26_56, ⟨o_26_57, ⟨o_26_58, ⟨o_26_59, ⟨o_26_60, ⟨o_26_61, ⟨o_26_62, ⟨o_26_65, ⟨o_26_66, ⟨o_26_69, ⟨o_26_70, ⟨o_26_71, ⟨o_26_72, ⟨o_26_73, ⟨o_26_76, ⟨o_26_77, ⟨o_26_80, ⟨o_26_81, ⟨o_26_82, ⟨o_26_83, ⟨o_26_84, ⟨o_26_87, ⟨o_26_88, ⟨o_26_91, ⟨o_26_92, ⟨o_26_93, ⟨o_26_94, ⟨o_26_97, ⟨o_26_98, ⟨o_26_99, ⟨o_26_102, ⟨o_26_103, ⟨o_26_104, ⟨o_26_105, ⟨o_26_107, ⟨o_26_110, ⟨o_26_111, ⟨o_26_112, ⟨o_26_113, ⟨o_26_116, ⟨o_26_117, ⟨o_26_118, ⟨o_26_119, trivial⟩⟩⟩⟩⟩⟩⟩⟩⟩⟩⟩⟩⟩⟩⟩⟩⟩⟩⟩⟩⟩⟩⟩⟩⟩⟩⟩⟩⟩⟩⟩⟩⟩⟩⟩⟩⟩⟩⟩⟩⟩⟩⟩⟩⟩⟩⟩⟩⟩⟩⟩⟩⟩
theorem ro_27 : pz_rowOK rw_27 := ⟨by decide +kernel, wm_348, wm_12, by decide +kernel⟩
theorem o_27_0 : pz_OK true rw_27 0 (op_aload 0 1) := ok_aload_n (k := 0) (by decide +kernel)
theorem k_27_1 : pz_callOK true rw_27 rw_18 1 1 3 := ⟨9, (Or.inl wm_349), Or.inr ⟨(by decide +kernel), wm_350, wm_351, by unfold pz_np; decide +kernel, by decide, Or.inl ⟨_, _, rfl, by decide, rfl⟩⟩⟩
theorem o_27_4 : pz_OK true rw_27 4 (op_stk (sg_const (0)) 5) := ok_iconst (by decide +kernel) (by unfold pz_in; decide)
theorem o_27_5 : pz_OK true rw_27 5 (op_istore 2 6) := ok_istore_n (k := 2) (by decide +kernel)
theorem o_27_6 : pz_OK true rw_27 6 (op_iload 2 7) := ok_iload_n (k := 2) (by decide +kernel)
theorem o_27_7 : pz_OK true rw_27 7 (op_stk (sg_const (16)) 9) := ok_bipush (by decide +kernel) (by unfold pz_in; decide) (by decide)
theorem o_27_9 : pz_OK true rw_27 9 (op_icmp c_gt 151 12) := ok_icmp_gt (off := 142) (by decide +kernel) (by decide)
theorem o_27_12 : pz_OK true rw_27 12 (op_aload 1 13) := ok_aload_n (k := 1) (by decide +kernel)
theorem o_27_13 : pz_OK true rw_27 13 (op_psh (pzR 81) 15) := ok_ldcS (i := 0) (by decide) rfl (by decide +kernel)
theorem k_27_15 : pz_callOK true rw_27 rw_69 15 2 9 := ⟨18, (Or.inl wm_354), Or.inr ⟨(by decide +kernel), wm_355, wm_356, by unfold pz_np; decide +kernel, by decide, Or.inl ⟨_, _, rfl, by decide, rfl⟩⟩⟩
theorem o_27_18 : pz_OK true rw_27 18 (op_istore 3 19) := ok_istore_n (k := 3) (by decide +kernel)
theorem o_27_19 : pz_OK true rw_27 19 (op_iload 3 20) := ok_iload_n (k := 3) (by decide +kernel)
theorem o_27_20 : pz_OK true rw_27 20 (op_ifz c_ge 29 23) := ok_if_ge (off := 9) (by decide +kernel) (by decide)
theorem o_27_23 : pz_OK true rw_27 23 (op_aload 1 24) := ok_aload_n (k := 1) (by decide +kernel)
theorem o_27_24 : pz_OK true rw_27 24 (op_stk (sg_const (1)) 25) := ok_iconst (by decide +kernel) (by unfold pz_in; decide)
theorem k_27_25 : pz_callOK true rw_27 rw_72 25 2 9 := ⟨24, (Or.inl wm_410), Or.inr ⟨(by decide +kernel), wm_411, wm_412, by unfold pz_np; decide +kernel, by decide, Or.inl ⟨_, _, rfl, by decide, rfl⟩⟩⟩
theorem o_27_28 : pz_OK true rw_27 28 (op_iret g_bool) := ok_iret (by decide +kernel) rfl pz_g_bool
theorem o_27_29 : pz_OK true rw_27 29 (op_iload 2 30) := ok_iload_n (k := 2) (by decide +kernel)
theorem o_27_30 : pz_OK true rw_27 30 (op_stk (sg_const (16)) 32) := ok_bipush (by decide +kernel) (by unfold pz_in; decide) (by decide)
theorem o_27_32 : pz_OK true rw_27 32 (op_icmp c_lt 41 35) := ok_icmp_lt (off := 9) (by decide +kernel) (by decide)
theorem o_27_35 : pz_OK true rw_27 35 (op_aload 1 36) := ok_aload_n (k := 1) (by decide +kernel)
theorem o_27_36 : pz_OK true rw_27 36 (op_stk (sg_const (4)) 37) := ok_iconst (by decide +kernel) (by unfold pz_in; decide)
theorem k_27_37 : pz_callOK true rw_27 rw_72 37 2 9 := ⟨24, (Or.inl wm_410), Or.inr ⟨(by decide +kernel), wm_411, wm_412, by unfold pz_np; decide +kernel, by decide, Or.inl ⟨_, _, rfl, by decide, rfl⟩⟩⟩
theorem o_27_40 : pz_OK true rw_27 40 (op_iret g_bool) := ok_iret (by decide +kernel) rfl pz_g_bool
theorem o_27_41 : pz_OK true rw_27 41 (op_aload 1 42) := ok_aload_n (k := 1) (by decide +kernel)
theorem k_27_42 : pz_callOK true rw_27 rw_67 42 1 9 := ⟨28, (Or.inl wm_414), Or.inr ⟨(by decide +kernel), wm_415, wm_416, by unfold pz_np; decide +kernel, by decide, Or.inl ⟨_, _, rfl, by decide, rfl⟩⟩⟩
theorem o_27_45 : pz_OK true rw_27 45 (op_aload 0 46) := ok_aload_n (k := 0) (by decide +kernel)
theorem o_27_46 : pz_OK true rw_27 46 (op_getI 2 6 49) := ok_getI cc_2 (by decide) rfl rfl (Or.inr ⟨_, wm_79⟩) (by decide +kernel)
theorem o_27_49 : pz_OK true rw_27 49 (op_istore 4 51) := ok_istore (by decide +kernel)
theorem o_27_51 : pz_OK true rw_27 51 (op_iload 3 52) := ok_iload_n (k := 3) (by decide +kernel)
theorem o_27_52 : pz_OK true rw_27 52 (op_stk (sg_const (3)) 53) := ok_iconst (by decide +kernel) (by unfold pz_in; decide)
theorem o_27_53 : pz_OK true rw_27 53 (op_icmp c_eq 67 56) := ok_icmp_eq (off := 14) (by decide +kernel) (by decide)
theorem o_27_56 : pz_OK true rw_27 56 (op_aload 0 57) := ok_aload_n (k := 0) (by decide +kernel)
theorem o_27_57 : pz_OK true rw_27 57 (op_aload 1 58) := ok_aload_n (k := 1) (by decide +kernel)
theorem o_27_58 : pz_OK true rw_27 58 (op_stk (sg_const (0)) 59) := ok_iconst (by decide +kernel) (by unfold pz_in; decide)
theorem k_27_59 : pz_callOK true rw_27 rw_30 59 3 0 := ⟨35, (Or.inl wm_418), Or.inl ⟨(by decide +kernel), wm_419, by unfold pz_np; decide +kernel⟩⟩
theorem o_27_62 : pz_OK true rw_27 62 (op_ifz c_ne 67 65) := ok_if_ne (off := 5) (by decide +kernel) (by decide)
theorem o_27_65 : pz_OK true rw_27 65 (op_stk (sg_const (0)) 66) := ok_iconst (by decide +kernel) (by unfold pz_in; decide)
theorem o_27_66 : pz_OK true rw_27 66 (op_iret g_bool) := ok_iret (by decide +kernel) rfl pz_g_bool
theorem o_27_67 : pz_OK true rw_27 67 (op_aload 0 68) := ok_aload_n (k := 0) (by decide +kernel)
theorem o_27_68 : pz_OK true rw_27 68 (op_stk (sg_const (0)) 69) := ok_iconst (by decide +kernel) (by unfold pz_in; decide)
theorem o_27_69 : pz_OK true rw_27 69 (op_stk (sg_const (0)) 70) := ok_iconst (by decide +kernel) (by unfold pz_in; decide)
theorem k_27_70 : pz_callOK true rw_27 rw_20 70 3 3 := ⟨39, (Or.inl wm_432), Or.inr ⟨(by decide +kernel), wm_433, wm_434, by unfold pz_np; decide +kernel, by decide, Or.inl ⟨_, _, rfl, by decide, rfl⟩⟩⟩
theorem o_27_73 : pz_OK true rw_27 73 (op_stk sg_pop 74) := ok_pop (by decide +kernel)
theorem o_27_74 : pz_OK true rw_27 74 (op_aload 0 75) := ok_aload_n (k := 0) (by decide +kernel)
theorem o_27_75 : pz_OK true rw_27 75 (op_getI 2 6 78) := ok_getI cc_2 (by decide) rfl rfl (Or.inr ⟨_, wm_79⟩) (by decide +kernel)
theorem o_27_78 : pz_OK true rw_27 78 (op_istore 5 80) := ok_istore (by decide +kernel)
theorem o_27_80 : pz_OK true rw_27 80 (op_aload 1 81) := ok_aload_n (k := 1) (by decide +kernel)
theorem o_27_81 : pz_OK true rw_27 81 (op_stk (sg_const (40)) 83) := ok_bipush (by decide +kernel) (by unfold pz_in; decide) (by decide)
theorem k_27_83 : pz_callOK true rw_27 rw_68 83 2 9 := ⟨43, (Or.inl wm_425), Or.inr ⟨(by decide +kernel), wm_426, wm_427, by unfold pz_np; decide +kernel, by decide, Or.inl ⟨_, _, rfl, by decide, rfl⟩⟩⟩
theorem o_27_86 : pz_OK true rw_27 86 (op_ifz c_eq 107 89) := ok_if_eq (off := 21) (by decide +kernel) (by decide)
theorem o_27_89 : pz_OK true rw_27 89 (op_aload 0 90) := ok_aload_n (k := 0) (by decide +kernel)
theorem o_27_90 : pz_OK true rw_27 90 (op_aload 1 91) := ok_aload_n (k := 1) (by decide +kernel)
theorem o_27_91 : pz_OK true rw_27 91 (op_stk (sg_const (1)) 92) := ok_iconst (by decide +kernel) (by unfold pz_in; decide)
theorem k_27_92 : pz_callOK true rw_27 rw_28 92 3 0 := ⟨47, (Or.inl wm_442), Or.inl ⟨(by decide +kernel), wm_443, by unfold pz_np; decide +kernel⟩⟩
theorem o_27_95 : pz_OK true rw_27 95 (op_ifz c_eq 107 98) := ok_if_eq (off := 12) (by decide +kernel) (by decide)
theorem o_27_98 : pz_OK true rw_27 98 (op_aload 1 99) := ok_aload_n (k := 1) (by decide +kernel)
theorem o_27_99 : pz_OK true rw_27 99 (op_stk (sg_const (41)) 101) := ok_bipush (by decide +kernel) (by unfold pz_in; decide) (by decide)
theorem k_27_101 : pz_callOK true rw_27 rw_68 101 2 9 := ⟨43, (Or.inl wm_425), Or.inr ⟨(by decide +kernel), wm_426, wm_427, by unfold pz_np; decide +kernel, by decide, Or.inl ⟨_, _, rfl, by decide, rfl⟩⟩⟩
theorem o_27_104 : pz_OK true rw_27 104 (op_ifz c_ne 109 107) := ok_if_ne (off := 5) (by decide +kernel) (by decide)
theorem o_27_107 : pz_OK true rw_27 107 (op_stk (sg_const (0)) 108) := ok_iconst (by decide +kernel) (by unfold pz_in; decide)
theorem o_27_108 : pz_OK true rw_27 108 (op_iret g_bool) := ok_iret (by decide +kernel) rfl pz_g_bool
theorem o_27_109 : pz_OK true rw_27 109 (op_aload 0 110) := ok_aload_n (k := 0) (by decide +kernel)
theorem o_27_110 : pz_OK true rw_27 110 (op_stk (sg_const (0)) 111) := ok_iconst (by decide +kernel) (by unfold pz_in; decide)
theorem o_27_111 : pz_OK true rw_27 111 (op_stk (sg_const (0)) 112) := ok_iconst (by decide +kernel) (by unfold pz_in; decide)
theorem k_27_112 : pz_callOK true rw_27 rw_20 112 3 3 := ⟨39, (Or.inl wm_432), Or.inr ⟨(by decide +kernel), wm_433, wm_434, by unfold pz_np; decide +kernel, by decide, Or.inl ⟨_, _, rfl, by decide, rfl⟩⟩⟩
theorem o_27_115 : pz_OK true rw_27 115 (op_stk sg_pop 116) := ok_pop (by decide +kernel)
theorem o_27_116 : pz_OK true rw_27 116 (op_aload 0 117) := ok_aload_n (k := 0) (by decide +kernel)
theorem o_27_117 : pz_OK true rw_27 117 (op_iload 3 118) := ok_iload_n (k := 3) (by decide +kernel)
theorem o_27_118 : pz_OK true rw_27 118 (op_iload 4 120) := ok_iload (by decide +kernel)
theorem o_27_120 : pz_OK true rw_27 120 (op_iload 5 122) := ok_iload (by decide +kernel)
theorem k_27_122 : pz_callOK true rw_27 rw_19 122 4 3 := ⟨50, (Or.inl wm_453), Or.inr ⟨(by decide +kernel), wm_454, wm_455, by unfold pz_np; decide +kernel, by decide, Or.inl ⟨_, _, rfl, by decide, rfl⟩⟩⟩
theorem o_27_125 : pz_OK true rw_27 125 (op_aload 1 126) := ok_aload_n (k := 1) (by decide +kernel)
theorem k_27_126 : pz_callOK true rw_27 rw_65 126 1 9 := ⟨54, (Or.inl wm_457), Or.inr ⟨(by decide +kernel), wm_458, wm_459, by unfold pz_np; decide +kernel, by decide, Or.inl ⟨_, _, rfl, by decide, rfl⟩⟩⟩
theorem o_27_129 : pz_OK true rw_27 129 (op_ifz c_eq 134 132) := ok_if_eq (off := 5) (by decide +kernel) (by decide)
theorem o_27_132 : pz_OK true rw_27 132 (op_stk (sg_const (1)) 133) := ok_iconst (by decide +kernel) (by unfold pz_in; decide)
theorem o_27_133 : pz_OK true rw_27 133 (op_iret g_bool) := ok_iret (by decide +kernel) rfl pz_g_bool
theorem o_27_134 : pz_OK true rw_27 134 (op_aload 1 135) := ok_aload_n (k := 1) (by decide +kernel)
theorem o_27_135 : pz_OK true rw_27 135 (op_stk (sg_const (59)) 137) := ok_bipush (by decide +kernel) (by unfold pz_in; decide) (by decide)
theorem k_27_137 : pz_callOK true rw_27 rw_68 137 2 9 := ⟨43, (Or.inl wm_425), Or.inr ⟨(by decide +kernel), wm_426, wm_427, by unfold pz_np; decide +kernel, by decide, Or.inl ⟨_, _, rfl, by decide, rfl⟩⟩⟩
theorem o_27_140 : pz_OK true rw_27 140 (op_ifz c_ne 145 143) := ok_if_ne (off := 5) (by decide +kernel) (by decide)
theorem o_27_143 : pz_OK true rw_27 143 (op_stk (sg_const (0)) 144) := ok_iconst (by decide +kernel) (by unfold pz_in; decide)
theorem o_27_144 : pz_OK true rw_27 144 (op_iret g_bool) := ok_iret (by decide +kernel) rfl pz_g_bool
theorem o_27_145 : pz_OK true rw_27 145 (op_iinc 2 (1) 148) := ok_iinc (by decide +kernel)
theorem o_27_148 : pz_OK true rw_27 148 (op_goto 6) := ok_goto (off := -142) (by decide +kernel) (by decide)
theorem o_27_151 : pz_OK true rw_27 151 (op_stk (sg_const (0)) 152) := ok_iconst (by decide +kernel) (by unfold pz_in; decide)
theorem o_27_152 : pz_OK true rw_27 152 (op_iret g_bool) := ok_iret (by decide +kernel) rfl pz_g_bool
set_option maxRecDepth 20000 in
theorem a_27 : pz_all true 138 rw_27 pg_27 := ⟨o_27_0, ⟨⟨rw_18, tq_18, rfl, k_27_1⟩, ⟨o_27_4, ⟨o_27_5, ⟨o_27_6, ⟨o_27_7, ⟨o_27_9, ⟨o_27_12, ⟨o_27_13, ⟨⟨rw_69, tq_69, rfl, k_27_15⟩, ⟨o_27_18, ⟨o_27_19, ⟨o_27_20, ⟨o_27_23, ⟨o_27_24, ⟨⟨rw_72, tq_72, rfl, k_27_25⟩, ⟨o_27_28, ⟨o_27_29, ⟨o_27_30, ⟨o_27_32, ⟨o_27_35, ⟨o_27_36, ⟨⟨rw_72, tq_72, rfl, k_27_37⟩, ⟨o_27_40, ⟨o_27_41, ⟨⟨rw_67, tq_67, rfl, k_27_42⟩, ⟨o_27_45, ⟨o_27_46, ⟨o_27_49, ⟨o_27_51, ⟨o_27_52, ⟨o_27_53, ⟨o_27_56, ⟨o_27_57, ⟨o_27_58, ⟨⟨rw_30, tq_30, rfl, k_27_59⟩, ⟨o_27_62, ⟨o_27_65, ⟨o_27_66, ⟨o_27_67, ⟨o_27_68, ⟨o_27_69, ⟨⟨rw_20, tq_20, rfl, k_27_70⟩, ⟨o_27_73, ⟨o_27_74, ⟨o_27_75, ⟨o_27_78, ⟨o_27_80, ⟨o_27_81, ⟨⟨rw_68, tq_68, rfl, k_27_83⟩, ⟨o_27_86, ⟨o_27_89, ⟨o_27_90, ⟨o_27_91, ⟨⟨rw_28, tq_28, rfl, k_27_92⟩, ⟨o_27_95, ⟨o_27_98, ⟨o_27_99, ⟨⟨rw_68, tq_68, rfl, k_27_101⟩, ⟨o_27_104, ⟨o_27_107, ⟨o_27_108, ⟨o_27_109, ⟨o_27_110, ⟨o_27_111, ⟨⟨rw_20, tq_20, rfl, k_27_112⟩, ⟨o_27_115, ⟨o_27_116, ⟨o_27_117, ⟨o_27_118, ⟨o_27_120, ⟨⟨rw_19, tq_19, rfl, k_27_122⟩, ⟨o_27_125, ⟨⟨rw_65, tq_65, rfl, k_27_126⟩, ⟨o_27_129, ⟨o_27_132, ⟨o_27_133, ⟨o_27_134, ⟨o_27_135, ⟨⟨rw_68, tq_68, rfl, k_27_137⟩, ⟨o_27_140, ⟨o_27_143, ⟨o_27_144, ⟨o_27_145, ⟨o_27_148, ⟨o_27_151, ⟨o_27_152, trivial⟩⟩⟩⟩⟩⟩⟩⟩⟩⟩⟩⟩⟩⟩⟩⟩⟩⟩⟩⟩⟩⟩⟩⟩⟩⟩⟩⟩⟩⟩⟩⟩⟩⟩⟩⟩⟩⟩⟩⟩⟩⟩⟩⟩⟩⟩⟩⟩⟩⟩⟩⟩⟩⟩⟩⟩⟩⟩⟩⟩⟩⟩⟩⟩⟩⟩⟩⟩⟩⟩⟩⟩⟩⟩⟩⟩⟩⟩⟩⟩⟩⟩⟩⟩⟩⟩⟩
theorem ro_28 : pz_rowOK rw_28 := ⟨by decide +kernel, wm_444, wm_12, by decide +kernel⟩
theorem o_28_0 : pz_OK true rw_28 0 (op_stk (sg_const (-1)) 1) := ok_iconst (by decide +kernel) (by unfold pz_in; decide)
theorem o_28_1 : pz_OK true rw_28 1 (op_istore 3 2) := ok_istore_n (k := 3) (by decide +kernel)
theorem o_28_2 : pz_OK true rw_28 2 (op_stk (sg_const (-1)) 3) := ok_iconst (by decide +kernel) (by unfold pz_in; decide)
theorem o_28_3 : pz_OK true rw_28 3 (op_istore 4 5) := ok_istore (by decide +kernel)
theorem o_28_5 : pz_OK true rw_28 5 (op_stk (sg_const (0)) 6) := ok_iconst (by decide +kernel) (by unfold pz_in; decide)
theorem o_28_6 : pz_OK true rw_28 6 (op_istore 5 8) := ok_istore (by decide +kernel)
theorem o_28_8 : pz_OK true rw_28 8 (op_iload 5 10) := ok_iload (by decide +kernel)
theorem o_28_10 : pz_OK true rw_28 10 (op_stk (sg_const (256)) 13) := ok_sipush (by decide +kernel) (by unfold pz_in; decide) (by decide)
theorem o_28_13 : pz_OK true rw_28 13 (op_icmp c_ge 88 16) := ok_icmp_ge (off := 75) (by decide +kernel) (by decide)
theorem o_28_16 : pz_OK true rw_28 16 (op_aload 0 17) := ok_aload_n (k := 0) (by decide +kernel)
theorem o_28_17 : pz_OK true rw_28 17 (op_aload 1 18) := ok_aload_n (k := 1) (by decide +kernel)
theorem o_28_18 : pz_OK true rw_28 18 (op_iload 2 19) := ok_iload_n (k := 2) (by decide +kernel)
theorem k_28_19 : pz_callOK true rw_28 rw_29 19 3 0 := ⟨58, (Or.inl wm_445), Or.inl ⟨(by decide +kernel), wm_446, by unfold pz_np; decide +kernel⟩⟩
theorem o_28_22 : pz_OK true rw_28 22 (op_ifz c_ne 27 25) := ok_if_ne (off := 5) (by decide +kernel) (by decide)
theorem o_28_25 : pz_OK true rw_28 25 (op_stk (sg_const (0)) 26) := ok_iconst (by decide +kernel) (by unfold pz_in; decide)
theorem o_28_26 : pz_OK true rw_28 26 (op_iret g_bool) := ok_iret (by decide +kernel) rfl pz_g_bool
theorem o_28_27 : pz_OK true rw_28 27 (op_aload 0 28) := ok_aload_n (k := 0) (by decide +kernel)
theorem o_28_28 : pz_OK true rw_28 28 (op_iload 3 29) := ok_iload_n (k := 3) (by decide +kernel)
theorem k_28_29 : pz_callOK true rw_28 rw_21 29 2 3 := ⟨61, (Or.inl wm_449), Or.inr ⟨(by decide +kernel), wm_450, wm_451, by unfold pz_np; decide +kernel, by decide, Or.inl ⟨_, _, rfl, by decide, rfl⟩⟩⟩
theorem o_28_32 : pz_OK true rw_28 32 (op_stk (sg_const (-1)) 33) := ok_iconst (by decide +kernel) (by unfold pz_in; decide)
theorem o_28_33 : pz_OK true rw_28 33 (op_istore 3 34) := ok_istore_n (k := 3) (by decide +kernel)
theorem o_28_34 : pz_OK true rw_28 34 (op_aload 1 35) := ok_aload_n (k := 1) (by decide +kernel)
theorem k_28_35 : pz_callOK true rw_28 rw_66 35 1 9 := ⟨65, (Or.inl wm_424), Or.inr ⟨(by decide +kernel), wm_359, wm_360, by unfold pz_np; decide +kernel, by decide, Or.inl ⟨_, _, rfl, by decide, rfl⟩⟩⟩
theorem o_28_38 : pz_OK true rw_28 38 (op_stk (sg_const (38)) 40) := ok_bipush (by decide +kernel) (by unfold pz_in; decide) (by decide)
theorem o_28_40 : pz_OK true rw_28 40 (op_icmp c_ne 53 43) := ok_icmp_ne (off := 13) (by decide +kernel) (by decide)
theorem o_28_43 : pz_OK true rw_28 43 (op_aload 0 44) := ok_aload_n (k := 0) (by decide +kernel)
theorem o_28_44 : pz_OK true rw_28 44 (op_stk (sg_const (4)) 45) := ok_iconst (by decide +kernel) (by unfold pz_in; decide)
theorem o_28_45 : pz_OK true rw_28 45 (op_stk (sg_const (0)) 46) := ok_iconst (by decide +kernel) (by unfold pz_in; decide)
theorem k_28_46 : pz_callOK true rw_28 rw_20 46 3 3 := ⟨39, (Or.inl wm_432), Or.inr ⟨(by decide +kernel), wm_433, wm_434, by unfold pz_np; decide +kernel, by decide, Or.inl ⟨_, _, rfl, by decide, rfl⟩⟩⟩
theorem o_28_49 : pz_OK true rw_28 49 (op_istore 3 50) := ok_istore_n (k := 3) (by decide +kernel)
theorem o_28_50 : pz_OK true rw_28 50 (op_goto 78) := ok_goto (off := 28) (by decide +kernel) (by decide)
theorem o_28_53 : pz_OK true rw_28 53 (op_aload 0 54) := ok_aload_n (k := 0) (by decide +kernel)
theorem o_28_54 : pz_OK true rw_28 54 (op_iload 4 56) := ok_iload (by decide +kernel)
theorem k_28_56 : pz_callOK true rw_28 rw_21 56 2 3 := ⟨61, (Or.inl wm_449), Or.inr ⟨(by decide +kernel), wm_450, wm_451, by unfold pz_np; decide +kernel, by decide, Or.inl ⟨_, _, rfl, by decide, rfl⟩⟩⟩
theorem o_28_59 : pz_OK true rw_28 59 (op_aload 1 60) := ok_aload_n (k := 1) (by decide +kernel)
theorem k_28_60 : pz_callOK true rw_28 rw_66 60 1 9 := ⟨65, (Or.inl wm_424), Or.inr ⟨(by decide +kernel), wm_359, wm_360, by unfold pz_np; decide +kernel, by decide, Or.inl ⟨_, _, rfl, by decide, rfl⟩⟩⟩
theorem o_28_63 : pz_OK true rw_28 63 (op_stk (sg_const (124)) 65) := ok_bipush (by decide +kernel) (by unfold pz_in; decide) (by decide)
theorem o_28_65 : pz_OK true rw_28 65 (op_icmp c_eq 70 68) := ok_icmp_eq (off := 5) (by decide +kernel) (by decide)
theorem o_28_68 : pz_OK true rw_28 68 (op_stk (sg_const (1)) 69) := ok_iconst (by decide +kernel) (by unfold pz_in; decide)
theorem o_28_69 : pz_OK true rw_28 69 (op_iret g_bool) := ok_iret (by decide +kernel) rfl pz_g_bool
theorem o_28_70 : pz_OK true rw_28 70 (op_aload 0 71) := ok_aload_n (k := 0) (by decide +kernel)
theorem o_28_71 : pz_OK true rw_28 71 (op_stk (sg_const (5)) 72) := ok_iconst (by decide +kernel) (by unfold pz_in; decide)
theorem o_28_72 : pz_OK true rw_28 72 (op_stk (sg_const (0)) 73) := ok_iconst (by decide +kernel) (by unfold pz_in; decide)
theorem k_28_73 : pz_callOK true rw_28 rw_20 73 3 3 := ⟨39, (Or.inl wm_432), Or.inr ⟨(by decide +kernel), wm_433, wm_434, by unfold pz_np; decide +kernel, by decide, Or.inl ⟨_, _, rfl, by decide, rfl⟩⟩⟩
theorem o_28_76 : pz_OK true rw_28 76 (op_istore 4 78) := ok_istore (by decide +kernel)
theorem o_28_78 : pz_OK true rw_28 78 (op_aload 1 79) := ok_aload_n (k := 1) (by decide +kernel)
theorem k_28_79 : pz_callOK true rw_28 rw_67 79 1 9 := ⟨28, (Or.inl wm_414), Or.inr ⟨(by decide +kernel), wm_415, wm_416, by unfold pz_np; decide +kernel, by decide, Or.inl ⟨_, _, rfl, by decide, rfl⟩⟩⟩
theorem o_28_82 : pz_OK true rw_28 82 (op_iinc 5 (1) 85) := ok_iinc (by decide +kernel)
theorem o_28_85 : pz_OK true rw_28 85 (op_goto 8) := ok_goto (off := -77) (by decide +kernel) (by decide)
theorem o_28_88 : pz_OK true rw_28 88 (op_stk (sg_const (0)) 89) := ok_iconst (by decide +kernel) (by unfold pz_in; decide)
theorem o_28_89 : pz_OK true rw_28 89 (op_iret g_bool) := ok_iret (by decide +kernel) rfl pz_g_bool
set_option maxRecDepth 20000 in
theorem a_28 : pz_all true 138 rw_28 pg_28 := ⟨o_28_0, ⟨o_28_1, ⟨o_28_2, ⟨o_28_3, ⟨o_28_5, ⟨o_28_6, ⟨o_28_8, ⟨o_28_10, ⟨o_28_13, ⟨o_28_16, ⟨o_28_17, ⟨o_28_18, ⟨⟨rw_29, tq_29, rfl, k_28_19⟩, ⟨o_28_22, ⟨o_28_25, ⟨o_28_26, ⟨o_28_27, ⟨o_28_28, ⟨⟨rw_21, tq_21, rfl, k_28_29⟩, ⟨o_28_32, ⟨o_28_33, ⟨o_28_34, ⟨⟨rw_66, tq_66, rfl, k_28_35⟩, ⟨o_28_38, ⟨o_28_40, ⟨o_28_43, ⟨o_28_44, ⟨o_28_45, ⟨⟨rw_20, tq_20, rfl, k_28_46⟩, ⟨o_28_49, ⟨o_28_50, ⟨o_28_53, ⟨o_28_54, ⟨⟨rw_21, tq_21, rfl, k_28_56⟩, ⟨o_28_59, ⟨⟨rw_66, tq_66, rfl, k_28_60⟩, ⟨o_28_63, ⟨o_28_65, ⟨o_28_68, ⟨o_28_69, ⟨o_28_70, ⟨o_28_71, ⟨o_28_72, ⟨⟨rw_20, tq_20, rfl, k_28_73⟩, ⟨o_28_76, ⟨o_28_78, ⟨⟨rw_67, tq_67, rfl, k_28_79⟩, ⟨o_28_82, ⟨o_28_85, ⟨o_28_88, ⟨o_28_89, trivial⟩⟩⟩⟩⟩⟩⟩⟩⟩⟩⟩⟩⟩⟩⟩⟩⟩⟩⟩⟩⟩⟩⟩⟩⟩⟩⟩⟩⟩⟩⟩⟩⟩⟩⟩⟩⟩⟩⟩⟩⟩⟩⟩⟩⟩⟩⟩⟩⟩⟩⟩
theorem ro_29 : pz_rowOK rw_29 := ⟨by decide +kernel, wm_447, wm_12, by decide +kernel⟩
theorem o_29_0 : pz_OK true rw_29 0 (op_aload 1 1) := ok_aload_n (k := 1) (by decide +kernel)
theorem k_29_1 : pz_callOK true rw_29 rw_66 1 1 9 := ⟨65, (Or.inl wm_424), Or.inr ⟨(by decide +kernel), wm_359, wm_360, by unfold pz_np; decide +kernel, by decide, Or.inl ⟨_, _, rfl, by decide, rfl⟩⟩⟩
theorem o_29_4 : pz_OK true rw_29 4 (op_istore 3 5) := ok_istore_n (k := 3) (by decide +kernel)
theorem o_29_5 : pz_OK true rw_29 5 (op_iload 3 6) := ok_iload_n (k := 3) (by decide +kernel)
theorem o_29_6 : pz_OK true rw_29 6 (op_stk (sg_const (40)) 8) := ok_bipush (by decide +kernel) (by unfold pz_in; decide) (by decide)
theorem o_29_8 : pz_OK true rw_29 8 (op_icmp c_eq 17 11) := ok_icmp_eq (off := 9) (by decide +kernel) (by decide)
theorem o_29_11 : pz_OK true rw_29 11 (op_iload 3 12) := ok_iload_n (k := 3) (by decide +kernel)
theorem o_29_12 : pz_OK true rw_29 12 (op_stk (sg_const (33)) 14) := ok_bipush (by decide +kernel) (by unfold pz_in; decide) (by decide)
theorem o_29_14 : pz_OK true rw_29 14 (op_icmp c_ne 85 17) := ok_icmp_ne (off := 71) (by decide +kernel) (by decide)
theorem o_29_17 : pz_OK true rw_29 17 (op_iload 2 18) := ok_iload_n (k := 2) (by decide +kernel)
theorem o_29_18 : pz_OK true rw_29 18 (op_stk (sg_const (6)) 20) := ok_bipush (by decide +kernel) (by unfold pz_in; decide) (by decide)
theorem o_29_20 : pz_OK true rw_29 20 (op_icmp c_lt 29 23) := ok_icmp_lt (off := 9) (by decide +kernel) (by decide)
theorem o_29_23 : pz_OK true rw_29 23 (op_aload 1 24) := ok_aload_n (k := 1) (by decide +kernel)
theorem o_29_24 : pz_OK true rw_29 24 (op_stk (sg_const (5)) 25) := ok_iconst (by decide +kernel) (by unfold pz_in; decide)
theorem k_29_25 : pz_callOK true rw_29 rw_72 25 2 9 := ⟨24, (Or.inl wm_410), Or.inr ⟨(by decide +kernel), wm_411, wm_412, by unfold pz_np; decide +kernel, by decide, Or.inl ⟨_, _, rfl, by decide, rfl⟩⟩⟩
theorem o_29_28 : pz_OK true rw_29 28 (op_iret g_bool) := ok_iret (by decide +kernel) rfl pz_g_bool
theorem o_29_29 : pz_OK true rw_29 29 (op_aload 1 30) := ok_aload_n (k := 1) (by decide +kernel)
theorem k_29_30 : pz_callOK true rw_29 rw_67 30 1 9 := ⟨28, (Or.inl wm_414), Or.inr ⟨(by decide +kernel), wm_415, wm_416, by unfold pz_np; decide +kernel, by decide, Or.inl ⟨_, _, rfl, by decide, rfl⟩⟩⟩
theorem o_29_33 : pz_OK true rw_29 33 (op_iload 3 34) := ok_iload_n (k := 3) (by decide +kernel)
theorem o_29_34 : pz_OK true rw_29 34 (op_stk (sg_const (40)) 36) := ok_bipush (by decide +kernel) (by unfold pz_in; decide) (by decide)
theorem o_29_36 : pz_OK true rw_29 36 (op_icmp c_ne 65 39) := ok_icmp_ne (off := 29) (by decide +kernel) (by decide)
theorem o_29_39 : pz_OK true rw_29 39 (op_aload 0 40) := ok_aload_n (k := 0) (by decide +kernel)
theorem o_29_40 : pz_OK true rw_29 40 (op_aload 1 41) := ok_aload_n (k := 1) (by decide +kernel)
theorem o_29_41 : pz_OK true rw_29 41 (op_iload 2 42) := ok_iload_n (k := 2) (by decide +kernel)
theorem o_29_42 : pz_OK true rw_29 42 (op_stk (sg_const (1)) 43) := ok_iconst (by decide +kernel) (by unfold pz_in; decide)
theorem o_29_43 : pz_OK true rw_29 43 (op_stk (sg_bin f_add) 44) := ok_iadd (by decide +kernel)
theorem k_29_44 : pz_callOK true rw_29 rw_28 44 3 0 := ⟨47, (Or.inl wm_442), Or.inl ⟨(by decide +kernel), wm_443, by unfold pz_np; decide +kernel⟩⟩
theorem o_29_47 : pz_OK true rw_29 47 (op_ifz c_eq 63 50) := ok_if_eq (off := 16) (by decide +kernel) (by decide)
theorem o_29_50 : pz_OK true rw_29 50 (op_aload 1 51) := ok_aload_n (k := 1) (by decide +kernel)
theorem o_29_51 : pz_OK true rw_29 51 (op_stk (sg_const (41)) 53) := ok_bipush (by decide +kernel) (by unfold pz_in; decide) (by decide)
theorem k_29_53 : pz_callOK true rw_29 rw_68 53 2 9 := ⟨43, (Or.inl wm_425), Or.inr ⟨(by decide +kernel), wm_426, wm_427, by unfold pz_np; decide +kernel, by decide, Or.inl ⟨_, _, rfl, by decide, rfl⟩⟩⟩
theorem o_29_56 : pz_OK true rw_29 56 (op_ifz c_eq 63 59) := ok_if_eq (off := 7) (by decide +kernel) (by decide)
theorem o_29_59 : pz_OK true rw_29 59 (op_stk (sg_const (1)) 60) := ok_iconst (by decide +kernel) (by unfold pz_in; decide)
theorem o_29_60 : pz_OK true rw_29 60 (op_goto 64) := ok_goto (off := 4) (by decide +kernel) (by decide)
theorem o_29_63 : pz_OK true rw_29 63 (op_stk (sg_const (0)) 64) := ok_iconst (by decide +kernel) (by unfold pz_in; decide)
theorem o_29_64 : pz_OK true rw_29 64 (op_iret g_bool) := ok_iret (by decide +kernel) rfl pz_g_bool
theorem o_29_65 : pz_OK true rw_29 65 (op_aload 0 66) := ok_aload_n (k := 0) (by decide +kernel)
theorem o_29_66 : pz_OK true rw_29 66 (op_aload 1 67) := ok_aload_n (k := 1) (by decide +kernel)
theorem o_29_67 : pz_OK true rw_29 67 (op_iload 2 68) := ok_iload_n (k := 2) (by decide +kernel)
theorem o_29_68 : pz_OK true rw_29 68 (op_stk (sg_const (1)) 69) := ok_iconst (by decide +kernel) (by unfold pz_in; decide)
theorem o_29_69 : pz_OK true rw_29 69 (op_stk (sg_bin f_add) 70) := ok_iadd (by decide +kernel)
theorem k_29_70 : pz_callOK true rw_29 rw_29 70 3 0 := ⟨58, (Or.inl wm_445), Or.inl ⟨(by decide +kernel), wm_446, by unfold pz_np; decide +kernel⟩⟩
theorem o_29_73 : pz_OK true rw_29 73 (op_istore 4 75) := ok_istore (by decide +kernel)
theorem o_29_75 : pz_OK true rw_29 75 (op_aload 0 76) := ok_aload_n (k := 0) (by decide +kernel)
theorem o_29_76 : pz_OK true rw_29 76 (op_stk (sg_const (3)) 77) := ok_iconst (by decide +kernel) (by unfold pz_in; decide)
theorem o_29_77 : pz_OK true rw_29 77 (op_stk (sg_const (0)) 78) := ok_iconst (by decide +kernel) (by unfold pz_in; decide)
theorem k_29_78 : pz_callOK true rw_29 rw_20 78 3 3 := ⟨39, (Or.inl wm_432), Or.inr ⟨(by decide +kernel), wm_433, wm_434, by unfold pz_np; decide +kernel, by decide, Or.inl ⟨_, _, rfl, by decide, rfl⟩⟩⟩
theorem o_29_81 : pz_OK true rw_29 81 (op_stk sg_pop 82) := ok_pop (by decide +kernel)
theorem o_29_82 : pz_OK true rw_29 82 (op_iload 4 84) := ok_iload (by decide +kernel)
theorem o_29_84 : pz_OK true rw_29 84 (op_iret g_bool) := ok_iret (by decide +kernel) rfl pz_g_bool
theorem o_29_85 : pz_OK true rw_29 85 (op_aload 0 86) := ok_aload_n (k := 0) (by decide +kernel)
theorem o_29_86 : pz_OK true rw_29 86 (op_aload 1 87) := ok_aload_n (k := 1) (by decide +kernel)
theorem o_29_87 : pz_OK true rw_29 87 (op_iload 2 88) := ok_iload_n (k := 2) (by decide +kernel)
theorem k_29_88 : pz_callOK true rw_29 rw_30 88 3 0 := ⟨35, (Or.inl wm_418), Or.inl ⟨(by decide +kernel), wm_419, by unfold pz_np; decide +kernel⟩⟩
theorem o_29_91 : pz_OK true rw_29 91 (op_ifz c_ne 96 94) := ok_if_ne (off := 5) (by decide +kernel) (by decide)
theorem o_29_94 : pz_OK true rw_29 94 (op_stk (sg_const (0)) 95) := ok_iconst (by decide +kernel) (by unfold pz_in; decide)
theorem o_29_95 : pz_OK true rw_29 95 (op_iret g_bool) := ok_iret (by decide +kernel) rfl pz_g_bool
theorem o_29_96 : pz_OK true rw_29 96 (op_aload 1 97) := ok_aload_n (k := 1) (by decide +kernel)
theorem o_29_97 : pz_OK true rw_29 97 (op_psh (pzR 83) 99) := ok_ldcS (i := 2) (by decide) rfl (by decide +kernel)
theorem k_29_99 : pz_callOK true rw_29 rw_69 99 2 9 := ⟨18, (Or.inl wm_354), Or.inr ⟨(by decide +kernel), wm_355, wm_356, by unfold pz_np; decide +kernel, by decide, Or.inl ⟨_, _, rfl, by decide, rfl⟩⟩⟩
theorem o_29_102 : pz_OK true rw_29 102 (op_istore 4 104) := ok_istore (by decide +kernel)
theorem o_29_104 : pz_OK true rw_29 104 (op_iload 4 106) := ok_iload (by decide +kernel)
theorem o_29_106 : pz_OK true rw_29 106 (op_ifz c_ge 115 109) := ok_if_ge (off := 9) (by decide +kernel) (by decide)
theorem o_29_109 : pz_OK true rw_29 109 (op_aload 1 110) := ok_aload_n (k := 1) (by decide +kernel)
theorem o_29_110 : pz_OK true rw_29 110 (op_stk (sg_const (1)) 111) := ok_iconst (by decide +kernel) (by unfold pz_in; decide)
theorem k_29_111 : pz_callOK true rw_29 rw_72 111 2 9 := ⟨24, (Or.inl wm_410), Or.inr ⟨(by decide +kernel), wm_411, wm_412, by unfold pz_np; decide +kernel, by decide, Or.inl ⟨_, _, rfl, by decide, rfl⟩⟩⟩
theorem o_29_114 : pz_OK true rw_29 114 (op_iret g_bool) := ok_iret (by decide +kernel) rfl pz_g_bool
theorem o_29_115 : pz_OK true rw_29 115 (op_aload 1 116) := ok_aload_n (k := 1) (by decide +kernel)
theorem k_29_116 : pz_callOK true rw_29 rw_67 116 1 9 := ⟨28, (Or.inl wm_414), Or.inr ⟨(by decide +kernel), wm_415, wm_416, by unfold pz_np; decide +kernel, by decide, Or.inl ⟨_, _, rfl, by decide, rfl⟩⟩⟩
theorem o_29_119 : pz_OK true rw_29 119 (op_aload 0 120) := ok_aload_n (k := 0) (by decide +kernel)
theorem o_29_120 : pz_OK true rw_29 120 (op_aload 1 121) := ok_aload_n (k := 1) (by decide +kernel)
theorem o_29_121 : pz_OK true rw_29 121 (op_iload 2 122) := ok_iload_n (k := 2) (by decide +kernel)
theorem k_29_122 : pz_callOK true rw_29 rw_30 122 3 0 := ⟨35, (Or.inl wm_418), Or.inl ⟨(by decide +kernel), wm_419, by unfold pz_np; decide +kernel⟩⟩
theorem o_29_125 : pz_OK true rw_29 125 (op_istore 5 127) := ok_istore (by decide +kernel)
theorem o_29_127 : pz_OK true rw_29 127 (op_aload 0 128) := ok_aload_n (k := 0) (by decide +kernel)
theorem o_29_128 : pz_OK true rw_29 128 (op_stk (sg_const (11)) 130) := ok_bipush (by decide +kernel) (by unfold pz_in; decide) (by decide)
theorem o_29_130 : pz_OK true rw_29 130 (op_iload 4 132) := ok_iload (by decide +kernel)
theorem o_29_132 : pz_OK true rw_29 132 (op_stk (sg_bin f_add) 133) := ok_iadd (by decide +kernel)
theorem o_29_133 : pz_OK true rw_29 133 (op_stk (sg_const (0)) 134) := ok_iconst (by decide +kernel) (by unfold pz_in; decide)
theorem k_29_134 : pz_callOK true rw_29 rw_20 134 3 3 := ⟨39, (Or.inl wm_432), Or.inr ⟨(by decide +kernel), wm_433, wm_434, by unfold pz_np; decide +kernel, by decide, Or.inl ⟨_, _, rfl, by decide, rfl⟩⟩⟩
theorem o_29_137 : pz_OK true rw_29 137 (op_stk sg_pop 138) := ok_pop (by decide +kernel)
theorem o_29_138 : pz_OK true rw_29 138 (op_iload 5 140) := ok_iload (by decide +kernel)
theorem o_29_140 : pz_OK true rw_29 140 (op_iret g_bool) := ok_iret (by decide +kernel) rfl pz_g_bool
set_option maxRecDepth 20000 in
theorem a_29 : pz_all true 138 rw_29 pg_29 := ⟨o_29_0, ⟨⟨rw_66, tq_66, rfl, k_29_1⟩, ⟨o_29_4, ⟨o_29_5, ⟨o_29_6, ⟨o_29_8, ⟨o_29_11, ⟨o_29_12, ⟨o_29_14, ⟨o_29_17, ⟨o_29_18, ⟨o_29_20, ⟨o_29_23, ⟨o_29_24, ⟨⟨rw_72, tq_72, rfl, k_29_25⟩, ⟨o_29_28, ⟨o_29_29, ⟨⟨rw_67, tq_67, rfl, k_29_30⟩, ⟨o_29_33, ⟨o_29_34, ⟨o_29_36, ⟨o_29_39, ⟨o_29_40, ⟨o_29_41, ⟨o_29_42, ⟨o_29_43, ⟨⟨rw_28, tq_28, rfl, k_29_44⟩, ⟨o_29_47, ⟨o_29_50, ⟨o_29_51, ⟨⟨rw_68, tq_68, rfl, k_29_53⟩, ⟨o_29_56, ⟨o_29_59, ⟨o_29_60, ⟨o_29_63, ⟨o_29_64, ⟨o_29_65, ⟨o_29_66, ⟨o_29_67, ⟨o_29_68, ⟨o_29_69, ⟨⟨rw_29, tq_29, rfl, k_29_70⟩, ⟨o_29_73, ⟨o_29_75, ⟨o_29_76, ⟨o_29_77, ⟨⟨rw_20, tq_20, rfl, k_29_78⟩, ⟨o_29_81, ⟨o_29_82, ⟨o_29_84, ⟨o_29_85, ⟨o_29_86, ⟨o_29_87, ⟨⟨rw_30, tq_30, rfl, k_29_88⟩, ⟨o_29_91, ⟨o_29_94, ⟨o_29_95, ⟨o_29_96, ⟨o_29_97, ⟨⟨rw_69, tq_69, rfl, k_29_99⟩, ⟨o_29_102, ⟨o_29_104, ⟨o_29_106, ⟨o_29_109, ⟨o_29_110, ⟨⟨rw_72, tq_72, rfl, k_29_111⟩, ⟨o_29_114, ⟨o_29_115, ⟨⟨rw_67, tq_67, rfl, k_29_116⟩, ⟨o_29_119, ⟨o_29_120, ⟨o_29_121, ⟨⟨rw_30, tq_30, rfl, k_29_122⟩, ⟨o_29_125, ⟨o_29_127, ⟨o_29_128, ⟨o_29_130, ⟨o_29_132, ⟨o_29_133, ⟨⟨rw_20, tq_20, rfl, k_29_134⟩, ⟨o_29_137, ⟨o_29_138, ⟨o_29_140, trivial⟩⟩⟩⟩⟩⟩⟩⟩⟩⟩⟩⟩⟩⟩⟩⟩⟩⟩⟩⟩⟩⟩⟩⟩⟩⟩⟩⟩⟩⟩⟩⟩⟩⟩⟩⟩⟩⟩⟩⟩⟩⟩⟩⟩⟩⟩⟩⟩⟩⟩⟩⟩⟩⟩⟩⟩⟩⟩⟩⟩⟩⟩⟩⟩⟩⟩⟩⟩⟩⟩⟩⟩⟩⟩⟩⟩⟩⟩⟩⟩⟩⟩⟩
theorem ro_30 : pz_rowOK rw_30 := ⟨by decide +kernel, wm_420, wm_12, by decide +kernel⟩
theorem o_30_0 : pz_OK true rw_30 0 (op_stk (sg_const (-1)) 1) := ok_iconst (by decide +kernel) (by unfold pz_in; decide)
theorem o_30_1 : pz_OK true rw_30 1 (op_istore 3 2) := ok_istore_n (k := 3) (by decide +kernel)
theorem o_30_2 : pz_OK true rw_30 2 (op_stk (sg_const (-1)) 3) := ok_iconst (by decide +kernel) (by unfold pz_in; decide)
theorem o_30_3 : pz_OK true rw_30 3 (op_istore 4 5) := ok_istore (by decide +kernel)
theorem o_30_5 : pz_OK true rw_30 5 (op_stk (sg_const (0)) 6) := ok_iconst (by decide +kernel) (by unfold pz_in; decide)
theorem o_30_6 : pz_OK true rw_30 6 (op_istore 5 8) := ok_istore (by decide +kernel)
theorem o_30_8 : pz_OK true rw_30 8 (op_iload 5 10) := ok_iload (by decide +kernel)
theorem o_30_10 : pz_OK true rw_30 10 (op_stk (sg_const (256)) 13) := ok_sipush (by decide +kernel) (by unfold pz_in; decide) (by decide)
theorem o_30_13 : pz_OK true rw_30 13 (op_icmp c_ge 93 16) := ok_icmp_ge (off := 80) (by decide +kernel) (by decide)
theorem o_30_16 : pz_OK true rw_30 16 (op_aload 0 17) := ok_aload_n (k := 0) (by decide +kernel)
theorem o_30_17 : pz_OK true rw_30 17 (op_aload 1 18) := ok_aload_n (k := 1) (by decide +kernel)
theorem o_30_18 : pz_OK true rw_30 18 (op_iload 2 19) := ok_iload_n (k := 2) (by decide +kernel)
theorem k_30_19 : pz_callOK true rw_30 rw_31 19 3 0 := ⟨71, (Or.inl wm_421), Or.inl ⟨(by decide +kernel), wm_422, by unfold pz_np; decide +kernel⟩⟩
theorem o_30_22 : pz_OK true rw_30 22 (op_ifz c_ne 27 25) := ok_if_ne (off := 5) (by decide +kernel) (by decide)
theorem o_30_25 : pz_OK true rw_30 25 (op_stk (sg_const (0)) 26) := ok_iconst (by decide +kernel) (by unfold pz_in; decide)
theorem o_30_26 : pz_OK true rw_30 26 (op_iret g_bool) := ok_iret (by decide +kernel) rfl pz_g_bool
theorem o_30_27 : pz_OK true rw_30 27 (op_iload 3 28) := ok_iload_n (k := 3) (by decide +kernel)
theorem o_30_28 : pz_OK true rw_30 28 (op_ifz c_lt 41 31) := ok_if_lt (off := 13) (by decide +kernel) (by decide)
theorem o_30_31 : pz_OK true rw_30 31 (op_aload 0 32) := ok_aload_n (k := 0) (by decide +kernel)
theorem o_30_32 : pz_OK true rw_30 32 (op_stk (sg_const (8)) 34) := ok_bipush (by decide +kernel) (by unfold pz_in; decide) (by decide)
theorem o_30_34 : pz_OK true rw_30 34 (op_iload 3 35) := ok_iload_n (k := 3) (by decide +kernel)
theorem o_30_35 : pz_OK true rw_30 35 (op_stk (sg_bin f_add) 36) := ok_iadd (by decide +kernel)
theorem o_30_36 : pz_OK true rw_30 36 (op_stk (sg_const (0)) 37) := ok_iconst (by decide +kernel) (by unfold pz_in; decide)
theorem k_30_37 : pz_callOK true rw_30 rw_20 37 3 3 := ⟨39, (Or.inl wm_432), Or.inr ⟨(by decide +kernel), wm_433, wm_434, by unfold pz_np; decide +kernel, by decide, Or.inl ⟨_, _, rfl, by decide, rfl⟩⟩⟩
theorem o_30_40 : pz_OK true rw_30 40 (op_stk sg_pop 41) := ok_pop (by decide +kernel)
theorem o_30_41 : pz_OK true rw_30 41 (op_aload 1 42) := ok_aload_n (k := 1) (by decide +kernel)
theorem o_30_42 : pz_OK true rw_30 42 (op_psh (pzR 84) 44) := ok_ldcS (i := 3) (by decide) rfl (by decide +kernel)
theorem k_30_44 : pz_callOK true rw_30 rw_69 44 2 9 := ⟨18, (Or.inl wm_354), Or.inr ⟨(by decide +kernel), wm_355, wm_356, by unfold pz_np; decide +kernel, by decide, Or.inl ⟨_, _, rfl, by decide, rfl⟩⟩⟩
theorem o_30_47 : pz_OK true rw_30 47 (op_istore 3 48) := ok_istore_n (k := 3) (by decide +kernel)
theorem o_30_48 : pz_OK true rw_30 48 (op_iload 3 49) := ok_iload_n (k := 3) (by decide +kernel)
theorem o_30_49 : pz_OK true rw_30 49 (op_ifz c_ge 83 52) := ok_if_ge (off := 34) (by decide +kernel) (by decide)
theorem o_30_52 : pz_OK true rw_30 52 (op_iload 4 54) := ok_iload (by decide +kernel)
theorem o_30_54 : pz_OK true rw_30 54 (op_ifz c_lt 68 57) := ok_if_lt (off := 14) (by decide +kernel) (by decide)
theorem o_30_57 : pz_OK true rw_30 57 (op_aload 0 58) := ok_aload_n (k := 0) (by decide +kernel)
theorem o_30_58 : pz_OK true rw_30 58 (op_stk (sg_const (6)) 60) := ok_bipush (by decide +kernel) (by unfold pz_in; decide) (by decide)
theorem o_30_60 : pz_OK true rw_30 60 (op_iload 4 62) := ok_iload (by decide +kernel)
theorem o_30_62 : pz_OK true rw_30 62 (op_stk (sg_bin f_add) 63) := ok_iadd (by decide +kernel)
theorem o_30_63 : pz_OK true rw_30 63 (op_stk (sg_const (0)) 64) := ok_iconst (by decide +kernel) (by unfold pz_in; decide)
theorem k_30_64 : pz_callOK true rw_30 rw_20 64 3 3 := ⟨39, (Or.inl wm_432), Or.inr ⟨(by decide +kernel), wm_433, wm_434, by unfold pz_np; decide +kernel, by decide, Or.inl ⟨_, _, rfl, by decide, rfl⟩⟩⟩
theorem o_30_67 : pz_OK true rw_30 67 (op_stk sg_pop 68) := ok_pop (by decide +kernel)
theorem o_30_68 : pz_OK true rw_30 68 (op_aload 1 69) := ok_aload_n (k := 1) (by decide +kernel)
theorem o_30_69 : pz_OK true rw_30 69 (op_psh (pzR 85) 71) := ok_ldcS (i := 4) (by decide) rfl (by decide +kernel)
theorem k_30_71 : pz_callOK true rw_30 rw_69 71 2 9 := ⟨18, (Or.inl wm_354), Or.inr ⟨(by decide +kernel), wm_355, wm_356, by unfold pz_np; decide +kernel, by decide, Or.inl ⟨_, _, rfl, by decide, rfl⟩⟩⟩
theorem o_30_74 : pz_OK true rw_30 74 (op_istore 4 76) := ok_istore (by decide +kernel)
theorem o_30_76 : pz_OK true rw_30 76 (op_iload 4 78) := ok_iload (by decide +kernel)
theorem o_30_78 : pz_OK true rw_30 78 (op_ifz c_ge 83 81) := ok_if_ge (off := 5) (by decide +kernel) (by decide)
theorem o_30_81 : pz_OK true rw_30 81 (op_stk (sg_const (1)) 82) := ok_iconst (by decide +kernel) (by unfold pz_in; decide)
theorem o_30_82 : pz_OK true rw_30 82 (op_iret g_bool) := ok_iret (by decide +kernel) rfl pz_g_bool
theorem o_30_83 : pz_OK true rw_30 83 (op_aload 1 84) := ok_aload_n (k := 1) (by decide +kernel)
theorem k_30_84 : pz_callOK true rw_30 rw_67 84 1 9 := ⟨28, (Or.inl wm_414), Or.inr ⟨(by decide +kernel), wm_415, wm_416, by unfold pz_np; decide +kernel, by decide, Or.inl ⟨_, _, rfl, by decide, rfl⟩⟩⟩
theorem o_30_87 : pz_OK true rw_30 87 (op_iinc 5 (1) 90) := ok_iinc (by decide +kernel)
theorem o_30_90 : pz_OK true rw_30 90 (op_goto 8) := ok_goto (off := -82) (by decide +kernel) (by decide)
theorem o_30_93 : pz_OK true rw_30 93 (op_stk (sg_const (0)) 94) := ok_iconst (by decide +kernel) (by unfold pz_in; decide)
theorem o_30_94 : pz_OK true rw_30 94 (op_iret g_bool) := ok_iret (by decide +kernel) rfl pz_g_bool
set_option maxRecDepth 20000 in
theorem a_30 : pz_all true 138 rw_30 pg_30 := ⟨o_30_0, ⟨o_30_1, ⟨o_30_2, ⟨o_30_3, ⟨o_30_5, ⟨o_30_6, ⟨o_30_8, ⟨o_30_10, ⟨o_30_13, ⟨o_30_16, ⟨o_30_17, ⟨o_30_18, ⟨⟨rw_31, tq_31, rfl, k_30_19⟩, ⟨o_30_22, ⟨o_30_25, ⟨o_30_26, ⟨o_30_27, ⟨o_30_28, ⟨o_30_31, ⟨o_30_32, ⟨o_30_34, ⟨o_30_35, ⟨o_30_36, ⟨⟨rw_20, tq_20, rfl, k_30_37⟩, ⟨o_30_40, ⟨o_30_41, ⟨o_30_42, ⟨⟨rw_69, tq_69, rfl, k_30_44⟩, ⟨o_30_47, ⟨o_30_48, ⟨o_30_49, ⟨o_30_52, ⟨o_30_54, ⟨o_30_57, ⟨o_30_58, ⟨o_30_60, ⟨o_30_62, ⟨o_30_63, ⟨⟨rw_20, tq_20, rfl, k_30_64⟩, ⟨o_30_67, ⟨o_30_68, ⟨o_30_69, ⟨⟨rw_69, tq_69, rfl, k_30_71⟩, ⟨o_30_74, ⟨o_30_76, ⟨o_30_78, ⟨o_30_81, ⟨o_30_82, ⟨o_30_83, ⟨⟨rw_67, tq_67, rfl, k_30_84⟩, ⟨o_30_87, ⟨o_30_90, ⟨o_30_93, ⟨o_30_94, trivial⟩⟩⟩⟩⟩⟩⟩⟩⟩⟩⟩⟩⟩⟩⟩⟩⟩⟩⟩⟩⟩⟩⟩⟩⟩⟩⟩⟩⟩⟩⟩⟩⟩⟩⟩⟩⟩⟩⟩⟩⟩⟩⟩⟩⟩⟩⟩⟩⟩⟩⟩⟩⟩⟩
theorem ro_31 : pz_rowOK rw_31 := ⟨by decide +kernel, wm_423, wm_12, by decide +kernel⟩
theorem o_31_0 : pz_OK true rw_31 0 (op_aload 1 1) := ok_aload_n (k := 1) (by decide +kernel)
theorem k_31_1 : pz_callOK true rw_31 rw_66 1 1 9 := ⟨65, (Or.inl wm_424), Or.inr ⟨(by decide +kernel), wm_359, wm_360, by unfold pz_np; decide +kernel, by decide, Or.inl ⟨_, _, rfl, by decide, rfl⟩⟩⟩
theorem o_31_4 : pz_OK true rw_31 4 (op_stk (sg_const (91)) 6) := ok_bipush (by decide +kernel) (by unfold pz_in; decide) (by decide)
theorem o_31_6 : pz_OK true rw_31 6 (op_icmp c_ne 51 9) := ok_icmp_ne (off := 45) (by decide +kernel) (by decide)
theorem o_31_9 : pz_OK true rw_31 9 (op_iload 2 10) := ok_iload_n (k := 2) (by decide +kernel)
theorem o_31_10 : pz_OK true rw_31 10 (op_stk (sg_const (6)) 12) := ok_bipush (by decide +kernel) (by unfold pz_in; decide) (by decide)
theorem o_31_12 : pz_OK true rw_31 12 (op_icmp c_lt 21 15) := ok_icmp_lt (off := 9) (by decide +kernel) (by decide)
theorem o_31_15 : pz_OK true rw_31 15 (op_aload 1 16) := ok_aload_n (k := 1) (by decide +kernel)
theorem o_31_16 : pz_OK true rw_31 16 (op_stk (sg_const (5)) 17) := ok_iconst (by decide +kernel) (by unfold pz_in; decide)
theorem k_31_17 : pz_callOK true rw_31 rw_72 17 2 9 := ⟨24, (Or.inl wm_410), Or.inr ⟨(by decide +kernel), wm_411, wm_412, by unfold pz_np; decide +kernel, by decide, Or.inl ⟨_, _, rfl, by decide, rfl⟩⟩⟩
theorem o_31_20 : pz_OK true rw_31 20 (op_iret g_bool) := ok_iret (by decide +kernel) rfl pz_g_bool
theorem o_31_21 : pz_OK true rw_31 21 (op_aload 1 22) := ok_aload_n (k := 1) (by decide +kernel)
theorem k_31_22 : pz_callOK true rw_31 rw_67 22 1 9 := ⟨28, (Or.inl wm_414), Or.inr ⟨(by decide +kernel), wm_415, wm_416, by unfold pz_np; decide +kernel, by decide, Or.inl ⟨_, _, rfl, by decide, rfl⟩⟩⟩
theorem o_31_25 : pz_OK true rw_31 25 (op_aload 0 26) := ok_aload_n (k := 0) (by decide +kernel)
theorem o_31_26 : pz_OK true rw_31 26 (op_aload 1 27) := ok_aload_n (k := 1) (by decide +kernel)
theorem o_31_27 : pz_OK true rw_31 27 (op_iload 2 28) := ok_iload_n (k := 2) (by decide +kernel)
theorem o_31_28 : pz_OK true rw_31 28 (op_stk (sg_const (1)) 29) := ok_iconst (by decide +kernel) (by unfold pz_in; decide)
theorem o_31_29 : pz_OK true rw_31 29 (op_stk (sg_bin f_add) 30) := ok_iadd (by decide +kernel)
theorem k_31_30 : pz_callOK true rw_31 rw_30 30 3 0 := ⟨35, (Or.inl wm_418), Or.inl ⟨(by decide +kernel), wm_419, by unfold pz_np; decide +kernel⟩⟩
theorem o_31_33 : pz_OK true rw_31 33 (op_ifz c_eq 49 36) := ok_if_eq (off := 16) (by decide +kernel) (by decide)
theorem o_31_36 : pz_OK true rw_31 36 (op_aload 1 37) := ok_aload_n (k := 1) (by decide +kernel)
theorem o_31_37 : pz_OK true rw_31 37 (op_stk (sg_const (93)) 39) := ok_bipush (by decide +kernel) (by unfold pz_in; decide) (by decide)
theorem k_31_39 : pz_callOK true rw_31 rw_68 39 2 9 := ⟨43, (Or.inl wm_425), Or.inr ⟨(by decide +kernel), wm_426, wm_427, by unfold pz_np; decide +kernel, by decide, Or.inl ⟨_, _, rfl, by decide, rfl⟩⟩⟩
theorem o_31_42 : pz_OK true rw_31 42 (op_ifz c_eq 49 45) := ok_if_eq (off := 7) (by decide +kernel) (by decide)
theorem o_31_45 : pz_OK true rw_31 45 (op_stk (sg_const (1)) 46) := ok_iconst (by decide +kernel) (by unfold pz_in; decide)
theorem o_31_46 : pz_OK true rw_31 46 (op_goto 50) := ok_goto (off := 4) (by decide +kernel) (by decide)
theorem o_31_49 : pz_OK true rw_31 49 (op_stk (sg_const (0)) 50) := ok_iconst (by decide +kernel) (by unfold pz_in; decide)
theorem o_31_50 : pz_OK true rw_31 50 (op_iret g_bool) := ok_iret (by decide +kernel) rfl pz_g_bool
theorem o_31_51 : pz_OK true rw_31 51 (op_aload 1 52) := ok_aload_n (k := 1) (by decide +kernel)
theorem o_31_52 : pz_OK true rw_31 52 (op_psh (pzR 82) 54) := ok_ldcS (i := 1) (by decide) rfl (by decide +kernel)
theorem k_31_54 : pz_callOK true rw_31 rw_69 54 2 9 := ⟨18, (Or.inl wm_354), Or.inr ⟨(by decide +kernel), wm_355, wm_356, by unfold pz_np; decide +kernel, by decide, Or.inl ⟨_, _, rfl, by decide, rfl⟩⟩⟩
theorem o_31_57 : pz_OK true rw_31 57 (op_istore 3 58) := ok_istore_n (k := 3) (by decide +kernel)
theorem o_31_58 : pz_OK true rw_31 58 (op_iload 3 59) := ok_iload_n (k := 3) (by decide +kernel)
theorem o_31_59 : pz_OK true rw_31 59 (op_ifz c_lt 75 62) := ok_if_lt (off := 16) (by decide +kernel) (by decide)
theorem o_31_62 : pz_OK true rw_31 62 (op_aload 1 63) := ok_aload_n (k := 1) (by decide +kernel)
theorem k_31_63 : pz_callOK true rw_31 rw_67 63 1 9 := ⟨28, (Or.inl wm_414), Or.inr ⟨(by decide +kernel), wm_415, wm_416, by unfold pz_np; decide +kernel, by decide, Or.inl ⟨_, _, rfl, by decide, rfl⟩⟩⟩
theorem o_31_66 : pz_OK true rw_31 66 (op_aload 0 67) := ok_aload_n (k := 0) (by decide +kernel)
theorem o_31_67 : pz_OK true rw_31 67 (op_stk (sg_const (2)) 68) := ok_iconst (by decide +kernel) (by unfold pz_in; decide)
theorem o_31_68 : pz_OK true rw_31 68 (op_iload 3 69) := ok_iload_n (k := 3) (by decide +kernel)
theorem k_31_69 : pz_callOK true rw_31 rw_20 69 3 3 := ⟨39, (Or.inl wm_432), Or.inr ⟨(by decide +kernel), wm_433, wm_434, by unfold pz_np; decide +kernel, by decide, Or.inl ⟨_, _, rfl, by decide, rfl⟩⟩⟩
theorem o_31_72 : pz_OK true rw_31 72 (op_stk sg_pop 73) := ok_pop (by decide +kernel)
theorem o_31_73 : pz_OK true rw_31 73 (op_stk (sg_const (1)) 74) := ok_iconst (by decide +kernel) (by unfold pz_in; decide)
theorem o_31_74 : pz_OK true rw_31 74 (op_iret g_bool) := ok_iret (by decide +kernel) rfl pz_g_bool
theorem o_31_75 : pz_OK true rw_31 75 (op_aload 1 76) := ok_aload_n (k := 1) (by decide +kernel)
theorem o_31_76 : pz_OK true rw_31 76 (op_stk (sg_const (5)) 77) := ok_iconst (by decide +kernel) (by unfold pz_in; decide)
theorem k_31_77 : pz_callOK true rw_31 rw_71 77 2 9 := ⟨80, (Or.inl wm_436), Or.inr ⟨(by decide +kernel), wm_437, wm_438, by unfold pz_np; decide +kernel, by decide, Or.inl ⟨_, _, rfl, by decide, rfl⟩⟩⟩
theorem o_31_80 : pz_OK true rw_31 80 (op_istore 4 82) := ok_istore (by decide +kernel)
theorem o_31_82 : pz_OK true rw_31 82 (op_aload 0 83) := ok_aload_n (k := 0) (by decide +kernel)
theorem o_31_83 : pz_OK true rw_31 83 (op_stk (sg_const (1)) 84) := ok_iconst (by decide +kernel) (by unfold pz_in; decide)
theorem o_31_84 : pz_OK true rw_31 84 (op_iload 4 86) := ok_iload (by decide +kernel)
theorem k_31_86 : pz_callOK true rw_31 rw_20 86 3 3 := ⟨39, (Or.inl wm_432), Or.inr ⟨(by decide +kernel), wm_433, wm_434, by unfold pz_np; decide +kernel, by decide, Or.inl ⟨_, _, rfl, by decide, rfl⟩⟩⟩
theorem o_31_89 : pz_OK true rw_31 89 (op_stk sg_pop 90) := ok_pop (by decide +kernel)
theorem o_31_90 : pz_OK true rw_31 90 (op_iload 4 92) := ok_iload (by decide +kernel)
theorem o_31_92 : pz_OK true rw_31 92 (op_ifz c_lt 99 95) := ok_if_lt (off := 7) (by decide +kernel) (by decide)
theorem o_31_95 : pz_OK true rw_31 95 (op_stk (sg_const (1)) 96) := ok_iconst (by decide +kernel) (by unfold pz_in; decide)
theorem o_31_96 : pz_OK true rw_31 96 (op_goto 100) := ok_goto (off := 4) (by decide +kernel) (by decide)
theorem o_31_99 : pz_OK true rw_31 99 (op_stk (sg_const (0)) 100) := ok_iconst (by decide +kernel) (by unfold pz_in; decide)
theorem o_31_100 : pz_OK true rw_31 100 (op_iret g_bool) := ok_iret (by decide +kernel) rfl pz_g_bool
set_option maxRecDepth 20000 in
theorem a_31 : pz_all true 138 rw_31 pg_31 := ⟨o_31_0, ⟨⟨rw_66, tq_66, rfl, k_31_1⟩, ⟨o_31_4, ⟨o_31_6, ⟨o_31_9, ⟨o_31_10, ⟨o_31_12, ⟨o_31_15, ⟨o_31_16, ⟨⟨rw_72, tq_72, rfl, k_31_17⟩, ⟨o_31_20, ⟨o_31_21, ⟨⟨rw_67, tq_67, rfl, k_31_22⟩, ⟨o_31_25, ⟨o_31_26, ⟨o_31_27, ⟨o_31_28, ⟨o_31_29, ⟨⟨rw_30, tq_30, rfl, k_31_30⟩, ⟨o_31_33, ⟨o_31_36, ⟨o_31_37, ⟨⟨rw_68, tq_68, rfl, k_31_39⟩, ⟨o_31_42, ⟨o_31_45, ⟨o_31_46, ⟨o_31_49, ⟨o_31_50, ⟨o_31_51, ⟨o_31_52, ⟨⟨rw_69, tq_69, rfl, k_31_54⟩, ⟨o_31_57, ⟨o_31_58, ⟨o_31_59, ⟨o_31_62, ⟨⟨rw_67, tq_67, rfl, k_31_63⟩, ⟨o_31_66, ⟨o_31_67, ⟨o_31_68, ⟨⟨rw_20, tq_20, rfl, k_31_69⟩, ⟨o_31_72, ⟨o_31_73, ⟨o_31_74, ⟨o_31_75, ⟨o_31_76, ⟨⟨rw_71, tq_71, rfl, k_31_77⟩, ⟨o_31_80, ⟨o_31_82, ⟨o_31_83, ⟨o_31_84, ⟨⟨rw_20, tq_20, rfl, k_31_86⟩, ⟨o_31_89, ⟨o_31_90, ⟨o_31_92, ⟨o_31_95, ⟨o_31_96, ⟨o_31_99, ⟨o_31_100, trivial⟩⟩⟩⟩⟩⟩⟩⟩⟩⟩⟩⟩⟩⟩⟩⟩⟩⟩⟩⟩⟩⟩⟩⟩⟩⟩⟩⟩⟩⟩⟩⟩⟩⟩⟩⟩⟩⟩⟩⟩⟩⟩⟩⟩⟩⟩⟩⟩⟩⟩⟩⟩⟩⟩⟩⟩⟩⟩
