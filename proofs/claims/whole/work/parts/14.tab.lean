/-! ===== the table as a whole ===== -/
theorem pz_all_op {sd : Bool} {nx : Nat} {row : pz_Row} : ∀ {L : List (Nat × pz_O)}, pz_all sd nx row L → ∀ {pc : Nat} {f : pz_F}, pz_look L pc = some (.inl f) → pz_OK sd row pc f := by
  intro L
  induction L with
  | nil => intro _ pc f h; cases h
  | cons q r ih =>
    intro h pc f hl
    obtain ⟨a, o⟩ := q
    unfold pz_look at hl
    cases hb : Nat.beq a pc with
    | true =>
      simp only [hb, cond_true, Option.some.injEq] at hl
      have := Nat.eq_of_beq_eq_true hb
      subst this
      subst hl
      exact h.1
    | false =>
      simp only [hb, cond_false] at hl
      cases o with
      | inl g => exact ih h.2 hl
      | inr g => exact ih (by obtain ⟨x, y, z⟩ := g; exact h.2) hl
theorem pz_all_call {sd : Bool} {nx : Nat} {row : pz_Row} : ∀ {L : List (Nat × pz_O)}, pz_all sd nx row L → ∀ {pc q na rc : Nat}, pz_look L pc = some (.inr (q, na, rc)) → ∃ row', pz_T[q]? = some row' ∧ decide (q < nx) = sd ∧ pz_callOK sd row row' pc na rc := by
  intro L
  induction L with
  | nil => intro _ pc q na rc h; cases h
  | cons q r ih =>
    intro h pc q na rc hl
    rename_i q0
    obtain ⟨a, o⟩ := q0
    unfold pz_look at hl
    cases hb : Nat.beq a pc with
    | true =>
      simp only [hb, cond_true, Option.some.injEq] at hl
      have := Nat.eq_of_beq_eq_true hb
      subst this
      subst hl
      exact h.1
    | false =>
      simp only [hb, cond_false] at hl
      cases o with
      | inl g => exact ih h.2 hl
      | inr g => exact ih (by obtain ⟨x, y, z⟩ := g; exact h.2) hl
theorem tb_0 : ∀ i, 0 ≤ i → i < 20 → ∀ row, pz_T[i]? = some row → pz_rowOK row ∧ pz_all true 138 row (rw_p row) := by
  intro i h1 h2 row hr
  by_cases e0 : i = 0
  · subst e0; rw [tq_0] at hr; cases hr; exact ⟨ro_0, a_0⟩
  by_cases e1 : i = 1
  · subst e1; rw [tq_1] at hr; cases hr; exact ⟨ro_1, a_1⟩
  by_cases e2 : i = 2
  · subst e2; rw [tq_2] at hr; cases hr; exact ⟨ro_2, a_2⟩
  by_cases e3 : i = 3
  · subst e3; rw [tq_3] at hr; cases hr; exact ⟨ro_3, a_3⟩
  by_cases e4 : i = 4
  · subst e4; rw [tq_4] at hr; cases hr; exact ⟨ro_4, a_4⟩
  by_cases e5 : i = 5
  · subst e5; rw [tq_5] at hr; cases hr; exact ⟨ro_5, a_5⟩
  by_cases e6 : i = 6
  · subst e6; rw [tq_6] at hr; cases hr; exact ⟨ro_6, a_6⟩
  by_cases e7 : i = 7
  · subst e7; rw [tq_7] at hr; cases hr; exact ⟨ro_7, a_7⟩
  by_cases e8 : i = 8
  · subst e8; rw [tq_8] at hr; cases hr; exact ⟨ro_8, a_8⟩
  by_cases e9 : i = 9
  · subst e9; rw [tq_9] at hr; cases hr; exact ⟨ro_9, a_9⟩
  by_cases e10 : i = 10
  · subst e10; rw [tq_10] at hr; cases hr; exact ⟨ro_10, a_10⟩
  by_cases e11 : i = 11
  · subst e11; rw [tq_11] at hr; cases hr; exact ⟨ro_11, a_11⟩
  by_cases e12 : i = 12
  · subst e12; rw [tq_12] at hr; cases hr; exact ⟨ro_12, a_12⟩
  by_cases e13 : i = 13
  · subst e13; rw [tq_13] at hr; cases hr; exact ⟨ro_13, a_13⟩
  by_cases e14 : i = 14
  · subst e14; rw [tq_14] at hr; cases hr; exact ⟨ro_14, a_14⟩
  by_cases e15 : i = 15
  · subst e15; rw [tq_15] at hr; cases hr; exact ⟨ro_15, a_15⟩
  by_cases e16 : i = 16
  · subst e16; rw [tq_16] at hr; cases hr; exact ⟨ro_16, a_16⟩
  by_cases e17 : i = 17
  · subst e17; rw [tq_17] at hr; cases hr; exact ⟨ro_17, a_17⟩
  by_cases e18 : i = 18
  · subst e18; rw [tq_18] at hr; cases hr; exact ⟨ro_18, a_18⟩
  by_cases e19 : i = 19
  · subst e19; rw [tq_19] at hr; cases hr; exact ⟨ro_19, a_19⟩
  omega
theorem tb_20 : ∀ i, 20 ≤ i → i < 40 → ∀ row, pz_T[i]? = some row → pz_rowOK row ∧ pz_all true 138 row (rw_p row) := by
  intro i h1 h2 row hr
  by_cases e20 : i = 20
  · subst e20; rw [tq_20] at hr; cases hr; exact ⟨ro_20, a_20⟩
  by_cases e21 : i = 21
  · subst e21; rw [tq_21] at hr; cases hr; exact ⟨ro_21, a_21⟩
  by_cases e22 : i = 22
  · subst e22; rw [tq_22] at hr; cases hr; exact ⟨ro_22, a_22⟩
  by_cases e23 : i = 23
  · subst e23; rw [tq_23] at hr; cases hr; exact ⟨ro_23, a_23⟩
  by_cases e24 : i = 24
  · subst e24; rw [tq_24] at hr; cases hr; exact ⟨ro_24, a_24⟩
  by_cases e25 : i = 25
  · subst e25; rw [tq_25] at hr; cases hr; exact ⟨ro_25, a_25⟩
  by_cases e26 : i = 26
  · subst e26; rw [tq_26] at hr; cases hr; exact ⟨ro_26, a_26⟩
  by_cases e27 : i = 27
  · subst e27; rw [tq_27] at hr; cases hr; exact ⟨ro_27, a_27⟩
  by_cases e28 : i = 28
  · subst e28; rw [tq_28] at hr; cases hr; exact ⟨ro_28, a_28⟩
  by_cases e29 : i = 29
  · subst e29; rw [tq_29] at hr; cases hr; exact ⟨ro_29, a_29⟩
  by_cases e30 : i = 30
  · subst e30; rw [tq_30] at hr; cases hr; exact ⟨ro_30, a_30⟩
  by_cases e31 : i = 31
  · subst e31; rw [tq_31] at hr; cases hr; exact ⟨ro_31, a_31⟩
  by_cases e32 : i = 32
  · subst e32; rw [tq_32] at hr; cases hr; exact ⟨ro_32, a_32⟩
  by_cases e33 : i = 33
  · subst e33; rw [tq_33] at hr; cases hr; exact ⟨ro_33, a_33⟩
  by_cases e34 : i = 34
  · subst e34; rw [tq_34] at hr; cases hr; exact ⟨ro_34, a_34⟩
  by_cases e35 : i = 35
  · subst e35; rw [tq_35] at hr; cases hr; exact ⟨ro_35, a_35⟩
  by_cases e36 : i = 36
  · subst e36; rw [tq_36] at hr; cases hr; exact ⟨ro_36, a_36⟩
  by_cases e37 : i = 37
  · subst e37; rw [tq_37] at hr; cases hr; exact ⟨ro_37, a_37⟩
  by_cases e38 : i = 38
  · subst e38; rw [tq_38] at hr; cases hr; exact ⟨ro_38, a_38⟩
  by_cases e39 : i = 39
  · subst e39; rw [tq_39] at hr; cases hr; exact ⟨ro_39, a_39⟩
  omega
theorem tb_40 : ∀ i, 40 ≤ i → i < 60 → ∀ row, pz_T[i]? = some row → pz_rowOK row ∧ pz_all true 138 row (rw_p row) := by
  intro i h1 h2 row hr
  by_cases e40 : i = 40
  · subst e40; rw [tq_40] at hr; cases hr; exact ⟨ro_40, a_40⟩
  by_cases e41 : i = 41
  · subst e41; rw [tq_41] at hr; cases hr; exact ⟨ro_41, a_41⟩
  by_cases e42 : i = 42
  · subst e42; rw [tq_42] at hr; cases hr; exact ⟨ro_42, a_42⟩
  by_cases e43 : i = 43
  · subst e43; rw [tq_43] at hr; cases hr; exact ⟨ro_43, a_43⟩
  by_cases e44 : i = 44
  · subst e44; rw [tq_44] at hr; cases hr; exact ⟨ro_44, a_44⟩
  by_cases e45 : i = 45
  · subst e45; rw [tq_45] at hr; cases hr; exact ⟨ro_45, a_45⟩
  by_cases e46 : i = 46
  · subst e46; rw [tq_46] at hr; cases hr; exact ⟨ro_46, a_46⟩
  by_cases e47 : i = 47
  · subst e47; rw [tq_47] at hr; cases hr; exact ⟨ro_47, a_47⟩
  by_cases e48 : i = 48
  · subst e48; rw [tq_48] at hr; cases hr; exact ⟨ro_48, a_48⟩
  by_cases e49 : i = 49
  · subst e49; rw [tq_49] at hr; cases hr; exact ⟨ro_49, a_49⟩
  by_cases e50 : i = 50
  · subst e50; rw [tq_50] at hr; cases hr; exact ⟨ro_50, a_50⟩
  by_cases e51 : i = 51
  · subst e51; rw [tq_51] at hr; cases hr; exact ⟨ro_51, a_51⟩
  by_cases e52 : i = 52
  · subst e52; rw [tq_52] at hr; cases hr; exact ⟨ro_52, a_52⟩
  by_cases e53 : i = 53
  · subst e53; rw [tq_53] at hr; cases hr; exact ⟨ro_53, a_53⟩
  by_cases e54 : i = 54
  · subst e54; rw [tq_54] at hr; cases hr; exact ⟨ro_54, a_54⟩
  by_cases e55 : i = 55
  · subst e55; rw [tq_55] at hr; cases hr; exact ⟨ro_55, a_55⟩
  by_cases e56 : i = 56
  · subst e56; rw [tq_56] at hr; cases hr; exact ⟨ro_56, a_56⟩
  by_cases e57 : i = 57
  · subst e57; rw [tq_57] at hr; cases hr; exact ⟨ro_57, a_57⟩
  by_cases e58 : i = 58
  · subst e58; rw [tq_58] at hr; cases hr; exact ⟨ro_58, a_58⟩
  by_cases e59 : i = 59
  · subst e59; rw [tq_59] at hr; cases hr; exact ⟨ro_59, a_59⟩
  omega
theorem tb_60 : ∀ i, 60 ≤ i → i < 80 → ∀ row, pz_T[i]? = some row → pz_rowOK row ∧ pz_all true 138 row (rw_p row) := by
  intro i h1 h2 row hr
  by_cases e60 : i = 60
  · subst e60; rw [tq_60] at hr; cases hr; exact ⟨ro_60, a_60⟩
  by_cases e61 : i = 61
  · subst e61; rw [tq_61] at hr; cases hr; exact ⟨ro_61, a_61⟩
  by_cases e62 : i = 62
  · subst e62; rw [tq_62] at hr; cases hr; exact ⟨ro_62, a_62⟩
  by_cases e63 : i = 63
  · subst e63; rw [tq_63] at hr; cases hr; exact ⟨ro_63, a_63⟩
  by_cases e64 : i = 64
  · subst e64; rw [tq_64] at hr; cases hr; exact ⟨ro_64, a_64⟩
  by_cases e65 : i = 65
  · subst e65; rw [tq_65] at hr; cases hr; exact ⟨ro_65, a_65⟩
  by_cases e66 : i = 66
  · subst e66; rw [tq_66] at hr; cases hr; exact ⟨ro_66, a_66⟩
  by_cases e67 : i = 67
  · subst e67; rw [tq_67] at hr; cases hr; exact ⟨ro_67, a_67⟩
  by_cases e68 : i = 68
  · subst e68; rw [tq_68] at hr; cases hr; exact ⟨ro_68, a_68⟩
  by_cases e69 : i = 69
  · subst e69; rw [tq_69] at hr; cases hr; exact ⟨ro_69, a_69⟩
  by_cases e70 : i = 70
  · subst e70; rw [tq_70] at hr; cases hr; exact ⟨ro_70, a_70⟩
  by_cases e71 : i = 71
  · subst e71; rw [tq_71] at hr; cases hr; exact ⟨ro_71, a_71⟩
  by_cases e72 : i = 72
  · subst e72; rw [tq_72] at hr; cases hr; exact ⟨ro_72, a_72⟩
  by_cases e73 : i = 73
  · subst e73; rw [tq_73] at hr; cases hr; exact ⟨ro_73, a_73⟩
  by_cases e74 : i = 74
  · subst e74; rw [tq_74] at hr; cases hr; exact ⟨ro_74, a_74⟩
  by_cases e75 : i = 75
  · subst e75; rw [tq_75] at hr; cases hr; exact ⟨ro_75, a_75⟩
  by_cases e76 : i = 76
  · subst e76; rw [tq_76] at hr; cases hr; exact ⟨ro_76, a_76⟩
  by_cases e77 : i = 77
  · subst e77; rw [tq_77] at hr; cases hr; exact ⟨ro_77, a_77⟩
  by_cases e78 : i = 78
  · subst e78; rw [tq_78] at hr; cases hr; exact ⟨ro_78, a_78⟩
  by_cases e79 : i = 79
  · subst e79; rw [tq_79] at hr; cases hr; exact ⟨ro_79, a_79⟩
  omega
theorem tb_80 : ∀ i, 80 ≤ i → i < 100 → ∀ row, pz_T[i]? = some row → pz_rowOK row ∧ pz_all true 138 row (rw_p row) := by
  intro i h1 h2 row hr
  by_cases e80 : i = 80
  · subst e80; rw [tq_80] at hr; cases hr; exact ⟨ro_80, a_80⟩
  by_cases e81 : i = 81
  · subst e81; rw [tq_81] at hr; cases hr; exact ⟨ro_81, a_81⟩
  by_cases e82 : i = 82
  · subst e82; rw [tq_82] at hr; cases hr; exact ⟨ro_82, a_82⟩
  by_cases e83 : i = 83
  · subst e83; rw [tq_83] at hr; cases hr; exact ⟨ro_83, a_83⟩
  by_cases e84 : i = 84
  · subst e84; rw [tq_84] at hr; cases hr; exact ⟨ro_84, a_84⟩
  by_cases e85 : i = 85
  · subst e85; rw [tq_85] at hr; cases hr; exact ⟨ro_85, a_85⟩
  by_cases e86 : i = 86
  · subst e86; rw [tq_86] at hr; cases hr; exact ⟨ro_86, a_86⟩
  by_cases e87 : i = 87
  · subst e87; rw [tq_87] at hr; cases hr; exact ⟨ro_87, a_87⟩
  by_cases e88 : i = 88
  · subst e88; rw [tq_88] at hr; cases hr; exact ⟨ro_88, a_88⟩
  by_cases e89 : i = 89
  · subst e89; rw [tq_89] at hr; cases hr; exact ⟨ro_89, a_89⟩
  by_cases e90 : i = 90
  · subst e90; rw [tq_90] at hr; cases hr; exact ⟨ro_90, a_90⟩
  by_cases e91 : i = 91
  · subst e91; rw [tq_91] at hr; cases hr; exact ⟨ro_91, a_91⟩
  by_cases e92 : i = 92
  · subst e92; rw [tq_92] at hr; cases hr; exact ⟨ro_92, a_92⟩
  by_cases e93 : i = 93
  · subst e93; rw [tq_93] at hr; cases hr; exact ⟨ro_93, a_93⟩
  by_cases e94 : i = 94
  · subst e94; rw [tq_94] at hr; cases hr; exact ⟨ro_94, a_94⟩
  by_cases e95 : i = 95
  · subst e95; rw [tq_95] at hr; cases hr; exact ⟨ro_95, a_95⟩
  by_cases e96 : i = 96
  · subst e96; rw [tq_96] at hr; cases hr; exact ⟨ro_96, a_96⟩
  by_cases e97 : i = 97
  · subst e97; rw [tq_97] at hr; cases hr; exact ⟨ro_97, a_97⟩
  by_cases e98 : i = 98
  · subst e98; rw [tq_98] at hr; cases hr; exact ⟨ro_98, a_98⟩
  by_cases e99 : i = 99
  · subst e99; rw [tq_99] at hr; cases hr; exact ⟨ro_99, a_99⟩
  omega
theorem tb_100 : ∀ i, 100 ≤ i → i < 120 → ∀ row, pz_T[i]? = some row → pz_rowOK row ∧ pz_all true 138 row (rw_p row) := by
  intro i h1 h2 row hr
  by_cases e100 : i = 100
  · subst e100; rw [tq_100] at hr; cases hr; exact ⟨ro_100, a_100⟩
  by_cases e101 : i = 101
  · subst e101; rw [tq_101] at hr; cases hr; exact ⟨ro_101, a_101⟩
  by_cases e102 : i = 102
  · subst e102; rw [tq_102] at hr; cases hr; exact ⟨ro_102, a_102⟩
  by_cases e103 : i = 103
  · subst e103; rw [tq_103] at hr; cases hr; exact ⟨ro_103, a_103⟩
  by_cases e104 : i = 104
  · subst e104; rw [tq_104] at hr; cases hr; exact ⟨ro_104, a_104⟩
  by_cases e105 : i = 105
  · subst e105; rw [tq_105] at hr; cases hr; exact ⟨ro_105, a_105⟩
  by_cases e106 : i = 106
  · subst e106; rw [tq_106] at hr; cases hr; exact ⟨ro_106, a_106⟩
  by_cases e107 : i = 107
  · subst e107; rw [tq_107] at hr; cases hr; exact ⟨ro_107, a_107⟩
  by_cases e108 : i = 108
  · subst e108; rw [tq_108] at hr; cases hr; exact ⟨ro_108, a_108⟩
  by_cases e109 : i = 109
  · subst e109; rw [tq_109] at hr; cases hr; exact ⟨ro_109, a_109⟩
  by_cases e110 : i = 110
  · subst e110; rw [tq_110] at hr; cases hr; exact ⟨ro_110, a_110⟩
  by_cases e111 : i = 111
  · subst e111; rw [tq_111] at hr; cases hr; exact ⟨ro_111, a_111⟩
  by_cases e112 : i = 112
  · subst e112; rw [tq_112] at hr; cases hr; exact ⟨ro_112, a_112⟩
  by_cases e113 : i = 113
  · subst e113; rw [tq_113] at hr; cases hr; exact ⟨ro_113, a_113⟩
  by_cases e114 : i = 114
  · subst e114; rw [tq_114] at hr; cases hr; exact ⟨ro_114, a_114⟩
  by_cases e115 : i = 115
  · subst e115; rw [tq_115] at hr; cases hr; exact ⟨ro_115, a_115⟩
  by_cases e116 : i = 116
  · subst e116; rw [tq_116] at hr; cases hr; exact ⟨ro_116, a_116⟩
  by_cases e117 : i = 117
  · subst e117; rw [tq_117] at hr; cases hr; exact ⟨ro_117, a_117⟩
  by_cases e118 : i = 118
  · subst e118; rw [tq_118] at hr; cases hr; exact ⟨ro_118, a_118⟩
  by_cases e119 : i = 119
  · subst e119; rw [tq_119] at hr; cases hr; exact ⟨ro_119, a_119⟩
  omega
theorem tb_120 : ∀ i, 120 ≤ i → i < 138 → ∀ row, pz_T[i]? = some row → pz_rowOK row ∧ pz_all true 138 row (rw_p row) := by
  intro i h1 h2 row hr
  by_cases e120 : i = 120
  · subst e120; rw [tq_120] at hr; cases hr; exact ⟨ro_120, a_120⟩
  by_cases e121 : i = 121
  · subst e121; rw [tq_121] at hr; cases hr; exact ⟨ro_121, a_121⟩
  by_cases e122 : i = 122
  · subst e122; rw [tq_122] at hr; cases hr; exact ⟨ro_122, a_122⟩
  by_cases e123 : i = 123
  · subst e123; rw [tq_123] at hr; cases hr; exact ⟨ro_123, a_123⟩
  by_cases e124 : i = 124
  · subst e124; rw [tq_124] at hr; cases hr; exact ⟨ro_124, a_124⟩
  by_cases e125 : i = 125
  · subst e125; rw [tq_125] at hr; cases hr; exact ⟨ro_125, a_125⟩
  by_cases e126 : i = 126
  · subst e126; rw [tq_126] at hr; cases hr; exact ⟨ro_126, a_126⟩
  by_cases e127 : i = 127
  · subst e127; rw [tq_127] at hr; cases hr; exact ⟨ro_127, a_127⟩
  by_cases e128 : i = 128
  · subst e128; rw [tq_128] at hr; cases hr; exact ⟨ro_128, a_128⟩
  by_cases e129 : i = 129
  · subst e129; rw [tq_129] at hr; cases hr; exact ⟨ro_129, a_129⟩
  by_cases e130 : i = 130
  · subst e130; rw [tq_130] at hr; cases hr; exact ⟨ro_130, a_130⟩
  by_cases e131 : i = 131
  · subst e131; rw [tq_131] at hr; cases hr; exact ⟨ro_131, a_131⟩
  by_cases e132 : i = 132
  · subst e132; rw [tq_132] at hr; cases hr; exact ⟨ro_132, a_132⟩
  by_cases e133 : i = 133
  · subst e133; rw [tq_133] at hr; cases hr; exact ⟨ro_133, a_133⟩
  by_cases e134 : i = 134
  · subst e134; rw [tq_134] at hr; cases hr; exact ⟨ro_134, a_134⟩
  by_cases e135 : i = 135
  · subst e135; rw [tq_135] at hr; cases hr; exact ⟨ro_135, a_135⟩
  by_cases e136 : i = 136
  · subst e136; rw [tq_136] at hr; cases hr; exact ⟨ro_136, a_136⟩
  by_cases e137 : i = 137
  · subst e137; rw [tq_137] at hr; cases hr; exact ⟨ro_137, a_137⟩
  omega
theorem tb_138 : ∀ i, 138 ≤ i → i < 158 → ∀ row, pz_T[i]? = some row → pz_rowOK row ∧ pz_all false 138 row (rw_p row) := by
  intro i h1 h2 row hr
  by_cases e138 : i = 138
  · subst e138; rw [tq_138] at hr; cases hr; exact ⟨ro_138, a_138⟩
  by_cases e139 : i = 139
  · subst e139; rw [tq_139] at hr; cases hr; exact ⟨ro_139, a_139⟩
  by_cases e140 : i = 140
  · subst e140; rw [tq_140] at hr; cases hr; exact ⟨ro_140, a_140⟩
  by_cases e141 : i = 141
  · subst e141; rw [tq_141] at hr; cases hr; exact ⟨ro_141, a_141⟩
  by_cases e142 : i = 142
  · subst e142; rw [tq_142] at hr; cases hr; exact ⟨ro_142, a_142⟩
  by_cases e143 : i = 143
  · subst e143; rw [tq_143] at hr; cases hr; exact ⟨ro_143, a_143⟩
  by_cases e144 : i = 144
  · subst e144; rw [tq_144] at hr; cases hr; exact ⟨ro_144, a_144⟩
  by_cases e145 : i = 145
  · subst e145; rw [tq_145] at hr; cases hr; exact ⟨ro_145, a_145⟩
  by_cases e146 : i = 146
  · subst e146; rw [tq_146] at hr; cases hr; exact ⟨ro_146, a_146⟩
  by_cases e147 : i = 147
  · subst e147; rw [tq_147] at hr; cases hr; exact ⟨ro_147, a_147⟩
  by_cases e148 : i = 148
  · subst e148; rw [tq_148] at hr; cases hr; exact ⟨ro_148, a_148⟩
  by_cases e149 : i = 149
  · subst e149; rw [tq_149] at hr; cases hr; exact ⟨ro_149, a_149⟩
  by_cases e150 : i = 150
  · subst e150; rw [tq_150] at hr; cases hr; exact ⟨ro_150, a_150⟩
  by_cases e151 : i = 151
  · subst e151; rw [tq_151] at hr; cases hr; exact ⟨ro_151, a_151⟩
  by_cases e152 : i = 152
  · subst e152; rw [tq_152] at hr; cases hr; exact ⟨ro_152, a_152⟩
  by_cases e153 : i = 153
  · subst e153; rw [tq_153] at hr; cases hr; exact ⟨ro_153, a_153⟩
  by_cases e154 : i = 154
  · subst e154; rw [tq_154] at hr; cases hr; exact ⟨ro_154, a_154⟩
  by_cases e155 : i = 155
  · subst e155; rw [tq_155] at hr; cases hr; exact ⟨ro_155, a_155⟩
  by_cases e156 : i = 156
  · subst e156; rw [tq_156] at hr; cases hr; exact ⟨ro_156, a_156⟩
  by_cases e157 : i = 157
  · subst e157; rw [tq_157] at hr; cases hr; exact ⟨ro_157, a_157⟩
  omega
theorem tb_158 : ∀ i, 158 ≤ i → i < 178 → ∀ row, pz_T[i]? = some row → pz_rowOK row ∧ pz_all false 138 row (rw_p row) := by
  intro i h1 h2 row hr
  by_cases e158 : i = 158
  · subst e158; rw [tq_158] at hr; cases hr; exact ⟨ro_158, a_158⟩
  by_cases e159 : i = 159
  · subst e159; rw [tq_159] at hr; cases hr; exact ⟨ro_159, a_159⟩
  by_cases e160 : i = 160
  · subst e160; rw [tq_160] at hr; cases hr; exact ⟨ro_160, a_160⟩
  by_cases e161 : i = 161
  · subst e161; rw [tq_161] at hr; cases hr; exact ⟨ro_161, a_161⟩
  by_cases e162 : i = 162
  · subst e162; rw [tq_162] at hr; cases hr; exact ⟨ro_162, a_162⟩
  by_cases e163 : i = 163
  · subst e163; rw [tq_163] at hr; cases hr; exact ⟨ro_163, a_163⟩
  by_cases e164 : i = 164
  · subst e164; rw [tq_164] at hr; cases hr; exact ⟨ro_164, a_164⟩
  by_cases e165 : i = 165
  · subst e165; rw [tq_165] at hr; cases hr; exact ⟨ro_165, a_165⟩
  by_cases e166 : i = 166
  · subst e166; rw [tq_166] at hr; cases hr; exact ⟨ro_166, a_166⟩
  by_cases e167 : i = 167
  · subst e167; rw [tq_167] at hr; cases hr; exact ⟨ro_167, a_167⟩
  by_cases e168 : i = 168
  · subst e168; rw [tq_168] at hr; cases hr; exact ⟨ro_168, a_168⟩
  by_cases e169 : i = 169
  · subst e169; rw [tq_169] at hr; cases hr; exact ⟨ro_169, a_169⟩
  by_cases e170 : i = 170
  · subst e170; rw [tq_170] at hr; cases hr; exact ⟨ro_170, a_170⟩
  by_cases e171 : i = 171
  · subst e171; rw [tq_171] at hr; cases hr; exact ⟨ro_171, a_171⟩
  by_cases e172 : i = 172
  · subst e172; rw [tq_172] at hr; cases hr; exact ⟨ro_172, a_172⟩
  by_cases e173 : i = 173
  · subst e173; rw [tq_173] at hr; cases hr; exact ⟨ro_173, a_173⟩
  by_cases e174 : i = 174
  · subst e174; rw [tq_174] at hr; cases hr; exact ⟨ro_174, a_174⟩
  by_cases e175 : i = 175
  · subst e175; rw [tq_175] at hr; cases hr; exact ⟨ro_175, a_175⟩
  by_cases e176 : i = 176
  · subst e176; rw [tq_176] at hr; cases hr; exact ⟨ro_176, a_176⟩
  by_cases e177 : i = 177
  · subst e177; rw [tq_177] at hr; cases hr; exact ⟨ro_177, a_177⟩
  omega
theorem tb_178 : ∀ i, 178 ≤ i → i < 198 → ∀ row, pz_T[i]? = some row → pz_rowOK row ∧ pz_all false 138 row (rw_p row) := by
  intro i h1 h2 row hr
  by_cases e178 : i = 178
  · subst e178; rw [tq_178] at hr; cases hr; exact ⟨ro_178, a_178⟩
  by_cases e179 : i = 179
  · subst e179; rw [tq_179] at hr; cases hr; exact ⟨ro_179, a_179⟩
  by_cases e180 : i = 180
  · subst e180; rw [tq_180] at hr; cases hr; exact ⟨ro_180, a_180⟩
  by_cases e181 : i = 181
  · subst e181; rw [tq_181] at hr; cases hr; exact ⟨ro_181, a_181⟩
  by_cases e182 : i = 182
  · subst e182; rw [tq_182] at hr; cases hr; exact ⟨ro_182, a_182⟩
  by_cases e183 : i = 183
  · subst e183; rw [tq_183] at hr; cases hr; exact ⟨ro_183, a_183⟩
  by_cases e184 : i = 184
  · subst e184; rw [tq_184] at hr; cases hr; exact ⟨ro_184, a_184⟩
  by_cases e185 : i = 185
  · subst e185; rw [tq_185] at hr; cases hr; exact ⟨ro_185, a_185⟩
  by_cases e186 : i = 186
  · subst e186; rw [tq_186] at hr; cases hr; exact ⟨ro_186, a_186⟩
  by_cases e187 : i = 187
  · subst e187; rw [tq_187] at hr; cases hr; exact ⟨ro_187, a_187⟩
  by_cases e188 : i = 188
  · subst e188; rw [tq_188] at hr; cases hr; exact ⟨ro_188, a_188⟩
  by_cases e189 : i = 189
  · subst e189; rw [tq_189] at hr; cases hr; exact ⟨ro_189, a_189⟩
  by_cases e190 : i = 190
  · subst e190; rw [tq_190] at hr; cases hr; exact ⟨ro_190, a_190⟩
  by_cases e191 : i = 191
  · subst e191; rw [tq_191] at hr; cases hr; exact ⟨ro_191, a_191⟩
  by_cases e192 : i = 192
  · subst e192; rw [tq_192] at hr; cases hr; exact ⟨ro_192, a_192⟩
  by_cases e193 : i = 193
  · subst e193; rw [tq_193] at hr; cases hr; exact ⟨ro_193, a_193⟩
  by_cases e194 : i = 194
  · subst e194; rw [tq_194] at hr; cases hr; exact ⟨ro_194, a_194⟩
  by_cases e195 : i = 195
  · subst e195; rw [tq_195] at hr; cases hr; exact ⟨ro_195, a_195⟩
  by_cases e196 : i = 196
  · subst e196; rw [tq_196] at hr; cases hr; exact ⟨ro_196, a_196⟩
  by_cases e197 : i = 197
  · subst e197; rw [tq_197] at hr; cases hr; exact ⟨ro_197, a_197⟩
  omega
theorem tb_198 : ∀ i, 198 ≤ i → i < 218 → ∀ row, pz_T[i]? = some row → pz_rowOK row ∧ pz_all false 138 row (rw_p row) := by
  intro i h1 h2 row hr
  by_cases e198 : i = 198
  · subst e198; rw [tq_198] at hr; cases hr; exact ⟨ro_198, a_198⟩
  by_cases e199 : i = 199
  · subst e199; rw [tq_199] at hr; cases hr; exact ⟨ro_199, a_199⟩
  by_cases e200 : i = 200
  · subst e200; rw [tq_200] at hr; cases hr; exact ⟨ro_200, a_200⟩
  by_cases e201 : i = 201
  · subst e201; rw [tq_201] at hr; cases hr; exact ⟨ro_201, a_201⟩
  by_cases e202 : i = 202
  · subst e202; rw [tq_202] at hr; cases hr; exact ⟨ro_202, a_202⟩
  by_cases e203 : i = 203
  · subst e203; rw [tq_203] at hr; cases hr; exact ⟨ro_203, a_203⟩
  by_cases e204 : i = 204
  · subst e204; rw [tq_204] at hr; cases hr; exact ⟨ro_204, a_204⟩
  by_cases e205 : i = 205
  · subst e205; rw [tq_205] at hr; cases hr; exact ⟨ro_205, a_205⟩
  by_cases e206 : i = 206
  · subst e206; rw [tq_206] at hr; cases hr; exact ⟨ro_206, a_206⟩
  by_cases e207 : i = 207
  · subst e207; rw [tq_207] at hr; cases hr; exact ⟨ro_207, a_207⟩
  by_cases e208 : i = 208
  · subst e208; rw [tq_208] at hr; cases hr; exact ⟨ro_208, a_208⟩
  by_cases e209 : i = 209
  · subst e209; rw [tq_209] at hr; cases hr; exact ⟨ro_209, a_209⟩
  by_cases e210 : i = 210
  · subst e210; rw [tq_210] at hr; cases hr; exact ⟨ro_210, a_210⟩
  by_cases e211 : i = 211
  · subst e211; rw [tq_211] at hr; cases hr; exact ⟨ro_211, a_211⟩
  by_cases e212 : i = 212
  · subst e212; rw [tq_212] at hr; cases hr; exact ⟨ro_212, a_212⟩
  by_cases e213 : i = 213
  · subst e213; rw [tq_213] at hr; cases hr; exact ⟨ro_213, a_213⟩
  by_cases e214 : i = 214
  · subst e214; rw [tq_214] at hr; cases hr; exact ⟨ro_214, a_214⟩
  by_cases e215 : i = 215
  · subst e215; rw [tq_215] at hr; cases hr; exact ⟨ro_215, a_215⟩
  by_cases e216 : i = 216
  · subst e216; rw [tq_216] at hr; cases hr; exact ⟨ro_216, a_216⟩
  by_cases e217 : i = 217
  · subst e217; rw [tq_217] at hr; cases hr; exact ⟨ro_217, a_217⟩
  omega
theorem tb_218 : ∀ i, 218 ≤ i → i < 238 → ∀ row, pz_T[i]? = some row → pz_rowOK row ∧ pz_all false 138 row (rw_p row) := by
  intro i h1 h2 row hr
  by_cases e218 : i = 218
  · subst e218; rw [tq_218] at hr; cases hr; exact ⟨ro_218, a_218⟩
  by_cases e219 : i = 219
  · subst e219; rw [tq_219] at hr; cases hr; exact ⟨ro_219, a_219⟩
  by_cases e220 : i = 220
  · subst e220; rw [tq_220] at hr; cases hr; exact ⟨ro_220, a_220⟩
  by_cases e221 : i = 221
  · subst e221; rw [tq_221] at hr; cases hr; exact ⟨ro_221, a_221⟩
  by_cases e222 : i = 222
  · subst e222; rw [tq_222] at hr; cases hr; exact ⟨ro_222, a_222⟩
  by_cases e223 : i = 223
  · subst e223; rw [tq_223] at hr; cases hr; exact ⟨ro_223, a_223⟩
  by_cases e224 : i = 224
  · subst e224; rw [tq_224] at hr; cases hr; exact ⟨ro_224, a_224⟩
  by_cases e225 : i = 225
  · subst e225; rw [tq_225] at hr; cases hr; exact ⟨ro_225, a_225⟩
  by_cases e226 : i = 226
  · subst e226; rw [tq_226] at hr; cases hr; exact ⟨ro_226, a_226⟩
  by_cases e227 : i = 227
  · subst e227; rw [tq_227] at hr; cases hr; exact ⟨ro_227, a_227⟩
  by_cases e228 : i = 228
  · subst e228; rw [tq_228] at hr; cases hr; exact ⟨ro_228, a_228⟩
  by_cases e229 : i = 229
  · subst e229; rw [tq_229] at hr; cases hr; exact ⟨ro_229, a_229⟩
  by_cases e230 : i = 230
  · subst e230; rw [tq_230] at hr; cases hr; exact ⟨ro_230, a_230⟩
  by_cases e231 : i = 231
  · subst e231; rw [tq_231] at hr; cases hr; exact ⟨ro_231, a_231⟩
  by_cases e232 : i = 232
  · subst e232; rw [tq_232] at hr; cases hr; exact ⟨ro_232, a_232⟩
  by_cases e233 : i = 233
  · subst e233; rw [tq_233] at hr; cases hr; exact ⟨ro_233, a_233⟩
  by_cases e234 : i = 234
  · subst e234; rw [tq_234] at hr; cases hr; exact ⟨ro_234, a_234⟩
  by_cases e235 : i = 235
  · subst e235; rw [tq_235] at hr; cases hr; exact ⟨ro_235, a_235⟩
  by_cases e236 : i = 236
  · subst e236; rw [tq_236] at hr; cases hr; exact ⟨ro_236, a_236⟩
  by_cases e237 : i = 237
  · subst e237; rw [tq_237] at hr; cases hr; exact ⟨ro_237, a_237⟩
  omega
theorem tb_238 : ∀ i, 238 ≤ i → i < 246 → ∀ row, pz_T[i]? = some row → pz_rowOK row ∧ pz_all false 138 row (rw_p row) := by
  intro i h1 h2 row hr
  by_cases e238 : i = 238
  · subst e238; rw [tq_238] at hr; cases hr; exact ⟨ro_238, a_238⟩
  by_cases e239 : i = 239
  · subst e239; rw [tq_239] at hr; cases hr; exact ⟨ro_239, a_239⟩
  by_cases e240 : i = 240
  · subst e240; rw [tq_240] at hr; cases hr; exact ⟨ro_240, a_240⟩
  by_cases e241 : i = 241
  · subst e241; rw [tq_241] at hr; cases hr; exact ⟨ro_241, a_241⟩
  by_cases e242 : i = 242
  · subst e242; rw [tq_242] at hr; cases hr; exact ⟨ro_242, a_242⟩
  by_cases e243 : i = 243
  · subst e243; rw [tq_243] at hr; cases hr; exact ⟨ro_243, a_243⟩
  by_cases e244 : i = 244
  · subst e244; rw [tq_244] at hr; cases hr; exact ⟨ro_244, a_244⟩
  by_cases e245 : i = 245
  · subst e245; rw [tq_245] at hr; cases hr; exact ⟨ro_245, a_245⟩
  omega
theorem pz_T_len : pz_T.length = 246 := by decide +kernel
theorem pz_tabX : pz_tabOK true pz_T (fun mid => mid < 138) := by
  intro mid row hj hrow
  have key : pz_rowOK row ∧ pz_all true 138 row (rw_p row) := by
    have hlt : mid < 246 := by
      have h0 := (List.getElem?_eq_some_iff.mp hrow).1
      rw [pz_T_len] at h0
      exact h0
    by_cases c20 : mid < 20
    · exact tb_0 mid (by omega) c20 row hrow
    by_cases c40 : mid < 40
    · exact tb_20 mid (by omega) c40 row hrow
    by_cases c60 : mid < 60
    · exact tb_40 mid (by omega) c60 row hrow
    by_cases c80 : mid < 80
    · exact tb_60 mid (by omega) c80 row hrow
    by_cases c100 : mid < 100
    · exact tb_80 mid (by omega) c100 row hrow
    by_cases c120 : mid < 120
    · exact tb_100 mid (by omega) c120 row hrow
    by_cases c138 : mid < 138
    · exact tb_120 mid (by omega) c138 row hrow
    omega
  refine ⟨key.1, fun pc f h => pz_all_op key.2 h, fun pc q na rc row' h hq => ?_⟩
  obtain ⟨r2, h1, h2, h3⟩ := pz_all_call key.2 h
  rw [hq] at h1
  cases h1
  exact ⟨by simpa using h2, h3⟩
theorem pz_tabY : pz_tabOK false pz_T (fun mid => 138 ≤ mid) := by
  intro mid row hj hrow
  have key : pz_rowOK row ∧ pz_all false 138 row (rw_p row) := by
    have hlt : mid < 246 := by
      have h0 := (List.getElem?_eq_some_iff.mp hrow).1
      rw [pz_T_len] at h0
      exact h0
    by_cases c158 : mid < 158
    · exact tb_138 mid (by omega) c158 row hrow
    by_cases c178 : mid < 178
    · exact tb_158 mid (by omega) c178 row hrow
    by_cases c198 : mid < 198
    · exact tb_178 mid (by omega) c198 row hrow
    by_cases c218 : mid < 218
    · exact tb_198 mid (by omega) c218 row hrow
    by_cases c238 : mid < 238
    · exact tb_218 mid (by omega) c238 row hrow
    by_cases c246 : mid < 246
    · exact tb_238 mid (by omega) c246 row hrow
    omega
  refine ⟨key.1, fun pc f h => pz_all_op key.2 h, fun pc q na rc row' h hq => ?_⟩
  obtain ⟨r2, h1, h2, h3⟩ := pz_all_call key.2 h
  rw [hq] at h1
  cases h1
  exact ⟨by simpa using h2, h3⟩
