theorem rvJ_all (j : Nat) (h : j < 168) : rvJc j = true := by
  match j, h with
  | 0, _ => exact rvJ_0
  | 1, _ => exact rvJ_1
  | 2, _ => exact rvJ_2
  | 3, _ => exact rvJ_3
  | 4, _ => exact rvJ_4
  | 5, _ => exact rvJ_5
  | 6, _ => exact rvJ_6
  | 7, _ => exact rvJ_7
  | 8, _ => exact rvJ_8
  | 9, _ => exact rvJ_9
  | 10, _ => exact rvJ_10
  | 11, _ => exact rvJ_11
  | 12, _ => exact rvJ_12
  | 13, _ => exact rvJ_13
  | 14, _ => exact rvJ_14
  | 15, _ => exact rvJ_15
  | 16, _ => exact rvJ_16
  | 17, _ => exact rvJ_17
  | 18, _ => exact rvJ_18
  | 19, _ => exact rvJ_19
  | 20, _ => exact rvJ_20
  | 21, _ => exact rvJ_21
  | 22, _ => exact rvJ_22
  | 23, _ => exact rvJ_23
  | 24, _ => exact rvJ_24
  | 25, _ => exact rvJ_25
  | 26, _ => exact rvJ_26
  | 27, _ => exact rvJ_27
  | 28, _ => exact rvJ_28
  | 29, _ => exact rvJ_29
  | 30, _ => exact rvJ_30
  | 31, _ => exact rvJ_31
  | 32, _ => exact rvJ_32
  | 33, _ => exact rvJ_33
  | 34, _ => exact rvJ_34
  | 35, _ => exact rvJ_35
  | 36, _ => exact rvJ_36
  | 37, _ => exact rvJ_37
  | 38, _ => exact rvJ_38
  | 39, _ => exact rvJ_39
  | 40, _ => exact rvJ_40
  | 41, _ => exact rvJ_41
  | 42, _ => exact rvJ_42
  | 43, _ => exact rvJ_43
  | 44, _ => exact rvJ_44
  | 45, _ => exact rvJ_45
  | 46, _ => exact rvJ_46
  | 47, _ => exact rvJ_47
  | 48, _ => exact rvJ_48
  | 49, _ => exact rvJ_49
  | 50, _ => exact rvJ_50
  | 51, _ => exact rvJ_51
  | 52, _ => exact rvJ_52
  | 53, _ => exact rvJ_53
  | 54, _ => exact rvJ_54
  | 55, _ => exact rvJ_55
  | 56, _ => exact rvJ_56
  | 57, _ => exact rvJ_57
  | 58, _ => exact rvJ_58
  | 59, _ => exact rvJ_59
  | 60, _ => exact rvJ_60
  | 61, _ => exact rvJ_61
  | 62, _ => exact rvJ_62
  | 63, _ => exact rvJ_63
  | 64, _ => exact rvJ_64
  | 65, _ => exact rvJ_65
  | 66, _ => exact rvJ_66
  | 67, _ => exact rvJ_67
  | 68, _ => exact rvJ_68
  | 69, _ => exact rvJ_69
  | 70, _ => exact rvJ_70
  | 71, _ => exact rvJ_71
  | 72, _ => exact rvJ_72
  | 73, _ => exact rvJ_73
  | 74, _ => exact rvJ_74
  | 75, _ => exact rvJ_75
  | 76, _ => exact rvJ_76
  | 77, _ => exact rvJ_77
  | 78, _ => exact rvJ_78
  | 79, _ => exact rvJ_79
  | 80, _ => exact rvJ_80
  | 81, _ => exact rvJ_81
  | 82, _ => exact rvJ_82
  | 83, _ => exact rvJ_83
  | 84, _ => exact rvJ_84
  | 85, _ => exact rvJ_85
  | 86, _ => exact rvJ_86
  | 87, _ => exact rvJ_87
  | 88, _ => exact rvJ_88
  | 89, _ => exact rvJ_89
  | 90, _ => exact rvJ_90
  | 91, _ => exact rvJ_91
  | 92, _ => exact rvJ_92
  | 93, _ => exact rvJ_93
  | 94, _ => exact rvJ_94
  | 95, _ => exact rvJ_95
  | 96, _ => exact rvJ_96
  | 97, _ => exact rvJ_97
  | 98, _ => exact rvJ_98
  | 99, _ => exact rvJ_99
  | 100, _ => exact rvJ_100
  | 101, _ => exact rvJ_101
  | 102, _ => exact rvJ_102
  | 103, _ => exact rvJ_103
  | 104, _ => exact rvJ_104
  | 105, _ => exact rvJ_105
  | 106, _ => exact rvJ_106
  | 107, _ => exact rvJ_107
  | 108, _ => exact rvJ_108
  | 109, _ => exact rvJ_109
  | 110, _ => exact rvJ_110
  | 111, _ => exact rvJ_111
  | 112, _ => exact rvJ_112
  | 113, _ => exact rvJ_113
  | 114, _ => exact rvJ_114
  | 115, _ => exact rvJ_115
  | 116, _ => exact rvJ_116
  | 117, _ => exact rvJ_117
  | 118, _ => exact rvJ_118
  | 119, _ => exact rvJ_119
  | 120, _ => exact rvJ_120
  | 121, _ => exact rvJ_121
  | 122, _ => exact rvJ_122
  | 123, _ => exact rvJ_123
  | 124, _ => exact rvJ_124
  | 125, _ => exact rvJ_125
  | 126, _ => exact rvJ_126
  | 127, _ => exact rvJ_127
  | 128, _ => exact rvJ_128
  | 129, _ => exact rvJ_129
  | 130, _ => exact rvJ_130
  | 131, _ => exact rvJ_131
  | 132, _ => exact rvJ_132
  | 133, _ => exact rvJ_133
  | 134, _ => exact rvJ_134
  | 135, _ => exact rvJ_135
  | 136, _ => exact rvJ_136
  | 137, _ => exact rvJ_137
  | 138, _ => exact rvJ_138
  | 139, _ => exact rvJ_139
  | 140, _ => exact rvJ_140
  | 141, _ => exact rvJ_141
  | 142, _ => exact rvJ_142
  | 143, _ => exact rvJ_143
  | 144, _ => exact rvJ_144
  | 145, _ => exact rvJ_145
  | 146, _ => exact rvJ_146
  | 147, _ => exact rvJ_147
  | 148, _ => exact rvJ_148
  | 149, _ => exact rvJ_149
  | 150, _ => exact rvJ_150
  | 151, _ => exact rvJ_151
  | 152, _ => exact rvJ_152
  | 153, _ => exact rvJ_153
  | 154, _ => exact rvJ_154
  | 155, _ => exact rvJ_155
  | 156, _ => exact rvJ_156
  | 157, _ => exact rvJ_157
  | 158, _ => exact rvJ_158
  | 159, _ => exact rvJ_159
  | 160, _ => exact rvJ_160
  | 161, _ => exact rvJ_161
  | 162, _ => exact rvJ_162
  | 163, _ => exact rvJ_163
  | 164, _ => exact rvJ_164
  | 165, _ => exact rvJ_165
  | 166, _ => exact rvJ_166
  | 167, _ => exact rvJ_167
  | n + 168, h => exact absurd h (by omega)
theorem rvM_all : ∀ j, j < 168 → rvMp rvYn rvCd rvInf rvRet rvKd j := fun j h => rvMb_ok (rv_and (rvJ_all j h)).1
theorem rvT_all : ∀ j, j < 168 → rvTk rvYn rvKd 168 (rvYn j).cls (rvCd j) (decide ((rvYn j).name = "<init>")) (rvTab j) := fun j h => rvTc_ok (rv_and (rvJ_all j h)).2
theorem rvBase_ok : rvBase := ⟨rvW_ok (i := 151) (by decide +kernel), rvW_ok (i := 152) (by decide +kernel), rvW_ok (i := 779) (by decide +kernel), rvW_ok (i := 778) (by decide +kernel), rvW_ok (i := 139) (by decide +kernel)⟩
theorem rvL_0 : tbL_0.2.all (rvEc RL cL_law false) = true := by decide +kernel
theorem rvL_1 : tbL_1.2.all (rvEc RL cL_law false) = true := by decide +kernel
theorem rvL_2 : tbL_2.2.all (rvEc RL cL_law false) = true := by decide +kernel
theorem rvL_3 : tbL_3.2.all (rvEc RL cL_law false) = true := by decide +kernel
theorem rvL_4 : tbL_4.2.all (rvEc RL cL_law false) = true := by decide +kernel
theorem rvL_5 : tbL_5.2.all (rvEc RL cL_law false) = true := by decide +kernel
theorem rvL_6 : tbL_6.2.all (rvEc RL cL_law false) = true := by decide +kernel
theorem rvL_7 : tbL_7.2.all (rvEc RL cL_law false) = true := by decide +kernel
theorem rvL_8 : tbL_8.2.all (rvEc RL cL_law false) = true := by decide +kernel
theorem rvL_9 : tbL_9.2.all (rvEc RL cL_law false) = true := by decide +kernel
theorem rvL_10 : tbL_10.2.all (rvEc RL cL_law false) = true := by decide +kernel
theorem rvL_11 : tbL_11.2.all (rvEc RL cL_law false) = true := by decide +kernel
theorem rvL_12 : tbL_12.2.all (rvEc RL cL_law false) = true := by decide +kernel
theorem rvL_13 : tbL_13.2.all (rvEc RL cL_law false) = true := by decide +kernel
theorem rvL_14 : tbL_14.2.all (rvEc RL cL_law false) = true := by decide +kernel
theorem rvL_15 : tbL_15.2.all (rvEc RL cL_law false) = true := by decide +kernel
theorem rvL_16 : tbL_16.2.all (rvEc RL cL_law false) = true := by decide +kernel
theorem rvL_17 : tbL_17.2.all (rvEc RL cL_law false) = true := by decide +kernel
theorem rvL_18 : tbL_18.2.all (rvEc RL cL_law false) = true := by decide +kernel
theorem rvL_19 : tbL_19.2.all (rvEc RL cL_law false) = true := by decide +kernel
theorem rvL_20 : tbL_20.2.all (rvEc RL cL_law false) = true := by decide +kernel
theorem rvL_21 : tbL_21.2.all (rvEc RL cL_law false) = true := by decide +kernel
theorem rvL_22 : tbL_22.2.all (rvEc RL cL_law false) = true := by decide +kernel
theorem rvL_23 : tbL_23.2.all (rvEc RL cL_law false) = true := by decide +kernel
theorem rvL_24 : tbL_24.2.all (rvEc RL cL_law false) = true := by decide +kernel
theorem rvL_25 : tbL_25.2.all (rvEc RL cL_law false) = true := by decide +kernel
theorem rvL_26 : tbL_26.2.all (rvEc RL cL_law false) = true := by decide +kernel
theorem rvL_27 : tbL_27.2.all (rvEc RL cL_law false) = true := by decide +kernel
theorem rvL_28 : tbL_28.2.all (rvEc RL cL_law false) = true := by decide +kernel
theorem rvL_29 : tbL_29.2.all (rvEc RL cL_law false) = true := by decide +kernel
theorem rvL_30 : tbL_30.2.all (rvEc RL cL_law false) = true := by decide +kernel
theorem rvT_L : rvTk rvYn rvKd 168 RL cL_law false (rvFind2 tb_L) := rvTc_ok (List.all_eq_true.mpr (List.forall_mem_cons.mpr ⟨rvL_0, List.forall_mem_cons.mpr ⟨rvL_1, List.forall_mem_cons.mpr ⟨rvL_2, List.forall_mem_cons.mpr ⟨rvL_3, List.forall_mem_cons.mpr ⟨rvL_4, List.forall_mem_cons.mpr ⟨rvL_5, List.forall_mem_cons.mpr ⟨rvL_6, List.forall_mem_cons.mpr ⟨rvL_7, List.forall_mem_cons.mpr ⟨rvL_8, List.forall_mem_cons.mpr ⟨rvL_9, List.forall_mem_cons.mpr ⟨rvL_10, List.forall_mem_cons.mpr ⟨rvL_11, List.forall_mem_cons.mpr ⟨rvL_12, List.forall_mem_cons.mpr ⟨rvL_13, List.forall_mem_cons.mpr ⟨rvL_14, List.forall_mem_cons.mpr ⟨rvL_15, List.forall_mem_cons.mpr ⟨rvL_16, List.forall_mem_cons.mpr ⟨rvL_17, List.forall_mem_cons.mpr ⟨rvL_18, List.forall_mem_cons.mpr ⟨rvL_19, List.forall_mem_cons.mpr ⟨rvL_20, List.forall_mem_cons.mpr ⟨rvL_21, List.forall_mem_cons.mpr ⟨rvL_22, List.forall_mem_cons.mpr ⟨rvL_23, List.forall_mem_cons.mpr ⟨rvL_24, List.forall_mem_cons.mpr ⟨rvL_25, List.forall_mem_cons.mpr ⟨rvL_26, List.forall_mem_cons.mpr ⟨rvL_27, List.forall_mem_cons.mpr ⟨rvL_28, List.forall_mem_cons.mpr ⟨rvL_29, List.forall_mem_cons.mpr ⟨rvL_30, fun _ h => absurd h List.not_mem_nil⟩⟩⟩⟩⟩⟩⟩⟩⟩⟩⟩⟩⟩⟩⟩⟩⟩⟩⟩⟩⟩⟩⟩⟩⟩⟩⟩⟩⟩⟩⟩))
