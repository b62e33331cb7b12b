theorem dX7_told_0 : decode cX7_told 0 = .ok (.iload_n 1, 1) := by decide +kernel
theorem dX7_told_1 : decode cX7_told 1 = .ok (.tableswitch 51 0 2 #[27, 35, 43], 27) := by decide +kernel
theorem dX7_told_28 : decode cX7_told 28 = .ok (.aload_n 0, 1) := by decide +kernel
theorem dX7_told_29 : decode cX7_told 29 = .ok (.getfield 10, 3) := by decide +kernel
theorem dX7_told_32 : decode cX7_told 32 = .ok (.getfield 202, 3) := by decide +kernel
theorem dX7_told_35 : decode cX7_told 35 = .ok (.ireturn, 1) := by decide +kernel
theorem dX7_told_36 : decode cX7_told 36 = .ok (.aload_n 0, 1) := by decide +kernel
theorem dX7_told_37 : decode cX7_told 37 = .ok (.getfield 21, 3) := by decide +kernel
theorem dX7_told_40 : decode cX7_told 40 = .ok (.getfield 203, 3) := by decide +kernel
theorem dX7_told_43 : decode cX7_told 43 = .ok (.ireturn, 1) := by decide +kernel
theorem dX7_told_44 : decode cX7_told 44 = .ok (.aload_n 0, 1) := by decide +kernel
theorem dX7_told_45 : decode cX7_told 45 = .ok (.getfield 28, 3) := by decide +kernel
theorem dX7_told_48 : decode cX7_told 48 = .ok (.getfield 147, 3) := by decide +kernel
theorem dX7_told_51 : decode cX7_told 51 = .ok (.ireturn, 1) := by decide +kernel
theorem dX7_told_52 : decode cX7_told 52 = .ok (.iconst (-1), 1) := by decide +kernel
theorem dX7_told_53 : decode cX7_told 53 = .ok (.ireturn, 1) := by decide +kernel
theorem dy_X7_told : DY yX7_told 1 := by decide +kernel
theorem dX7_clear_0 : decode cX7_clear 0 = .ok (.aload_n 0, 1) := by decide +kernel
theorem dX7_clear_1 : decode cX7_clear 1 = .ok (.getfield 10, 3) := by decide +kernel
theorem dX7_clear_4 : decode cX7_clear 4 = .ok (.iconst 1, 1) := by decide +kernel
theorem dX7_clear_5 : decode cX7_clear 5 = .ok (.putfield 202, 3) := by decide +kernel
theorem dX7_clear_8 : decode cX7_clear 8 = .ok (.aload_n 0, 1) := by decide +kernel
theorem dX7_clear_9 : decode cX7_clear 9 = .ok (.getfield 21, 3) := by decide +kernel
theorem dX7_clear_12 : decode cX7_clear 12 = .ok (.iconst 0, 1) := by decide +kernel
theorem dX7_clear_13 : decode cX7_clear 13 = .ok (.putfield 203, 3) := by decide +kernel
theorem dX7_clear_16 : decode cX7_clear 16 = .ok (.aload_n 0, 1) := by decide +kernel
theorem dX7_clear_17 : decode cX7_clear 17 = .ok (.getfield 28, 3) := by decide +kernel
theorem dX7_clear_20 : decode cX7_clear 20 = .ok (.iconst 0, 1) := by decide +kernel
theorem dX7_clear_21 : decode cX7_clear 21 = .ok (.putfield 147, 3) := by decide +kernel
theorem dX7_clear_24 : decode cX7_clear 24 = .ok (.return_, 1) := by decide +kernel
theorem dy_X7_clear : DY yX7_clear 0 := by decide +kernel
theorem dX7_hasStrangeParameter_0 : decode cX7_hasStrangeParameter 0 = .ok (.aload_n 0, 1) := by decide +kernel
theorem dX7_hasStrangeParameter_1 : decode cX7_hasStrangeParameter 1 = .ok (.getfield 21, 3) := by decide +kernel
theorem dX7_hasStrangeParameter_4 : decode cX7_hasStrangeParameter 4 = .ok (.iload_n 1, 1) := by decide +kernel
theorem dX7_hasStrangeParameter_5 : decode cX7_hasStrangeParameter 5 = .ok (.aload_n 0, 1) := by decide +kernel
theorem dX7_hasStrangeParameter_6 : decode cX7_hasStrangeParameter 6 = .ok (.getfield 53, 3) := by decide +kernel
theorem dX7_hasStrangeParameter_9 : decode cX7_hasStrangeParameter 9 = .ok (.invokevirtual 130, 3) := by decide +kernel
theorem dX7_hasStrangeParameter_12 : decode cX7_hasStrangeParameter 12 = .ok (.aload_n 0, 1) := by decide +kernel
theorem dX7_hasStrangeParameter_13 : decode cX7_hasStrangeParameter 13 = .ok (.getfield 53, 3) := by decide +kernel
theorem dX7_hasStrangeParameter_16 : decode cX7_hasStrangeParameter 16 = .ok (.iload_n 2, 1) := by decide +kernel
theorem dX7_hasStrangeParameter_17 : decode cX7_hasStrangeParameter 17 = .ok (.invokevirtual 250, 3) := by decide +kernel
theorem dX7_hasStrangeParameter_20 : decode cX7_hasStrangeParameter 20 = .ok (.ireturn, 1) := by decide +kernel
theorem dy_X7_hasStrangeParameter : DY yX7_hasStrangeParameter 2 := by decide +kernel
theorem dX7_reasonAgainst_0 : decode cX7_reasonAgainst 0 = .ok (.aload_n 0, 1) := by decide +kernel
theorem dX7_reasonAgainst_1 : decode cX7_reasonAgainst 1 = .ok (.iload_n 2, 1) := by decide +kernel
theorem dX7_reasonAgainst_2 : decode cX7_reasonAgainst 2 = .ok (.iload_n 1, 1) := by decide +kernel
theorem dX7_reasonAgainst_3 : decode cX7_reasonAgainst 3 = .ok (.invokevirtual 242, 3) := by decide +kernel
theorem dX7_reasonAgainst_6 : decode cX7_reasonAgainst 6 = .ok (.ifCond .ne 17, 3) := by decide +kernel
theorem dX7_reasonAgainst_9 : decode cX7_reasonAgainst 9 = .ok (.iload_n 3, 1) := by decide +kernel
theorem dX7_reasonAgainst_10 : decode cX7_reasonAgainst 10 = .ok (.iconst (-1), 1) := by decide +kernel
theorem dX7_reasonAgainst_11 : decode cX7_reasonAgainst 11 = .ok (.if_icmp .eq 15, 3) := by decide +kernel
theorem dX7_reasonAgainst_14 : decode cX7_reasonAgainst 14 = .ok (.aload_n 0, 1) := by decide +kernel
theorem dX7_reasonAgainst_15 : decode cX7_reasonAgainst 15 = .ok (.iload_n 3, 1) := by decide +kernel
theorem dX7_reasonAgainst_16 : decode cX7_reasonAgainst 16 = .ok (.iload_n 1, 1) := by decide +kernel
theorem dX7_reasonAgainst_17 : decode cX7_reasonAgainst 17 = .ok (.invokevirtual 242, 3) := by decide +kernel
theorem dX7_reasonAgainst_20 : decode cX7_reasonAgainst 20 = .ok (.ifCond .eq 6, 3) := by decide +kernel
theorem dX7_reasonAgainst_23 : decode cX7_reasonAgainst 23 = .ok (.bipush 8, 2) := by decide +kernel
theorem dX7_reasonAgainst_25 : decode cX7_reasonAgainst 25 = .ok (.ireturn, 1) := by decide +kernel
theorem dX7_reasonAgainst_26 : decode cX7_reasonAgainst 26 = .ok (.aload_n 0, 1) := by decide +kernel
theorem dX7_reasonAgainst_27 : decode cX7_reasonAgainst 27 = .ok (.getfield 46, 3) := by decide +kernel
theorem dX7_reasonAgainst_30 : decode cX7_reasonAgainst 30 = .ok (.iload_n 2, 1) := by decide +kernel
theorem dX7_reasonAgainst_31 : decode cX7_reasonAgainst 31 = .ok (.iconst 0, 1) := by decide +kernel
theorem dX7_reasonAgainst_32 : decode cX7_reasonAgainst 32 = .ok (.iconst 0, 1) := by decide +kernel
theorem dX7_reasonAgainst_33 : decode cX7_reasonAgainst 33 = .ok (.invokevirtual 119, 3) := by decide +kernel
theorem dX7_reasonAgainst_36 : decode cX7_reasonAgainst 36 = .ok (.istore 4, 2) := by decide +kernel
theorem dX7_reasonAgainst_38 : decode cX7_reasonAgainst 38 = .ok (.iload 4, 2) := by decide +kernel
theorem dX7_reasonAgainst_40 : decode cX7_reasonAgainst 40 = .ok (.ifCond .ne 33, 3) := by decide +kernel
theorem dX7_reasonAgainst_43 : decode cX7_reasonAgainst 43 = .ok (.aload_n 0, 1) := by decide +kernel
theorem dX7_reasonAgainst_44 : decode cX7_reasonAgainst 44 = .ok (.getfield 46, 3) := by decide +kernel
theorem dX7_reasonAgainst_47 : decode cX7_reasonAgainst 47 = .ok (.aload_n 0, 1) := by decide +kernel
theorem dX7_reasonAgainst_48 : decode cX7_reasonAgainst 48 = .ok (.getfield 37, 3) := by decide +kernel
theorem dX7_reasonAgainst_51 : decode cX7_reasonAgainst 51 = .ok (.aload_n 0, 1) := by decide +kernel
theorem dX7_reasonAgainst_52 : decode cX7_reasonAgainst 52 = .ok (.getfield 46, 3) := by decide +kernel
theorem dX7_reasonAgainst_55 : decode cX7_reasonAgainst 55 = .ok (.getfield 123, 3) := by decide +kernel
theorem dX7_reasonAgainst_58 : decode cX7_reasonAgainst 58 = .ok (.invokevirtual 134, 3) := by decide +kernel
theorem dX7_reasonAgainst_61 : decode cX7_reasonAgainst 61 = .ok (.aload_n 0, 1) := by decide +kernel
theorem dX7_reasonAgainst_62 : decode cX7_reasonAgainst 62 = .ok (.getfield 46, 3) := by decide +kernel
theorem dX7_reasonAgainst_65 : decode cX7_reasonAgainst 65 = .ok (.getfield 123, 3) := by decide +kernel
theorem dX7_reasonAgainst_68 : decode cX7_reasonAgainst 68 = .ok (.invokevirtual 246, 3) := by decide +kernel
theorem dX7_reasonAgainst_71 : decode cX7_reasonAgainst 71 = .ok (.istore 4, 2) := by decide +kernel
theorem dX7_reasonAgainst_73 : decode cX7_reasonAgainst 73 = .ok (.iload 4, 2) := by decide +kernel
theorem dX7_reasonAgainst_75 : decode cX7_reasonAgainst 75 = .ok (.ifCond .ne 8, 3) := by decide +kernel
theorem dX7_reasonAgainst_78 : decode cX7_reasonAgainst 78 = .ok (.iload_n 3, 1) := by decide +kernel
theorem dX7_reasonAgainst_79 : decode cX7_reasonAgainst 79 = .ok (.iconst (-1), 1) := by decide +kernel
theorem dX7_reasonAgainst_80 : decode cX7_reasonAgainst 80 = .ok (.if_icmp .ne 6, 3) := by decide +kernel
theorem dX7_reasonAgainst_83 : decode cX7_reasonAgainst 83 = .ok (.iload 4, 2) := by decide +kernel
theorem dX7_reasonAgainst_85 : decode cX7_reasonAgainst 85 = .ok (.ireturn, 1) := by decide +kernel
theorem dX7_reasonAgainst_86 : decode cX7_reasonAgainst 86 = .ok (.aload_n 0, 1) := by decide +kernel
theorem dX7_reasonAgainst_87 : decode cX7_reasonAgainst 87 = .ok (.getfield 46, 3) := by decide +kernel
theorem dX7_reasonAgainst_90 : decode cX7_reasonAgainst 90 = .ok (.iload_n 3, 1) := by decide +kernel
theorem dX7_reasonAgainst_91 : decode cX7_reasonAgainst 91 = .ok (.iconst 0, 1) := by decide +kernel
theorem dX7_reasonAgainst_92 : decode cX7_reasonAgainst 92 = .ok (.iconst 0, 1) := by decide +kernel
theorem dX7_reasonAgainst_93 : decode cX7_reasonAgainst 93 = .ok (.invokevirtual 119, 3) := by decide +kernel
theorem dX7_reasonAgainst_96 : decode cX7_reasonAgainst 96 = .ok (.istore 4, 2) := by decide +kernel
theorem dX7_reasonAgainst_98 : decode cX7_reasonAgainst 98 = .ok (.iload 4, 2) := by decide +kernel
theorem dX7_reasonAgainst_100 : decode cX7_reasonAgainst 100 = .ok (.ifCond .eq 6, 3) := by decide +kernel
theorem dX7_reasonAgainst_103 : decode cX7_reasonAgainst 103 = .ok (.iload 4, 2) := by decide +kernel
theorem dX7_reasonAgainst_105 : decode cX7_reasonAgainst 105 = .ok (.ireturn, 1) := by decide +kernel
theorem dX7_reasonAgainst_106 : decode cX7_reasonAgainst 106 = .ok (.aload_n 0, 1) := by decide +kernel
theorem dX7_reasonAgainst_107 : decode cX7_reasonAgainst 107 = .ok (.getfield 21, 3) := by decide +kernel
theorem dX7_reasonAgainst_110 : decode cX7_reasonAgainst 110 = .ok (.iload_n 2, 1) := by decide +kernel
theorem dX7_reasonAgainst_111 : decode cX7_reasonAgainst 111 = .ok (.aload_n 0, 1) := by decide +kernel
theorem dX7_reasonAgainst_112 : decode cX7_reasonAgainst 112 = .ok (.getfield 53, 3) := by decide +kernel
theorem dX7_reasonAgainst_115 : decode cX7_reasonAgainst 115 = .ok (.invokevirtual 130, 3) := by decide +kernel
theorem dX7_reasonAgainst_118 : decode cX7_reasonAgainst 118 = .ok (.aload_n 0, 1) := by decide +kernel
theorem dX7_reasonAgainst_119 : decode cX7_reasonAgainst 119 = .ok (.getfield 37, 3) := by decide +kernel
theorem dX7_reasonAgainst_122 : decode cX7_reasonAgainst 122 = .ok (.aload_n 0, 1) := by decide +kernel
theorem dX7_reasonAgainst_123 : decode cX7_reasonAgainst 123 = .ok (.getfield 46, 3) := by decide +kernel
theorem dX7_reasonAgainst_126 : decode cX7_reasonAgainst 126 = .ok (.getfield 123, 3) := by decide +kernel
theorem dX7_reasonAgainst_129 : decode cX7_reasonAgainst 129 = .ok (.invokevirtual 134, 3) := by decide +kernel
theorem dX7_reasonAgainst_132 : decode cX7_reasonAgainst 132 = .ok (.bipush (-6), 2) := by decide +kernel
theorem dX7_reasonAgainst_134 : decode cX7_reasonAgainst 134 = .ok (.if_icmp .eq 19, 3) := by decide +kernel
theorem dX7_reasonAgainst_137 : decode cX7_reasonAgainst 137 = .ok (.aload_n 0, 1) := by decide +kernel
theorem dX7_reasonAgainst_138 : decode cX7_reasonAgainst 138 = .ok (.getfield 37, 3) := by decide +kernel
theorem dX7_reasonAgainst_141 : decode cX7_reasonAgainst 141 = .ok (.aload_n 0, 1) := by decide +kernel
theorem dX7_reasonAgainst_142 : decode cX7_reasonAgainst 142 = .ok (.getfield 53, 3) := by decide +kernel
theorem dX7_reasonAgainst_145 : decode cX7_reasonAgainst 145 = .ok (.invokevirtual 134, 3) := by decide +kernel
theorem dX7_reasonAgainst_148 : decode cX7_reasonAgainst 148 = .ok (.bipush (-6), 2) := by decide +kernel
theorem dX7_reasonAgainst_150 : decode cX7_reasonAgainst 150 = .ok (.if_icmp .ne 5, 3) := by decide +kernel
theorem dX7_reasonAgainst_153 : decode cX7_reasonAgainst 153 = .ok (.iconst 5, 1) := by decide +kernel
theorem dX7_reasonAgainst_154 : decode cX7_reasonAgainst 154 = .ok (.ireturn, 1) := by decide +kernel
theorem dX7_reasonAgainst_155 : decode cX7_reasonAgainst 155 = .ok (.aload_n 0, 1) := by decide +kernel
theorem dX7_reasonAgainst_156 : decode cX7_reasonAgainst 156 = .ok (.getfield 53, 3) := by decide +kernel
theorem dX7_reasonAgainst_159 : decode cX7_reasonAgainst 159 = .ok (.iconst 0, 1) := by decide +kernel
theorem dX7_reasonAgainst_160 : decode cX7_reasonAgainst 160 = .ok (.aload_n 0, 1) := by decide +kernel
theorem dX7_reasonAgainst_161 : decode cX7_reasonAgainst 161 = .ok (.getfield 53, 3) := by decide +kernel
theorem dX7_reasonAgainst_164 : decode cX7_reasonAgainst 164 = .ok (.getfield 137, 3) := by decide +kernel
theorem dX7_reasonAgainst_167 : decode cX7_reasonAgainst 167 = .ok (.aload_n 0, 1) := by decide +kernel
theorem dX7_reasonAgainst_168 : decode cX7_reasonAgainst 168 = .ok (.getfield 46, 3) := by decide +kernel
theorem dX7_reasonAgainst_171 : decode cX7_reasonAgainst 171 = .ok (.getfield 123, 3) := by decide +kernel
theorem dX7_reasonAgainst_174 : decode cX7_reasonAgainst 174 = .ok (.aload_n 0, 1) := by decide +kernel
theorem dX7_reasonAgainst_175 : decode cX7_reasonAgainst 175 = .ok (.getfield 10, 3) := by decide +kernel
theorem dX7_reasonAgainst_178 : decode cX7_reasonAgainst 178 = .ok (.invokevirtual 141, 3) := by decide +kernel
theorem dX7_reasonAgainst_181 : decode cX7_reasonAgainst 181 = .ok (.ifCond .eq 7, 3) := by decide +kernel
theorem dX7_reasonAgainst_184 : decode cX7_reasonAgainst 184 = .ok (.iconst 0, 1) := by decide +kernel
theorem dX7_reasonAgainst_185 : decode cX7_reasonAgainst 185 = .ok (.goto 5, 3) := by decide +kernel
theorem dX7_reasonAgainst_188 : decode cX7_reasonAgainst 188 = .ok (.bipush 7, 2) := by decide +kernel
theorem dX7_reasonAgainst_190 : decode cX7_reasonAgainst 190 = .ok (.ireturn, 1) := by decide +kernel
theorem dy_X7_reasonAgainst : DY yX7_reasonAgainst 3 := by decide +kernel
theorem dX7_needLevel_0 : decode cX7_needLevel 0 = .ok (.iload_n 1, 1) := by decide +kernel
theorem dX7_needLevel_1 : decode cX7_needLevel 1 = .ok (.ifCond .lt 14, 3) := by decide +kernel
theorem dX7_needLevel_4 : decode cX7_needLevel 4 = .ok (.iload_n 1, 1) := by decide +kernel
theorem dX7_needLevel_5 : decode cX7_needLevel 5 = .ok (.aload_n 0, 1) := by decide +kernel
theorem dX7_needLevel_6 : decode cX7_needLevel 6 = .ok (.getfield 10, 3) := by decide +kernel
theorem dX7_needLevel_9 : decode cX7_needLevel 9 = .ok (.getfield 202, 3) := by decide +kernel
theorem dX7_needLevel_12 : decode cX7_needLevel 12 = .ok (.if_icmp .lt 13, 3) := by decide +kernel
theorem dX7_needLevel_15 : decode cX7_needLevel 15 = .ok (.new 204, 3) := by decide +kernel
theorem dX7_needLevel_18 : decode cX7_needLevel 18 = .ok (.dup, 1) := by decide +kernel
theorem dX7_needLevel_19 : decode cX7_needLevel 19 = .ok (.ldc 206, 2) := by decide +kernel
theorem dX7_needLevel_21 : decode cX7_needLevel 21 = .ok (.invokespecial 208, 3) := by decide +kernel
theorem dX7_needLevel_24 : decode cX7_needLevel 24 = .ok (.athrow, 1) := by decide +kernel
theorem dX7_needLevel_25 : decode cX7_needLevel 25 = .ok (.return_, 1) := by decide +kernel
theorem dy_X7_needLevel : DY yX7_needLevel 1 := by decide +kernel
theorem dX7_needTerm_0 : decode cX7_needTerm 0 = .ok (.iload_n 1, 1) := by decide +kernel
theorem dX7_needTerm_1 : decode cX7_needTerm 1 = .ok (.ifCond .lt 14, 3) := by decide +kernel
theorem dX7_needTerm_4 : decode cX7_needTerm 4 = .ok (.iload_n 1, 1) := by decide +kernel
theorem dX7_needTerm_5 : decode cX7_needTerm 5 = .ok (.aload_n 0, 1) := by decide +kernel
theorem dX7_needTerm_6 : decode cX7_needTerm 6 = .ok (.getfield 21, 3) := by decide +kernel
theorem dX7_needTerm_9 : decode cX7_needTerm 9 = .ok (.getfield 203, 3) := by decide +kernel
theorem dX7_needTerm_12 : decode cX7_needTerm 12 = .ok (.if_icmp .lt 13, 3) := by decide +kernel
theorem dX7_needTerm_15 : decode cX7_needTerm 15 = .ok (.new 204, 3) := by decide +kernel
theorem dX7_needTerm_18 : decode cX7_needTerm 18 = .ok (.dup, 1) := by decide +kernel
theorem dX7_needTerm_19 : decode cX7_needTerm 19 = .ok (.ldc 209, 2) := by decide +kernel
theorem dX7_needTerm_21 : decode cX7_needTerm 21 = .ok (.invokespecial 208, 3) := by decide +kernel
theorem dX7_needTerm_24 : decode cX7_needTerm 24 = .ok (.athrow, 1) := by decide +kernel
theorem dX7_needTerm_25 : decode cX7_needTerm 25 = .ok (.return_, 1) := by decide +kernel
theorem dy_X7_needTerm : DY yX7_needTerm 1 := by decide +kernel
theorem dX7_needName_0 : decode cX7_needName 0 = .ok (.iload_n 1, 1) := by decide +kernel
theorem dX7_needName_1 : decode cX7_needName 1 = .ok (.ifCond .lt 14, 3) := by decide +kernel
theorem dX7_needName_4 : decode cX7_needName 4 = .ok (.iload_n 1, 1) := by decide +kernel
theorem dX7_needName_5 : decode cX7_needName 5 = .ok (.aload_n 0, 1) := by decide +kernel
theorem dX7_needName_6 : decode cX7_needName 6 = .ok (.getfield 28, 3) := by decide +kernel
theorem dX7_needName_9 : decode cX7_needName 9 = .ok (.getfield 147, 3) := by decide +kernel
theorem dX7_needName_12 : decode cX7_needName 12 = .ok (.if_icmp .lt 13, 3) := by decide +kernel
theorem dX7_needName_15 : decode cX7_needName 15 = .ok (.new 204, 3) := by decide +kernel
theorem dX7_needName_18 : decode cX7_needName 18 = .ok (.dup, 1) := by decide +kernel
theorem dX7_needName_19 : decode cX7_needName 19 = .ok (.ldc 211, 2) := by decide +kernel
theorem dX7_needName_21 : decode cX7_needName 21 = .ok (.invokespecial 208, 3) := by decide +kernel
theorem dX7_needName_24 : decode cX7_needName 24 = .ok (.athrow, 1) := by decide +kernel
theorem dX7_needName_25 : decode cX7_needName 25 = .ok (.return_, 1) := by decide +kernel
theorem dy_X7_needName : DY yX7_needName 1 := by decide +kernel
theorem dX7_needParameterValue_0 : decode cX7_needParameterValue 0 = .ok (.iload_n 1, 1) := by decide +kernel
theorem dX7_needParameterValue_1 : decode cX7_needParameterValue 1 = .ok (.ifCond .lt 10, 3) := by decide +kernel
theorem dX7_needParameterValue_4 : decode cX7_needParameterValue 4 = .ok (.iload_n 1, 1) := by decide +kernel
theorem dX7_needParameterValue_5 : decode cX7_needParameterValue 5 = .ok (.sipush 1000, 3) := by decide +kernel
theorem dX7_needParameterValue_8 : decode cX7_needParameterValue 8 = .ok (.if_icmp .le 13, 3) := by decide +kernel
theorem dX7_needParameterValue_11 : decode cX7_needParameterValue 11 = .ok (.new 60, 3) := by decide +kernel
theorem dX7_needParameterValue_14 : decode cX7_needParameterValue 14 = .ok (.dup, 1) := by decide +kernel
theorem dX7_needParameterValue_15 : decode cX7_needParameterValue 15 = .ok (.ldc 213, 2) := by decide +kernel
theorem dX7_needParameterValue_17 : decode cX7_needParameterValue 17 = .ok (.invokespecial 64, 3) := by decide +kernel
theorem dX7_needParameterValue_20 : decode cX7_needParameterValue 20 = .ok (.athrow, 1) := by decide +kernel
theorem dX7_needParameterValue_21 : decode cX7_needParameterValue 21 = .ok (.return_, 1) := by decide +kernel
theorem dy_X7_needParameterValue : DY yX7_needParameterValue 1 := by decide +kernel
theorem dX7_askedLevel_0 : decode cX7_askedLevel 0 = .ok (.lload_n 1, 1) := by decide +kernel
theorem dX7_askedLevel_1 : decode cX7_askedLevel 1 = .ok (.ldc2_w 215, 3) := by decide +kernel
theorem dX7_askedLevel_4 : decode cX7_askedLevel 4 = .ok (.lcmp, 1) := by decide +kernel
theorem dX7_askedLevel_5 : decode cX7_askedLevel 5 = .ok (.ifCond .eq 12, 3) := by decide +kernel
theorem dX7_askedLevel_8 : decode cX7_askedLevel 8 = .ok (.lload_n 1, 1) := by decide +kernel
theorem dX7_askedLevel_9 : decode cX7_askedLevel 9 = .ok (.invokestatic 186, 3) := by decide +kernel
theorem dX7_askedLevel_12 : decode cX7_askedLevel 12 = .ok (.bipush 8, 2) := by decide +kernel
theorem dX7_askedLevel_14 : decode cX7_askedLevel 14 = .ok (.if_icmp .le 13, 3) := by decide +kernel
theorem dX7_askedLevel_17 : decode cX7_askedLevel 17 = .ok (.new 150, 3) := by decide +kernel
theorem dX7_askedLevel_20 : decode cX7_askedLevel 20 = .ok (.dup, 1) := by decide +kernel
theorem dX7_askedLevel_21 : decode cX7_askedLevel 21 = .ok (.ldc 217, 2) := by decide +kernel
theorem dX7_askedLevel_23 : decode cX7_askedLevel 23 = .ok (.invokespecial 154, 3) := by decide +kernel
theorem dX7_askedLevel_26 : decode cX7_askedLevel 26 = .ok (.athrow, 1) := by decide +kernel
theorem dX7_askedLevel_27 : decode cX7_askedLevel 27 = .ok (.aload_n 0, 1) := by decide +kernel
theorem dX7_askedLevel_28 : decode cX7_askedLevel 28 = .ok (.getfield 10, 3) := by decide +kernel
theorem dX7_askedLevel_31 : decode cX7_askedLevel 31 = .ok (.lload_n 1, 1) := by decide +kernel
theorem dX7_askedLevel_32 : decode cX7_askedLevel 32 = .ok (.invokevirtual 219, 3) := by decide +kernel
theorem dX7_askedLevel_35 : decode cX7_askedLevel 35 = .ok (.istore_n 3, 1) := by decide +kernel
theorem dX7_askedLevel_36 : decode cX7_askedLevel 36 = .ok (.iload_n 3, 1) := by decide +kernel
theorem dX7_askedLevel_37 : decode cX7_askedLevel 37 = .ok (.iconst (-1), 1) := by decide +kernel
theorem dX7_askedLevel_38 : decode cX7_askedLevel 38 = .ok (.if_icmp .ne 13, 3) := by decide +kernel
theorem dX7_askedLevel_41 : decode cX7_askedLevel 41 = .ok (.new 150, 3) := by decide +kernel
theorem dX7_askedLevel_44 : decode cX7_askedLevel 44 = .ok (.dup, 1) := by decide +kernel
theorem dX7_askedLevel_45 : decode cX7_askedLevel 45 = .ok (.ldc 222, 2) := by decide +kernel
theorem dX7_askedLevel_47 : decode cX7_askedLevel 47 = .ok (.invokespecial 154, 3) := by decide +kernel
theorem dX7_askedLevel_50 : decode cX7_askedLevel 50 = .ok (.athrow, 1) := by decide +kernel
theorem dX7_askedLevel_51 : decode cX7_askedLevel 51 = .ok (.iload_n 3, 1) := by decide +kernel
theorem dX7_askedLevel_52 : decode cX7_askedLevel 52 = .ok (.ireturn, 1) := by decide +kernel
theorem dy_X7_askedLevel : DY yX7_askedLevel 1 := by decide +kernel
theorem dX7_askedTerm_0 : decode cX7_askedTerm 0 = .ok (.aload_n 0, 1) := by decide +kernel
theorem dX7_askedTerm_1 : decode cX7_askedTerm 1 = .ok (.getfield 21, 3) := by decide +kernel
theorem dX7_askedTerm_4 : decode cX7_askedTerm 4 = .ok (.iload_n 1, 1) := by decide +kernel
theorem dX7_askedTerm_5 : decode cX7_askedTerm 5 = .ok (.iload_n 2, 1) := by decide +kernel
theorem dX7_askedTerm_6 : decode cX7_askedTerm 6 = .ok (.iload_n 3, 1) := by decide +kernel
theorem dX7_askedTerm_7 : decode cX7_askedTerm 7 = .ok (.iload 4, 2) := by decide +kernel
theorem dX7_askedTerm_9 : decode cX7_askedTerm 9 = .ok (.invokevirtual 224, 3) := by decide +kernel
theorem dX7_askedTerm_12 : decode cX7_askedTerm 12 = .ok (.bipush 60, 2) := by decide +kernel
theorem dX7_askedTerm_14 : decode cX7_askedTerm 14 = .ok (.if_icmp .le 13, 3) := by decide +kernel
theorem dX7_askedTerm_17 : decode cX7_askedTerm 17 = .ok (.new 150, 3) := by decide +kernel
theorem dX7_askedTerm_20 : decode cX7_askedTerm 20 = .ok (.dup, 1) := by decide +kernel
theorem dX7_askedTerm_21 : decode cX7_askedTerm 21 = .ok (.ldc 227, 2) := by decide +kernel
theorem dX7_askedTerm_23 : decode cX7_askedTerm 23 = .ok (.invokespecial 154, 3) := by decide +kernel
theorem dX7_askedTerm_26 : decode cX7_askedTerm 26 = .ok (.athrow, 1) := by decide +kernel
theorem dX7_askedTerm_27 : decode cX7_askedTerm 27 = .ok (.aload_n 0, 1) := by decide +kernel
theorem dX7_askedTerm_28 : decode cX7_askedTerm 28 = .ok (.getfield 21, 3) := by decide +kernel
theorem dX7_askedTerm_31 : decode cX7_askedTerm 31 = .ok (.iload_n 1, 1) := by decide +kernel
theorem dX7_askedTerm_32 : decode cX7_askedTerm 32 = .ok (.iload_n 2, 1) := by decide +kernel
theorem dX7_askedTerm_33 : decode cX7_askedTerm 33 = .ok (.iload_n 3, 1) := by decide +kernel
theorem dX7_askedTerm_34 : decode cX7_askedTerm 34 = .ok (.iload 4, 2) := by decide +kernel
theorem dX7_askedTerm_36 : decode cX7_askedTerm 36 = .ok (.invokevirtual 229, 3) := by decide +kernel
theorem dX7_askedTerm_39 : decode cX7_askedTerm 39 = .ok (.istore 5, 2) := by decide +kernel
theorem dX7_askedTerm_41 : decode cX7_askedTerm 41 = .ok (.iload 5, 2) := by decide +kernel
theorem dX7_askedTerm_43 : decode cX7_askedTerm 43 = .ok (.iconst (-1), 1) := by decide +kernel
theorem dX7_askedTerm_44 : decode cX7_askedTerm 44 = .ok (.if_icmp .ne 13, 3) := by decide +kernel
theorem dX7_askedTerm_47 : decode cX7_askedTerm 47 = .ok (.new 150, 3) := by decide +kernel
theorem dX7_askedTerm_50 : decode cX7_askedTerm 50 = .ok (.dup, 1) := by decide +kernel
theorem dX7_askedTerm_51 : decode cX7_askedTerm 51 = .ok (.ldc 231, 2) := by decide +kernel
theorem dX7_askedTerm_53 : decode cX7_askedTerm 53 = .ok (.invokespecial 154, 3) := by decide +kernel
theorem dX7_askedTerm_56 : decode cX7_askedTerm 56 = .ok (.athrow, 1) := by decide +kernel
theorem dX7_askedTerm_57 : decode cX7_askedTerm 57 = .ok (.iload 5, 2) := by decide +kernel
theorem dX7_askedTerm_59 : decode cX7_askedTerm 59 = .ok (.ireturn, 1) := by decide +kernel
theorem dy_X7_askedTerm : DY yX7_askedTerm 4 := by decide +kernel
theorem dX7_numbered_0 : decode cX7_numbered 0 = .ok (.aload_n 0, 1) := by decide +kernel
theorem dX7_numbered_1 : decode cX7_numbered 1 = .ok (.getfield 10, 3) := by decide +kernel
theorem dX7_numbered_4 : decode cX7_numbered 4 = .ok (.getfield 202, 3) := by decide +kernel
theorem dX7_numbered_7 : decode cX7_numbered 7 = .ok (.istore_n 2, 1) := by decide +kernel
theorem dX7_numbered_8 : decode cX7_numbered 8 = .ok (.aload_n 0, 1) := by decide +kernel
theorem dX7_numbered_9 : decode cX7_numbered 9 = .ok (.getfield 21, 3) := by decide +kernel
theorem dX7_numbered_12 : decode cX7_numbered 12 = .ok (.getfield 203, 3) := by decide +kernel
theorem dX7_numbered_15 : decode cX7_numbered 15 = .ok (.istore_n 3, 1) := by decide +kernel
theorem dX7_numbered_16 : decode cX7_numbered 16 = .ok (.aload_n 0, 1) := by decide +kernel
theorem dX7_numbered_17 : decode cX7_numbered 17 = .ok (.getfield 21, 3) := by decide +kernel
theorem dX7_numbered_20 : decode cX7_numbered 20 = .ok (.iconst 0, 1) := by decide +kernel
theorem dX7_numbered_21 : decode cX7_numbered 21 = .ok (.putfield 233, 3) := by decide +kernel
theorem dX7_numbered_24 : decode cX7_numbered 24 = .ok (.aload_n 0, 1) := by decide +kernel
theorem dX7_numbered_25 : decode cX7_numbered 25 = .ok (.getfield 21, 3) := by decide +kernel
theorem dX7_numbered_28 : decode cX7_numbered 28 = .ok (.aload_n 1, 1) := by decide +kernel
theorem dX7_numbered_29 : decode cX7_numbered 29 = .ok (.iconst 0, 1) := by decide +kernel
theorem dX7_numbered_30 : decode cX7_numbered 30 = .ok (.invokevirtual 236, 3) := by decide +kernel
theorem dX7_numbered_33 : decode cX7_numbered 33 = .ok (.istore 4, 2) := by decide +kernel
theorem dX7_numbered_35 : decode cX7_numbered 35 = .ok (.iload 4, 2) := by decide +kernel
theorem dX7_numbered_37 : decode cX7_numbered 37 = .ok (.iconst (-1), 1) := by decide +kernel
theorem dX7_numbered_38 : decode cX7_numbered 38 = .ok (.if_icmp .ne 29, 3) := by decide +kernel
theorem dX7_numbered_41 : decode cX7_numbered 41 = .ok (.aload_n 0, 1) := by decide +kernel
theorem dX7_numbered_42 : decode cX7_numbered 42 = .ok (.getfield 10, 3) := by decide +kernel
theorem dX7_numbered_45 : decode cX7_numbered 45 = .ok (.iload_n 2, 1) := by decide +kernel
theorem dX7_numbered_46 : decode cX7_numbered 46 = .ok (.putfield 202, 3) := by decide +kernel
theorem dX7_numbered_49 : decode cX7_numbered 49 = .ok (.aload_n 0, 1) := by decide +kernel
theorem dX7_numbered_50 : decode cX7_numbered 50 = .ok (.getfield 21, 3) := by decide +kernel
theorem dX7_numbered_53 : decode cX7_numbered 53 = .ok (.iload_n 3, 1) := by decide +kernel
theorem dX7_numbered_54 : decode cX7_numbered 54 = .ok (.putfield 203, 3) := by decide +kernel
theorem dX7_numbered_57 : decode cX7_numbered 57 = .ok (.new 150, 3) := by decide +kernel
theorem dX7_numbered_60 : decode cX7_numbered 60 = .ok (.dup, 1) := by decide +kernel
theorem dX7_numbered_61 : decode cX7_numbered 61 = .ok (.ldc 240, 2) := by decide +kernel
theorem dX7_numbered_63 : decode cX7_numbered 63 = .ok (.invokespecial 154, 3) := by decide +kernel
theorem dX7_numbered_66 : decode cX7_numbered 66 = .ok (.athrow, 1) := by decide +kernel
theorem dX7_numbered_67 : decode cX7_numbered 67 = .ok (.iload 4, 2) := by decide +kernel
theorem dX7_numbered_69 : decode cX7_numbered 69 = .ok (.ireturn, 1) := by decide +kernel
theorem dy_X7_numbered : DY yX7_numbered 1 := by decide +kernel
theorem dX7_level_0 : decode cX7_level 0 = .ok (.iload_n 1, 1) := by decide +kernel
theorem dX7_level_1 : decode cX7_level 1 = .ok (.iconst 1, 1) := by decide +kernel
theorem dX7_level_2 : decode cX7_level 2 = .ok (.if_icmp .lt 8, 3) := by decide +kernel
theorem dX7_level_5 : decode cX7_level 5 = .ok (.iload_n 1, 1) := by decide +kernel
theorem dX7_level_6 : decode cX7_level 6 = .ok (.iconst 4, 1) := by decide +kernel
theorem dX7_level_7 : decode cX7_level 7 = .ok (.if_icmp .le 13, 3) := by decide +kernel
theorem dX7_level_10 : decode cX7_level 10 = .ok (.new 60, 3) := by decide +kernel
theorem dX7_level_13 : decode cX7_level 13 = .ok (.dup, 1) := by decide +kernel
theorem dX7_level_14 : decode cX7_level 14 = .ok (.ldc 62, 2) := by decide +kernel
theorem dX7_level_16 : decode cX7_level 16 = .ok (.invokespecial 64, 3) := by decide +kernel
theorem dX7_level_19 : decode cX7_level 19 = .ok (.athrow, 1) := by decide +kernel
theorem dX7_level_20 : decode cX7_level 20 = .ok (.iload_n 1, 1) := by decide +kernel
theorem dX7_level_21 : decode cX7_level 21 = .ok (.iconst 4, 1) := by decide +kernel
theorem dX7_level_22 : decode cX7_level 22 = .ok (.if_icmp .ne 31, 3) := by decide +kernel
theorem dX7_level_25 : decode cX7_level 25 = .ok (.iload_n 2, 1) := by decide +kernel
theorem dX7_level_26 : decode cX7_level 26 = .ok (.ifCond .lt 8, 3) := by decide +kernel
theorem dX7_level_29 : decode cX7_level 29 = .ok (.iload_n 2, 1) := by decide +kernel
theorem dX7_level_30 : decode cX7_level 30 = .ok (.iconst 3, 1) := by decide +kernel
theorem dX7_level_31 : decode cX7_level 31 = .ok (.if_icmp .lt 13, 3) := by decide +kernel
theorem dX7_level_34 : decode cX7_level 34 = .ok (.new 60, 3) := by decide +kernel
theorem dX7_level_37 : decode cX7_level 37 = .ok (.dup, 1) := by decide +kernel
theorem dX7_level_38 : decode cX7_level 38 = .ok (.ldc 67, 2) := by decide +kernel
theorem dX7_level_40 : decode cX7_level 40 = .ok (.invokespecial 64, 3) := by decide +kernel
theorem dX7_level_43 : decode cX7_level 43 = .ok (.athrow, 1) := by decide +kernel
theorem dX7_level_44 : decode cX7_level 44 = .ok (.aload_n 0, 1) := by decide +kernel
theorem dX7_level_45 : decode cX7_level 45 = .ok (.iload_n 2, 1) := by decide +kernel
theorem dX7_level_46 : decode cX7_level 46 = .ok (.invokestatic 69, 3) := by decide +kernel
theorem dX7_level_49 : decode cX7_level 49 = .ok (.invokevirtual 75, 3) := by decide +kernel
theorem dX7_level_52 : decode cX7_level 52 = .ok (.ireturn, 1) := by decide +kernel
theorem dX7_level_53 : decode cX7_level 53 = .ok (.aload_n 0, 1) := by decide +kernel
theorem dX7_level_54 : decode cX7_level 54 = .ok (.iload_n 2, 1) := by decide +kernel
theorem dX7_level_55 : decode cX7_level 55 = .ok (.invokevirtual 79, 3) := by decide +kernel
theorem dX7_level_58 : decode cX7_level 58 = .ok (.iload_n 1, 1) := by decide +kernel
theorem dX7_level_59 : decode cX7_level 59 = .ok (.iconst 1, 1) := by decide +kernel
theorem dX7_level_60 : decode cX7_level 60 = .ok (.if_icmp .ne 19, 3) := by decide +kernel
theorem dX7_level_63 : decode cX7_level 63 = .ok (.aload_n 0, 1) := by decide +kernel
theorem dX7_level_64 : decode cX7_level 64 = .ok (.aload_n 0, 1) := by decide +kernel
theorem dX7_level_65 : decode cX7_level 65 = .ok (.getfield 10, 3) := by decide +kernel
theorem dX7_level_68 : decode cX7_level 68 = .ok (.iload_n 2, 1) := by decide +kernel
theorem dX7_level_69 : decode cX7_level 69 = .ok (.invokevirtual 83, 3) := by decide +kernel
theorem dX7_level_72 : decode cX7_level 72 = .ok (.invokestatic 86, 3) := by decide +kernel
theorem dX7_level_75 : decode cX7_level 75 = .ok (.invokevirtual 75, 3) := by decide +kernel
theorem dX7_level_78 : decode cX7_level 78 = .ok (.ireturn, 1) := by decide +kernel
theorem dX7_level_79 : decode cX7_level 79 = .ok (.aload_n 0, 1) := by decide +kernel
theorem dX7_level_80 : decode cX7_level 80 = .ok (.iload_n 3, 1) := by decide +kernel
theorem dX7_level_81 : decode cX7_level 81 = .ok (.invokevirtual 79, 3) := by decide +kernel
theorem dX7_level_84 : decode cX7_level 84 = .ok (.aload_n 0, 1) := by decide +kernel
theorem dX7_level_85 : decode cX7_level 85 = .ok (.iload_n 1, 1) := by decide +kernel
theorem dX7_level_86 : decode cX7_level 86 = .ok (.aload_n 0, 1) := by decide +kernel
theorem dX7_level_87 : decode cX7_level 87 = .ok (.getfield 10, 3) := by decide +kernel
theorem dX7_level_90 : decode cX7_level 90 = .ok (.iload_n 2, 1) := by decide +kernel
theorem dX7_level_91 : decode cX7_level 91 = .ok (.invokevirtual 83, 3) := by decide +kernel
theorem dX7_level_94 : decode cX7_level 94 = .ok (.aload_n 0, 1) := by decide +kernel
theorem dX7_level_95 : decode cX7_level 95 = .ok (.getfield 10, 3) := by decide +kernel
theorem dX7_level_98 : decode cX7_level 98 = .ok (.iload_n 3, 1) := by decide +kernel
theorem dX7_level_99 : decode cX7_level 99 = .ok (.invokevirtual 83, 3) := by decide +kernel
theorem dX7_level_102 : decode cX7_level 102 = .ok (.invokestatic 90, 3) := by decide +kernel
theorem dX7_level_105 : decode cX7_level 105 = .ok (.invokevirtual 75, 3) := by decide +kernel
theorem dX7_level_108 : decode cX7_level 108 = .ok (.ireturn, 1) := by decide +kernel
theorem dy_X7_level : DY yX7_level 3 := by decide +kernel
theorem dX7_atMost_0 : decode cX7_atMost 0 = .ok (.aload_n 0, 1) := by decide +kernel
theorem dX7_atMost_1 : decode cX7_atMost 1 = .ok (.iload_n 1, 1) := by decide +kernel
theorem dX7_atMost_2 : decode cX7_atMost 2 = .ok (.invokevirtual 79, 3) := by decide +kernel
theorem dX7_atMost_5 : decode cX7_atMost 5 = .ok (.aload_n 0, 1) := by decide +kernel
theorem dX7_atMost_6 : decode cX7_atMost 6 = .ok (.iload_n 2, 1) := by decide +kernel
theorem dX7_atMost_7 : decode cX7_atMost 7 = .ok (.invokevirtual 79, 3) := by decide +kernel
theorem dX7_atMost_10 : decode cX7_atMost 10 = .ok (.aload_n 0, 1) := by decide +kernel
theorem dX7_atMost_11 : decode cX7_atMost 11 = .ok (.getfield 10, 3) := by decide +kernel
theorem dX7_atMost_14 : decode cX7_atMost 14 = .ok (.aload_n 0, 1) := by decide +kernel
theorem dX7_atMost_15 : decode cX7_atMost 15 = .ok (.getfield 10, 3) := by decide +kernel
theorem dX7_atMost_18 : decode cX7_atMost 18 = .ok (.iload_n 1, 1) := by decide +kernel
theorem dX7_atMost_19 : decode cX7_atMost 19 = .ok (.invokevirtual 83, 3) := by decide +kernel
theorem dX7_atMost_22 : decode cX7_atMost 22 = .ok (.aload_n 0, 1) := by decide +kernel
theorem dX7_atMost_23 : decode cX7_atMost 23 = .ok (.getfield 10, 3) := by decide +kernel
theorem dX7_atMost_26 : decode cX7_atMost 26 = .ok (.iload_n 2, 1) := by decide +kernel
theorem dX7_atMost_27 : decode cX7_atMost 27 = .ok (.invokevirtual 83, 3) := by decide +kernel
theorem dX7_atMost_30 : decode cX7_atMost 30 = .ok (.invokevirtual 94, 3) := by decide +kernel
theorem dX7_atMost_33 : decode cX7_atMost 33 = .ok (.ireturn, 1) := by decide +kernel
theorem dy_X7_atMost : DY yX7_atMost 2 := by decide +kernel
theorem dX7_value_0 : decode cX7_value 0 = .ok (.aload_n 0, 1) := by decide +kernel
theorem dX7_value_1 : decode cX7_value 1 = .ok (.iload_n 1, 1) := by decide +kernel
theorem dX7_value_2 : decode cX7_value 2 = .ok (.invokevirtual 79, 3) := by decide +kernel
theorem dX7_value_5 : decode cX7_value 5 = .ok (.aload_n 0, 1) := by decide +kernel
theorem dX7_value_6 : decode cX7_value 6 = .ok (.iload_n 2, 1) := by decide +kernel
theorem dX7_value_7 : decode cX7_value 7 = .ok (.invokevirtual 98, 3) := by decide +kernel
theorem dX7_value_10 : decode cX7_value 10 = .ok (.aload_n 0, 1) := by decide +kernel
theorem dX7_value_11 : decode cX7_value 11 = .ok (.iload_n 3, 1) := by decide +kernel
theorem dX7_value_12 : decode cX7_value 12 = .ok (.invokevirtual 98, 3) := by decide +kernel
theorem dX7_value_15 : decode cX7_value 15 = .ok (.aload_n 0, 1) := by decide +kernel
theorem dX7_value_16 : decode cX7_value 16 = .ok (.iload 4, 2) := by decide +kernel
theorem dX7_value_18 : decode cX7_value 18 = .ok (.invokevirtual 98, 3) := by decide +kernel
theorem dX7_value_21 : decode cX7_value 21 = .ok (.aload_n 0, 1) := by decide +kernel
theorem dX7_value_22 : decode cX7_value 22 = .ok (.getfield 10, 3) := by decide +kernel
theorem dX7_value_25 : decode cX7_value 25 = .ok (.aload_n 0, 1) := by decide +kernel
theorem dX7_value_26 : decode cX7_value 26 = .ok (.getfield 10, 3) := by decide +kernel
theorem dX7_value_29 : decode cX7_value 29 = .ok (.iload_n 1, 1) := by decide +kernel
theorem dX7_value_30 : decode cX7_value 30 = .ok (.invokevirtual 83, 3) := by decide +kernel
theorem dX7_value_33 : decode cX7_value 33 = .ok (.iload_n 2, 1) := by decide +kernel
theorem dX7_value_34 : decode cX7_value 34 = .ok (.iload_n 3, 1) := by decide +kernel
theorem dX7_value_35 : decode cX7_value 35 = .ok (.iload 4, 2) := by decide +kernel
theorem dX7_value_37 : decode cX7_value 37 = .ok (.invokevirtual 101, 3) := by decide +kernel
theorem dX7_value_40 : decode cX7_value 40 = .ok (.ireturn, 1) := by decide +kernel
theorem dy_X7_value : DY yX7_value 4 := by decide +kernel
theorem dX7_sort_0 : decode cX7_sort 0 = .ok (.aload_n 0, 1) := by decide +kernel
theorem dX7_sort_1 : decode cX7_sort 1 = .ok (.iload_n 1, 1) := by decide +kernel
theorem dX7_sort_2 : decode cX7_sort 2 = .ok (.invokevirtual 79, 3) := by decide +kernel
theorem dX7_sort_5 : decode cX7_sort 5 = .ok (.aload_n 0, 1) := by decide +kernel
theorem dX7_sort_6 : decode cX7_sort 6 = .ok (.iconst 0, 1) := by decide +kernel
theorem dX7_sort_7 : decode cX7_sort 7 = .ok (.iload_n 1, 1) := by decide +kernel
theorem dX7_sort_8 : decode cX7_sort 8 = .ok (.iconst (-1), 1) := by decide +kernel
theorem dX7_sort_9 : decode cX7_sort 9 = .ok (.iconst (-1), 1) := by decide +kernel
theorem dX7_sort_10 : decode cX7_sort 10 = .ok (.invokevirtual 105, 3) := by decide +kernel
theorem dX7_sort_13 : decode cX7_sort 13 = .ok (.ireturn, 1) := by decide +kernel
theorem dy_X7_sort : DY yX7_sort 1 := by decide +kernel
theorem dX7_variable_0 : decode cX7_variable 0 = .ok (.iload_n 1, 1) := by decide +kernel
theorem dX7_variable_1 : decode cX7_variable 1 = .ok (.ifCond .lt 9, 3) := by decide +kernel
theorem dX7_variable_4 : decode cX7_variable 4 = .ok (.iload_n 1, 1) := by decide +kernel
theorem dX7_variable_5 : decode cX7_variable 5 = .ok (.bipush 59, 2) := by decide +kernel
theorem dX7_variable_7 : decode cX7_variable 7 = .ok (.if_icmp .le 13, 3) := by decide +kernel
theorem dX7_variable_10 : decode cX7_variable 10 = .ok (.new 60, 3) := by decide +kernel
theorem dX7_variable_13 : decode cX7_variable 13 = .ok (.dup, 1) := by decide +kernel
theorem dX7_variable_14 : decode cX7_variable 14 = .ok (.ldc 109, 2) := by decide +kernel
theorem dX7_variable_16 : decode cX7_variable 16 = .ok (.invokespecial 64, 3) := by decide +kernel
theorem dX7_variable_19 : decode cX7_variable 19 = .ok (.athrow, 1) := by decide +kernel
theorem dX7_variable_20 : decode cX7_variable 20 = .ok (.aload_n 0, 1) := by decide +kernel
theorem dX7_variable_21 : decode cX7_variable 21 = .ok (.iconst 1, 1) := by decide +kernel
theorem dX7_variable_22 : decode cX7_variable 22 = .ok (.iload_n 1, 1) := by decide +kernel
theorem dX7_variable_23 : decode cX7_variable 23 = .ok (.iconst (-1), 1) := by decide +kernel
theorem dX7_variable_24 : decode cX7_variable 24 = .ok (.iconst (-1), 1) := by decide +kernel
theorem dX7_variable_25 : decode cX7_variable 25 = .ok (.invokevirtual 105, 3) := by decide +kernel
theorem dX7_variable_28 : decode cX7_variable 28 = .ok (.ireturn, 1) := by decide +kernel
theorem dy_X7_variable : DY yX7_variable 1 := by decide +kernel
theorem dX7_name_0 : decode cX7_name 0 = .ok (.aload_n 0, 1) := by decide +kernel
theorem dX7_name_1 : decode cX7_name 1 = .ok (.iload_n 1, 1) := by decide +kernel
theorem dX7_name_2 : decode cX7_name 2 = .ok (.invokevirtual 111, 3) := by decide +kernel
theorem dX7_name_5 : decode cX7_name 5 = .ok (.aload_n 0, 1) := by decide +kernel
theorem dX7_name_6 : decode cX7_name 6 = .ok (.iload_n 2, 1) := by decide +kernel
theorem dX7_name_7 : decode cX7_name 7 = .ok (.invokevirtual 79, 3) := by decide +kernel
theorem dX7_name_10 : decode cX7_name 10 = .ok (.aload_n 0, 1) := by decide +kernel
theorem dX7_name_11 : decode cX7_name 11 = .ok (.iload_n 3, 1) := by decide +kernel
theorem dX7_name_12 : decode cX7_name 12 = .ok (.invokevirtual 79, 3) := by decide +kernel
theorem dX7_name_15 : decode cX7_name 15 = .ok (.aload_n 0, 1) := by decide +kernel
theorem dX7_name_16 : decode cX7_name 16 = .ok (.iconst 2, 1) := by decide +kernel
theorem dX7_name_17 : decode cX7_name 17 = .ok (.iload_n 1, 1) := by decide +kernel
theorem dX7_name_18 : decode cX7_name 18 = .ok (.iload_n 2, 1) := by decide +kernel
theorem dX7_name_19 : decode cX7_name 19 = .ok (.iload_n 3, 1) := by decide +kernel
theorem dX7_name_20 : decode cX7_name 20 = .ok (.invokevirtual 105, 3) := by decide +kernel
theorem dX7_name_23 : decode cX7_name 23 = .ok (.ireturn, 1) := by decide +kernel
theorem dy_X7_name : DY yX7_name 3 := by decide +kernel
theorem dX7_term_0 : decode cX7_term 0 = .ok (.iload_n 1, 1) := by decide +kernel
theorem dX7_term_1 : decode cX7_term 1 = .ok (.iconst 3, 1) := by decide +kernel
theorem dX7_term_2 : decode cX7_term 2 = .ok (.if_icmp .eq 23, 3) := by decide +kernel
theorem dX7_term_5 : decode cX7_term 5 = .ok (.iload_n 1, 1) := by decide +kernel
theorem dX7_term_6 : decode cX7_term 6 = .ok (.iconst 4, 1) := by decide +kernel
theorem dX7_term_7 : decode cX7_term 7 = .ok (.if_icmp .eq 18, 3) := by decide +kernel
theorem dX7_term_10 : decode cX7_term 10 = .ok (.iload_n 1, 1) := by decide +kernel
theorem dX7_term_11 : decode cX7_term 11 = .ok (.iconst 5, 1) := by decide +kernel
theorem dX7_term_12 : decode cX7_term 12 = .ok (.if_icmp .eq 13, 3) := by decide +kernel
theorem dX7_term_15 : decode cX7_term 15 = .ok (.new 60, 3) := by decide +kernel
theorem dX7_term_18 : decode cX7_term 18 = .ok (.dup, 1) := by decide +kernel
theorem dX7_term_19 : decode cX7_term 19 = .ok (.ldc 114, 2) := by decide +kernel
theorem dX7_term_21 : decode cX7_term 21 = .ok (.invokespecial 64, 3) := by decide +kernel
theorem dX7_term_24 : decode cX7_term 24 = .ok (.athrow, 1) := by decide +kernel
theorem dX7_term_25 : decode cX7_term 25 = .ok (.aload_n 0, 1) := by decide +kernel
theorem dX7_term_26 : decode cX7_term 26 = .ok (.iload_n 2, 1) := by decide +kernel
theorem dX7_term_27 : decode cX7_term 27 = .ok (.invokevirtual 116, 3) := by decide +kernel
theorem dX7_term_30 : decode cX7_term 30 = .ok (.aload_n 0, 1) := by decide +kernel
theorem dX7_term_31 : decode cX7_term 31 = .ok (.iload_n 3, 1) := by decide +kernel
theorem dX7_term_32 : decode cX7_term 32 = .ok (.invokevirtual 116, 3) := by decide +kernel
theorem dX7_term_35 : decode cX7_term 35 = .ok (.aload_n 0, 1) := by decide +kernel
theorem dX7_term_36 : decode cX7_term 36 = .ok (.iload_n 1, 1) := by decide +kernel
theorem dX7_term_37 : decode cX7_term 37 = .ok (.iload_n 2, 1) := by decide +kernel
theorem dX7_term_38 : decode cX7_term 38 = .ok (.iload_n 3, 1) := by decide +kernel
theorem dX7_term_39 : decode cX7_term 39 = .ok (.iconst (-1), 1) := by decide +kernel
theorem dX7_term_40 : decode cX7_term 40 = .ok (.invokevirtual 105, 3) := by decide +kernel
theorem dX7_term_43 : decode cX7_term 43 = .ok (.ireturn, 1) := by decide +kernel
theorem dy_X7_term : DY yX7_term 3 := by decide +kernel
theorem dX7_let_0 : decode cX7_let 0 = .ok (.aload_n 0, 1) := by decide +kernel
theorem dX7_let_1 : decode cX7_let 1 = .ok (.iload_n 1, 1) := by decide +kernel
theorem dX7_let_2 : decode cX7_let 2 = .ok (.invokevirtual 116, 3) := by decide +kernel
theorem dX7_let_5 : decode cX7_let 5 = .ok (.aload_n 0, 1) := by decide +kernel
theorem dX7_let_6 : decode cX7_let 6 = .ok (.iload_n 2, 1) := by decide +kernel
theorem dX7_let_7 : decode cX7_let 7 = .ok (.invokevirtual 116, 3) := by decide +kernel
theorem dX7_let_10 : decode cX7_let 10 = .ok (.aload_n 0, 1) := by decide +kernel
theorem dX7_let_11 : decode cX7_let 11 = .ok (.iload_n 3, 1) := by decide +kernel
theorem dX7_let_12 : decode cX7_let 12 = .ok (.invokevirtual 116, 3) := by decide +kernel
theorem dX7_let_15 : decode cX7_let 15 = .ok (.aload_n 0, 1) := by decide +kernel
theorem dX7_let_16 : decode cX7_let 16 = .ok (.bipush 6, 2) := by decide +kernel
theorem dX7_let_18 : decode cX7_let 18 = .ok (.iload_n 1, 1) := by decide +kernel
theorem dX7_let_19 : decode cX7_let 19 = .ok (.iload_n 2, 1) := by decide +kernel
theorem dX7_let_20 : decode cX7_let 20 = .ok (.iload_n 3, 1) := by decide +kernel
theorem dX7_let_21 : decode cX7_let 21 = .ok (.invokevirtual 105, 3) := by decide +kernel
theorem dX7_let_24 : decode cX7_let 24 = .ok (.ireturn, 1) := by decide +kernel
theorem dy_X7_let : DY yX7_let 3 := by decide +kernel
theorem dX7_type_0 : decode cX7_type 0 = .ok (.aload_n 0, 1) := by decide +kernel
theorem dX7_type_1 : decode cX7_type 1 = .ok (.iload_n 1, 1) := by decide +kernel
theorem dX7_type_2 : decode cX7_type 2 = .ok (.invokevirtual 116, 3) := by decide +kernel
theorem dX7_type_5 : decode cX7_type 5 = .ok (.aload_n 0, 1) := by decide +kernel
theorem dX7_type_6 : decode cX7_type 6 = .ok (.getfield 46, 3) := by decide +kernel
theorem dX7_type_9 : decode cX7_type 9 = .ok (.iload_n 1, 1) := by decide +kernel
theorem dX7_type_10 : decode cX7_type 10 = .ok (.iconst 0, 1) := by decide +kernel
theorem dX7_type_11 : decode cX7_type 11 = .ok (.iconst 0, 1) := by decide +kernel
theorem dX7_type_12 : decode cX7_type 12 = .ok (.invokevirtual 119, 3) := by decide +kernel
theorem dX7_type_15 : decode cX7_type 15 = .ok (.istore_n 2, 1) := by decide +kernel
theorem dX7_type_16 : decode cX7_type 16 = .ok (.iload_n 2, 1) := by decide +kernel
theorem dX7_type_17 : decode cX7_type 17 = .ok (.ifCond .ne 17, 3) := by decide +kernel
theorem dX7_type_20 : decode cX7_type 20 = .ok (.aload_n 0, 1) := by decide +kernel
theorem dX7_type_21 : decode cX7_type 21 = .ok (.aload_n 0, 1) := by decide +kernel
theorem dX7_type_22 : decode cX7_type 22 = .ok (.getfield 46, 3) := by decide +kernel
theorem dX7_type_25 : decode cX7_type 25 = .ok (.getfield 123, 3) := by decide +kernel
theorem dX7_type_28 : decode cX7_type 28 = .ok (.invokevirtual 126, 3) := by decide +kernel
theorem dX7_type_31 : decode cX7_type 31 = .ok (.goto 6, 3) := by decide +kernel
theorem dX7_type_34 : decode cX7_type 34 = .ok (.iconst (-1), 1) := by decide +kernel
theorem dX7_type_35 : decode cX7_type 35 = .ok (.iload_n 2, 1) := by decide +kernel
theorem dX7_type_36 : decode cX7_type 36 = .ok (.isub, 1) := by decide +kernel
theorem dX7_type_37 : decode cX7_type 37 = .ok (.ireturn, 1) := by decide +kernel
theorem dy_X7_type : DY yX7_type 1 := by decide +kernel
theorem dX7_normal_0 : decode cX7_normal 0 = .ok (.aload_n 0, 1) := by decide +kernel
theorem dX7_normal_1 : decode cX7_normal 1 = .ok (.iload_n 1, 1) := by decide +kernel
theorem dX7_normal_2 : decode cX7_normal 2 = .ok (.invokevirtual 116, 3) := by decide +kernel
theorem dX7_normal_5 : decode cX7_normal 5 = .ok (.aload_n 0, 1) := by decide +kernel
theorem dX7_normal_6 : decode cX7_normal 6 = .ok (.getfield 21, 3) := by decide +kernel
theorem dX7_normal_9 : decode cX7_normal 9 = .ok (.iload_n 1, 1) := by decide +kernel
theorem dX7_normal_10 : decode cX7_normal 10 = .ok (.aload_n 0, 1) := by decide +kernel
theorem dX7_normal_11 : decode cX7_normal 11 = .ok (.getfield 53, 3) := by decide +kernel
theorem dX7_normal_14 : decode cX7_normal 14 = .ok (.invokevirtual 130, 3) := by decide +kernel
theorem dX7_normal_17 : decode cX7_normal 17 = .ok (.aload_n 0, 1) := by decide +kernel
theorem dX7_normal_18 : decode cX7_normal 18 = .ok (.getfield 37, 3) := by decide +kernel
theorem dX7_normal_21 : decode cX7_normal 21 = .ok (.aload_n 0, 1) := by decide +kernel
theorem dX7_normal_22 : decode cX7_normal 22 = .ok (.getfield 53, 3) := by decide +kernel
theorem dX7_normal_25 : decode cX7_normal 25 = .ok (.invokevirtual 134, 3) := by decide +kernel
theorem dX7_normal_28 : decode cX7_normal 28 = .ok (.bipush (-6), 2) := by decide +kernel
theorem dX7_normal_30 : decode cX7_normal 30 = .ok (.if_icmp .ne 8, 3) := by decide +kernel
theorem dX7_normal_33 : decode cX7_normal 33 = .ok (.bipush (-6), 2) := by decide +kernel
theorem dX7_normal_35 : decode cX7_normal 35 = .ok (.goto 11, 3) := by decide +kernel
theorem dX7_normal_38 : decode cX7_normal 38 = .ok (.aload_n 0, 1) := by decide +kernel
theorem dX7_normal_39 : decode cX7_normal 39 = .ok (.aload_n 0, 1) := by decide +kernel
theorem dX7_normal_40 : decode cX7_normal 40 = .ok (.getfield 53, 3) := by decide +kernel
theorem dX7_normal_43 : decode cX7_normal 43 = .ok (.invokevirtual 126, 3) := by decide +kernel
theorem dX7_normal_46 : decode cX7_normal 46 = .ok (.ireturn, 1) := by decide +kernel
theorem dy_X7_normal : DY yX7_normal 1 := by decide +kernel
theorem dX7_steps_0 : decode cX7_steps 0 = .ok (.aload_n 0, 1) := by decide +kernel
theorem dX7_steps_1 : decode cX7_steps 1 = .ok (.iload_n 1, 1) := by decide +kernel
theorem dX7_steps_2 : decode cX7_steps 2 = .ok (.invokevirtual 116, 3) := by decide +kernel
theorem dX7_steps_5 : decode cX7_steps 5 = .ok (.aload_n 0, 1) := by decide +kernel
theorem dX7_steps_6 : decode cX7_steps 6 = .ok (.getfield 21, 3) := by decide +kernel
theorem dX7_steps_9 : decode cX7_steps 9 = .ok (.iload_n 1, 1) := by decide +kernel
theorem dX7_steps_10 : decode cX7_steps 10 = .ok (.aload_n 0, 1) := by decide +kernel
theorem dX7_steps_11 : decode cX7_steps 11 = .ok (.getfield 53, 3) := by decide +kernel
theorem dX7_steps_14 : decode cX7_steps 14 = .ok (.invokevirtual 130, 3) := by decide +kernel
theorem dX7_steps_17 : decode cX7_steps 17 = .ok (.aload_n 0, 1) := by decide +kernel
theorem dX7_steps_18 : decode cX7_steps 18 = .ok (.getfield 37, 3) := by decide +kernel
theorem dX7_steps_21 : decode cX7_steps 21 = .ok (.aload_n 0, 1) := by decide +kernel
theorem dX7_steps_22 : decode cX7_steps 22 = .ok (.getfield 53, 3) := by decide +kernel
theorem dX7_steps_25 : decode cX7_steps 25 = .ok (.invokevirtual 134, 3) := by decide +kernel
theorem dX7_steps_28 : decode cX7_steps 28 = .ok (.ireturn, 1) := by decide +kernel
theorem dy_X7_steps : DY yX7_steps 1 := by decide +kernel
theorem dX7_same_0 : decode cX7_same 0 = .ok (.aload_n 0, 1) := by decide +kernel
theorem dX7_same_1 : decode cX7_same 1 = .ok (.iload_n 1, 1) := by decide +kernel
theorem dX7_same_2 : decode cX7_same 2 = .ok (.invokevirtual 116, 3) := by decide +kernel
theorem dX7_same_5 : decode cX7_same 5 = .ok (.aload_n 0, 1) := by decide +kernel
theorem dX7_same_6 : decode cX7_same 6 = .ok (.iload_n 2, 1) := by decide +kernel
theorem dX7_same_7 : decode cX7_same 7 = .ok (.invokevirtual 116, 3) := by decide +kernel
theorem dX7_same_10 : decode cX7_same 10 = .ok (.aload_n 0, 1) := by decide +kernel
theorem dX7_same_11 : decode cX7_same 11 = .ok (.getfield 21, 3) := by decide +kernel
theorem dX7_same_14 : decode cX7_same 14 = .ok (.iload_n 1, 1) := by decide +kernel
theorem dX7_same_15 : decode cX7_same 15 = .ok (.aload_n 0, 1) := by decide +kernel
theorem dX7_same_16 : decode cX7_same 16 = .ok (.getfield 53, 3) := by decide +kernel
theorem dX7_same_19 : decode cX7_same 19 = .ok (.invokevirtual 130, 3) := by decide +kernel
theorem dX7_same_22 : decode cX7_same 22 = .ok (.aload_n 0, 1) := by decide +kernel
theorem dX7_same_23 : decode cX7_same 23 = .ok (.getfield 21, 3) := by decide +kernel
theorem dX7_same_26 : decode cX7_same 26 = .ok (.iload_n 2, 1) := by decide +kernel
theorem dX7_same_27 : decode cX7_same 27 = .ok (.aload_n 0, 1) := by decide +kernel
theorem dX7_same_28 : decode cX7_same 28 = .ok (.getfield 57, 3) := by decide +kernel
theorem dX7_same_31 : decode cX7_same 31 = .ok (.invokevirtual 130, 3) := by decide +kernel
theorem dX7_same_34 : decode cX7_same 34 = .ok (.aload_n 0, 1) := by decide +kernel
theorem dX7_same_35 : decode cX7_same 35 = .ok (.getfield 37, 3) := by decide +kernel
theorem dX7_same_38 : decode cX7_same 38 = .ok (.aload_n 0, 1) := by decide +kernel
theorem dX7_same_39 : decode cX7_same 39 = .ok (.getfield 53, 3) := by decide +kernel
theorem dX7_same_42 : decode cX7_same 42 = .ok (.invokevirtual 134, 3) := by decide +kernel
theorem dX7_same_45 : decode cX7_same 45 = .ok (.bipush (-6), 2) := by decide +kernel
theorem dX7_same_47 : decode cX7_same 47 = .ok (.if_icmp .eq 19, 3) := by decide +kernel
theorem dX7_same_50 : decode cX7_same 50 = .ok (.aload_n 0, 1) := by decide +kernel
theorem dX7_same_51 : decode cX7_same 51 = .ok (.getfield 37, 3) := by decide +kernel
theorem dX7_same_54 : decode cX7_same 54 = .ok (.aload_n 0, 1) := by decide +kernel
theorem dX7_same_55 : decode cX7_same 55 = .ok (.getfield 57, 3) := by decide +kernel
theorem dX7_same_58 : decode cX7_same 58 = .ok (.invokevirtual 134, 3) := by decide +kernel
theorem dX7_same_61 : decode cX7_same 61 = .ok (.bipush (-6), 2) := by decide +kernel
theorem dX7_same_63 : decode cX7_same 63 = .ok (.if_icmp .ne 6, 3) := by decide +kernel
theorem dX7_same_66 : decode cX7_same 66 = .ok (.bipush (-6), 2) := by decide +kernel
theorem dX7_same_68 : decode cX7_same 68 = .ok (.ireturn, 1) := by decide +kernel
theorem dX7_same_69 : decode cX7_same 69 = .ok (.aload_n 0, 1) := by decide +kernel
theorem dX7_same_70 : decode cX7_same 70 = .ok (.getfield 53, 3) := by decide +kernel
theorem dX7_same_73 : decode cX7_same 73 = .ok (.iconst 0, 1) := by decide +kernel
theorem dX7_same_74 : decode cX7_same 74 = .ok (.aload_n 0, 1) := by decide +kernel
theorem dX7_same_75 : decode cX7_same 75 = .ok (.getfield 53, 3) := by decide +kernel
theorem dX7_same_78 : decode cX7_same 78 = .ok (.getfield 137, 3) := by decide +kernel
theorem dX7_same_81 : decode cX7_same 81 = .ok (.aload_n 0, 1) := by decide +kernel
theorem dX7_same_82 : decode cX7_same 82 = .ok (.getfield 57, 3) := by decide +kernel
theorem dX7_same_85 : decode cX7_same 85 = .ok (.aload_n 0, 1) := by decide +kernel
theorem dX7_same_86 : decode cX7_same 86 = .ok (.getfield 10, 3) := by decide +kernel
theorem dX7_same_89 : decode cX7_same 89 = .ok (.invokevirtual 141, 3) := by decide +kernel
theorem dX7_same_92 : decode cX7_same 92 = .ok (.ifCond .eq 7, 3) := by decide +kernel
theorem dX7_same_95 : decode cX7_same 95 = .ok (.iconst 1, 1) := by decide +kernel
theorem dX7_same_96 : decode cX7_same 96 = .ok (.goto 4, 3) := by decide +kernel
theorem dX7_same_99 : decode cX7_same 99 = .ok (.iconst 0, 1) := by decide +kernel
theorem dX7_same_100 : decode cX7_same 100 = .ok (.ireturn, 1) := by decide +kernel
theorem dy_X7_same : DY yX7_same 2 := by decide +kernel
theorem dX7_declare_0 : decode cX7_declare 0 = .ok (.iload_n 1, 1) := by decide +kernel
theorem dX7_declare_1 : decode cX7_declare 1 = .ok (.ifCond .lt 8, 3) := by decide +kernel
theorem dX7_declare_4 : decode cX7_declare 4 = .ok (.iload_n 1, 1) := by decide +kernel
theorem dX7_declare_5 : decode cX7_declare 5 = .ok (.iconst 2, 1) := by decide +kernel
theorem dX7_declare_6 : decode cX7_declare 6 = .ok (.if_icmp .le 13, 3) := by decide +kernel
theorem dX7_declare_9 : decode cX7_declare 9 = .ok (.new 60, 3) := by decide +kernel
theorem dX7_declare_12 : decode cX7_declare 12 = .ok (.dup, 1) := by decide +kernel
theorem dX7_declare_13 : decode cX7_declare 13 = .ok (.ldc 145, 2) := by decide +kernel
theorem dX7_declare_15 : decode cX7_declare 15 = .ok (.invokespecial 64, 3) := by decide +kernel
theorem dX7_declare_18 : decode cX7_declare 18 = .ok (.athrow, 1) := by decide +kernel
theorem dX7_declare_19 : decode cX7_declare 19 = .ok (.aload_n 0, 1) := by decide +kernel
theorem dX7_declare_20 : decode cX7_declare 20 = .ok (.iload_n 2, 1) := by decide +kernel
theorem dX7_declare_21 : decode cX7_declare 21 = .ok (.invokevirtual 116, 3) := by decide +kernel
theorem dX7_declare_24 : decode cX7_declare 24 = .ok (.iload_n 3, 1) := by decide +kernel
theorem dX7_declare_25 : decode cX7_declare 25 = .ok (.iconst (-1), 1) := by decide +kernel
theorem dX7_declare_26 : decode cX7_declare 26 = .ok (.if_icmp .eq 8, 3) := by decide +kernel
theorem dX7_declare_29 : decode cX7_declare 29 = .ok (.aload_n 0, 1) := by decide +kernel
theorem dX7_declare_30 : decode cX7_declare 30 = .ok (.iload_n 3, 1) := by decide +kernel
theorem dX7_declare_31 : decode cX7_declare 31 = .ok (.invokevirtual 116, 3) := by decide +kernel
theorem dX7_declare_34 : decode cX7_declare 34 = .ok (.aload_n 0, 1) := by decide +kernel
theorem dX7_declare_35 : decode cX7_declare 35 = .ok (.getfield 28, 3) := by decide +kernel
theorem dX7_declare_38 : decode cX7_declare 38 = .ok (.getfield 147, 3) := by decide +kernel
theorem dX7_declare_41 : decode cX7_declare 41 = .ok (.bipush 40, 2) := by decide +kernel
theorem dX7_declare_43 : decode cX7_declare 43 = .ok (.if_icmp .lt 13, 3) := by decide +kernel
theorem dX7_declare_46 : decode cX7_declare 46 = .ok (.new 150, 3) := by decide +kernel
theorem dX7_declare_49 : decode cX7_declare 49 = .ok (.dup, 1) := by decide +kernel
theorem dX7_declare_50 : decode cX7_declare 50 = .ok (.ldc 152, 2) := by decide +kernel
theorem dX7_declare_52 : decode cX7_declare 52 = .ok (.invokespecial 154, 3) := by decide +kernel
theorem dX7_declare_55 : decode cX7_declare 55 = .ok (.athrow, 1) := by decide +kernel
theorem dX7_declare_56 : decode cX7_declare 56 = .ok (.aload_n 0, 1) := by decide +kernel
theorem dX7_declare_57 : decode cX7_declare 57 = .ok (.iload_n 1, 1) := by decide +kernel
theorem dX7_declare_58 : decode cX7_declare 58 = .ok (.iload_n 2, 1) := by decide +kernel
theorem dX7_declare_59 : decode cX7_declare 59 = .ok (.iload_n 3, 1) := by decide +kernel
theorem dX7_declare_60 : decode cX7_declare 60 = .ok (.invokevirtual 155, 3) := by decide +kernel
theorem dX7_declare_63 : decode cX7_declare 63 = .ok (.istore 4, 2) := by decide +kernel
theorem dX7_declare_65 : decode cX7_declare 65 = .ok (.iload 4, 2) := by decide +kernel
theorem dX7_declare_67 : decode cX7_declare 67 = .ok (.ifCond .ne 16, 3) := by decide +kernel
theorem dX7_declare_70 : decode cX7_declare 70 = .ok (.aload_n 0, 1) := by decide +kernel
theorem dX7_declare_71 : decode cX7_declare 71 = .ok (.getfield 28, 3) := by decide +kernel
theorem dX7_declare_74 : decode cX7_declare 74 = .ok (.iload_n 1, 1) := by decide +kernel
theorem dX7_declare_75 : decode cX7_declare 75 = .ok (.iload_n 2, 1) := by decide +kernel
theorem dX7_declare_76 : decode cX7_declare 76 = .ok (.iload_n 3, 1) := by decide +kernel
theorem dX7_declare_77 : decode cX7_declare 77 = .ok (.invokevirtual 158, 3) := by decide +kernel
theorem dX7_declare_80 : decode cX7_declare 80 = .ok (.goto 7, 3) := by decide +kernel
theorem dX7_declare_83 : decode cX7_declare 83 = .ok (.iconst (-1), 1) := by decide +kernel
theorem dX7_declare_84 : decode cX7_declare 84 = .ok (.iload 4, 2) := by decide +kernel
theorem dX7_declare_86 : decode cX7_declare 86 = .ok (.isub, 1) := by decide +kernel
theorem dX7_declare_87 : decode cX7_declare 87 = .ok (.ireturn, 1) := by decide +kernel
theorem dy_X7_declare : DY yX7_declare 3 := by decide +kernel
theorem dX7_part_0 : decode cX7_part 0 = .ok (.aload_n 0, 1) := by decide +kernel
theorem dX7_part_1 : decode cX7_part 1 = .ok (.iload_n 1, 1) := by decide +kernel
theorem dX7_part_2 : decode cX7_part 2 = .ok (.invokevirtual 116, 3) := by decide +kernel
theorem dX7_part_5 : decode cX7_part 5 = .ok (.iload_n 2, 1) := by decide +kernel
theorem dX7_part_6 : decode cX7_part 6 = .ok (.tableswitch 98 0 5 #[38, 48, 58, 68, 78, 88], 38) := by decide +kernel
theorem dX7_part_44 : decode cX7_part 44 = .ok (.aload_n 0, 1) := by decide +kernel
theorem dX7_part_45 : decode cX7_part 45 = .ok (.getfield 21, 3) := by decide +kernel
theorem dX7_part_48 : decode cX7_part 48 = .ok (.getfield 161, 3) := by decide +kernel
theorem dX7_part_51 : decode cX7_part 51 = .ok (.iload_n 1, 1) := by decide +kernel
theorem dX7_part_52 : decode cX7_part 52 = .ok (.iaload, 1) := by decide +kernel
theorem dX7_part_53 : decode cX7_part 53 = .ok (.ireturn, 1) := by decide +kernel
theorem dX7_part_54 : decode cX7_part 54 = .ok (.aload_n 0, 1) := by decide +kernel
theorem dX7_part_55 : decode cX7_part 55 = .ok (.getfield 21, 3) := by decide +kernel
theorem dX7_part_58 : decode cX7_part 58 = .ok (.getfield 165, 3) := by decide +kernel
theorem dX7_part_61 : decode cX7_part 61 = .ok (.iload_n 1, 1) := by decide +kernel
theorem dX7_part_62 : decode cX7_part 62 = .ok (.iaload, 1) := by decide +kernel
theorem dX7_part_63 : decode cX7_part 63 = .ok (.ireturn, 1) := by decide +kernel
theorem dX7_part_64 : decode cX7_part 64 = .ok (.aload_n 0, 1) := by decide +kernel
theorem dX7_part_65 : decode cX7_part 65 = .ok (.getfield 21, 3) := by decide +kernel
theorem dX7_part_68 : decode cX7_part 68 = .ok (.getfield 168, 3) := by decide +kernel
theorem dX7_part_71 : decode cX7_part 71 = .ok (.iload_n 1, 1) := by decide +kernel
theorem dX7_part_72 : decode cX7_part 72 = .ok (.iaload, 1) := by decide +kernel
theorem dX7_part_73 : decode cX7_part 73 = .ok (.ireturn, 1) := by decide +kernel
theorem dX7_part_74 : decode cX7_part 74 = .ok (.aload_n 0, 1) := by decide +kernel
theorem dX7_part_75 : decode cX7_part 75 = .ok (.getfield 21, 3) := by decide +kernel
theorem dX7_part_78 : decode cX7_part 78 = .ok (.getfield 171, 3) := by decide +kernel
theorem dX7_part_81 : decode cX7_part 81 = .ok (.iload_n 1, 1) := by decide +kernel
theorem dX7_part_82 : decode cX7_part 82 = .ok (.iaload, 1) := by decide +kernel
theorem dX7_part_83 : decode cX7_part 83 = .ok (.ireturn, 1) := by decide +kernel
theorem dX7_part_84 : decode cX7_part 84 = .ok (.aload_n 0, 1) := by decide +kernel
theorem dX7_part_85 : decode cX7_part 85 = .ok (.getfield 21, 3) := by decide +kernel
theorem dX7_part_88 : decode cX7_part 88 = .ok (.getfield 174, 3) := by decide +kernel
theorem dX7_part_91 : decode cX7_part 91 = .ok (.iload_n 1, 1) := by decide +kernel
theorem dX7_part_92 : decode cX7_part 92 = .ok (.iaload, 1) := by decide +kernel
theorem dX7_part_93 : decode cX7_part 93 = .ok (.ireturn, 1) := by decide +kernel
theorem dX7_part_94 : decode cX7_part 94 = .ok (.aload_n 0, 1) := by decide +kernel
theorem dX7_part_95 : decode cX7_part 95 = .ok (.getfield 21, 3) := by decide +kernel
theorem dX7_part_98 : decode cX7_part 98 = .ok (.getfield 176, 3) := by decide +kernel
theorem dX7_part_101 : decode cX7_part 101 = .ok (.iload_n 1, 1) := by decide +kernel
theorem dX7_part_102 : decode cX7_part 102 = .ok (.iaload, 1) := by decide +kernel
theorem dX7_part_103 : decode cX7_part 103 = .ok (.ireturn, 1) := by decide +kernel
theorem dX7_part_104 : decode cX7_part 104 = .ok (.new 60, 3) := by decide +kernel
theorem dX7_part_107 : decode cX7_part 107 = .ok (.dup, 1) := by decide +kernel
theorem dX7_part_108 : decode cX7_part 108 = .ok (.ldc 179, 2) := by decide +kernel
theorem dX7_part_110 : decode cX7_part 110 = .ok (.invokespecial 64, 3) := by decide +kernel
theorem dX7_part_113 : decode cX7_part 113 = .ok (.athrow, 1) := by decide +kernel
theorem dy_X7_part : DY yX7_part 2 := by decide +kernel
theorem dX7_levelPart_0 : decode cX7_levelPart 0 = .ok (.aload_n 0, 1) := by decide +kernel
theorem dX7_levelPart_1 : decode cX7_levelPart 1 = .ok (.iload_n 1, 1) := by decide +kernel
theorem dX7_levelPart_2 : decode cX7_levelPart 2 = .ok (.invokevirtual 79, 3) := by decide +kernel
theorem dX7_levelPart_5 : decode cX7_levelPart 5 = .ok (.iload_n 2, 1) := by decide +kernel
theorem dX7_levelPart_6 : decode cX7_levelPart 6 = .ok (.tableswitch 74 0 3 #[30, 42, 52, 62], 30) := by decide +kernel
theorem dX7_levelPart_36 : decode cX7_levelPart 36 = .ok (.aload_n 0, 1) := by decide +kernel
theorem dX7_levelPart_37 : decode cX7_levelPart 37 = .ok (.getfield 10, 3) := by decide +kernel
theorem dX7_levelPart_40 : decode cX7_levelPart 40 = .ok (.iload_n 1, 1) := by decide +kernel
theorem dX7_levelPart_41 : decode cX7_levelPart 41 = .ok (.invokevirtual 83, 3) := by decide +kernel
theorem dX7_levelPart_44 : decode cX7_levelPart 44 = .ok (.invokestatic 181, 3) := by decide +kernel
theorem dX7_levelPart_47 : decode cX7_levelPart 47 = .ok (.ireturn, 1) := by decide +kernel
theorem dX7_levelPart_48 : decode cX7_levelPart 48 = .ok (.aload_n 0, 1) := by decide +kernel
theorem dX7_levelPart_49 : decode cX7_levelPart 49 = .ok (.getfield 10, 3) := by decide +kernel
theorem dX7_levelPart_52 : decode cX7_levelPart 52 = .ok (.getfield 184, 3) := by decide +kernel
theorem dX7_levelPart_55 : decode cX7_levelPart 55 = .ok (.iload_n 1, 1) := by decide +kernel
theorem dX7_levelPart_56 : decode cX7_levelPart 56 = .ok (.iaload, 1) := by decide +kernel
theorem dX7_levelPart_57 : decode cX7_levelPart 57 = .ok (.ireturn, 1) := by decide +kernel
theorem dX7_levelPart_58 : decode cX7_levelPart 58 = .ok (.aload_n 0, 1) := by decide +kernel
theorem dX7_levelPart_59 : decode cX7_levelPart 59 = .ok (.getfield 10, 3) := by decide +kernel
theorem dX7_levelPart_62 : decode cX7_levelPart 62 = .ok (.getfield 185, 3) := by decide +kernel
theorem dX7_levelPart_65 : decode cX7_levelPart 65 = .ok (.iload_n 1, 1) := by decide +kernel
theorem dX7_levelPart_66 : decode cX7_levelPart 66 = .ok (.iaload, 1) := by decide +kernel
theorem dX7_levelPart_67 : decode cX7_levelPart 67 = .ok (.ireturn, 1) := by decide +kernel
theorem dX7_levelPart_68 : decode cX7_levelPart 68 = .ok (.aload_n 0, 1) := by decide +kernel
theorem dX7_levelPart_69 : decode cX7_levelPart 69 = .ok (.getfield 10, 3) := by decide +kernel
theorem dX7_levelPart_72 : decode cX7_levelPart 72 = .ok (.iload_n 1, 1) := by decide +kernel
theorem dX7_levelPart_73 : decode cX7_levelPart 73 = .ok (.invokevirtual 83, 3) := by decide +kernel
theorem dX7_levelPart_76 : decode cX7_levelPart 76 = .ok (.invokestatic 186, 3) := by decide +kernel
theorem dX7_levelPart_79 : decode cX7_levelPart 79 = .ok (.ireturn, 1) := by decide +kernel
theorem dX7_levelPart_80 : decode cX7_levelPart 80 = .ok (.new 60, 3) := by decide +kernel
theorem dX7_levelPart_83 : decode cX7_levelPart 83 = .ok (.dup, 1) := by decide +kernel
theorem dX7_levelPart_84 : decode cX7_levelPart 84 = .ok (.ldc 189, 2) := by decide +kernel
theorem dX7_levelPart_86 : decode cX7_levelPart 86 = .ok (.invokespecial 64, 3) := by decide +kernel
theorem dX7_levelPart_89 : decode cX7_levelPart 89 = .ok (.athrow, 1) := by decide +kernel
theorem dy_X7_levelPart : DY yX7_levelPart 2 := by decide +kernel
theorem dX7_declared_0 : decode cX7_declared 0 = .ok (.aload_n 0, 1) := by decide +kernel
theorem dX7_declared_1 : decode cX7_declared 1 = .ok (.iload_n 1, 1) := by decide +kernel
theorem dX7_declared_2 : decode cX7_declared 2 = .ok (.invokevirtual 111, 3) := by decide +kernel
theorem dX7_declared_5 : decode cX7_declared 5 = .ok (.iload_n 2, 1) := by decide +kernel
theorem dX7_declared_6 : decode cX7_declared 6 = .ok (.tableswitch 56 0 2 #[26, 36, 46], 26) := by decide +kernel
theorem dX7_declared_32 : decode cX7_declared 32 = .ok (.aload_n 0, 1) := by decide +kernel
theorem dX7_declared_33 : decode cX7_declared 33 = .ok (.getfield 28, 3) := by decide +kernel
theorem dX7_declared_36 : decode cX7_declared 36 = .ok (.getfield 191, 3) := by decide +kernel
theorem dX7_declared_39 : decode cX7_declared 39 = .ok (.iload_n 1, 1) := by decide +kernel
theorem dX7_declared_40 : decode cX7_declared 40 = .ok (.iaload, 1) := by decide +kernel
theorem dX7_declared_41 : decode cX7_declared 41 = .ok (.ireturn, 1) := by decide +kernel
theorem dX7_declared_42 : decode cX7_declared 42 = .ok (.aload_n 0, 1) := by decide +kernel
theorem dX7_declared_43 : decode cX7_declared 43 = .ok (.getfield 28, 3) := by decide +kernel
theorem dX7_declared_46 : decode cX7_declared 46 = .ok (.getfield 194, 3) := by decide +kernel
theorem dX7_declared_49 : decode cX7_declared 49 = .ok (.iload_n 1, 1) := by decide +kernel
theorem dX7_declared_50 : decode cX7_declared 50 = .ok (.iaload, 1) := by decide +kernel
theorem dX7_declared_51 : decode cX7_declared 51 = .ok (.ireturn, 1) := by decide +kernel
theorem dX7_declared_52 : decode cX7_declared 52 = .ok (.aload_n 0, 1) := by decide +kernel
theorem dX7_declared_53 : decode cX7_declared 53 = .ok (.getfield 28, 3) := by decide +kernel
theorem dX7_declared_56 : decode cX7_declared 56 = .ok (.getfield 197, 3) := by decide +kernel
theorem dX7_declared_59 : decode cX7_declared 59 = .ok (.iload_n 1, 1) := by decide +kernel
theorem dX7_declared_60 : decode cX7_declared 60 = .ok (.iaload, 1) := by decide +kernel
theorem dX7_declared_61 : decode cX7_declared 61 = .ok (.ireturn, 1) := by decide +kernel
theorem dX7_declared_62 : decode cX7_declared 62 = .ok (.new 60, 3) := by decide +kernel
theorem dX7_declared_65 : decode cX7_declared 65 = .ok (.dup, 1) := by decide +kernel
theorem dX7_declared_66 : decode cX7_declared 66 = .ok (.ldc 200, 2) := by decide +kernel
theorem dX7_declared_68 : decode cX7_declared 68 = .ok (.invokespecial 64, 3) := by decide +kernel
theorem dX7_declared_71 : decode cX7_declared 71 = .ok (.athrow, 1) := by decide +kernel
theorem dy_X7_declared : DY yX7_declared 2 := by decide +kernel
abbrev rm_X7_told : Room := { frames := 0, cells := 0, slots := 0, locals := 0 }
abbrev rm_X7_clear : Room := { frames := 0, cells := 0, slots := 0, locals := 0 }
abbrev rm_X7_hasStrangeParameter : Room := { frames := 3, cells := 0, slots := 0, locals := 67 }
abbrev rm_X7_reasonAgainst : Room := { frames := 412, cells := 0, slots := 0, locals := 16442 }
abbrev rm_X7_needLevel : Room := { frames := 7, cells := 1, slots := 6, locals := 120 }
abbrev rm_X7_needTerm : Room := { frames := 7, cells := 1, slots := 6, locals := 120 }
abbrev rm_X7_needName : Room := { frames := 7, cells := 1, slots := 6, locals := 120 }
abbrev rm_X7_needParameterValue : Room := { frames := 7, cells := 1, slots := 6, locals := 120 }
abbrev rm_X7_askedLevel : Room := { frames := 73, cells := 1, slots := 6, locals := 2853 }
abbrev rm_X7_askedTerm : Room := { frames := 7, cells := 1, slots := 6, locals := 120 }
abbrev rm_X7_numbered : Room := { frames := 481, cells := 1, slots := 6, locals := 19124 }
abbrev rm_X7_level : Room := { frames := 74, cells := 3, slots := 18, locals := 2876 }
abbrev rm_X7_atMost : Room := { frames := 8, cells := 2, slots := 12, locals := 141 }
abbrev rm_X7_value : Room := { frames := 8, cells := 4, slots := 24, locals := 141 }
abbrev rm_X7_sort : Room := { frames := 8, cells := 2, slots := 12, locals := 145 }
abbrev rm_X7_variable : Room := { frames := 8, cells := 1, slots := 6, locals := 145 }
abbrev rm_X7_name : Room := { frames := 8, cells := 4, slots := 24, locals := 145 }
abbrev rm_X7_term : Room := { frames := 8, cells := 3, slots := 18, locals := 145 }
abbrev rm_X7_let : Room := { frames := 8, cells := 4, slots := 24, locals := 145 }
abbrev rm_X7_type : Room := { frames := 482, cells := 2, slots := 12, locals := 19148 }
abbrev rm_X7_normal : Room := { frames := 482, cells := 2, slots := 12, locals := 19148 }
abbrev rm_X7_steps : Room := { frames := 8, cells := 1, slots := 6, locals := 199 }
abbrev rm_X7_same : Room := { frames := 8, cells := 2, slots := 12, locals := 199 }
abbrev rm_X7_declare : Room := { frames := 413, cells := 3, slots := 18, locals := 16466 }
abbrev rm_X7_part : Room := { frames := 8, cells := 2, slots := 12, locals := 141 }
abbrev rm_X7_levelPart : Room := { frames := 8, cells := 2, slots := 12, locals := 141 }
abbrev rm_X7_declared : Room := { frames := 8, cells := 2, slots := 12, locals := 141 }
theorem aw_2_208 : ∀ w ∈ (vx_atS RX7 208 (exn 2) nms).filter goodWord, w ∈ lw_tbl := by decide +kernel
theorem ab_2_208 : ∀ w ∈ (vx_atS RX7 208 (exn 2) nms).filter (fun w => !goodWord w), w ∈ atB (exn 2) := by decide +kernel
theorem ag_2_208_204 : ∀ w ∈ Cond.classLink RX7 204 (exn 2) :: Cond.initialized (exn 2) :: vx_atS RX7 208 (exn 2) nms, vx_ot w = true := by decide +kernel
theorem aw_1_64 : ∀ w ∈ (vx_atS RX7 64 (exn 1) nms).filter goodWord, w ∈ lw_tbl := by decide +kernel
theorem ab_1_64 : ∀ w ∈ (vx_atS RX7 64 (exn 1) nms).filter (fun w => !goodWord w), w ∈ atB (exn 1) := by decide +kernel
theorem ag_1_64_60 : ∀ w ∈ Cond.classLink RX7 60 (exn 1) :: Cond.initialized (exn 1) :: vx_atS RX7 64 (exn 1) nms, vx_ot w = true := by decide +kernel
theorem aw_3_154 : ∀ w ∈ (vx_atS RX7 154 (exn 3) nms).filter goodWord, w ∈ lw_tbl := by decide +kernel
theorem ab_3_154 : ∀ w ∈ (vx_atS RX7 154 (exn 3) nms).filter (fun w => !goodWord w), w ∈ atB (exn 3) := by decide +kernel
theorem ag_3_154_150 : ∀ w ∈ Cond.classLink RX7 150 (exn 3) :: Cond.initialized (exn 3) :: vx_atS RX7 154 (exn 3) nms, vx_ot w = true := by decide +kernel
def f_X7_told (n : Nat) (S : St) (a1 : Int32) : Option (St × Int32) :=
  if a1 = 0 then
    some (S, (S.1 0 0))
  else if a1 = 1 then
    some (S, (S.1 200 0))
  else if a1 = 2 then
    some (S, (S.1 50 0))
  else some (S, (-1))
set_option maxRecDepth 100000 in
set_option maxHeartbeats 4000000 in
theorem t_X7_told_0 {n : Nat} {x : XC} (hx : CX x cX7_told 2 RX7) (hR : x_R x = rm_X7_told) (hKS : ∀ k ∈ KK, k ∈ x_K x) {out : St × Int32} (hE : EI x cX7_told out) {S : St} {a1 : Int32} (h : f_X7_told n S a1 = some out) : WX x 2 0 0 S 0 [(0, .ref (x_ad x 0 6 0)), (1, .int a1)] [] := by
  unfold f_X7_told at h
  refine r_iload_n (k0 := 1) hx dX7_told_0 rfl rfl ?_
  by_cases c1 : a1 = 0
  · have h := ite_t h c1
    refine r_tabI (c9 := 0) (tgt := 28) hx dX7_told_1 c1 (by decide +kernel) ?_
    refine r_aload_n (k0 := 0) hx dX7_told_28 rfl rfl ?_
    refine g_300 hx (k_0_6 hKS) wf_X7_10 dX7_told_29 ?_
    refine g_0 hx (k_0_0 hKS) wf_X7_202 dX7_told_32 ?_
    exact r_iret hE h dX7_told_35
  have h := ite_f h c1
  by_cases c2 : a1 = 1
  · have h := ite_t h c2
    refine r_tabI (c9 := 1) (tgt := 36) hx dX7_told_1 c2 (by decide +kernel) ?_
    refine r_aload_n (k0 := 0) hx dX7_told_36 rfl rfl ?_
    refine g_301 hx (k_0_6 hKS) wf_X7_21 dX7_told_37 ?_
    refine g_200 hx (k_0_4 hKS) wf_X7_203 dX7_told_40 ?_
    exact r_iret hE h dX7_told_43
  have h := ite_f h c2
  by_cases c3 : a1 = 2
  · have h := ite_t h c3
    refine r_tabI (c9 := 2) (tgt := 44) hx dX7_told_1 c3 (by decide +kernel) ?_
    refine r_aload_n (k0 := 0) hx dX7_told_44 rfl rfl ?_
    refine g_302 hx (k_0_6 hKS) wf_X7_28 dX7_told_45 ?_
    refine g_50 hx (k_0_1 hKS) wf_X7_147 dX7_told_48 ?_
    exact r_iret hE h dX7_told_51
  have h := ite_f h c3
  refine r_tabO (tgt := 52) hx dX7_told_1 (tabo_0_3 c1 c2 c3) (by decide) ?_
  refine r_iconst (v := -1) hx dX7_told_52 (by decide) ?_
  exact r_iret hE h dX7_told_53
set_option maxHeartbeats 4000000 in
theorem C_X7_told {n : Nat} {c : YC} (hKS : ∀ k ∈ KK, k ∈ c.2.2.2.2) {S : St} {a1 : Int32} {out : St × Int32} (h : f_X7_told n S a1 = some out) : MI c yX7_told cX7_told 2 (some .int) rm_X7_told S [.ref (c.2.2.1 0 6 0), .int a1] out := mk_I (own := RX7) (by decide +kernel) rfl (Nat.le_of_ble_eq_true rfl) (fun x hx hR hy hE => by subst hy; exact t_X7_told_0 hx hR hKS hE h)
def f_X7_clear (n : Nat) (S : St) : Option (St) :=
  pS S 0 0 1 fun S1 =>
  pS S1 200 0 0 fun S3 =>
  pS S3 50 0 0 fun S5 =>
  some S5
set_option maxRecDepth 100000 in
set_option maxHeartbeats 4000000 in
theorem t_X7_clear_0 {n : Nat} {x : XC} (hx : CX x cX7_clear 1 RX7) (hR : x_R x = rm_X7_clear) (hKS : ∀ k ∈ KK, k ∈ x_K x) {out : St} (hE : EV x cX7_clear out) {S : St} (h : f_X7_clear n S  = some out) : WX x 1 0 0 S 0 [(0, .ref (x_ad x 0 6 0))] [] := by
  unfold f_X7_clear at h
  refine r_aload_n (k0 := 0) hx dX7_clear_0 rfl rfl ?_
  refine g_300 hx (k_0_6 hKS) wf_X7_10 dX7_clear_1 ?_
  refine r_iconst (v := 1) hx dX7_clear_4 (by decide) ?_
  obtain ⟨S1, e2, h⟩ := pS_some h
  refine p_0 hx (k_0_0 hKS) wf_X7_202 dX7_clear_5 e2 ?_
  refine r_aload_n (k0 := 0) hx dX7_clear_8 rfl rfl ?_
  refine g_301 hx (k_0_6 hKS) wf_X7_21 dX7_clear_9 ?_
  refine r_iconst (v := 0) hx dX7_clear_12 (by decide) ?_
  obtain ⟨S3, e4, h⟩ := pS_some h
  refine p_200 hx (k_0_4 hKS) wf_X7_203 dX7_clear_13 e4 ?_
  refine r_aload_n (k0 := 0) hx dX7_clear_16 rfl rfl ?_
  refine g_302 hx (k_0_6 hKS) wf_X7_28 dX7_clear_17 ?_
  refine r_iconst (v := 0) hx dX7_clear_20 (by decide) ?_
  obtain ⟨S5, e6, h⟩ := pS_some h
  refine p_50 hx (k_0_1 hKS) wf_X7_147 dX7_clear_21 e6 ?_
  exact r_vret hE h dX7_clear_24
set_option maxHeartbeats 4000000 in
theorem C_X7_clear {n : Nat} {c : YC} (hKS : ∀ k ∈ KK, k ∈ c.2.2.2.2) {S : St} {out : St} (h : f_X7_clear n S  = some out) : MV c yX7_clear cX7_clear 1 none rm_X7_clear S [.ref (c.2.2.1 0 6 0)] out := mk_V (own := RX7) (by decide +kernel) rfl (Nat.le_of_ble_eq_true rfl) (fun x hx hR hy hE => by subst hy; exact t_X7_clear_0 hx hR hKS hE h)
def g_X7_hasStrangeParameter (n : Nat) (S : St) (a1 : Int32) (a2 : Int32) : Option (St × Int32) :=
  bU (f_X5_spread n S a1 0) fun S1 =>
  bI (f_X4_hasParameterFrom n S1 0 a2) fun S3 v5 =>
  some (S3, v5)
set_option maxRecDepth 100000 in
set_option maxHeartbeats 4000000 in
theorem t_X7_hasStrangeParameter_0 {n : Nat} {x : XC} (hx : CX x cX7_hasStrangeParameter 3 RX7) (hR : x_R x = rm_X7_hasStrangeParameter) (hKS : ∀ k ∈ KK, k ∈ x_K x) {out : St × Int32} (hE : EI x cX7_hasStrangeParameter out) {S : St} {a1 : Int32} {a2 : Int32} (h : g_X7_hasStrangeParameter n S a1 a2 = some out) : WX x 3 0 0 S 0 [(0, .ref (x_ad x 0 6 0)), (1, .int a1), (2, .int a2)] [] := by
  unfold g_X7_hasStrangeParameter at h
  refine r_aload_n (k0 := 0) hx dX7_hasStrangeParameter_0 rfl rfl ?_
  refine g_301 hx (k_0_6 hKS) wf_X7_21 dX7_hasStrangeParameter_1 ?_
  refine r_iload_n (k0 := 1) hx dX7_hasStrangeParameter_4 rfl rfl ?_
  refine r_aload_n (k0 := 0) hx dX7_hasStrangeParameter_5 rfl rfl ?_
  refine g_305 hx (k_0_6 hKS) wf_X7_53 dX7_hasStrangeParameter_6 ?_
  obtain ⟨S1, c2, h⟩ := bU_some h
  refine r_Vv (ci := 4) (As := [.int a1, .ref (x_ad x 0 3 0)]) (rest := []) hx (C_X5_spread (c := x_y x) hKS (by decide) c2) (k_0_4 hKS) rfl wl_X7_130 wi_X5_spread we_X5_spread wn_X5 wc_X5_spread dy_X5_spread rfl (by rw [hR]; decide +kernel) rfl (Nat.le_of_ble_eq_true rfl) dX7_hasStrangeParameter_9 ?_
  refine r_aload_n (k0 := 0) hx dX7_hasStrangeParameter_12 rfl rfl ?_
  refine g_305 hx (k_0_6 hKS) wf_X7_53 dX7_hasStrangeParameter_13 ?_
  refine r_iload_n (k0 := 2) hx dX7_hasStrangeParameter_16 rfl rfl ?_
  obtain ⟨S3, v5, c4, h⟩ := bI_some h
  refine r_Vi (ci := 3) (As := [.int a2]) (rest := []) hx (C_X4_hasParameterFrom (c := x_y x) hKS (by decide) c4) (kr_0 hKS (by decide)) rfl wl_X7_250 wi_X4_hasParameterFrom we_X4_hasParameterFrom wn_X4 wc_X4_hasParameterFrom dy_X4_hasParameterFrom rfl (by rw [hR]; decide +kernel) rfl (Nat.le_of_ble_eq_true rfl) dX7_hasStrangeParameter_17 ?_
  exact r_iret hE h dX7_hasStrangeParameter_20
def f_X7_hasStrangeParameter (n : Nat) (S : St) (a1 : Int32) (a2 : Int32) : Option (St × Int32) := zW (g_X7_hasStrangeParameter n S a1 a2)
set_option maxHeartbeats 4000000 in
theorem C_X7_hasStrangeParameter {n : Nat} {c : YC} (hKS : ∀ k ∈ KK, k ∈ c.2.2.2.2) {S : St} {a1 : Int32} {a2 : Int32} {out : St × Int32} (h : f_X7_hasStrangeParameter n S a1 a2 = some out) : MI c yX7_hasStrangeParameter cX7_hasStrangeParameter 3 (some .boolean) rm_X7_hasStrangeParameter S [.ref (c.2.2.1 0 6 0), .int a1, .int a2] out := mk_Z (own := RX7) (by decide +kernel) rfl (Nat.le_of_ble_eq_true rfl) (zW_some h).2 (fun x hx hR hy hE => by subst hy; exact t_X7_hasStrangeParameter_0 hx hR hKS hE (zW_some h).1)
def j_X7_reasonAgainst_73 (n : Nat) (S : St) (l2 : Int32) (l3 : Int32) (l4 : Int32) : Option (St × Int32) :=
  if l4 = 0 then
    if l3 = (-1) then
      some (S, l4)
    else
      bI (k_X6_find n 101 S l3 0 0) fun S3 v5 =>
      if v5 = 0 then
        bU (f_X5_spread n S3 l2 0) fun S7 =>
        bI (f_X3_reduce n S7 6) fun S9 v11 =>
        if v11 = (-6) then
          some (S9, 5)
        else
          bI (f_X3_reduce n S9 0) fun S13 v15 =>
          if v15 = (-6) then
            some (S13, 5)
          else
            bI (f_X4_matches n S13 0 0 (S13.1 150 0) 6) fun S17 v19 =>
            if v19 = 0 then
              some (S17, 7)
            else
              some (S17, 0)
      else
        some (S3, v5)
  else
    some (S, l4)
def j_X7_reasonAgainst_26 (n : Nat) (S : St) (l2 : Int32) (l3 : Int32) : Option (St × Int32) :=
  bI (k_X6_find n 101 S l2 0 0) fun S1 v3 =>
  if v3 = 0 then
    bI (f_X3_reduce n S1 6) fun S5 v7 =>
    bI (f_X6_needSort n S5 v7 6) fun S8 v10 =>
    j_X7_reasonAgainst_73 n S8 l2 l3 v10
  else
    j_X7_reasonAgainst_73 n S1 l2 l3 v3
def f_X7_reasonAgainst (n : Nat) (S : St) (a1 : Int32) (a2 : Int32) (a3 : Int32) : Option (St × Int32) :=
  bI (f_X7_hasStrangeParameter n S a2 a1) fun S1 v3 =>
  if v3 = 0 then
    if a3 = (-1) then
      j_X7_reasonAgainst_26 n S1 a2 a3
    else
      bI (f_X7_hasStrangeParameter n S1 a3 a1) fun S6 v8 =>
      if v8 = 0 then
        j_X7_reasonAgainst_26 n S6 a2 a3
      else
        some (S6, 8)
  else
    some (S1, 8)
set_option maxRecDepth 100000 in
set_option maxHeartbeats 4000000 in
theorem t_X7_reasonAgainst_73 {n : Nat} {x : XC} (hx : CX x cX7_reasonAgainst 5 RX7) (hR : x_R x = rm_X7_reasonAgainst) (hKS : ∀ k ∈ KK, k ∈ x_K x) {out : St × Int32} (hE : EI x cX7_reasonAgainst out) {S : St} {l2 : Int32} {l3 : Int32} {l4 : Int32} (h : j_X7_reasonAgainst_73 n S l2 l3 l4 = some out) : WX x 5 0 0 S 73 [(0, .ref (x_ad x 0 6 0)), (2, .int l2), (3, .int l3), (4, .int l4)] [] := by
  unfold j_X7_reasonAgainst_73 at h
  refine r_iload (k0 := 3) hx dX7_reasonAgainst_73 rfl ?_
  refine r_if_ne (tgt := 83) hx dX7_reasonAgainst_75 (by decide) (fun c1 => ?_) (fun c1 => ?_)
  · have h := ite_f h c1
    refine r_iload (k0 := 3) hx dX7_reasonAgainst_83 rfl ?_
    exact r_iret hE h dX7_reasonAgainst_85
  · have h := ite_t h c1
    refine r_iload_n (k0 := 2) hx dX7_reasonAgainst_78 rfl rfl ?_
    refine r_iconst (v := -1) hx dX7_reasonAgainst_79 (by decide) ?_
    refine r_icmp_ne (tgt := 86) hx dX7_reasonAgainst_80 (by decide) (fun c2 => ?_) (fun c2 => ?_)
    · have h := ite_f h c2
      refine r_aload_n (k0 := 0) hx dX7_reasonAgainst_86 rfl rfl ?_
      refine g_304 hx (k_0_6 hKS) wf_X7_46 dX7_reasonAgainst_87 ?_
      refine r_iload_n (k0 := 2) hx dX7_reasonAgainst_90 rfl rfl ?_
      refine r_iconst (v := 0) hx dX7_reasonAgainst_91 (by decide) ?_
      refine r_iconst (v := 0) hx dX7_reasonAgainst_92 (by decide) ?_
      obtain ⟨S3, v5, c4, h⟩ := bI_some h
      refine r_Vi (ci := 5) (As := [.int l3, .int 0, .int 0]) (rest := []) hx (D_X6_find (c := x_y x) hKS c4) (k_0_5 hKS) rfl wl_X7_119 wi_X6_find we_X6_find wn_X6 wc_X6_find dy_X6_find rfl (by rw [hR]; decide +kernel) rfl (Nat.le_of_ble_eq_true rfl) dX7_reasonAgainst_93 ?_
      refine r_istore (lv' := [(4, .int v5), (0, .ref (x_ad x 0 6 0)), (2, .int l2), (3, .int l3)]) hx dX7_reasonAgainst_96 (by decide) rfl ?_
      refine r_iload (k0 := 0) hx dX7_reasonAgainst_98 rfl ?_
      refine r_if_eq (tgt := 106) hx dX7_reasonAgainst_100 (by decide) (fun c6 => ?_) (fun c6 => ?_)
      · have h := ite_t h c6
        refine r_aload_n (k0 := 1) hx dX7_reasonAgainst_106 rfl rfl ?_
        refine g_301 hx (k_0_6 hKS) wf_X7_21 dX7_reasonAgainst_107 ?_
        refine r_iload_n (k0 := 2) hx dX7_reasonAgainst_110 rfl rfl ?_
        refine r_aload_n (k0 := 1) hx dX7_reasonAgainst_111 rfl rfl ?_
        refine g_305 hx (k_0_6 hKS) wf_X7_53 dX7_reasonAgainst_112 ?_
        obtain ⟨S7, c8, h⟩ := bU_some h
        refine r_Vv (ci := 4) (As := [.int l2, .ref (x_ad x 0 3 0)]) (rest := []) hx (C_X5_spread (c := x_y x) hKS (by decide) c8) (k_0_4 hKS) rfl wl_X7_130 wi_X5_spread we_X5_spread wn_X5 wc_X5_spread dy_X5_spread rfl (by rw [hR]; decide +kernel) rfl (Nat.le_of_ble_eq_true rfl) dX7_reasonAgainst_115 ?_
        refine r_aload_n (k0 := 1) hx dX7_reasonAgainst_118 rfl rfl ?_
        refine g_303 hx (k_0_6 hKS) wf_X7_37 dX7_reasonAgainst_119 ?_
        refine r_aload_n (k0 := 1) hx dX7_reasonAgainst_122 rfl rfl ?_
        refine g_304 hx (k_0_6 hKS) wf_X7_46 dX7_reasonAgainst_123 ?_
        refine g_254 hx (k_0_5 hKS) wf_X7_123 dX7_reasonAgainst_126 ?_
        obtain ⟨S9, v11, c10, h⟩ := bI_some h
        refine r_Vi (ci := 2) (As := [.ref (x_ad x 0 3 6)]) (rest := []) hx (C_X3_reduce (c := x_y x) hKS (by decide) c10) (k_0_2 hKS) rfl wl_X7_134 wi_X3_reduce we_X3_reduce wn_X3 wc_X3_reduce dy_X3_reduce rfl (by rw [hR]; decide +kernel) rfl (Nat.le_of_ble_eq_true rfl) dX7_reasonAgainst_129 ?_
        refine r_bipush (v := -6) hx dX7_reasonAgainst_132 (by decide) ?_
        refine r_icmp_eq (tgt := 153) hx dX7_reasonAgainst_134 (by decide) (fun c12 => ?_) (fun c12 => ?_)
        · have h := ite_t h c12
          refine r_iconst (v := 5) hx dX7_reasonAgainst_153 (by decide) ?_
          exact r_iret hE h dX7_reasonAgainst_154
        · have h := ite_f h c12
          refine r_aload_n (k0 := 1) hx dX7_reasonAgainst_137 rfl rfl ?_
          refine g_303 hx (k_0_6 hKS) wf_X7_37 dX7_reasonAgainst_138 ?_
          refine r_aload_n (k0 := 1) hx dX7_reasonAgainst_141 rfl rfl ?_
          refine g_305 hx (k_0_6 hKS) wf_X7_53 dX7_reasonAgainst_142 ?_
          obtain ⟨S13, v15, c14, h⟩ := bI_some h
          refine r_Vi (ci := 2) (As := [.ref (x_ad x 0 3 0)]) (rest := []) hx (C_X3_reduce (c := x_y x) hKS (by decide) c14) (k_0_2 hKS) rfl wl_X7_134 wi_X3_reduce we_X3_reduce wn_X3 wc_X3_reduce dy_X3_reduce rfl (by rw [hR]; decide +kernel) rfl (Nat.le_of_ble_eq_true rfl) dX7_reasonAgainst_145 ?_
          refine r_bipush (v := -6) hx dX7_reasonAgainst_148 (by decide) ?_
          refine r_icmp_ne (tgt := 155) hx dX7_reasonAgainst_150 (by decide) (fun c16 => ?_) (fun c16 => ?_)
          · have h := ite_f h c16
            refine r_aload_n (k0 := 1) hx dX7_reasonAgainst_155 rfl rfl ?_
            refine g_305 hx (k_0_6 hKS) wf_X7_53 dX7_reasonAgainst_156 ?_
            refine r_iconst (v := 0) hx dX7_reasonAgainst_159 (by decide) ?_
            refine r_aload_n (k0 := 1) hx dX7_reasonAgainst_160 rfl rfl ?_
            refine g_305 hx (k_0_6 hKS) wf_X7_53 dX7_reasonAgainst_161 ?_
            refine g_150 hx (kr_0 hKS (by decide)) wf_X7_137 dX7_reasonAgainst_164 ?_
            refine r_aload_n (k0 := 1) hx dX7_reasonAgainst_167 rfl rfl ?_
            refine g_304 hx (k_0_6 hKS) wf_X7_46 dX7_reasonAgainst_168 ?_
            refine g_254 hx (k_0_5 hKS) wf_X7_123 dX7_reasonAgainst_171 ?_
            refine r_aload_n (k0 := 1) hx dX7_reasonAgainst_174 rfl rfl ?_
            refine g_300 hx (k_0_6 hKS) wf_X7_10 dX7_reasonAgainst_175 ?_
            obtain ⟨S17, v19, c18, h⟩ := bI_some h
            refine r_Vi (ci := 3) (As := [.int 0, .int (S13.1 150 0), .ref (x_ad x 0 3 6), .ref (x_ad x 0 0 0)]) (rest := []) hx (C_X4_matches (c := x_y x) hKS (by decide) (by decide) c18) (kr_0 hKS (by decide)) rfl wl_X7_141 wi_X4_matches we_X4_matches wn_X4 wc_X4_matches dy_X4_matches rfl (by rw [hR]; decide +kernel) rfl (Nat.le_of_ble_eq_true rfl) dX7_reasonAgainst_178 ?_
            refine r_if_eq (tgt := 188) hx dX7_reasonAgainst_181 (by decide) (fun c20 => ?_) (fun c20 => ?_)
            · have h := ite_t h c20
              refine r_bipush (v := 7) hx dX7_reasonAgainst_188 (by decide) ?_
              exact r_iret hE h dX7_reasonAgainst_190
            · have h := ite_f h c20
              refine r_iconst (v := 0) hx dX7_reasonAgainst_184 (by decide) ?_
              refine r_goto (tgt := 190) hx dX7_reasonAgainst_185 (by decide) ?_
              exact r_iret hE h dX7_reasonAgainst_190
          · have h := ite_t h c16
            refine r_iconst (v := 5) hx dX7_reasonAgainst_153 (by decide) ?_
            exact r_iret hE h dX7_reasonAgainst_154
      · have h := ite_f h c6
        refine r_iload (k0 := 0) hx dX7_reasonAgainst_103 rfl ?_
        exact r_iret hE h dX7_reasonAgainst_105
    · have h := ite_t h c2
      refine r_iload (k0 := 3) hx dX7_reasonAgainst_83 rfl ?_
      exact r_iret hE h dX7_reasonAgainst_85
set_option maxRecDepth 100000 in
set_option maxHeartbeats 4000000 in
theorem t_X7_reasonAgainst_26 {n : Nat} {x : XC} (hx : CX x cX7_reasonAgainst 5 RX7) (hR : x_R x = rm_X7_reasonAgainst) (hKS : ∀ k ∈ KK, k ∈ x_K x) {out : St × Int32} (hE : EI x cX7_reasonAgainst out) {S : St} {l2 : Int32} {l3 : Int32} (h : j_X7_reasonAgainst_26 n S l2 l3 = some out) : WX x 5 0 0 S 26 [(0, .ref (x_ad x 0 6 0)), (2, .int l2), (3, .int l3)] [] := by
  unfold j_X7_reasonAgainst_26 at h
  refine r_aload_n (k0 := 0) hx dX7_reasonAgainst_26 rfl rfl ?_
  refine g_304 hx (k_0_6 hKS) wf_X7_46 dX7_reasonAgainst_27 ?_
  refine r_iload_n (k0 := 1) hx dX7_reasonAgainst_30 rfl rfl ?_
  refine r_iconst (v := 0) hx dX7_reasonAgainst_31 (by decide) ?_
  refine r_iconst (v := 0) hx dX7_reasonAgainst_32 (by decide) ?_
  obtain ⟨S1, v3, c2, h⟩ := bI_some h
  refine r_Vi (ci := 5) (As := [.int l2, .int 0, .int 0]) (rest := []) hx (D_X6_find (c := x_y x) hKS c2) (k_0_5 hKS) rfl wl_X7_119 wi_X6_find we_X6_find wn_X6 wc_X6_find dy_X6_find rfl (by rw [hR]; decide +kernel) rfl (Nat.le_of_ble_eq_true rfl) dX7_reasonAgainst_33 ?_
  refine r_istore (lv' := [(4, .int v3), (0, .ref (x_ad x 0 6 0)), (2, .int l2), (3, .int l3)]) hx dX7_reasonAgainst_36 (by decide) rfl ?_
  refine r_iload (k0 := 0) hx dX7_reasonAgainst_38 rfl ?_
  refine r_if_ne (tgt := 73) hx dX7_reasonAgainst_40 (by decide) (fun c4 => ?_) (fun c4 => ?_)
  · have h := ite_f h c4
    refine WX.sub (lv' := [(0, .ref (x_ad x 0 6 0)), (2, .int l2), (3, .int l3), (4, .int v3)]) ?_ [1, 2, 3, 0] rfl
    exact t_X7_reasonAgainst_73 hx hR hKS hE h
  · have h := ite_t h c4
    refine r_aload_n (k0 := 1) hx dX7_reasonAgainst_43 rfl rfl ?_
    refine g_304 hx (k_0_6 hKS) wf_X7_46 dX7_reasonAgainst_44 ?_
    refine r_aload_n (k0 := 1) hx dX7_reasonAgainst_47 rfl rfl ?_
    refine g_303 hx (k_0_6 hKS) wf_X7_37 dX7_reasonAgainst_48 ?_
    refine r_aload_n (k0 := 1) hx dX7_reasonAgainst_51 rfl rfl ?_
    refine g_304 hx (k_0_6 hKS) wf_X7_46 dX7_reasonAgainst_52 ?_
    refine g_254 hx (k_0_5 hKS) wf_X7_123 dX7_reasonAgainst_55 ?_
    obtain ⟨S5, v7, c6, h⟩ := bI_some h
    refine r_Vi (ci := 2) (As := [.ref (x_ad x 0 3 6)]) (rest := [.ref (x_ad x 0 5 0)]) hx (C_X3_reduce (c := x_y x) hKS (by decide) c6) (k_0_2 hKS) rfl wl_X7_134 wi_X3_reduce we_X3_reduce wn_X3 wc_X3_reduce dy_X3_reduce rfl (by rw [hR]; decide +kernel) rfl (Nat.le_of_ble_eq_true rfl) dX7_reasonAgainst_58 ?_
    refine r_aload_n (k0 := 1) hx dX7_reasonAgainst_61 rfl rfl ?_
    refine g_304 hx (k_0_6 hKS) wf_X7_46 dX7_reasonAgainst_62 ?_
    refine g_254 hx (k_0_5 hKS) wf_X7_123 dX7_reasonAgainst_65 ?_
    obtain ⟨S8, v10, c9, h⟩ := bI_some h
    refine r_Vi (ci := 5) (As := [.int v7, .ref (x_ad x 0 3 6)]) (rest := []) hx (C_X6_needSort (c := x_y x) hKS (by decide) c9) (k_0_5 hKS) rfl wl_X7_246 wi_X6_needSort we_X6_needSort wn_X6 wc_X6_needSort dy_X6_needSort rfl (by rw [hR]; decide +kernel) rfl (Nat.le_of_ble_eq_true rfl) dX7_reasonAgainst_68 ?_
    refine r_istore (lv' := [(4, .int v10), (0, .ref (x_ad x 0 6 0)), (2, .int l2), (3, .int l3)]) hx dX7_reasonAgainst_71 (by decide) rfl ?_
    refine WX.sub (lv' := [(0, .ref (x_ad x 0 6 0)), (2, .int l2), (3, .int l3), (4, .int v10)]) ?_ [1, 2, 3, 0] rfl
    exact t_X7_reasonAgainst_73 hx hR hKS hE h
set_option maxRecDepth 100000 in
set_option maxHeartbeats 4000000 in
theorem t_X7_reasonAgainst_0 {n : Nat} {x : XC} (hx : CX x cX7_reasonAgainst 5 RX7) (hR : x_R x = rm_X7_reasonAgainst) (hKS : ∀ k ∈ KK, k ∈ x_K x) {out : St × Int32} (hE : EI x cX7_reasonAgainst out) {S : St} {a1 : Int32} {a2 : Int32} {a3 : Int32} (h : f_X7_reasonAgainst n S a1 a2 a3 = some out) : WX x 5 0 0 S 0 [(0, .ref (x_ad x 0 6 0)), (1, .int a1), (2, .int a2), (3, .int a3)] [] := by
  unfold f_X7_reasonAgainst at h
  refine r_aload_n (k0 := 0) hx dX7_reasonAgainst_0 rfl rfl ?_
  refine r_iload_n (k0 := 2) hx dX7_reasonAgainst_1 rfl rfl ?_
  refine r_iload_n (k0 := 1) hx dX7_reasonAgainst_2 rfl rfl ?_
  obtain ⟨S1, v3, c2, h⟩ := bI_some h
  refine r_Vi (ci := 6) (As := [.int a2, .int a1]) (rest := []) hx (C_X7_hasStrangeParameter (c := x_y x) hKS c2) (k_0_6 hKS) rfl wl_X7_242 wi_X7_hasStrangeParameter we_X7_hasStrangeParameter wn_X7 wc_X7_hasStrangeParameter dy_X7_hasStrangeParameter rfl (by rw [hR]; decide +kernel) rfl (Nat.le_of_ble_eq_true rfl) dX7_reasonAgainst_3 ?_
  refine r_if_ne (tgt := 23) hx dX7_reasonAgainst_6 (by decide) (fun c4 => ?_) (fun c4 => ?_)
  · have h := ite_f h c4
    refine r_bipush (v := 8) hx dX7_reasonAgainst_23 (by decide) ?_
    exact r_iret hE h dX7_reasonAgainst_25
  · have h := ite_t h c4
    refine r_iload_n (k0 := 3) hx dX7_reasonAgainst_9 rfl rfl ?_
    refine r_iconst (v := -1) hx dX7_reasonAgainst_10 (by decide) ?_
    refine r_icmp_eq (tgt := 26) hx dX7_reasonAgainst_11 (by decide) (fun c5 => ?_) (fun c5 => ?_)
    · have h := ite_t h c5
      refine WX.sub (lv' := [(0, .ref (x_ad x 0 6 0)), (2, .int a2), (3, .int a3)]) ?_ [0, 2, 3] rfl
      exact t_X7_reasonAgainst_26 hx hR hKS hE h
    · have h := ite_f h c5
      refine r_aload_n (k0 := 0) hx dX7_reasonAgainst_14 rfl rfl ?_
      refine r_iload_n (k0 := 3) hx dX7_reasonAgainst_15 rfl rfl ?_
      refine r_iload_n (k0 := 1) hx dX7_reasonAgainst_16 rfl rfl ?_
      obtain ⟨S6, v8, c7, h⟩ := bI_some h
      refine r_Vi (ci := 6) (As := [.int a3, .int a1]) (rest := []) hx (C_X7_hasStrangeParameter (c := x_y x) hKS c7) (k_0_6 hKS) rfl wl_X7_242 wi_X7_hasStrangeParameter we_X7_hasStrangeParameter wn_X7 wc_X7_hasStrangeParameter dy_X7_hasStrangeParameter rfl (by rw [hR]; decide +kernel) rfl (Nat.le_of_ble_eq_true rfl) dX7_reasonAgainst_17 ?_
      refine r_if_eq (tgt := 26) hx dX7_reasonAgainst_20 (by decide) (fun c9 => ?_) (fun c9 => ?_)
      · have h := ite_t h c9
        refine WX.sub (lv' := [(0, .ref (x_ad x 0 6 0)), (2, .int a2), (3, .int a3)]) ?_ [0, 2, 3] rfl
        exact t_X7_reasonAgainst_26 hx hR hKS hE h
      · have h := ite_f h c9
        refine r_bipush (v := 8) hx dX7_reasonAgainst_23 (by decide) ?_
        exact r_iret hE h dX7_reasonAgainst_25
set_option maxHeartbeats 4000000 in
theorem C_X7_reasonAgainst {n : Nat} {c : YC} (hKS : ∀ k ∈ KK, k ∈ c.2.2.2.2) {S : St} {a1 : Int32} {a2 : Int32} {a3 : Int32} {out : St × Int32} (h : f_X7_reasonAgainst n S a1 a2 a3 = some out) : MI c yX7_reasonAgainst cX7_reasonAgainst 5 (some .int) rm_X7_reasonAgainst S [.ref (c.2.2.1 0 6 0), .int a1, .int a2, .int a3] out := mk_I (own := RX7) (by decide +kernel) rfl (Nat.le_of_ble_eq_true rfl) (fun x hx hR hy hE => by subst hy; exact t_X7_reasonAgainst_0 hx hR hKS hE h)
def j_X7_needLevel_15 (n : Nat) (S : St) : Option (XO3) :=
  some (S, 2, 0)
def f_X7_needLevel (n : Nat) (S : St) (a1 : Int32) : Option (XO3) :=
  if a1 < 0 then
    j_X7_needLevel_15 n S
  else
    if a1 < (S.1 0 0) then
      some (S, 0, 0)
    else
      j_X7_needLevel_15 n S
set_option maxRecDepth 100000 in
set_option maxHeartbeats 4000000 in
theorem t_X7_needLevel_15 {n : Nat} {x : XC} (hx : CX x cX7_needLevel 2 RX7) (hR : x_R x = rm_X7_needLevel) (hKS : ∀ k ∈ KK, k ∈ x_K x) {out : XO3} (hE : XEV x 1 6 out) {S : St} (h : j_X7_needLevel_15 n S  = some out) : WX x 2 0 0 S 15 [] [] := by
  unfold j_X7_needLevel_15 at h
  exact r_throw (code := 2) (ik := 204) (is := 206) (ic := 208) (text := "no such level") (names := nms) hx hE.1 (by decide) (by decide) h (by decide +kernel) (by decide +kernel) (by rw [exn_2]; exact wa_X7_204) (by rw [exn_2]; exact wn_IndexOutOfBoundsException) (by decide +kernel) (atS_ok hx aw_2_208 ab_2_208 (by decide +kernel)) ag_2_208_204 dX7_needLevel_15 dX7_needLevel_18 dX7_needLevel_19 dX7_needLevel_21 dX7_needLevel_24 (by rw [hR]; exact ⟨by decide, Nat.le_of_ble_eq_true rfl, rfl, rfl⟩)
set_option maxRecDepth 100000 in
set_option maxHeartbeats 4000000 in
theorem t_X7_needLevel_0 {n : Nat} {x : XC} (hx : CX x cX7_needLevel 2 RX7) (hR : x_R x = rm_X7_needLevel) (hKS : ∀ k ∈ KK, k ∈ x_K x) {out : XO3} (hE : XEV x 1 6 out) {S : St} {a1 : Int32} (h : f_X7_needLevel n S a1 = some out) : WX x 2 0 0 S 0 [(0, .ref (x_ad x 0 6 0)), (1, .int a1)] [] := by
  unfold f_X7_needLevel at h
  refine r_iload_n (k0 := 1) hx dX7_needLevel_0 rfl rfl ?_
  refine r_if_lt (tgt := 15) hx dX7_needLevel_1 (by decide) (fun c1 => ?_) (fun c1 => ?_)
  · have h := ite_t h c1
    refine WX.sub (lv' := []) ?_ [] rfl
    exact t_X7_needLevel_15 hx hR hKS hE h
  · have h := ite_f h c1
    refine r_iload_n (k0 := 1) hx dX7_needLevel_4 rfl rfl ?_
    refine r_aload_n (k0 := 0) hx dX7_needLevel_5 rfl rfl ?_
    refine g_300 hx (k_0_6 hKS) wf_X7_10 dX7_needLevel_6 ?_
    refine g_0 hx (k_0_0 hKS) wf_X7_202 dX7_needLevel_9 ?_
    refine r_icmp_lt (tgt := 25) hx dX7_needLevel_12 (by decide) (fun c2 => ?_) (fun c2 => ?_)
    · have h := ite_t h c2
      exact r_xvret hx hE (by decide) h dX7_needLevel_25
    · have h := ite_f h c2
      refine WX.sub (lv' := []) ?_ [] rfl
      exact t_X7_needLevel_15 hx hR hKS hE h
set_option maxHeartbeats 4000000 in
theorem C_X7_needLevel {n : Nat} {c : YC} (hKS : ∀ k ∈ KK, k ∈ c.2.2.2.2) (hst : c.1.stackTraces = false) {S : St} {a1 : Int32} {out : XO3} (h : f_X7_needLevel n S a1 = some out) : MXV c yX7_needLevel cX7_needLevel 2 none rm_X7_needLevel 1 6 S [.ref (c.2.2.1 0 6 0), .int a1] out := mk_XV (own := RX7) (by decide +kernel) rfl (Nat.le_of_ble_eq_true rfl) hst (fun x hx hR hy hE => by subst hy; exact t_X7_needLevel_0 hx hR hKS hE h)
def j_X7_needTerm_15 (n : Nat) (S : St) : Option (XO3) :=
  some (S, 2, 0)
def f_X7_needTerm (n : Nat) (S : St) (a1 : Int32) : Option (XO3) :=
  if a1 < 0 then
    j_X7_needTerm_15 n S
  else
    if a1 < (S.1 200 0) then
      some (S, 0, 0)
    else
      j_X7_needTerm_15 n S
set_option maxRecDepth 100000 in
set_option maxHeartbeats 4000000 in
theorem t_X7_needTerm_15 {n : Nat} {x : XC} (hx : CX x cX7_needTerm 2 RX7) (hR : x_R x = rm_X7_needTerm) (hKS : ∀ k ∈ KK, k ∈ x_K x) {out : XO3} (hE : XEV x 1 6 out) {S : St} (h : j_X7_needTerm_15 n S  = some out) : WX x 2 0 0 S 15 [] [] := by
  unfold j_X7_needTerm_15 at h
  exact r_throw (code := 2) (ik := 204) (is := 209) (ic := 208) (text := "no such term") (names := nms) hx hE.1 (by decide) (by decide) h (by decide +kernel) (by decide +kernel) (by rw [exn_2]; exact wa_X7_204) (by rw [exn_2]; exact wn_IndexOutOfBoundsException) (by decide +kernel) (atS_ok hx aw_2_208 ab_2_208 (by decide +kernel)) ag_2_208_204 dX7_needTerm_15 dX7_needTerm_18 dX7_needTerm_19 dX7_needTerm_21 dX7_needTerm_24 (by rw [hR]; exact ⟨by decide, Nat.le_of_ble_eq_true rfl, rfl, rfl⟩)
set_option maxRecDepth 100000 in
set_option maxHeartbeats 4000000 in
theorem t_X7_needTerm_0 {n : Nat} {x : XC} (hx : CX x cX7_needTerm 2 RX7) (hR : x_R x = rm_X7_needTerm) (hKS : ∀ k ∈ KK, k ∈ x_K x) {out : XO3} (hE : XEV x 1 6 out) {S : St} {a1 : Int32} (h : f_X7_needTerm n S a1 = some out) : WX x 2 0 0 S 0 [(0, .ref (x_ad x 0 6 0)), (1, .int a1)] [] := by
  unfold f_X7_needTerm at h
  refine r_iload_n (k0 := 1) hx dX7_needTerm_0 rfl rfl ?_
  refine r_if_lt (tgt := 15) hx dX7_needTerm_1 (by decide) (fun c1 => ?_) (fun c1 => ?_)
  · have h := ite_t h c1
    refine WX.sub (lv' := []) ?_ [] rfl
    exact t_X7_needTerm_15 hx hR hKS hE h
  · have h := ite_f h c1
    refine r_iload_n (k0 := 1) hx dX7_needTerm_4 rfl rfl ?_
    refine r_aload_n (k0 := 0) hx dX7_needTerm_5 rfl rfl ?_
    refine g_301 hx (k_0_6 hKS) wf_X7_21 dX7_needTerm_6 ?_
    refine g_200 hx (k_0_4 hKS) wf_X7_203 dX7_needTerm_9 ?_
    refine r_icmp_lt (tgt := 25) hx dX7_needTerm_12 (by decide) (fun c2 => ?_) (fun c2 => ?_)
    · have h := ite_t h c2
      exact r_xvret hx hE (by decide) h dX7_needTerm_25
    · have h := ite_f h c2
      refine WX.sub (lv' := []) ?_ [] rfl
      exact t_X7_needTerm_15 hx hR hKS hE h
set_option maxHeartbeats 4000000 in
theorem C_X7_needTerm {n : Nat} {c : YC} (hKS : ∀ k ∈ KK, k ∈ c.2.2.2.2) (hst : c.1.stackTraces = false) {S : St} {a1 : Int32} {out : XO3} (h : f_X7_needTerm n S a1 = some out) : MXV c yX7_needTerm cX7_needTerm 2 none rm_X7_needTerm 1 6 S [.ref (c.2.2.1 0 6 0), .int a1] out := mk_XV (own := RX7) (by decide +kernel) rfl (Nat.le_of_ble_eq_true rfl) hst (fun x hx hR hy hE => by subst hy; exact t_X7_needTerm_0 hx hR hKS hE h)
def j_X7_needName_15 (n : Nat) (S : St) : Option (XO3) :=
  some (S, 2, 0)
def f_X7_needName (n : Nat) (S : St) (a1 : Int32) : Option (XO3) :=
  if a1 < 0 then
    j_X7_needName_15 n S
  else
    if a1 < (S.1 50 0) then
      some (S, 0, 0)
    else
      j_X7_needName_15 n S
set_option maxRecDepth 100000 in
set_option maxHeartbeats 4000000 in
theorem t_X7_needName_15 {n : Nat} {x : XC} (hx : CX x cX7_needName 2 RX7) (hR : x_R x = rm_X7_needName) (hKS : ∀ k ∈ KK, k ∈ x_K x) {out : XO3} (hE : XEV x 1 6 out) {S : St} (h : j_X7_needName_15 n S  = some out) : WX x 2 0 0 S 15 [] [] := by
  unfold j_X7_needName_15 at h
  exact r_throw (code := 2) (ik := 204) (is := 211) (ic := 208) (text := "no such name") (names := nms) hx hE.1 (by decide) (by decide) h (by decide +kernel) (by decide +kernel) (by rw [exn_2]; exact wa_X7_204) (by rw [exn_2]; exact wn_IndexOutOfBoundsException) (by decide +kernel) (atS_ok hx aw_2_208 ab_2_208 (by decide +kernel)) ag_2_208_204 dX7_needName_15 dX7_needName_18 dX7_needName_19 dX7_needName_21 dX7_needName_24 (by rw [hR]; exact ⟨by decide, Nat.le_of_ble_eq_true rfl, rfl, rfl⟩)
set_option maxRecDepth 100000 in
set_option maxHeartbeats 4000000 in
theorem t_X7_needName_0 {n : Nat} {x : XC} (hx : CX x cX7_needName 2 RX7) (hR : x_R x = rm_X7_needName) (hKS : ∀ k ∈ KK, k ∈ x_K x) {out : XO3} (hE : XEV x 1 6 out) {S : St} {a1 : Int32} (h : f_X7_needName n S a1 = some out) : WX x 2 0 0 S 0 [(0, .ref (x_ad x 0 6 0)), (1, .int a1)] [] := by
  unfold f_X7_needName at h
  refine r_iload_n (k0 := 1) hx dX7_needName_0 rfl rfl ?_
  refine r_if_lt (tgt := 15) hx dX7_needName_1 (by decide) (fun c1 => ?_) (fun c1 => ?_)
  · have h := ite_t h c1
    refine WX.sub (lv' := []) ?_ [] rfl
    exact t_X7_needName_15 hx hR hKS hE h
  · have h := ite_f h c1
    refine r_iload_n (k0 := 1) hx dX7_needName_4 rfl rfl ?_
    refine r_aload_n (k0 := 0) hx dX7_needName_5 rfl rfl ?_
    refine g_302 hx (k_0_6 hKS) wf_X7_28 dX7_needName_6 ?_
    refine g_50 hx (k_0_1 hKS) wf_X7_147 dX7_needName_9 ?_
    refine r_icmp_lt (tgt := 25) hx dX7_needName_12 (by decide) (fun c2 => ?_) (fun c2 => ?_)
    · have h := ite_t h c2
      exact r_xvret hx hE (by decide) h dX7_needName_25
    · have h := ite_f h c2
      refine WX.sub (lv' := []) ?_ [] rfl
      exact t_X7_needName_15 hx hR hKS hE h
set_option maxHeartbeats 4000000 in
theorem C_X7_needName {n : Nat} {c : YC} (hKS : ∀ k ∈ KK, k ∈ c.2.2.2.2) (hst : c.1.stackTraces = false) {S : St} {a1 : Int32} {out : XO3} (h : f_X7_needName n S a1 = some out) : MXV c yX7_needName cX7_needName 2 none rm_X7_needName 1 6 S [.ref (c.2.2.1 0 6 0), .int a1] out := mk_XV (own := RX7) (by decide +kernel) rfl (Nat.le_of_ble_eq_true rfl) hst (fun x hx hR hy hE => by subst hy; exact t_X7_needName_0 hx hR hKS hE h)
def j_X7_needParameterValue_11 (n : Nat) (S : St) : Option (XO3) :=
  some (S, 1, 0)
def f_X7_needParameterValue (n : Nat) (S : St) (a1 : Int32) : Option (XO3) :=
  if a1 < 0 then
    j_X7_needParameterValue_11 n S
  else
    if a1 ≤ 1000 then
      some (S, 0, 0)
    else
      j_X7_needParameterValue_11 n S
set_option maxRecDepth 100000 in
set_option maxHeartbeats 4000000 in
theorem t_X7_needParameterValue_11 {n : Nat} {x : XC} (hx : CX x cX7_needParameterValue 2 RX7) (hR : x_R x = rm_X7_needParameterValue) (hKS : ∀ k ∈ KK, k ∈ x_K x) {out : XO3} (hE : XEV x 1 6 out) {S : St} (h : j_X7_needParameterValue_11 n S  = some out) : WX x 2 0 0 S 11 [] [] := by
  unfold j_X7_needParameterValue_11 at h
  exact r_throw (code := 1) (ik := 60) (is := 213) (ic := 64) (text := "no such value of a parameter") (names := nms) hx hE.1 (by decide) (by decide) h (by decide +kernel) (by decide +kernel) (by rw [exn_1]; exact wa_X7_60) (by rw [exn_1]; exact wn_IllegalArgumentException) (by decide +kernel) (atS_ok hx aw_1_64 ab_1_64 (by decide +kernel)) ag_1_64_60 dX7_needParameterValue_11 dX7_needParameterValue_14 dX7_needParameterValue_15 dX7_needParameterValue_17 dX7_needParameterValue_20 (by rw [hR]; exact ⟨by decide, Nat.le_of_ble_eq_true rfl, rfl, rfl⟩)
set_option maxRecDepth 100000 in
set_option maxHeartbeats 4000000 in
theorem t_X7_needParameterValue_0 {n : Nat} {x : XC} (hx : CX x cX7_needParameterValue 2 RX7) (hR : x_R x = rm_X7_needParameterValue) (hKS : ∀ k ∈ KK, k ∈ x_K x) {out : XO3} (hE : XEV x 1 6 out) {S : St} {a1 : Int32} (h : f_X7_needParameterValue n S a1 = some out) : WX x 2 0 0 S 0 [(0, .ref (x_ad x 0 6 0)), (1, .int a1)] [] := by
  unfold f_X7_needParameterValue at h
  refine r_iload_n (k0 := 1) hx dX7_needParameterValue_0 rfl rfl ?_
  refine r_if_lt (tgt := 11) hx dX7_needParameterValue_1 (by decide) (fun c1 => ?_) (fun c1 => ?_)
  · have h := ite_t h c1
    refine WX.sub (lv' := []) ?_ [] rfl
    exact t_X7_needParameterValue_11 hx hR hKS hE h
  · have h := ite_f h c1
    refine r_iload_n (k0 := 1) hx dX7_needParameterValue_4 rfl rfl ?_
    refine r_sipush (v := 1000) hx dX7_needParameterValue_5 (by decide) ?_
    refine r_icmp_le (tgt := 21) hx dX7_needParameterValue_8 (by decide) (fun c2 => ?_) (fun c2 => ?_)
    · have h := ite_t h c2
      exact r_xvret hx hE (by decide) h dX7_needParameterValue_21
    · have h := ite_f h c2
      refine WX.sub (lv' := []) ?_ [] rfl
      exact t_X7_needParameterValue_11 hx hR hKS hE h
set_option maxHeartbeats 4000000 in
theorem C_X7_needParameterValue {n : Nat} {c : YC} (hKS : ∀ k ∈ KK, k ∈ c.2.2.2.2) (hst : c.1.stackTraces = false) {S : St} {a1 : Int32} {out : XO3} (h : f_X7_needParameterValue n S a1 = some out) : MXV c yX7_needParameterValue cX7_needParameterValue 2 none rm_X7_needParameterValue 1 6 S [.ref (c.2.2.1 0 6 0), .int a1] out := mk_XV (own := RX7) (by decide +kernel) rfl (Nat.le_of_ble_eq_true rfl) hst (fun x hx hR hy hE => by subst hy; exact t_X7_needParameterValue_0 hx hR hKS hE h)
def j_X7_askedLevel_17 (n : Nat) (S : St) : Option (XO3) :=
  some (S, 3, 0)
def f_X7_askedLevel (n : Nat) (S : St) (a1 : Int64) : Option (XO3) :=
  if (lg_cmp a1 (-1)) = 0 then
    j_X7_askedLevel_17 n S
  else
    bI (f_X0_sizeOf n S a1) fun S2 v4 =>
    if v4 ≤ 8 then
      bI (k_X1_keep n 17 S2 a1) fun S6 v8 =>
      if v8 = (-1) then
        some (S6, 3, 0)
      else
        some (S6, 0, v8)
    else
      j_X7_askedLevel_17 n S2
set_option maxRecDepth 100000 in
set_option maxHeartbeats 4000000 in
theorem t_X7_askedLevel_17 {n : Nat} {x : XC} (hx : CX x cX7_askedLevel 4 RX7) (hR : x_R x = rm_X7_askedLevel) (hKS : ∀ k ∈ KK, k ∈ x_K x) {out : XO3} (hE : XEI x .int 1 6 out) {S : St} (h : j_X7_askedLevel_17 n S  = some out) : WX x 4 0 0 S 17 [] [] := by
  unfold j_X7_askedLevel_17 at h
  exact r_throw (code := 3) (ik := 150) (is := 217) (ic := 154) (text := "too large a level") (names := nms) hx hE.1 (by decide) (by decide) h (by decide +kernel) (by decide +kernel) (by rw [exn_3]; exact wa_X7_150) (by rw [exn_3]; exact wn_UnsupportedOperationException) (by decide +kernel) (atS_ok hx aw_3_154 ab_3_154 (by decide +kernel)) ag_3_154_150 dX7_askedLevel_17 dX7_askedLevel_20 dX7_askedLevel_21 dX7_askedLevel_23 dX7_askedLevel_26 (by rw [hR]; exact ⟨by decide, Nat.le_of_ble_eq_true rfl, rfl, rfl⟩)
set_option maxRecDepth 100000 in
set_option maxHeartbeats 4000000 in
theorem t_X7_askedLevel_0 {n : Nat} {x : XC} (hx : CX x cX7_askedLevel 4 RX7) (hR : x_R x = rm_X7_askedLevel) (hKS : ∀ k ∈ KK, k ∈ x_K x) {out : XO3} (hE : XEI x .int 1 6 out) {S : St} {a1 : Int64} (h : f_X7_askedLevel n S a1 = some out) : WX x 4 0 0 S 0 [(0, .ref (x_ad x 0 6 0)), (1, .long a1)] [] := by
  unfold f_X7_askedLevel at h
  refine r_lload_n (k0 := 1) hx dX7_askedLevel_0 rfl rfl ?_
  refine r_ldc2 (v := -1) hx dX7_askedLevel_1 wk_X7_215 ?_
  refine r_lcmp hx dX7_askedLevel_4 ?_
  refine r_if_eq (tgt := 17) hx dX7_askedLevel_5 (by decide) (fun c1 => ?_) (fun c1 => ?_)
  · have h := ite_t h c1
    refine WX.sub (lv' := []) ?_ [] rfl
    exact t_X7_askedLevel_17 hx hR hKS hE h
  · have h := ite_f h c1
    refine r_lload_n (k0 := 1) hx dX7_askedLevel_8 rfl rfl ?_
    obtain ⟨S2, v4, c3, h⟩ := bI_some h
    refine r_Si (As := [.long a1]) (rest := []) hx (C_X0_sizeOf (c := x_y x) hKS c3) wl_X7_186 wt_X0_sizeOf wn_X0 wc_X0_sizeOf dy_X0_sizeOf rfl (by rw [hR]; decide +kernel) rfl (Nat.le_of_ble_eq_true rfl) dX7_askedLevel_9 ?_
    refine r_bipush (v := 8) hx dX7_askedLevel_12 (by decide) ?_
    refine r_icmp_le (tgt := 27) hx dX7_askedLevel_14 (by decide) (fun c5 => ?_) (fun c5 => ?_)
    · have h := ite_t h c5
      refine r_aload_n (k0 := 0) hx dX7_askedLevel_27 rfl rfl ?_
      refine g_300 hx (k_0_6 hKS) wf_X7_10 dX7_askedLevel_28 ?_
      refine r_lload_n (k0 := 1) hx dX7_askedLevel_31 rfl rfl ?_
      obtain ⟨S6, v8, c7, h⟩ := bI_some h
      refine r_Vi (ci := 0) (As := [.long a1]) (rest := []) hx (D_X1_keep (c := x_y x) hKS c7) (k_0_0 hKS) rfl wl_X7_219 wi_X1_keep we_X1_keep wn_X1 wc_X1_keep dy_X1_keep rfl (by rw [hR]; decide +kernel) rfl (Nat.le_of_ble_eq_true rfl) dX7_askedLevel_32 ?_
      refine r_istore_n (lv' := [(3, .int v8), (0, .ref (x_ad x 0 6 0)), (1, .long a1)]) hx dX7_askedLevel_35 rfl (by decide) rfl ?_
      refine r_iload_n (k0 := 0) hx dX7_askedLevel_36 rfl rfl ?_
      refine r_iconst (v := -1) hx dX7_askedLevel_37 (by decide) ?_
      refine r_icmp_ne (tgt := 51) hx dX7_askedLevel_38 (by decide) (fun c9 => ?_) (fun c9 => ?_)
      · have h := ite_f h c9
        refine r_iload_n (k0 := 0) hx dX7_askedLevel_51 rfl rfl ?_
        exact r_xiret hx hE (by decide) h dX7_askedLevel_52
      · have h := ite_t h c9
        exact r_throw (code := 3) (ik := 150) (is := 222) (ic := 154) (text := "too many levels") (names := nms) hx hE.1 (by decide) (by decide) h (by decide +kernel) (by decide +kernel) (by rw [exn_3]; exact wa_X7_150) (by rw [exn_3]; exact wn_UnsupportedOperationException) (by decide +kernel) (atS_ok hx aw_3_154 ab_3_154 (by decide +kernel)) ag_3_154_150 dX7_askedLevel_41 dX7_askedLevel_44 dX7_askedLevel_45 dX7_askedLevel_47 dX7_askedLevel_50 (by rw [hR]; exact ⟨by decide, Nat.le_of_ble_eq_true rfl, rfl, rfl⟩)
    · have h := ite_f h c5
      refine WX.sub (lv' := []) ?_ [] rfl
      exact t_X7_askedLevel_17 hx hR hKS hE h
set_option maxHeartbeats 4000000 in
theorem C_X7_askedLevel {n : Nat} {c : YC} (hKS : ∀ k ∈ KK, k ∈ c.2.2.2.2) (hst : c.1.stackTraces = false) {S : St} {a1 : Int64} {out : XO3} (h : f_X7_askedLevel n S a1 = some out) : MXI c yX7_askedLevel cX7_askedLevel 4 (some .int) rm_X7_askedLevel 1 6 S [.ref (c.2.2.1 0 6 0), .long a1] out := mk_XI (own := RX7) (by decide +kernel) rfl (Nat.le_of_ble_eq_true rfl) hst (fun x hx hR hy hE => by subst hy; exact t_X7_askedLevel_0 hx hR hKS hE h)
def f_X7_askedTerm (n : Nat) (S : St) (a1 : Int32) (a2 : Int32) (a3 : Int32) (a4 : Int32) : Option (XO3) :=
  bI (f_X5_sizeFor n S a1 a2 a3 a4) fun S1 v3 =>
  if v3 ≤ 60 then
    bI (f_X5_keep n S1 a1 a2 a3 a4) fun S5 v7 =>
    if v7 = (-1) then
      some (S5, 3, 0)
    else
      some (S5, 0, v7)
  else
    some (S1, 3, 0)
set_option maxRecDepth 100000 in
set_option maxHeartbeats 4000000 in
theorem t_X7_askedTerm_0 {n : Nat} {x : XC} (hx : CX x cX7_askedTerm 6 RX7) (hR : x_R x = rm_X7_askedTerm) (hKS : ∀ k ∈ KK, k ∈ x_K x) {out : XO3} (hE : XEI x .int 1 6 out) {S : St} {a1 : Int32} {a2 : Int32} {a3 : Int32} {a4 : Int32} (h : f_X7_askedTerm n S a1 a2 a3 a4 = some out) : WX x 6 0 0 S 0 [(0, .ref (x_ad x 0 6 0)), (1, .int a1), (2, .int a2), (3, .int a3), (4, .int a4)] [] := by
  unfold f_X7_askedTerm at h
  refine r_aload_n (k0 := 0) hx dX7_askedTerm_0 rfl rfl ?_
  refine g_301 hx (k_0_6 hKS) wf_X7_21 dX7_askedTerm_1 ?_
  refine r_iload_n (k0 := 1) hx dX7_askedTerm_4 rfl rfl ?_
  refine r_iload_n (k0 := 2) hx dX7_askedTerm_5 rfl rfl ?_
  refine r_iload_n (k0 := 3) hx dX7_askedTerm_6 rfl rfl ?_
  refine r_iload (k0 := 4) hx dX7_askedTerm_7 rfl ?_
  obtain ⟨S1, v3, c2, h⟩ := bI_some h
  refine r_Vi (ci := 4) (As := [.int a1, .int a2, .int a3, .int a4]) (rest := []) hx (C_X5_sizeFor (c := x_y x) hKS c2) (k_0_4 hKS) rfl wl_X7_224 wi_X5_sizeFor we_X5_sizeFor wn_X5 wc_X5_sizeFor dy_X5_sizeFor rfl (by rw [hR]; decide +kernel) rfl (Nat.le_of_ble_eq_true rfl) dX7_askedTerm_9 ?_
  refine r_bipush (v := 60) hx dX7_askedTerm_12 (by decide) ?_
  refine r_icmp_le (tgt := 27) hx dX7_askedTerm_14 (by decide) (fun c4 => ?_) (fun c4 => ?_)
  · have h := ite_t h c4
    refine r_aload_n (k0 := 0) hx dX7_askedTerm_27 rfl rfl ?_
    refine g_301 hx (k_0_6 hKS) wf_X7_21 dX7_askedTerm_28 ?_
    refine r_iload_n (k0 := 1) hx dX7_askedTerm_31 rfl rfl ?_
    refine r_iload_n (k0 := 2) hx dX7_askedTerm_32 rfl rfl ?_
    refine r_iload_n (k0 := 3) hx dX7_askedTerm_33 rfl rfl ?_
    refine r_iload (k0 := 4) hx dX7_askedTerm_34 rfl ?_
    obtain ⟨S5, v7, c6, h⟩ := bI_some h
    refine r_Vi (ci := 4) (As := [.int a1, .int a2, .int a3, .int a4]) (rest := []) hx (C_X5_keep (c := x_y x) hKS c6) (k_0_4 hKS) rfl wl_X7_229 wi_X5_keep we_X5_keep wn_X5 wc_X5_keep dy_X5_keep rfl (by rw [hR]; decide +kernel) rfl (Nat.le_of_ble_eq_true rfl) dX7_askedTerm_36 ?_
    refine r_istore (lv' := [(5, .int v7), (0, .ref (x_ad x 0 6 0)), (1, .int a1), (2, .int a2), (3, .int a3), (4, .int a4)]) hx dX7_askedTerm_39 (by decide) rfl ?_
    refine r_iload (k0 := 0) hx dX7_askedTerm_41 rfl ?_
    refine r_iconst (v := -1) hx dX7_askedTerm_43 (by decide) ?_
    refine r_icmp_ne (tgt := 57) hx dX7_askedTerm_44 (by decide) (fun c8 => ?_) (fun c8 => ?_)
    · have h := ite_f h c8
      refine r_iload (k0 := 0) hx dX7_askedTerm_57 rfl ?_
      exact r_xiret hx hE (by decide) h dX7_askedTerm_59
    · have h := ite_t h c8
      exact r_throw (code := 3) (ik := 150) (is := 231) (ic := 154) (text := "too many terms") (names := nms) hx hE.1 (by decide) (by decide) h (by decide +kernel) (by decide +kernel) (by rw [exn_3]; exact wa_X7_150) (by rw [exn_3]; exact wn_UnsupportedOperationException) (by decide +kernel) (atS_ok hx aw_3_154 ab_3_154 (by decide +kernel)) ag_3_154_150 dX7_askedTerm_47 dX7_askedTerm_50 dX7_askedTerm_51 dX7_askedTerm_53 dX7_askedTerm_56 (by rw [hR]; exact ⟨by decide, Nat.le_of_ble_eq_true rfl, rfl, rfl⟩)
  · have h := ite_f h c4
    exact r_throw (code := 3) (ik := 150) (is := 227) (ic := 154) (text := "too large a term") (names := nms) hx hE.1 (by decide) (by decide) h (by decide +kernel) (by decide +kernel) (by rw [exn_3]; exact wa_X7_150) (by rw [exn_3]; exact wn_UnsupportedOperationException) (by decide +kernel) (atS_ok hx aw_3_154 ab_3_154 (by decide +kernel)) ag_3_154_150 dX7_askedTerm_17 dX7_askedTerm_20 dX7_askedTerm_21 dX7_askedTerm_23 dX7_askedTerm_26 (by rw [hR]; exact ⟨by decide, Nat.le_of_ble_eq_true rfl, rfl, rfl⟩)
set_option maxHeartbeats 4000000 in
theorem C_X7_askedTerm {n : Nat} {c : YC} (hKS : ∀ k ∈ KK, k ∈ c.2.2.2.2) (hst : c.1.stackTraces = false) {S : St} {a1 : Int32} {a2 : Int32} {a3 : Int32} {a4 : Int32} {out : XO3} (h : f_X7_askedTerm n S a1 a2 a3 a4 = some out) : MXI c yX7_askedTerm cX7_askedTerm 6 (some .int) rm_X7_askedTerm 1 6 S [.ref (c.2.2.1 0 6 0), .int a1, .int a2, .int a3, .int a4] out := mk_XI (own := RX7) (by decide +kernel) rfl (Nat.le_of_ble_eq_true rfl) hst (fun x hx hR hy hE => by subst hy; exact t_X7_askedTerm_0 hx hR hKS hE h)
def f_X7_numbered (n : Nat) (S : St) (a1 : Nat) : Option (XO3) :=
  bV (S.1 0 0) fun v1 =>
  bV (S.1 200 0) fun v3 =>
  pS S 211 0 0 fun S5 =>
  bI (k_X5_keepNext n 101 S5 a1 0) fun S7 v9 =>
  if v9 = (-1) then
    pS S7 0 0 v1 fun S11 =>
    pS S11 200 0 v3 fun S13 =>
    some (S13, 3, 0)
  else
    some (S7, 0, v9)
set_option maxRecDepth 100000 in
set_option maxHeartbeats 4000000 in
theorem t_X7_numbered_0 {n : Nat} {x : XC} (hx : CX x cX7_numbered 5 RX7) (hR : x_R x = rm_X7_numbered) (hKS : ∀ k ∈ KK, k ∈ x_K x) {out : XO3} (hE : XEI x .int 1 6 out) {S : St} {a1 : Nat} (h_a1 : a1 < 107) (h : f_X7_numbered n S a1 = some out) : WX x 5 0 0 S 0 [(0, .ref (x_ad x 0 6 0)), (1, .ref (x_ad x 0 3 a1))] [] := by
  unfold f_X7_numbered at h
  refine r_aload_n (k0 := 0) hx dX7_numbered_0 rfl rfl ?_
  refine g_300 hx (k_0_6 hKS) wf_X7_10 dX7_numbered_1 ?_
  refine g_0 hx (k_0_0 hKS) wf_X7_202 dX7_numbered_4 ?_
  obtain ⟨v1, e2, h⟩ := bV_some h
  rw [← e2]
  refine r_istore_n (lv' := [(2, .int v1), (0, .ref (x_ad x 0 6 0)), (1, .ref (x_ad x 0 3 a1))]) hx dX7_numbered_7 rfl (by decide) rfl ?_
  refine r_aload_n (k0 := 1) hx dX7_numbered_8 rfl rfl ?_
  refine g_301 hx (k_0_6 hKS) wf_X7_21 dX7_numbered_9 ?_
  refine g_200 hx (k_0_4 hKS) wf_X7_203 dX7_numbered_12 ?_
  obtain ⟨v3, e4, h⟩ := bV_some h
  rw [← e4]
  refine r_istore_n (lv' := [(3, .int v3), (2, .int v1), (0, .ref (x_ad x 0 6 0)), (1, .ref (x_ad x 0 3 a1))]) hx dX7_numbered_15 rfl (by decide) rfl ?_
  refine r_aload_n (k0 := 2) hx dX7_numbered_16 rfl rfl ?_
  refine g_301 hx (k_0_6 hKS) wf_X7_21 dX7_numbered_17 ?_
  refine r_iconst (v := 0) hx dX7_numbered_20 (by decide) ?_
  obtain ⟨S5, e6, h⟩ := pS_some h
  refine p_211 hx (k_0_4 hKS) wf_X7_233 dX7_numbered_21 e6 ?_
  refine r_aload_n (k0 := 2) hx dX7_numbered_24 rfl rfl ?_
  refine g_301 hx (k_0_6 hKS) wf_X7_21 dX7_numbered_25 ?_
  refine r_aload_n (k0 := 3) hx dX7_numbered_28 rfl rfl ?_
  refine r_iconst (v := 0) hx dX7_numbered_29 (by decide) ?_
  obtain ⟨S7, v9, c8, h⟩ := bI_some h
  refine r_Vi (ci := 4) (As := [.ref (x_ad x 0 3 a1), .int 0]) (rest := []) hx (D_X5_keepNext (c := x_y x) hKS h_a1 c8) (k_0_4 hKS) rfl wl_X7_236 wi_X5_keepNext we_X5_keepNext wn_X5 wc_X5_keepNext dy_X5_keepNext rfl (by rw [hR]; decide +kernel) rfl (Nat.le_of_ble_eq_true rfl) dX7_numbered_30 ?_
  refine r_istore (lv' := [(4, .int v9), (3, .int v3), (2, .int v1), (0, .ref (x_ad x 0 6 0)), (1, .ref (x_ad x 0 3 a1))]) hx dX7_numbered_33 (by decide) rfl ?_
  refine r_iload (k0 := 0) hx dX7_numbered_35 rfl ?_
  refine r_iconst (v := -1) hx dX7_numbered_37 (by decide) ?_
  refine r_icmp_ne (tgt := 67) hx dX7_numbered_38 (by decide) (fun c10 => ?_) (fun c10 => ?_)
  · have h := ite_f h c10
    refine r_iload (k0 := 0) hx dX7_numbered_67 rfl ?_
    exact r_xiret hx hE (by decide) h dX7_numbered_69
  · have h := ite_t h c10
    refine r_aload_n (k0 := 3) hx dX7_numbered_41 rfl rfl ?_
    refine g_300 hx (k_0_6 hKS) wf_X7_10 dX7_numbered_42 ?_
    refine r_iload_n (k0 := 2) hx dX7_numbered_45 rfl rfl ?_
    obtain ⟨S11, e12, h⟩ := pS_some h
    refine p_0 hx (k_0_0 hKS) wf_X7_202 dX7_numbered_46 e12 ?_
    refine r_aload_n (k0 := 3) hx dX7_numbered_49 rfl rfl ?_
    refine g_301 hx (k_0_6 hKS) wf_X7_21 dX7_numbered_50 ?_
    refine r_iload_n (k0 := 1) hx dX7_numbered_53 rfl rfl ?_
    obtain ⟨S13, e14, h⟩ := pS_some h
    refine p_200 hx (k_0_4 hKS) wf_X7_203 dX7_numbered_54 e14 ?_
    exact r_throw (code := 3) (ik := 150) (is := 240) (ic := 154) (text := "no room for the answer") (names := nms) hx hE.1 (by decide) (by decide) h (by decide +kernel) (by decide +kernel) (by rw [exn_3]; exact wa_X7_150) (by rw [exn_3]; exact wn_UnsupportedOperationException) (by decide +kernel) (atS_ok hx aw_3_154 ab_3_154 (by decide +kernel)) ag_3_154_150 dX7_numbered_57 dX7_numbered_60 dX7_numbered_61 dX7_numbered_63 dX7_numbered_66 (by rw [hR]; exact ⟨by decide, Nat.le_of_ble_eq_true rfl, rfl, rfl⟩)
set_option maxHeartbeats 4000000 in
theorem C_X7_numbered {n : Nat} {c : YC} (hKS : ∀ k ∈ KK, k ∈ c.2.2.2.2) (hst : c.1.stackTraces = false) {S : St} {a1 : Nat} {out : XO3} (h_a1 : a1 < 107) (h : f_X7_numbered n S a1 = some out) : MXI c yX7_numbered cX7_numbered 5 (some .int) rm_X7_numbered 1 6 S [.ref (c.2.2.1 0 6 0), .ref (c.2.2.1 0 3 a1)] out := mk_XI (own := RX7) (by decide +kernel) rfl (Nat.le_of_ble_eq_true rfl) hst (fun x hx hR hy hE => by subst hy; exact t_X7_numbered_0 hx hR hKS hE h_a1 h)
def j_X7_level_10 (n : Nat) (S : St) : Option (XO3) :=
  some (S, 1, 0)
def j_X7_level_34 (n : Nat) (S : St) : Option (XO3) :=
  some (S, 1, 0)
def f_X7_level (n : Nat) (S : St) (a1 : Int32) (a2 : Int32) (a3 : Int32) : Option (XO3) :=
  if a1 < 1 then
    j_X7_level_10 n S
  else
    if a1 ≤ 4 then
      if a1 = 4 then
        if a2 < 0 then
          j_X7_level_34 n S
        else
          if a2 < 3 then
            bL (f_X0_ofParameter n S a2) fun S42 v44 =>
            bX (f_X7_askedLevel n S42 v44) fun S45 v47 =>
            some (S45, 0, v47)
          else
            j_X7_level_34 n S
      else
        bX (f_X7_needLevel n S a2) fun S4 v6 =>
        if a1 = 1 then
          bL (f_X1_codeOf n S4 a2) fun S29 v31 =>
          bL (f_X0_ofUp n S29 v31) fun S32 v34 =>
          bX (f_X7_askedLevel n S32 v34) fun S35 v37 =>
          some (S35, 0, v37)
        else
          bX (f_X7_needLevel n S4 a3) fun S10 v12 =>
          bL (f_X1_codeOf n S10 a2) fun S15 v17 =>
          bL (f_X1_codeOf n S15 a3) fun S18 v20 =>
          bL (f_X0_ofTwo n S18 a1 v17 v20) fun S21 v23 =>
          bX (f_X7_askedLevel n S21 v23) fun S24 v26 =>
          some (S24, 0, v26)
    else
      j_X7_level_10 n S
set_option maxRecDepth 100000 in
set_option maxHeartbeats 4000000 in
theorem t_X7_level_10 {n : Nat} {x : XC} (hx : CX x cX7_level 4 RX7) (hR : x_R x = rm_X7_level) (hKS : ∀ k ∈ KK, k ∈ x_K x) {out : XO3} (hE : XEI x .int 3 18 out) {S : St} (h : j_X7_level_10 n S  = some out) : WX x 4 0 0 S 10 [] [] := by
  unfold j_X7_level_10 at h
  exact r_throw (code := 1) (ik := 60) (is := 62) (ic := 64) (text := "no such kind of level") (names := nms) hx hE.1 (by decide) (by decide) h (by decide +kernel) (by decide +kernel) (by rw [exn_1]; exact wa_X7_60) (by rw [exn_1]; exact wn_IllegalArgumentException) (by decide +kernel) (atS_ok hx aw_1_64 ab_1_64 (by decide +kernel)) ag_1_64_60 dX7_level_10 dX7_level_13 dX7_level_14 dX7_level_16 dX7_level_19 (by rw [hR]; exact ⟨by decide, Nat.le_of_ble_eq_true rfl, rfl, rfl⟩)
set_option maxRecDepth 100000 in
set_option maxHeartbeats 4000000 in
theorem t_X7_level_34 {n : Nat} {x : XC} (hx : CX x cX7_level 4 RX7) (hR : x_R x = rm_X7_level) (hKS : ∀ k ∈ KK, k ∈ x_K x) {out : XO3} (hE : XEI x .int 3 18 out) {S : St} (h : j_X7_level_34 n S  = some out) : WX x 4 0 0 S 34 [] [] := by
  unfold j_X7_level_34 at h
  exact r_throw (code := 1) (ik := 60) (is := 67) (ic := 64) (text := "no such parameter") (names := nms) hx hE.1 (by decide) (by decide) h (by decide +kernel) (by decide +kernel) (by rw [exn_1]; exact wa_X7_60) (by rw [exn_1]; exact wn_IllegalArgumentException) (by decide +kernel) (atS_ok hx aw_1_64 ab_1_64 (by decide +kernel)) ag_1_64_60 dX7_level_34 dX7_level_37 dX7_level_38 dX7_level_40 dX7_level_43 (by rw [hR]; exact ⟨by decide, Nat.le_of_ble_eq_true rfl, rfl, rfl⟩)
set_option maxRecDepth 100000 in
set_option maxHeartbeats 4000000 in
theorem t_X7_level_0 {n : Nat} {x : XC} (hx : CX x cX7_level 4 RX7) (hR : x_R x = rm_X7_level) (hKS : ∀ k ∈ KK, k ∈ x_K x) {out : XO3} (hE : XEI x .int 3 18 out) {S : St} {a1 : Int32} {a2 : Int32} {a3 : Int32} (h : f_X7_level n S a1 a2 a3 = some out) : WX x 4 0 0 S 0 [(0, .ref (x_ad x 0 6 0)), (1, .int a1), (2, .int a2), (3, .int a3)] [] := by
  unfold f_X7_level at h
  refine r_iload_n (k0 := 1) hx dX7_level_0 rfl rfl ?_
  refine r_iconst (v := 1) hx dX7_level_1 (by decide) ?_
  refine r_icmp_lt (tgt := 10) hx dX7_level_2 (by decide) (fun c1 => ?_) (fun c1 => ?_)
  · have h := ite_t h c1
    refine WX.sub (lv' := []) ?_ [] rfl
    exact t_X7_level_10 hx hR hKS hE h
  · have h := ite_f h c1
    refine r_iload_n (k0 := 1) hx dX7_level_5 rfl rfl ?_
    refine r_iconst (v := 4) hx dX7_level_6 (by decide) ?_
    refine r_icmp_le (tgt := 20) hx dX7_level_7 (by decide) (fun c2 => ?_) (fun c2 => ?_)
    · have h := ite_t h c2
      refine r_iload_n (k0 := 1) hx dX7_level_20 rfl rfl ?_
      refine r_iconst (v := 4) hx dX7_level_21 (by decide) ?_
      refine r_icmp_ne (tgt := 53) hx dX7_level_22 (by decide) (fun c3 => ?_) (fun c3 => ?_)
      · have h := ite_f h c3
        refine r_aload_n (k0 := 0) hx dX7_level_53 rfl rfl ?_
        refine r_iload_n (k0 := 2) hx dX7_level_54 rfl rfl ?_
        obtain ⟨S4, t7, v6, c5, x8, h⟩ := bX_some h
        refine r_XV (ci := 6) (As := [.int a2]) (rest := []) hx hE.1 (C_X7_needLevel (c := x_y x) hKS hE.1.2.2.2 c5) (k_0_6 hKS) rfl wl_X7_79 wi_X7_needLevel we_X7_needLevel wn_X7 wc_X7_needLevel dy_X7_needLevel rfl (by rw [hR]; decide +kernel) (by decide) rfl (Nat.le_of_ble_eq_true rfl) dX7_level_55 x8 (fun z9 => ?_)
        have h := h z9
        refine r_iload_n (k0 := 1) hx dX7_level_58 rfl rfl ?_
        refine r_iconst (v := 1) hx dX7_level_59 (by decide) ?_
        refine r_icmp_ne (tgt := 79) hx dX7_level_60 (by decide) (fun c9 => ?_) (fun c9 => ?_)
        · have h := ite_f h c9
          refine r_aload_n (k0 := 0) hx dX7_level_79 rfl rfl ?_
          refine r_iload_n (k0 := 3) hx dX7_level_80 rfl rfl ?_
          obtain ⟨S10, t13, v12, c11, x14, h⟩ := bX_some h
          refine r_XV (ci := 6) (As := [.int a3]) (rest := []) hx hE.1 (C_X7_needLevel (c := x_y x) hKS hE.1.2.2.2 c11) (k_0_6 hKS) rfl wl_X7_79 wi_X7_needLevel we_X7_needLevel wn_X7 wc_X7_needLevel dy_X7_needLevel rfl (by rw [hR]; decide +kernel) (by decide) rfl (Nat.le_of_ble_eq_true rfl) dX7_level_81 x14 (fun z9 => ?_)
          have h := h z9
          refine r_aload_n (k0 := 0) hx dX7_level_84 rfl rfl ?_
          refine r_iload_n (k0 := 1) hx dX7_level_85 rfl rfl ?_
          refine r_aload_n (k0 := 0) hx dX7_level_86 rfl rfl ?_
          refine g_300 hx (k_0_6 hKS) wf_X7_10 dX7_level_87 ?_
          refine r_iload_n (k0 := 2) hx dX7_level_90 rfl rfl ?_
          obtain ⟨S15, v17, c16, h⟩ := bL_some h
          refine r_Vl (ci := 0) (As := [.int a2]) (rest := [.int a1, .ref (x_ad x 0 6 0)]) hx (C_X1_codeOf (c := x_y x) hKS c16) (k_0_0 hKS) rfl wl_X7_83 wi_X1_codeOf we_X1_codeOf wn_X1 wc_X1_codeOf dy_X1_codeOf rfl (by rw [hR]; decide +kernel) rfl (Nat.le_of_ble_eq_true rfl) dX7_level_91 ?_
          refine r_aload_n (k0 := 0) hx dX7_level_94 rfl rfl ?_
          refine g_300 hx (k_0_6 hKS) wf_X7_10 dX7_level_95 ?_
          refine r_iload_n (k0 := 3) hx dX7_level_98 rfl rfl ?_
          obtain ⟨S18, v20, c19, h⟩ := bL_some h
          refine r_Vl (ci := 0) (As := [.int a3]) (rest := [.long v17, .int a1, .ref (x_ad x 0 6 0)]) hx (C_X1_codeOf (c := x_y x) hKS c19) (k_0_0 hKS) rfl wl_X7_83 wi_X1_codeOf we_X1_codeOf wn_X1 wc_X1_codeOf dy_X1_codeOf rfl (by rw [hR]; decide +kernel) rfl (Nat.le_of_ble_eq_true rfl) dX7_level_99 ?_
          obtain ⟨S21, v23, c22, h⟩ := bL_some h
          refine r_Sl (As := [.int a1, .long v17, .long v20]) (rest := [.ref (x_ad x 0 6 0)]) hx (C_X0_ofTwo (c := x_y x) hKS c22) wl_X7_90 wt_X0_ofTwo wn_X0 wc_X0_ofTwo dy_X0_ofTwo rfl (by rw [hR]; decide +kernel) rfl (Nat.le_of_ble_eq_true rfl) dX7_level_102 ?_
          obtain ⟨S24, t27, v26, c25, x28, h⟩ := bX_some h
          refine r_XI (ci := 6) (As := [.long v23]) (rest := []) hx hE.1 (C_X7_askedLevel (c := x_y x) hKS hE.1.2.2.2 c25) (k_0_6 hKS) rfl wl_X7_75 wi_X7_askedLevel we_X7_askedLevel wn_X7 wc_X7_askedLevel dy_X7_askedLevel rfl (by rw [hR]; decide +kernel) (by decide) rfl (Nat.le_of_ble_eq_true rfl) dX7_level_105 x28 (fun z9 => ?_)
          have h := h z9
          exact r_xiret hx hE (by decide) h dX7_level_108
        · have h := ite_t h c9
          refine r_aload_n (k0 := 0) hx dX7_level_63 rfl rfl ?_
          refine r_aload_n (k0 := 0) hx dX7_level_64 rfl rfl ?_
          refine g_300 hx (k_0_6 hKS) wf_X7_10 dX7_level_65 ?_
          refine r_iload_n (k0 := 2) hx dX7_level_68 rfl rfl ?_
          obtain ⟨S29, v31, c30, h⟩ := bL_some h
          refine r_Vl (ci := 0) (As := [.int a2]) (rest := [.ref (x_ad x 0 6 0)]) hx (C_X1_codeOf (c := x_y x) hKS c30) (k_0_0 hKS) rfl wl_X7_83 wi_X1_codeOf we_X1_codeOf wn_X1 wc_X1_codeOf dy_X1_codeOf rfl (by rw [hR]; decide +kernel) rfl (Nat.le_of_ble_eq_true rfl) dX7_level_69 ?_
          obtain ⟨S32, v34, c33, h⟩ := bL_some h
          refine r_Sl (As := [.long v31]) (rest := [.ref (x_ad x 0 6 0)]) hx (C_X0_ofUp (c := x_y x) hKS c33) wl_X7_86 wt_X0_ofUp wn_X0 wc_X0_ofUp dy_X0_ofUp rfl (by rw [hR]; decide +kernel) rfl (Nat.le_of_ble_eq_true rfl) dX7_level_72 ?_
          obtain ⟨S35, t38, v37, c36, x39, h⟩ := bX_some h
          refine r_XI (ci := 6) (As := [.long v34]) (rest := []) hx hE.1 (C_X7_askedLevel (c := x_y x) hKS hE.1.2.2.2 c36) (k_0_6 hKS) rfl wl_X7_75 wi_X7_askedLevel we_X7_askedLevel wn_X7 wc_X7_askedLevel dy_X7_askedLevel rfl (by rw [hR]; decide +kernel) (by decide) rfl (Nat.le_of_ble_eq_true rfl) dX7_level_75 x39 (fun z9 => ?_)
          have h := h z9
          exact r_xiret hx hE (by decide) h dX7_level_78
      · have h := ite_t h c3
        refine r_iload_n (k0 := 2) hx dX7_level_25 rfl rfl ?_
        refine r_if_lt (tgt := 34) hx dX7_level_26 (by decide) (fun c40 => ?_) (fun c40 => ?_)
        · have h := ite_t h c40
          refine WX.sub (lv' := []) ?_ [] rfl
          exact t_X7_level_34 hx hR hKS hE h
        · have h := ite_f h c40
          refine r_iload_n (k0 := 2) hx dX7_level_29 rfl rfl ?_
          refine r_iconst (v := 3) hx dX7_level_30 (by decide) ?_
          refine r_icmp_lt (tgt := 44) hx dX7_level_31 (by decide) (fun c41 => ?_) (fun c41 => ?_)
          · have h := ite_t h c41
            refine r_aload_n (k0 := 0) hx dX7_level_44 rfl rfl ?_
            refine r_iload_n (k0 := 2) hx dX7_level_45 rfl rfl ?_
            obtain ⟨S42, v44, c43, h⟩ := bL_some h
            refine r_Sl (As := [.int a2]) (rest := [.ref (x_ad x 0 6 0)]) hx (C_X0_ofParameter (c := x_y x) hKS c43) wl_X7_69 wt_X0_ofParameter wn_X0 wc_X0_ofParameter dy_X0_ofParameter rfl (by rw [hR]; decide +kernel) rfl (Nat.le_of_ble_eq_true rfl) dX7_level_46 ?_
            obtain ⟨S45, t48, v47, c46, x49, h⟩ := bX_some h
            refine r_XI (ci := 6) (As := [.long v44]) (rest := []) hx hE.1 (C_X7_askedLevel (c := x_y x) hKS hE.1.2.2.2 c46) (k_0_6 hKS) rfl wl_X7_75 wi_X7_askedLevel we_X7_askedLevel wn_X7 wc_X7_askedLevel dy_X7_askedLevel rfl (by rw [hR]; decide +kernel) (by decide) rfl (Nat.le_of_ble_eq_true rfl) dX7_level_49 x49 (fun z9 => ?_)
            have h := h z9
            exact r_xiret hx hE (by decide) h dX7_level_52
          · have h := ite_f h c41
            refine WX.sub (lv' := []) ?_ [] rfl
            exact t_X7_level_34 hx hR hKS hE h
    · have h := ite_f h c2
      refine WX.sub (lv' := []) ?_ [] rfl
      exact t_X7_level_10 hx hR hKS hE h
set_option maxHeartbeats 4000000 in
theorem C_X7_level {n : Nat} {c : YC} (hKS : ∀ k ∈ KK, k ∈ c.2.2.2.2) (hst : c.1.stackTraces = false) {S : St} {a1 : Int32} {a2 : Int32} {a3 : Int32} {out : XO3} (h : f_X7_level n S a1 a2 a3 = some out) : MXI c yX7_level cX7_level 4 (some .int) rm_X7_level 3 18 S [.ref (c.2.2.1 0 6 0), .int a1, .int a2, .int a3] out := mk_XI (own := RX7) (by decide +kernel) rfl (Nat.le_of_ble_eq_true rfl) hst (fun x hx hR hy hE => by subst hy; exact t_X7_level_0 hx hR hKS hE h)
def f_X7_atMost (n : Nat) (S : St) (a1 : Int32) (a2 : Int32) : Option (XO3) :=
  bX (f_X7_needLevel n S a1) fun S1 v3 =>
  bX (f_X7_needLevel n S1 a2) fun S6 v8 =>
  bL (f_X1_codeOf n S6 a1) fun S11 v13 =>
  bL (f_X1_codeOf n S11 a2) fun S14 v16 =>
  bI (f_X1_isAtMost n S14 v13 v16) fun S17 v19 =>
  zX S17 v19
set_option maxRecDepth 100000 in
set_option maxHeartbeats 4000000 in
theorem t_X7_atMost_0 {n : Nat} {x : XC} (hx : CX x cX7_atMost 3 RX7) (hR : x_R x = rm_X7_atMost) (hKS : ∀ k ∈ KK, k ∈ x_K x) {out : XO3} (hE : XEI x .boolean 2 12 out) {S : St} {a1 : Int32} {a2 : Int32} (h : f_X7_atMost n S a1 a2 = some out) : WX x 3 0 0 S 0 [(0, .ref (x_ad x 0 6 0)), (1, .int a1), (2, .int a2)] [] := by
  unfold f_X7_atMost at h
  refine r_aload_n (k0 := 0) hx dX7_atMost_0 rfl rfl ?_
  refine r_iload_n (k0 := 1) hx dX7_atMost_1 rfl rfl ?_
  obtain ⟨S1, t4, v3, c2, x5, h⟩ := bX_some h
  refine r_XV (ci := 6) (As := [.int a1]) (rest := []) hx hE.1 (C_X7_needLevel (c := x_y x) hKS hE.1.2.2.2 c2) (k_0_6 hKS) rfl wl_X7_79 wi_X7_needLevel we_X7_needLevel wn_X7 wc_X7_needLevel dy_X7_needLevel rfl (by rw [hR]; decide +kernel) (by decide) rfl (Nat.le_of_ble_eq_true rfl) dX7_atMost_2 x5 (fun z9 => ?_)
  have h := h z9
  refine r_aload_n (k0 := 0) hx dX7_atMost_5 rfl rfl ?_
  refine r_iload_n (k0 := 2) hx dX7_atMost_6 rfl rfl ?_
  obtain ⟨S6, t9, v8, c7, x10, h⟩ := bX_some h
  refine r_XV (ci := 6) (As := [.int a2]) (rest := []) hx hE.1 (C_X7_needLevel (c := x_y x) hKS hE.1.2.2.2 c7) (k_0_6 hKS) rfl wl_X7_79 wi_X7_needLevel we_X7_needLevel wn_X7 wc_X7_needLevel dy_X7_needLevel rfl (by rw [hR]; decide +kernel) (by decide) rfl (Nat.le_of_ble_eq_true rfl) dX7_atMost_7 x10 (fun z9 => ?_)
  have h := h z9
  refine r_aload_n (k0 := 0) hx dX7_atMost_10 rfl rfl ?_
  refine g_300 hx (k_0_6 hKS) wf_X7_10 dX7_atMost_11 ?_
  refine r_aload_n (k0 := 0) hx dX7_atMost_14 rfl rfl ?_
  refine g_300 hx (k_0_6 hKS) wf_X7_10 dX7_atMost_15 ?_
  refine r_iload_n (k0 := 1) hx dX7_atMost_18 rfl rfl ?_
  obtain ⟨S11, v13, c12, h⟩ := bL_some h
  refine r_Vl (ci := 0) (As := [.int a1]) (rest := [.ref (x_ad x 0 0 0)]) hx (C_X1_codeOf (c := x_y x) hKS c12) (k_0_0 hKS) rfl wl_X7_83 wi_X1_codeOf we_X1_codeOf wn_X1 wc_X1_codeOf dy_X1_codeOf rfl (by rw [hR]; decide +kernel) rfl (Nat.le_of_ble_eq_true rfl) dX7_atMost_19 ?_
  refine r_aload_n (k0 := 0) hx dX7_atMost_22 rfl rfl ?_
  refine g_300 hx (k_0_6 hKS) wf_X7_10 dX7_atMost_23 ?_
  refine r_iload_n (k0 := 2) hx dX7_atMost_26 rfl rfl ?_
  obtain ⟨S14, v16, c15, h⟩ := bL_some h
  refine r_Vl (ci := 0) (As := [.int a2]) (rest := [.long v13, .ref (x_ad x 0 0 0)]) hx (C_X1_codeOf (c := x_y x) hKS c15) (k_0_0 hKS) rfl wl_X7_83 wi_X1_codeOf we_X1_codeOf wn_X1 wc_X1_codeOf dy_X1_codeOf rfl (by rw [hR]; decide +kernel) rfl (Nat.le_of_ble_eq_true rfl) dX7_atMost_27 ?_
  obtain ⟨S17, v19, c18, h⟩ := bI_some h
  refine r_Vi (ci := 0) (As := [.long v13, .long v16]) (rest := []) hx (C_X1_isAtMost (c := x_y x) hKS c18) (k_0_0 hKS) rfl wl_X7_94 wi_X1_isAtMost we_X1_isAtMost wn_X1 wc_X1_isAtMost dy_X1_isAtMost rfl (by rw [hR]; decide +kernel) rfl (Nat.le_of_ble_eq_true rfl) dX7_atMost_30 ?_
  obtain ⟨hz, h⟩ := zX_some h
  exact r_xzret hx hE (by decide) hz h dX7_atMost_33
set_option maxHeartbeats 4000000 in
theorem C_X7_atMost {n : Nat} {c : YC} (hKS : ∀ k ∈ KK, k ∈ c.2.2.2.2) (hst : c.1.stackTraces = false) {S : St} {a1 : Int32} {a2 : Int32} {out : XO3} (h : f_X7_atMost n S a1 a2 = some out) : MXI c yX7_atMost cX7_atMost 3 (some .boolean) rm_X7_atMost 2 12 S [.ref (c.2.2.1 0 6 0), .int a1, .int a2] out := mk_XI (own := RX7) (by decide +kernel) rfl (Nat.le_of_ble_eq_true rfl) hst (fun x hx hR hy hE => by subst hy; exact t_X7_atMost_0 hx hR hKS hE h)
def f_X7_value (n : Nat) (S : St) (a1 : Int32) (a2 : Int32) (a3 : Int32) (a4 : Int32) : Option (XO3) :=
  bX (f_X7_needLevel n S a1) fun S1 v3 =>
  bX (f_X7_needParameterValue n S1 a2) fun S6 v8 =>
  bX (f_X7_needParameterValue n S6 a3) fun S11 v13 =>
  bX (f_X7_needParameterValue n S11 a4) fun S16 v18 =>
  bL (f_X1_codeOf n S16 a1) fun S21 v23 =>
  bI (f_X1_worth n S21 v23 a2 a3 a4) fun S24 v26 =>
  some (S24, 0, v26)
set_option maxRecDepth 100000 in
set_option maxHeartbeats 4000000 in
theorem t_X7_value_0 {n : Nat} {x : XC} (hx : CX x cX7_value 5 RX7) (hR : x_R x = rm_X7_value) (hKS : ∀ k ∈ KK, k ∈ x_K x) {out : XO3} (hE : XEI x .int 4 24 out) {S : St} {a1 : Int32} {a2 : Int32} {a3 : Int32} {a4 : Int32} (h : f_X7_value n S a1 a2 a3 a4 = some out) : WX x 5 0 0 S 0 [(0, .ref (x_ad x 0 6 0)), (1, .int a1), (2, .int a2), (3, .int a3), (4, .int a4)] [] := by
  unfold f_X7_value at h
  refine r_aload_n (k0 := 0) hx dX7_value_0 rfl rfl ?_
  refine r_iload_n (k0 := 1) hx dX7_value_1 rfl rfl ?_
  obtain ⟨S1, t4, v3, c2, x5, h⟩ := bX_some h
  refine r_XV (ci := 6) (As := [.int a1]) (rest := []) hx hE.1 (C_X7_needLevel (c := x_y x) hKS hE.1.2.2.2 c2) (k_0_6 hKS) rfl wl_X7_79 wi_X7_needLevel we_X7_needLevel wn_X7 wc_X7_needLevel dy_X7_needLevel rfl (by rw [hR]; decide +kernel) (by decide) rfl (Nat.le_of_ble_eq_true rfl) dX7_value_2 x5 (fun z9 => ?_)
  have h := h z9
  refine r_aload_n (k0 := 0) hx dX7_value_5 rfl rfl ?_
  refine r_iload_n (k0 := 2) hx dX7_value_6 rfl rfl ?_
  obtain ⟨S6, t9, v8, c7, x10, h⟩ := bX_some h
  refine r_XV (ci := 6) (As := [.int a2]) (rest := []) hx hE.1 (C_X7_needParameterValue (c := x_y x) hKS hE.1.2.2.2 c7) (k_0_6 hKS) rfl wl_X7_98 wi_X7_needParameterValue we_X7_needParameterValue wn_X7 wc_X7_needParameterValue dy_X7_needParameterValue rfl (by rw [hR]; decide +kernel) (by decide) rfl (Nat.le_of_ble_eq_true rfl) dX7_value_7 x10 (fun z9 => ?_)
  have h := h z9
  refine r_aload_n (k0 := 0) hx dX7_value_10 rfl rfl ?_
  refine r_iload_n (k0 := 3) hx dX7_value_11 rfl rfl ?_
  obtain ⟨S11, t14, v13, c12, x15, h⟩ := bX_some h
  refine r_XV (ci := 6) (As := [.int a3]) (rest := []) hx hE.1 (C_X7_needParameterValue (c := x_y x) hKS hE.1.2.2.2 c12) (k_0_6 hKS) rfl wl_X7_98 wi_X7_needParameterValue we_X7_needParameterValue wn_X7 wc_X7_needParameterValue dy_X7_needParameterValue rfl (by rw [hR]; decide +kernel) (by decide) rfl (Nat.le_of_ble_eq_true rfl) dX7_value_12 x15 (fun z9 => ?_)
  have h := h z9
  refine r_aload_n (k0 := 0) hx dX7_value_15 rfl rfl ?_
  refine r_iload (k0 := 4) hx dX7_value_16 rfl ?_
  obtain ⟨S16, t19, v18, c17, x20, h⟩ := bX_some h
  refine r_XV (ci := 6) (As := [.int a4]) (rest := []) hx hE.1 (C_X7_needParameterValue (c := x_y x) hKS hE.1.2.2.2 c17) (k_0_6 hKS) rfl wl_X7_98 wi_X7_needParameterValue we_X7_needParameterValue wn_X7 wc_X7_needParameterValue dy_X7_needParameterValue rfl (by rw [hR]; decide +kernel) (by decide) rfl (Nat.le_of_ble_eq_true rfl) dX7_value_18 x20 (fun z9 => ?_)
  have h := h z9
  refine r_aload_n (k0 := 0) hx dX7_value_21 rfl rfl ?_
  refine g_300 hx (k_0_6 hKS) wf_X7_10 dX7_value_22 ?_
  refine r_aload_n (k0 := 0) hx dX7_value_25 rfl rfl ?_
  refine g_300 hx (k_0_6 hKS) wf_X7_10 dX7_value_26 ?_
  refine r_iload_n (k0 := 1) hx dX7_value_29 rfl rfl ?_
  obtain ⟨S21, v23, c22, h⟩ := bL_some h
  refine r_Vl (ci := 0) (As := [.int a1]) (rest := [.ref (x_ad x 0 0 0)]) hx (C_X1_codeOf (c := x_y x) hKS c22) (k_0_0 hKS) rfl wl_X7_83 wi_X1_codeOf we_X1_codeOf wn_X1 wc_X1_codeOf dy_X1_codeOf rfl (by rw [hR]; decide +kernel) rfl (Nat.le_of_ble_eq_true rfl) dX7_value_30 ?_
  refine r_iload_n (k0 := 2) hx dX7_value_33 rfl rfl ?_
  refine r_iload_n (k0 := 3) hx dX7_value_34 rfl rfl ?_
  refine r_iload (k0 := 4) hx dX7_value_35 rfl ?_
  obtain ⟨S24, v26, c25, h⟩ := bI_some h
  refine r_Vi (ci := 0) (As := [.long v23, .int a2, .int a3, .int a4]) (rest := []) hx (C_X1_worth (c := x_y x) hKS c25) (k_0_0 hKS) rfl wl_X7_101 wi_X1_worth we_X1_worth wn_X1 wc_X1_worth dy_X1_worth rfl (by rw [hR]; decide +kernel) rfl (Nat.le_of_ble_eq_true rfl) dX7_value_37 ?_
  exact r_xiret hx hE (by decide) h dX7_value_40
set_option maxHeartbeats 4000000 in
theorem C_X7_value {n : Nat} {c : YC} (hKS : ∀ k ∈ KK, k ∈ c.2.2.2.2) (hst : c.1.stackTraces = false) {S : St} {a1 : Int32} {a2 : Int32} {a3 : Int32} {a4 : Int32} {out : XO3} (h : f_X7_value n S a1 a2 a3 a4 = some out) : MXI c yX7_value cX7_value 5 (some .int) rm_X7_value 4 24 S [.ref (c.2.2.1 0 6 0), .int a1, .int a2, .int a3, .int a4] out := mk_XI (own := RX7) (by decide +kernel) rfl (Nat.le_of_ble_eq_true rfl) hst (fun x hx hR hy hE => by subst hy; exact t_X7_value_0 hx hR hKS hE h)
def f_X7_sort (n : Nat) (S : St) (a1 : Int32) : Option (XO3) :=
  bX (f_X7_needLevel n S a1) fun S1 v3 =>
  bX (f_X7_askedTerm n S1 0 a1 (-1) (-1)) fun S6 v8 =>
  some (S6, 0, v8)
set_option maxRecDepth 100000 in
set_option maxHeartbeats 4000000 in
theorem t_X7_sort_0 {n : Nat} {x : XC} (hx : CX x cX7_sort 2 RX7) (hR : x_R x = rm_X7_sort) (hKS : ∀ k ∈ KK, k ∈ x_K x) {out : XO3} (hE : XEI x .int 2 12 out) {S : St} {a1 : Int32} (h : f_X7_sort n S a1 = some out) : WX x 2 0 0 S 0 [(0, .ref (x_ad x 0 6 0)), (1, .int a1)] [] := by
  unfold f_X7_sort at h
  refine r_aload_n (k0 := 0) hx dX7_sort_0 rfl rfl ?_
  refine r_iload_n (k0 := 1) hx dX7_sort_1 rfl rfl ?_
  obtain ⟨S1, t4, v3, c2, x5, h⟩ := bX_some h
  refine r_XV (ci := 6) (As := [.int a1]) (rest := []) hx hE.1 (C_X7_needLevel (c := x_y x) hKS hE.1.2.2.2 c2) (k_0_6 hKS) rfl wl_X7_79 wi_X7_needLevel we_X7_needLevel wn_X7 wc_X7_needLevel dy_X7_needLevel rfl (by rw [hR]; decide +kernel) (by decide) rfl (Nat.le_of_ble_eq_true rfl) dX7_sort_2 x5 (fun z9 => ?_)
  have h := h z9
  refine r_aload_n (k0 := 0) hx dX7_sort_5 rfl rfl ?_
  refine r_iconst (v := 0) hx dX7_sort_6 (by decide) ?_
  refine r_iload_n (k0 := 1) hx dX7_sort_7 rfl rfl ?_
  refine r_iconst (v := -1) hx dX7_sort_8 (by decide) ?_
  refine r_iconst (v := -1) hx dX7_sort_9 (by decide) ?_
  obtain ⟨S6, t9, v8, c7, x10, h⟩ := bX_some h
  refine r_XI (ci := 6) (As := [.int 0, .int a1, .int (-1), .int (-1)]) (rest := []) hx hE.1 (C_X7_askedTerm (c := x_y x) hKS hE.1.2.2.2 c7) (k_0_6 hKS) rfl wl_X7_105 wi_X7_askedTerm we_X7_askedTerm wn_X7 wc_X7_askedTerm dy_X7_askedTerm rfl (by rw [hR]; decide +kernel) (by decide) rfl (Nat.le_of_ble_eq_true rfl) dX7_sort_10 x10 (fun z9 => ?_)
  have h := h z9
  exact r_xiret hx hE (by decide) h dX7_sort_13
set_option maxHeartbeats 4000000 in
theorem C_X7_sort {n : Nat} {c : YC} (hKS : ∀ k ∈ KK, k ∈ c.2.2.2.2) (hst : c.1.stackTraces = false) {S : St} {a1 : Int32} {out : XO3} (h : f_X7_sort n S a1 = some out) : MXI c yX7_sort cX7_sort 2 (some .int) rm_X7_sort 2 12 S [.ref (c.2.2.1 0 6 0), .int a1] out := mk_XI (own := RX7) (by decide +kernel) rfl (Nat.le_of_ble_eq_true rfl) hst (fun x hx hR hy hE => by subst hy; exact t_X7_sort_0 hx hR hKS hE h)
def j_X7_variable_10 (n : Nat) (S : St) : Option (XO3) :=
  some (S, 1, 0)
def f_X7_variable (n : Nat) (S : St) (a1 : Int32) : Option (XO3) :=
  if a1 < 0 then
    j_X7_variable_10 n S
  else
    if a1 ≤ 59 then
      bX (f_X7_askedTerm n S 1 a1 (-1) (-1)) fun S3 v5 =>
      some (S3, 0, v5)
    else
      j_X7_variable_10 n S
set_option maxRecDepth 100000 in
set_option maxHeartbeats 4000000 in
theorem t_X7_variable_10 {n : Nat} {x : XC} (hx : CX x cX7_variable 2 RX7) (hR : x_R x = rm_X7_variable) (hKS : ∀ k ∈ KK, k ∈ x_K x) {out : XO3} (hE : XEI x .int 1 6 out) {S : St} (h : j_X7_variable_10 n S  = some out) : WX x 2 0 0 S 10 [] [] := by
  unfold j_X7_variable_10 at h
  exact r_throw (code := 1) (ik := 60) (is := 109) (ic := 64) (text := "no such variable") (names := nms) hx hE.1 (by decide) (by decide) h (by decide +kernel) (by decide +kernel) (by rw [exn_1]; exact wa_X7_60) (by rw [exn_1]; exact wn_IllegalArgumentException) (by decide +kernel) (atS_ok hx aw_1_64 ab_1_64 (by decide +kernel)) ag_1_64_60 dX7_variable_10 dX7_variable_13 dX7_variable_14 dX7_variable_16 dX7_variable_19 (by rw [hR]; exact ⟨by decide, Nat.le_of_ble_eq_true rfl, rfl, rfl⟩)
set_option maxRecDepth 100000 in
set_option maxHeartbeats 4000000 in
theorem t_X7_variable_0 {n : Nat} {x : XC} (hx : CX x cX7_variable 2 RX7) (hR : x_R x = rm_X7_variable) (hKS : ∀ k ∈ KK, k ∈ x_K x) {out : XO3} (hE : XEI x .int 1 6 out) {S : St} {a1 : Int32} (h : f_X7_variable n S a1 = some out) : WX x 2 0 0 S 0 [(0, .ref (x_ad x 0 6 0)), (1, .int a1)] [] := by
  unfold f_X7_variable at h
  refine r_iload_n (k0 := 1) hx dX7_variable_0 rfl rfl ?_
  refine r_if_lt (tgt := 10) hx dX7_variable_1 (by decide) (fun c1 => ?_) (fun c1 => ?_)
  · have h := ite_t h c1
    refine WX.sub (lv' := []) ?_ [] rfl
    exact t_X7_variable_10 hx hR hKS hE h
  · have h := ite_f h c1
    refine r_iload_n (k0 := 1) hx dX7_variable_4 rfl rfl ?_
    refine r_bipush (v := 59) hx dX7_variable_5 (by decide) ?_
    refine r_icmp_le (tgt := 20) hx dX7_variable_7 (by decide) (fun c2 => ?_) (fun c2 => ?_)
    · have h := ite_t h c2
      refine r_aload_n (k0 := 0) hx dX7_variable_20 rfl rfl ?_
      refine r_iconst (v := 1) hx dX7_variable_21 (by decide) ?_
      refine r_iload_n (k0 := 1) hx dX7_variable_22 rfl rfl ?_
      refine r_iconst (v := -1) hx dX7_variable_23 (by decide) ?_
      refine r_iconst (v := -1) hx dX7_variable_24 (by decide) ?_
      obtain ⟨S3, t6, v5, c4, x7, h⟩ := bX_some h
      refine r_XI (ci := 6) (As := [.int 1, .int a1, .int (-1), .int (-1)]) (rest := []) hx hE.1 (C_X7_askedTerm (c := x_y x) hKS hE.1.2.2.2 c4) (k_0_6 hKS) rfl wl_X7_105 wi_X7_askedTerm we_X7_askedTerm wn_X7 wc_X7_askedTerm dy_X7_askedTerm rfl (by rw [hR]; decide +kernel) (by decide) rfl (Nat.le_of_ble_eq_true rfl) dX7_variable_25 x7 (fun z9 => ?_)
      have h := h z9
      exact r_xiret hx hE (by decide) h dX7_variable_28
    · have h := ite_f h c2
      refine WX.sub (lv' := []) ?_ [] rfl
      exact t_X7_variable_10 hx hR hKS hE h
set_option maxHeartbeats 4000000 in
theorem C_X7_variable {n : Nat} {c : YC} (hKS : ∀ k ∈ KK, k ∈ c.2.2.2.2) (hst : c.1.stackTraces = false) {S : St} {a1 : Int32} {out : XO3} (h : f_X7_variable n S a1 = some out) : MXI c yX7_variable cX7_variable 2 (some .int) rm_X7_variable 1 6 S [.ref (c.2.2.1 0 6 0), .int a1] out := mk_XI (own := RX7) (by decide +kernel) rfl (Nat.le_of_ble_eq_true rfl) hst (fun x hx hR hy hE => by subst hy; exact t_X7_variable_0 hx hR hKS hE h)
def f_X7_name (n : Nat) (S : St) (a1 : Int32) (a2 : Int32) (a3 : Int32) : Option (XO3) :=
  bX (f_X7_needName n S a1) fun S1 v3 =>
  bX (f_X7_needLevel n S1 a2) fun S6 v8 =>
  bX (f_X7_needLevel n S6 a3) fun S11 v13 =>
  bX (f_X7_askedTerm n S11 2 a1 a2 a3) fun S16 v18 =>
  some (S16, 0, v18)
set_option maxRecDepth 100000 in
set_option maxHeartbeats 4000000 in
theorem t_X7_name_0 {n : Nat} {x : XC} (hx : CX x cX7_name 4 RX7) (hR : x_R x = rm_X7_name) (hKS : ∀ k ∈ KK, k ∈ x_K x) {out : XO3} (hE : XEI x .int 4 24 out) {S : St} {a1 : Int32} {a2 : Int32} {a3 : Int32} (h : f_X7_name n S a1 a2 a3 = some out) : WX x 4 0 0 S 0 [(0, .ref (x_ad x 0 6 0)), (1, .int a1), (2, .int a2), (3, .int a3)] [] := by
  unfold f_X7_name at h
  refine r_aload_n (k0 := 0) hx dX7_name_0 rfl rfl ?_
  refine r_iload_n (k0 := 1) hx dX7_name_1 rfl rfl ?_
  obtain ⟨S1, t4, v3, c2, x5, h⟩ := bX_some h
  refine r_XV (ci := 6) (As := [.int a1]) (rest := []) hx hE.1 (C_X7_needName (c := x_y x) hKS hE.1.2.2.2 c2) (k_0_6 hKS) rfl wl_X7_111 wi_X7_needName we_X7_needName wn_X7 wc_X7_needName dy_X7_needName rfl (by rw [hR]; decide +kernel) (by decide) rfl (Nat.le_of_ble_eq_true rfl) dX7_name_2 x5 (fun z9 => ?_)
  have h := h z9
  refine r_aload_n (k0 := 0) hx dX7_name_5 rfl rfl ?_
  refine r_iload_n (k0 := 2) hx dX7_name_6 rfl rfl ?_
  obtain ⟨S6, t9, v8, c7, x10, h⟩ := bX_some h
  refine r_XV (ci := 6) (As := [.int a2]) (rest := []) hx hE.1 (C_X7_needLevel (c := x_y x) hKS hE.1.2.2.2 c7) (k_0_6 hKS) rfl wl_X7_79 wi_X7_needLevel we_X7_needLevel wn_X7 wc_X7_needLevel dy_X7_needLevel rfl (by rw [hR]; decide +kernel) (by decide) rfl (Nat.le_of_ble_eq_true rfl) dX7_name_7 x10 (fun z9 => ?_)
  have h := h z9
  refine r_aload_n (k0 := 0) hx dX7_name_10 rfl rfl ?_
  refine r_iload_n (k0 := 3) hx dX7_name_11 rfl rfl ?_
  obtain ⟨S11, t14, v13, c12, x15, h⟩ := bX_some h
  refine r_XV (ci := 6) (As := [.int a3]) (rest := []) hx hE.1 (C_X7_needLevel (c := x_y x) hKS hE.1.2.2.2 c12) (k_0_6 hKS) rfl wl_X7_79 wi_X7_needLevel we_X7_needLevel wn_X7 wc_X7_needLevel dy_X7_needLevel rfl (by rw [hR]; decide +kernel) (by decide) rfl (Nat.le_of_ble_eq_true rfl) dX7_name_12 x15 (fun z9 => ?_)
  have h := h z9
  refine r_aload_n (k0 := 0) hx dX7_name_15 rfl rfl ?_
  refine r_iconst (v := 2) hx dX7_name_16 (by decide) ?_
  refine r_iload_n (k0 := 1) hx dX7_name_17 rfl rfl ?_
  refine r_iload_n (k0 := 2) hx dX7_name_18 rfl rfl ?_
  refine r_iload_n (k0 := 3) hx dX7_name_19 rfl rfl ?_
  obtain ⟨S16, t19, v18, c17, x20, h⟩ := bX_some h
  refine r_XI (ci := 6) (As := [.int 2, .int a1, .int a2, .int a3]) (rest := []) hx hE.1 (C_X7_askedTerm (c := x_y x) hKS hE.1.2.2.2 c17) (k_0_6 hKS) rfl wl_X7_105 wi_X7_askedTerm we_X7_askedTerm wn_X7 wc_X7_askedTerm dy_X7_askedTerm rfl (by rw [hR]; decide +kernel) (by decide) rfl (Nat.le_of_ble_eq_true rfl) dX7_name_20 x20 (fun z9 => ?_)
  have h := h z9
  exact r_xiret hx hE (by decide) h dX7_name_23
set_option maxHeartbeats 4000000 in
theorem C_X7_name {n : Nat} {c : YC} (hKS : ∀ k ∈ KK, k ∈ c.2.2.2.2) (hst : c.1.stackTraces = false) {S : St} {a1 : Int32} {a2 : Int32} {a3 : Int32} {out : XO3} (h : f_X7_name n S a1 a2 a3 = some out) : MXI c yX7_name cX7_name 4 (some .int) rm_X7_name 4 24 S [.ref (c.2.2.1 0 6 0), .int a1, .int a2, .int a3] out := mk_XI (own := RX7) (by decide +kernel) rfl (Nat.le_of_ble_eq_true rfl) hst (fun x hx hR hy hE => by subst hy; exact t_X7_name_0 hx hR hKS hE h)
def j_X7_term_25 (n : Nat) (S : St) (l1 : Int32) (l2 : Int32) (l3 : Int32) : Option (XO3) :=
  bX (f_X7_needTerm n S l2) fun S1 v3 =>
  bX (f_X7_needTerm n S1 l3) fun S6 v8 =>
  bX (f_X7_askedTerm n S6 l1 l2 l3 (-1)) fun S11 v13 =>
  some (S11, 0, v13)
def f_X7_term (n : Nat) (S : St) (a1 : Int32) (a2 : Int32) (a3 : Int32) : Option (XO3) :=
  if a1 = 3 then
    j_X7_term_25 n S a1 a2 a3
  else
    if a1 = 4 then
      j_X7_term_25 n S a1 a2 a3
    else
      if a1 = 5 then
        j_X7_term_25 n S a1 a2 a3
      else
        some (S, 1, 0)
set_option maxRecDepth 100000 in
set_option maxHeartbeats 4000000 in
theorem t_X7_term_25 {n : Nat} {x : XC} (hx : CX x cX7_term 4 RX7) (hR : x_R x = rm_X7_term) (hKS : ∀ k ∈ KK, k ∈ x_K x) {out : XO3} (hE : XEI x .int 3 18 out) {S : St} {l1 : Int32} {l2 : Int32} {l3 : Int32} (h : j_X7_term_25 n S l1 l2 l3 = some out) : WX x 4 0 0 S 25 [(0, .ref (x_ad x 0 6 0)), (1, .int l1), (2, .int l2), (3, .int l3)] [] := by
  unfold j_X7_term_25 at h
  refine r_aload_n (k0 := 0) hx dX7_term_25 rfl rfl ?_
  refine r_iload_n (k0 := 2) hx dX7_term_26 rfl rfl ?_
  obtain ⟨S1, t4, v3, c2, x5, h⟩ := bX_some h
  refine r_XV (ci := 6) (As := [.int l2]) (rest := []) hx hE.1 (C_X7_needTerm (c := x_y x) hKS hE.1.2.2.2 c2) (k_0_6 hKS) rfl wl_X7_116 wi_X7_needTerm we_X7_needTerm wn_X7 wc_X7_needTerm dy_X7_needTerm rfl (by rw [hR]; decide +kernel) (by decide) rfl (Nat.le_of_ble_eq_true rfl) dX7_term_27 x5 (fun z9 => ?_)
  have h := h z9
  refine r_aload_n (k0 := 0) hx dX7_term_30 rfl rfl ?_
  refine r_iload_n (k0 := 3) hx dX7_term_31 rfl rfl ?_
  obtain ⟨S6, t9, v8, c7, x10, h⟩ := bX_some h
  refine r_XV (ci := 6) (As := [.int l3]) (rest := []) hx hE.1 (C_X7_needTerm (c := x_y x) hKS hE.1.2.2.2 c7) (k_0_6 hKS) rfl wl_X7_116 wi_X7_needTerm we_X7_needTerm wn_X7 wc_X7_needTerm dy_X7_needTerm rfl (by rw [hR]; decide +kernel) (by decide) rfl (Nat.le_of_ble_eq_true rfl) dX7_term_32 x10 (fun z9 => ?_)
  have h := h z9
  refine r_aload_n (k0 := 0) hx dX7_term_35 rfl rfl ?_
  refine r_iload_n (k0 := 1) hx dX7_term_36 rfl rfl ?_
  refine r_iload_n (k0 := 2) hx dX7_term_37 rfl rfl ?_
  refine r_iload_n (k0 := 3) hx dX7_term_38 rfl rfl ?_
  refine r_iconst (v := -1) hx dX7_term_39 (by decide) ?_
  obtain ⟨S11, t14, v13, c12, x15, h⟩ := bX_some h
  refine r_XI (ci := 6) (As := [.int l1, .int l2, .int l3, .int (-1)]) (rest := []) hx hE.1 (C_X7_askedTerm (c := x_y x) hKS hE.1.2.2.2 c12) (k_0_6 hKS) rfl wl_X7_105 wi_X7_askedTerm we_X7_askedTerm wn_X7 wc_X7_askedTerm dy_X7_askedTerm rfl (by rw [hR]; decide +kernel) (by decide) rfl (Nat.le_of_ble_eq_true rfl) dX7_term_40 x15 (fun z9 => ?_)
  have h := h z9
  exact r_xiret hx hE (by decide) h dX7_term_43
set_option maxRecDepth 100000 in
set_option maxHeartbeats 4000000 in
theorem t_X7_term_0 {n : Nat} {x : XC} (hx : CX x cX7_term 4 RX7) (hR : x_R x = rm_X7_term) (hKS : ∀ k ∈ KK, k ∈ x_K x) {out : XO3} (hE : XEI x .int 3 18 out) {S : St} {a1 : Int32} {a2 : Int32} {a3 : Int32} (h : f_X7_term n S a1 a2 a3 = some out) : WX x 4 0 0 S 0 [(0, .ref (x_ad x 0 6 0)), (1, .int a1), (2, .int a2), (3, .int a3)] [] := by
  unfold f_X7_term at h
  refine r_iload_n (k0 := 1) hx dX7_term_0 rfl rfl ?_
  refine r_iconst (v := 3) hx dX7_term_1 (by decide) ?_
  refine r_icmp_eq (tgt := 25) hx dX7_term_2 (by decide) (fun c1 => ?_) (fun c1 => ?_)
  · have h := ite_t h c1
    exact t_X7_term_25 hx hR hKS hE h
  · have h := ite_f h c1
    refine r_iload_n (k0 := 1) hx dX7_term_5 rfl rfl ?_
    refine r_iconst (v := 4) hx dX7_term_6 (by decide) ?_
    refine r_icmp_eq (tgt := 25) hx dX7_term_7 (by decide) (fun c2 => ?_) (fun c2 => ?_)
    · have h := ite_t h c2
      exact t_X7_term_25 hx hR hKS hE h
    · have h := ite_f h c2
      refine r_iload_n (k0 := 1) hx dX7_term_10 rfl rfl ?_
      refine r_iconst (v := 5) hx dX7_term_11 (by decide) ?_
      refine r_icmp_eq (tgt := 25) hx dX7_term_12 (by decide) (fun c3 => ?_) (fun c3 => ?_)
      · have h := ite_t h c3
        exact t_X7_term_25 hx hR hKS hE h
      · have h := ite_f h c3
        exact r_throw (code := 1) (ik := 60) (is := 114) (ic := 64) (text := "no such kind of term") (names := nms) hx hE.1 (by decide) (by decide) h (by decide +kernel) (by decide +kernel) (by rw [exn_1]; exact wa_X7_60) (by rw [exn_1]; exact wn_IllegalArgumentException) (by decide +kernel) (atS_ok hx aw_1_64 ab_1_64 (by decide +kernel)) ag_1_64_60 dX7_term_15 dX7_term_18 dX7_term_19 dX7_term_21 dX7_term_24 (by rw [hR]; exact ⟨by decide, Nat.le_of_ble_eq_true rfl, rfl, rfl⟩)
set_option maxHeartbeats 4000000 in
theorem C_X7_term {n : Nat} {c : YC} (hKS : ∀ k ∈ KK, k ∈ c.2.2.2.2) (hst : c.1.stackTraces = false) {S : St} {a1 : Int32} {a2 : Int32} {a3 : Int32} {out : XO3} (h : f_X7_term n S a1 a2 a3 = some out) : MXI c yX7_term cX7_term 4 (some .int) rm_X7_term 3 18 S [.ref (c.2.2.1 0 6 0), .int a1, .int a2, .int a3] out := mk_XI (own := RX7) (by decide +kernel) rfl (Nat.le_of_ble_eq_true rfl) hst (fun x hx hR hy hE => by subst hy; exact t_X7_term_0 hx hR hKS hE h)
def f_X7_let (n : Nat) (S : St) (a1 : Int32) (a2 : Int32) (a3 : Int32) : Option (XO3) :=
  bX (f_X7_needTerm n S a1) fun S1 v3 =>
  bX (f_X7_needTerm n S1 a2) fun S6 v8 =>
  bX (f_X7_needTerm n S6 a3) fun S11 v13 =>
  bX (f_X7_askedTerm n S11 6 a1 a2 a3) fun S16 v18 =>
  some (S16, 0, v18)
set_option maxRecDepth 100000 in
set_option maxHeartbeats 4000000 in
theorem t_X7_let_0 {n : Nat} {x : XC} (hx : CX x cX7_let 4 RX7) (hR : x_R x = rm_X7_let) (hKS : ∀ k ∈ KK, k ∈ x_K x) {out : XO3} (hE : XEI x .int 4 24 out) {S : St} {a1 : Int32} {a2 : Int32} {a3 : Int32} (h : f_X7_let n S a1 a2 a3 = some out) : WX x 4 0 0 S 0 [(0, .ref (x_ad x 0 6 0)), (1, .int a1), (2, .int a2), (3, .int a3)] [] := by
  unfold f_X7_let at h
  refine r_aload_n (k0 := 0) hx dX7_let_0 rfl rfl ?_
  refine r_iload_n (k0 := 1) hx dX7_let_1 rfl rfl ?_
  obtain ⟨S1, t4, v3, c2, x5, h⟩ := bX_some h
  refine r_XV (ci := 6) (As := [.int a1]) (rest := []) hx hE.1 (C_X7_needTerm (c := x_y x) hKS hE.1.2.2.2 c2) (k_0_6 hKS) rfl wl_X7_116 wi_X7_needTerm we_X7_needTerm wn_X7 wc_X7_needTerm dy_X7_needTerm rfl (by rw [hR]; decide +kernel) (by decide) rfl (Nat.le_of_ble_eq_true rfl) dX7_let_2 x5 (fun z9 => ?_)
  have h := h z9
  refine r_aload_n (k0 := 0) hx dX7_let_5 rfl rfl ?_
  refine r_iload_n (k0 := 2) hx dX7_let_6 rfl rfl ?_
  obtain ⟨S6, t9, v8, c7, x10, h⟩ := bX_some h
  refine r_XV (ci := 6) (As := [.int a2]) (rest := []) hx hE.1 (C_X7_needTerm (c := x_y x) hKS hE.1.2.2.2 c7) (k_0_6 hKS) rfl wl_X7_116 wi_X7_needTerm we_X7_needTerm wn_X7 wc_X7_needTerm dy_X7_needTerm rfl (by rw [hR]; decide +kernel) (by decide) rfl (Nat.le_of_ble_eq_true rfl) dX7_let_7 x10 (fun z9 => ?_)
  have h := h z9
  refine r_aload_n (k0 := 0) hx dX7_let_10 rfl rfl ?_
  refine r_iload_n (k0 := 3) hx dX7_let_11 rfl rfl ?_
  obtain ⟨S11, t14, v13, c12, x15, h⟩ := bX_some h
  refine r_XV (ci := 6) (As := [.int a3]) (rest := []) hx hE.1 (C_X7_needTerm (c := x_y x) hKS hE.1.2.2.2 c12) (k_0_6 hKS) rfl wl_X7_116 wi_X7_needTerm we_X7_needTerm wn_X7 wc_X7_needTerm dy_X7_needTerm rfl (by rw [hR]; decide +kernel) (by decide) rfl (Nat.le_of_ble_eq_true rfl) dX7_let_12 x15 (fun z9 => ?_)
  have h := h z9
  refine r_aload_n (k0 := 0) hx dX7_let_15 rfl rfl ?_
  refine r_bipush (v := 6) hx dX7_let_16 (by decide) ?_
  refine r_iload_n (k0 := 1) hx dX7_let_18 rfl rfl ?_
  refine r_iload_n (k0 := 2) hx dX7_let_19 rfl rfl ?_
  refine r_iload_n (k0 := 3) hx dX7_let_20 rfl rfl ?_
  obtain ⟨S16, t19, v18, c17, x20, h⟩ := bX_some h
  refine r_XI (ci := 6) (As := [.int 6, .int a1, .int a2, .int a3]) (rest := []) hx hE.1 (C_X7_askedTerm (c := x_y x) hKS hE.1.2.2.2 c17) (k_0_6 hKS) rfl wl_X7_105 wi_X7_askedTerm we_X7_askedTerm wn_X7 wc_X7_askedTerm dy_X7_askedTerm rfl (by rw [hR]; decide +kernel) (by decide) rfl (Nat.le_of_ble_eq_true rfl) dX7_let_21 x20 (fun z9 => ?_)
  have h := h z9
  exact r_xiret hx hE (by decide) h dX7_let_24
set_option maxHeartbeats 4000000 in
theorem C_X7_let {n : Nat} {c : YC} (hKS : ∀ k ∈ KK, k ∈ c.2.2.2.2) (hst : c.1.stackTraces = false) {S : St} {a1 : Int32} {a2 : Int32} {a3 : Int32} {out : XO3} (h : f_X7_let n S a1 a2 a3 = some out) : MXI c yX7_let cX7_let 4 (some .int) rm_X7_let 4 24 S [.ref (c.2.2.1 0 6 0), .int a1, .int a2, .int a3] out := mk_XI (own := RX7) (by decide +kernel) rfl (Nat.le_of_ble_eq_true rfl) hst (fun x hx hR hy hE => by subst hy; exact t_X7_let_0 hx hR hKS hE h)
def f_X7_type (n : Nat) (S : St) (a1 : Int32) : Option (XO3) :=
  bX (f_X7_needTerm n S a1) fun S1 v3 =>
  bI (k_X6_find n 101 S1 a1 0 0) fun S6 v8 =>
  if v8 = 0 then
    bX (f_X7_numbered n S6 6) fun S10 v12 =>
    some (S10, 0, v12)
  else
    some (S6, 0, ((-1) - v8))
set_option maxRecDepth 100000 in
set_option maxHeartbeats 4000000 in
theorem t_X7_type_0 {n : Nat} {x : XC} (hx : CX x cX7_type 3 RX7) (hR : x_R x = rm_X7_type) (hKS : ∀ k ∈ KK, k ∈ x_K x) {out : XO3} (hE : XEI x .int 2 12 out) {S : St} {a1 : Int32} (h : f_X7_type n S a1 = some out) : WX x 3 0 0 S 0 [(0, .ref (x_ad x 0 6 0)), (1, .int a1)] [] := by
  unfold f_X7_type at h
  refine r_aload_n (k0 := 0) hx dX7_type_0 rfl rfl ?_
  refine r_iload_n (k0 := 1) hx dX7_type_1 rfl rfl ?_
  obtain ⟨S1, t4, v3, c2, x5, h⟩ := bX_some h
  refine r_XV (ci := 6) (As := [.int a1]) (rest := []) hx hE.1 (C_X7_needTerm (c := x_y x) hKS hE.1.2.2.2 c2) (k_0_6 hKS) rfl wl_X7_116 wi_X7_needTerm we_X7_needTerm wn_X7 wc_X7_needTerm dy_X7_needTerm rfl (by rw [hR]; decide +kernel) (by decide) rfl (Nat.le_of_ble_eq_true rfl) dX7_type_2 x5 (fun z9 => ?_)
  have h := h z9
  refine r_aload_n (k0 := 0) hx dX7_type_5 rfl rfl ?_
  refine g_304 hx (k_0_6 hKS) wf_X7_46 dX7_type_6 ?_
  refine r_iload_n (k0 := 1) hx dX7_type_9 rfl rfl ?_
  refine r_iconst (v := 0) hx dX7_type_10 (by decide) ?_
  refine r_iconst (v := 0) hx dX7_type_11 (by decide) ?_
  obtain ⟨S6, v8, c7, h⟩ := bI_some h
  refine r_Vi (ci := 5) (As := [.int a1, .int 0, .int 0]) (rest := []) hx (D_X6_find (c := x_y x) hKS c7) (k_0_5 hKS) rfl wl_X7_119 wi_X6_find we_X6_find wn_X6 wc_X6_find dy_X6_find rfl (by rw [hR]; decide +kernel) rfl (Nat.le_of_ble_eq_true rfl) dX7_type_12 ?_
  refine r_istore_n (lv' := [(2, .int v8), (0, .ref (x_ad x 0 6 0)), (1, .int a1)]) hx dX7_type_15 rfl (by decide) rfl ?_
  refine r_iload_n (k0 := 0) hx dX7_type_16 rfl rfl ?_
  refine r_if_ne (tgt := 34) hx dX7_type_17 (by decide) (fun c9 => ?_) (fun c9 => ?_)
  · have h := ite_f h c9
    refine r_iconst (v := -1) hx dX7_type_34 (by decide) ?_
    refine r_iload_n (k0 := 0) hx dX7_type_35 rfl rfl ?_
    refine r_isub hx dX7_type_36 ?_
    exact r_xiret hx hE (by decide) h dX7_type_37
  · have h := ite_t h c9
    refine r_aload_n (k0 := 1) hx dX7_type_20 rfl rfl ?_
    refine r_aload_n (k0 := 1) hx dX7_type_21 rfl rfl ?_
    refine g_304 hx (k_0_6 hKS) wf_X7_46 dX7_type_22 ?_
    refine g_254 hx (k_0_5 hKS) wf_X7_123 dX7_type_25 ?_
    obtain ⟨S10, t13, v12, c11, x14, h⟩ := bX_some h
    refine r_XI (ci := 6) (As := [.ref (x_ad x 0 3 6)]) (rest := []) hx hE.1 (C_X7_numbered (c := x_y x) hKS hE.1.2.2.2 (by decide) c11) (k_0_6 hKS) rfl wl_X7_126 wi_X7_numbered we_X7_numbered wn_X7 wc_X7_numbered dy_X7_numbered rfl (by rw [hR]; decide +kernel) (by decide) rfl (Nat.le_of_ble_eq_true rfl) dX7_type_28 x14 (fun z9 => ?_)
    have h := h z9
    refine r_goto (tgt := 37) hx dX7_type_31 (by decide) ?_
    exact r_xiret hx hE (by decide) h dX7_type_37
set_option maxHeartbeats 4000000 in
theorem C_X7_type {n : Nat} {c : YC} (hKS : ∀ k ∈ KK, k ∈ c.2.2.2.2) (hst : c.1.stackTraces = false) {S : St} {a1 : Int32} {out : XO3} (h : f_X7_type n S a1 = some out) : MXI c yX7_type cX7_type 3 (some .int) rm_X7_type 2 12 S [.ref (c.2.2.1 0 6 0), .int a1] out := mk_XI (own := RX7) (by decide +kernel) rfl (Nat.le_of_ble_eq_true rfl) hst (fun x hx hR hy hE => by subst hy; exact t_X7_type_0 hx hR hKS hE h)
def f_X7_normal (n : Nat) (S : St) (a1 : Int32) : Option (XO3) :=
  bX (f_X7_needTerm n S a1) fun S1 v3 =>
  bU (f_X5_spread n S1 a1 0) fun S6 =>
  bI (f_X3_reduce n S6 0) fun S8 v10 =>
  if v10 = (-6) then
    some (S8, 0, (-6))
  else
    bX (f_X7_numbered n S8 0) fun S12 v14 =>
    some (S12, 0, v14)
set_option maxRecDepth 100000 in
set_option maxHeartbeats 4000000 in
theorem t_X7_normal_0 {n : Nat} {x : XC} (hx : CX x cX7_normal 2 RX7) (hR : x_R x = rm_X7_normal) (hKS : ∀ k ∈ KK, k ∈ x_K x) {out : XO3} (hE : XEI x .int 2 12 out) {S : St} {a1 : Int32} (h : f_X7_normal n S a1 = some out) : WX x 2 0 0 S 0 [(0, .ref (x_ad x 0 6 0)), (1, .int a1)] [] := by
  unfold f_X7_normal at h
  refine r_aload_n (k0 := 0) hx dX7_normal_0 rfl rfl ?_
  refine r_iload_n (k0 := 1) hx dX7_normal_1 rfl rfl ?_
  obtain ⟨S1, t4, v3, c2, x5, h⟩ := bX_some h
  refine r_XV (ci := 6) (As := [.int a1]) (rest := []) hx hE.1 (C_X7_needTerm (c := x_y x) hKS hE.1.2.2.2 c2) (k_0_6 hKS) rfl wl_X7_116 wi_X7_needTerm we_X7_needTerm wn_X7 wc_X7_needTerm dy_X7_needTerm rfl (by rw [hR]; decide +kernel) (by decide) rfl (Nat.le_of_ble_eq_true rfl) dX7_normal_2 x5 (fun z9 => ?_)
  have h := h z9
  refine r_aload_n (k0 := 0) hx dX7_normal_5 rfl rfl ?_
  refine g_301 hx (k_0_6 hKS) wf_X7_21 dX7_normal_6 ?_
  refine r_iload_n (k0 := 1) hx dX7_normal_9 rfl rfl ?_
  refine r_aload_n (k0 := 0) hx dX7_normal_10 rfl rfl ?_
  refine g_305 hx (k_0_6 hKS) wf_X7_53 dX7_normal_11 ?_
  obtain ⟨S6, c7, h⟩ := bU_some h
  refine r_Vv (ci := 4) (As := [.int a1, .ref (x_ad x 0 3 0)]) (rest := []) hx (C_X5_spread (c := x_y x) hKS (by decide) c7) (k_0_4 hKS) rfl wl_X7_130 wi_X5_spread we_X5_spread wn_X5 wc_X5_spread dy_X5_spread rfl (by rw [hR]; decide +kernel) rfl (Nat.le_of_ble_eq_true rfl) dX7_normal_14 ?_
  refine r_aload_n (k0 := 0) hx dX7_normal_17 rfl rfl ?_
  refine g_303 hx (k_0_6 hKS) wf_X7_37 dX7_normal_18 ?_
  refine r_aload_n (k0 := 0) hx dX7_normal_21 rfl rfl ?_
  refine g_305 hx (k_0_6 hKS) wf_X7_53 dX7_normal_22 ?_
  obtain ⟨S8, v10, c9, h⟩ := bI_some h
  refine r_Vi (ci := 2) (As := [.ref (x_ad x 0 3 0)]) (rest := []) hx (C_X3_reduce (c := x_y x) hKS (by decide) c9) (k_0_2 hKS) rfl wl_X7_134 wi_X3_reduce we_X3_reduce wn_X3 wc_X3_reduce dy_X3_reduce rfl (by rw [hR]; decide +kernel) rfl (Nat.le_of_ble_eq_true rfl) dX7_normal_25 ?_
  refine r_bipush (v := -6) hx dX7_normal_28 (by decide) ?_
  refine r_icmp_ne (tgt := 38) hx dX7_normal_30 (by decide) (fun c11 => ?_) (fun c11 => ?_)
  · have h := ite_f h c11
    refine r_aload_n (k0 := 0) hx dX7_normal_38 rfl rfl ?_
    refine r_aload_n (k0 := 0) hx dX7_normal_39 rfl rfl ?_
    refine g_305 hx (k_0_6 hKS) wf_X7_53 dX7_normal_40 ?_
    obtain ⟨S12, t15, v14, c13, x16, h⟩ := bX_some h
    refine r_XI (ci := 6) (As := [.ref (x_ad x 0 3 0)]) (rest := []) hx hE.1 (C_X7_numbered (c := x_y x) hKS hE.1.2.2.2 (by decide) c13) (k_0_6 hKS) rfl wl_X7_126 wi_X7_numbered we_X7_numbered wn_X7 wc_X7_numbered dy_X7_numbered rfl (by rw [hR]; decide +kernel) (by decide) rfl (Nat.le_of_ble_eq_true rfl) dX7_normal_43 x16 (fun z9 => ?_)
    have h := h z9
    exact r_xiret hx hE (by decide) h dX7_normal_46
  · have h := ite_t h c11
    refine r_bipush (v := -6) hx dX7_normal_33 (by decide) ?_
    refine r_goto (tgt := 46) hx dX7_normal_35 (by decide) ?_
    exact r_xiret hx hE (by decide) h dX7_normal_46
set_option maxHeartbeats 4000000 in
theorem C_X7_normal {n : Nat} {c : YC} (hKS : ∀ k ∈ KK, k ∈ c.2.2.2.2) (hst : c.1.stackTraces = false) {S : St} {a1 : Int32} {out : XO3} (h : f_X7_normal n S a1 = some out) : MXI c yX7_normal cX7_normal 2 (some .int) rm_X7_normal 2 12 S [.ref (c.2.2.1 0 6 0), .int a1] out := mk_XI (own := RX7) (by decide +kernel) rfl (Nat.le_of_ble_eq_true rfl) hst (fun x hx hR hy hE => by subst hy; exact t_X7_normal_0 hx hR hKS hE h)
def f_X7_steps (n : Nat) (S : St) (a1 : Int32) : Option (XO3) :=
  bX (f_X7_needTerm n S a1) fun S1 v3 =>
  bU (f_X5_spread n S1 a1 0) fun S6 =>
  bI (f_X3_reduce n S6 0) fun S8 v10 =>
  some (S8, 0, v10)
set_option maxRecDepth 100000 in
set_option maxHeartbeats 4000000 in
theorem t_X7_steps_0 {n : Nat} {x : XC} (hx : CX x cX7_steps 2 RX7) (hR : x_R x = rm_X7_steps) (hKS : ∀ k ∈ KK, k ∈ x_K x) {out : XO3} (hE : XEI x .int 1 6 out) {S : St} {a1 : Int32} (h : f_X7_steps n S a1 = some out) : WX x 2 0 0 S 0 [(0, .ref (x_ad x 0 6 0)), (1, .int a1)] [] := by
  unfold f_X7_steps at h
  refine r_aload_n (k0 := 0) hx dX7_steps_0 rfl rfl ?_
  refine r_iload_n (k0 := 1) hx dX7_steps_1 rfl rfl ?_
  obtain ⟨S1, t4, v3, c2, x5, h⟩ := bX_some h
  refine r_XV (ci := 6) (As := [.int a1]) (rest := []) hx hE.1 (C_X7_needTerm (c := x_y x) hKS hE.1.2.2.2 c2) (k_0_6 hKS) rfl wl_X7_116 wi_X7_needTerm we_X7_needTerm wn_X7 wc_X7_needTerm dy_X7_needTerm rfl (by rw [hR]; decide +kernel) (by decide) rfl (Nat.le_of_ble_eq_true rfl) dX7_steps_2 x5 (fun z9 => ?_)
  have h := h z9
  refine r_aload_n (k0 := 0) hx dX7_steps_5 rfl rfl ?_
  refine g_301 hx (k_0_6 hKS) wf_X7_21 dX7_steps_6 ?_
  refine r_iload_n (k0 := 1) hx dX7_steps_9 rfl rfl ?_
  refine r_aload_n (k0 := 0) hx dX7_steps_10 rfl rfl ?_
  refine g_305 hx (k_0_6 hKS) wf_X7_53 dX7_steps_11 ?_
  obtain ⟨S6, c7, h⟩ := bU_some h
  refine r_Vv (ci := 4) (As := [.int a1, .ref (x_ad x 0 3 0)]) (rest := []) hx (C_X5_spread (c := x_y x) hKS (by decide) c7) (k_0_4 hKS) rfl wl_X7_130 wi_X5_spread we_X5_spread wn_X5 wc_X5_spread dy_X5_spread rfl (by rw [hR]; decide +kernel) rfl (Nat.le_of_ble_eq_true rfl) dX7_steps_14 ?_
  refine r_aload_n (k0 := 0) hx dX7_steps_17 rfl rfl ?_
  refine g_303 hx (k_0_6 hKS) wf_X7_37 dX7_steps_18 ?_
  refine r_aload_n (k0 := 0) hx dX7_steps_21 rfl rfl ?_
  refine g_305 hx (k_0_6 hKS) wf_X7_53 dX7_steps_22 ?_
  obtain ⟨S8, v10, c9, h⟩ := bI_some h
  refine r_Vi (ci := 2) (As := [.ref (x_ad x 0 3 0)]) (rest := []) hx (C_X3_reduce (c := x_y x) hKS (by decide) c9) (k_0_2 hKS) rfl wl_X7_134 wi_X3_reduce we_X3_reduce wn_X3 wc_X3_reduce dy_X3_reduce rfl (by rw [hR]; decide +kernel) rfl (Nat.le_of_ble_eq_true rfl) dX7_steps_25 ?_
  exact r_xiret hx hE (by decide) h dX7_steps_28
set_option maxHeartbeats 4000000 in
theorem C_X7_steps {n : Nat} {c : YC} (hKS : ∀ k ∈ KK, k ∈ c.2.2.2.2) (hst : c.1.stackTraces = false) {S : St} {a1 : Int32} {out : XO3} (h : f_X7_steps n S a1 = some out) : MXI c yX7_steps cX7_steps 2 (some .int) rm_X7_steps 1 6 S [.ref (c.2.2.1 0 6 0), .int a1] out := mk_XI (own := RX7) (by decide +kernel) rfl (Nat.le_of_ble_eq_true rfl) hst (fun x hx hR hy hE => by subst hy; exact t_X7_steps_0 hx hR hKS hE h)
def f_X7_same (n : Nat) (S : St) (a1 : Int32) (a2 : Int32) : Option (XO3) :=
  bX (f_X7_needTerm n S a1) fun S1 v3 =>
  bX (f_X7_needTerm n S1 a2) fun S6 v8 =>
  bU (f_X5_spread n S6 a1 0) fun S11 =>
  bU (f_X5_spread n S11 a2 1) fun S13 =>
  bI (f_X3_reduce n S13 0) fun S15 v17 =>
  if v17 = (-6) then
    some (S15, 0, (-6))
  else
    bI (f_X3_reduce n S15 1) fun S19 v21 =>
    if v21 = (-6) then
      some (S19, 0, (-6))
    else
      bI (f_X4_matches n S19 0 0 (S19.1 150 0) 1) fun S23 v25 =>
      if v25 = 0 then
        some (S23, 0, 0)
      else
        some (S23, 0, 1)
set_option maxRecDepth 100000 in
set_option maxHeartbeats 4000000 in
theorem t_X7_same_0 {n : Nat} {x : XC} (hx : CX x cX7_same 3 RX7) (hR : x_R x = rm_X7_same) (hKS : ∀ k ∈ KK, k ∈ x_K x) {out : XO3} (hE : XEI x .int 2 12 out) {S : St} {a1 : Int32} {a2 : Int32} (h : f_X7_same n S a1 a2 = some out) : WX x 3 0 0 S 0 [(0, .ref (x_ad x 0 6 0)), (1, .int a1), (2, .int a2)] [] := by
  unfold f_X7_same at h
  refine r_aload_n (k0 := 0) hx dX7_same_0 rfl rfl ?_
  refine r_iload_n (k0 := 1) hx dX7_same_1 rfl rfl ?_
  obtain ⟨S1, t4, v3, c2, x5, h⟩ := bX_some h
  refine r_XV (ci := 6) (As := [.int a1]) (rest := []) hx hE.1 (C_X7_needTerm (c := x_y x) hKS hE.1.2.2.2 c2) (k_0_6 hKS) rfl wl_X7_116 wi_X7_needTerm we_X7_needTerm wn_X7 wc_X7_needTerm dy_X7_needTerm rfl (by rw [hR]; decide +kernel) (by decide) rfl (Nat.le_of_ble_eq_true rfl) dX7_same_2 x5 (fun z9 => ?_)
  have h := h z9
  refine r_aload_n (k0 := 0) hx dX7_same_5 rfl rfl ?_
  refine r_iload_n (k0 := 2) hx dX7_same_6 rfl rfl ?_
  obtain ⟨S6, t9, v8, c7, x10, h⟩ := bX_some h
  refine r_XV (ci := 6) (As := [.int a2]) (rest := []) hx hE.1 (C_X7_needTerm (c := x_y x) hKS hE.1.2.2.2 c7) (k_0_6 hKS) rfl wl_X7_116 wi_X7_needTerm we_X7_needTerm wn_X7 wc_X7_needTerm dy_X7_needTerm rfl (by rw [hR]; decide +kernel) (by decide) rfl (Nat.le_of_ble_eq_true rfl) dX7_same_7 x10 (fun z9 => ?_)
  have h := h z9
  refine r_aload_n (k0 := 0) hx dX7_same_10 rfl rfl ?_
  refine g_301 hx (k_0_6 hKS) wf_X7_21 dX7_same_11 ?_
  refine r_iload_n (k0 := 1) hx dX7_same_14 rfl rfl ?_
  refine r_aload_n (k0 := 0) hx dX7_same_15 rfl rfl ?_
  refine g_305 hx (k_0_6 hKS) wf_X7_53 dX7_same_16 ?_
  obtain ⟨S11, c12, h⟩ := bU_some h
  refine r_Vv (ci := 4) (As := [.int a1, .ref (x_ad x 0 3 0)]) (rest := []) hx (C_X5_spread (c := x_y x) hKS (by decide) c12) (k_0_4 hKS) rfl wl_X7_130 wi_X5_spread we_X5_spread wn_X5 wc_X5_spread dy_X5_spread rfl (by rw [hR]; decide +kernel) rfl (Nat.le_of_ble_eq_true rfl) dX7_same_19 ?_
  refine r_aload_n (k0 := 0) hx dX7_same_22 rfl rfl ?_
  refine g_301 hx (k_0_6 hKS) wf_X7_21 dX7_same_23 ?_
  refine r_iload_n (k0 := 2) hx dX7_same_26 rfl rfl ?_
  refine r_aload_n (k0 := 0) hx dX7_same_27 rfl rfl ?_
  refine g_306 hx (k_0_6 hKS) wf_X7_57 dX7_same_28 ?_
  obtain ⟨S13, c14, h⟩ := bU_some h
  refine r_Vv (ci := 4) (As := [.int a2, .ref (x_ad x 0 3 1)]) (rest := []) hx (C_X5_spread (c := x_y x) hKS (by decide) c14) (k_0_4 hKS) rfl wl_X7_130 wi_X5_spread we_X5_spread wn_X5 wc_X5_spread dy_X5_spread rfl (by rw [hR]; decide +kernel) rfl (Nat.le_of_ble_eq_true rfl) dX7_same_31 ?_
  refine r_aload_n (k0 := 0) hx dX7_same_34 rfl rfl ?_
  refine g_303 hx (k_0_6 hKS) wf_X7_37 dX7_same_35 ?_
  refine r_aload_n (k0 := 0) hx dX7_same_38 rfl rfl ?_
  refine g_305 hx (k_0_6 hKS) wf_X7_53 dX7_same_39 ?_
  obtain ⟨S15, v17, c16, h⟩ := bI_some h
  refine r_Vi (ci := 2) (As := [.ref (x_ad x 0 3 0)]) (rest := []) hx (C_X3_reduce (c := x_y x) hKS (by decide) c16) (k_0_2 hKS) rfl wl_X7_134 wi_X3_reduce we_X3_reduce wn_X3 wc_X3_reduce dy_X3_reduce rfl (by rw [hR]; decide +kernel) rfl (Nat.le_of_ble_eq_true rfl) dX7_same_42 ?_
  refine r_bipush (v := -6) hx dX7_same_45 (by decide) ?_
  refine r_icmp_eq (tgt := 66) hx dX7_same_47 (by decide) (fun c18 => ?_) (fun c18 => ?_)
  · have h := ite_t h c18
    refine r_bipush (v := -6) hx dX7_same_66 (by decide) ?_
    exact r_xiret hx hE (by decide) h dX7_same_68
  · have h := ite_f h c18
    refine r_aload_n (k0 := 0) hx dX7_same_50 rfl rfl ?_
    refine g_303 hx (k_0_6 hKS) wf_X7_37 dX7_same_51 ?_
    refine r_aload_n (k0 := 0) hx dX7_same_54 rfl rfl ?_
    refine g_306 hx (k_0_6 hKS) wf_X7_57 dX7_same_55 ?_
    obtain ⟨S19, v21, c20, h⟩ := bI_some h
    refine r_Vi (ci := 2) (As := [.ref (x_ad x 0 3 1)]) (rest := []) hx (C_X3_reduce (c := x_y x) hKS (by decide) c20) (k_0_2 hKS) rfl wl_X7_134 wi_X3_reduce we_X3_reduce wn_X3 wc_X3_reduce dy_X3_reduce rfl (by rw [hR]; decide +kernel) rfl (Nat.le_of_ble_eq_true rfl) dX7_same_58 ?_
    refine r_bipush (v := -6) hx dX7_same_61 (by decide) ?_
    refine r_icmp_ne (tgt := 69) hx dX7_same_63 (by decide) (fun c22 => ?_) (fun c22 => ?_)
    · have h := ite_f h c22
      refine r_aload_n (k0 := 0) hx dX7_same_69 rfl rfl ?_
      refine g_305 hx (k_0_6 hKS) wf_X7_53 dX7_same_70 ?_
      refine r_iconst (v := 0) hx dX7_same_73 (by decide) ?_
      refine r_aload_n (k0 := 0) hx dX7_same_74 rfl rfl ?_
      refine g_305 hx (k_0_6 hKS) wf_X7_53 dX7_same_75 ?_
      refine g_150 hx (kr_0 hKS (by decide)) wf_X7_137 dX7_same_78 ?_
      refine r_aload_n (k0 := 0) hx dX7_same_81 rfl rfl ?_
      refine g_306 hx (k_0_6 hKS) wf_X7_57 dX7_same_82 ?_
      refine r_aload_n (k0 := 0) hx dX7_same_85 rfl rfl ?_
      refine g_300 hx (k_0_6 hKS) wf_X7_10 dX7_same_86 ?_
      obtain ⟨S23, v25, c24, h⟩ := bI_some h
      refine r_Vi (ci := 3) (As := [.int 0, .int (S19.1 150 0), .ref (x_ad x 0 3 1), .ref (x_ad x 0 0 0)]) (rest := []) hx (C_X4_matches (c := x_y x) hKS (by decide) (by decide) c24) (kr_0 hKS (by decide)) rfl wl_X7_141 wi_X4_matches we_X4_matches wn_X4 wc_X4_matches dy_X4_matches rfl (by rw [hR]; decide +kernel) rfl (Nat.le_of_ble_eq_true rfl) dX7_same_89 ?_
      refine r_if_eq (tgt := 99) hx dX7_same_92 (by decide) (fun c26 => ?_) (fun c26 => ?_)
      · have h := ite_t h c26
        refine r_iconst (v := 0) hx dX7_same_99 (by decide) ?_
        exact r_xiret hx hE (by decide) h dX7_same_100
      · have h := ite_f h c26
        refine r_iconst (v := 1) hx dX7_same_95 (by decide) ?_
        refine r_goto (tgt := 100) hx dX7_same_96 (by decide) ?_
        exact r_xiret hx hE (by decide) h dX7_same_100
    · have h := ite_t h c22
      refine r_bipush (v := -6) hx dX7_same_66 (by decide) ?_
      exact r_xiret hx hE (by decide) h dX7_same_68
set_option maxHeartbeats 4000000 in
theorem C_X7_same {n : Nat} {c : YC} (hKS : ∀ k ∈ KK, k ∈ c.2.2.2.2) (hst : c.1.stackTraces = false) {S : St} {a1 : Int32} {a2 : Int32} {out : XO3} (h : f_X7_same n S a1 a2 = some out) : MXI c yX7_same cX7_same 3 (some .int) rm_X7_same 2 12 S [.ref (c.2.2.1 0 6 0), .int a1, .int a2] out := mk_XI (own := RX7) (by decide +kernel) rfl (Nat.le_of_ble_eq_true rfl) hst (fun x hx hR hy hE => by subst hy; exact t_X7_same_0 hx hR hKS hE h)
def j_X7_declare_9 (n : Nat) (S : St) : Option (XO3) :=
  some (S, 1, 0)
def j_X7_declare_34 (n : Nat) (S : St) (l1 : Int32) (l2 : Int32) (l3 : Int32) : Option (XO3) :=
  if (S.1 50 0) < 40 then
    bI (f_X7_reasonAgainst n S l1 l2 l3) fun S2 v4 =>
    if v4 = 0 then
      bI (f_X2_add n S2 l1 l2 l3) fun S6 v8 =>
      some (S6, 0, v8)
    else
      some (S2, 0, ((-1) - v4))
  else
    some (S, 3, 0)
def f_X7_declare (n : Nat) (S : St) (a1 : Int32) (a2 : Int32) (a3 : Int32) : Option (XO3) :=
  if a1 < 0 then
    j_X7_declare_9 n S
  else
    if a1 ≤ 2 then
      bX (f_X7_needTerm n S a2) fun S3 v5 =>
      if a3 = (-1) then
        j_X7_declare_34 n S3 a1 a2 a3
      else
        bX (f_X7_needTerm n S3 a3) fun S9 v11 =>
        j_X7_declare_34 n S9 a1 a2 a3
    else
      j_X7_declare_9 n S
set_option maxRecDepth 100000 in
set_option maxHeartbeats 4000000 in
theorem t_X7_declare_9 {n : Nat} {x : XC} (hx : CX x cX7_declare 5 RX7) (hR : x_R x = rm_X7_declare) (hKS : ∀ k ∈ KK, k ∈ x_K x) {out : XO3} (hE : XEI x .int 3 18 out) {S : St} (h : j_X7_declare_9 n S  = some out) : WX x 5 0 0 S 9 [] [] := by
  unfold j_X7_declare_9 at h
  exact r_throw (code := 1) (ik := 60) (is := 145) (ic := 64) (text := "no such number of parameters") (names := nms) hx hE.1 (by decide) (by decide) h (by decide +kernel) (by decide +kernel) (by rw [exn_1]; exact wa_X7_60) (by rw [exn_1]; exact wn_IllegalArgumentException) (by decide +kernel) (atS_ok hx aw_1_64 ab_1_64 (by decide +kernel)) ag_1_64_60 dX7_declare_9 dX7_declare_12 dX7_declare_13 dX7_declare_15 dX7_declare_18 (by rw [hR]; exact ⟨by decide, Nat.le_of_ble_eq_true rfl, rfl, rfl⟩)
set_option maxRecDepth 100000 in
set_option maxHeartbeats 4000000 in
theorem t_X7_declare_34 {n : Nat} {x : XC} (hx : CX x cX7_declare 5 RX7) (hR : x_R x = rm_X7_declare) (hKS : ∀ k ∈ KK, k ∈ x_K x) {out : XO3} (hE : XEI x .int 3 18 out) {S : St} {l1 : Int32} {l2 : Int32} {l3 : Int32} (h : j_X7_declare_34 n S l1 l2 l3 = some out) : WX x 5 2 12 S 34 [(0, .ref (x_ad x 0 6 0)), (1, .int l1), (2, .int l2), (3, .int l3)] [] := by
  unfold j_X7_declare_34 at h
  refine r_aload_n (k0 := 0) hx dX7_declare_34 rfl rfl ?_
  refine g_302 hx (k_0_6 hKS) wf_X7_28 dX7_declare_35 ?_
  refine g_50 hx (k_0_1 hKS) wf_X7_147 dX7_declare_38 ?_
  refine r_bipush (v := 40) hx dX7_declare_41 (by decide) ?_
  refine r_icmp_lt (tgt := 56) hx dX7_declare_43 (by decide) (fun c1 => ?_) (fun c1 => ?_)
  · have h := ite_t h c1
    refine r_aload_n (k0 := 0) hx dX7_declare_56 rfl rfl ?_
    refine r_iload_n (k0 := 1) hx dX7_declare_57 rfl rfl ?_
    refine r_iload_n (k0 := 2) hx dX7_declare_58 rfl rfl ?_
    refine r_iload_n (k0 := 3) hx dX7_declare_59 rfl rfl ?_
    obtain ⟨S2, v4, c3, h⟩ := bI_some h
    refine r_Vi (ci := 6) (As := [.int l1, .int l2, .int l3]) (rest := []) hx (C_X7_reasonAgainst (c := x_y x) hKS c3) (k_0_6 hKS) rfl wl_X7_155 wi_X7_reasonAgainst we_X7_reasonAgainst wn_X7 wc_X7_reasonAgainst dy_X7_reasonAgainst rfl (by rw [hR]; decide +kernel) rfl (Nat.le_of_ble_eq_true rfl) dX7_declare_60 ?_
    refine r_istore (lv' := [(4, .int v4), (0, .ref (x_ad x 0 6 0)), (1, .int l1), (2, .int l2), (3, .int l3)]) hx dX7_declare_63 (by decide) rfl ?_
    refine r_iload (k0 := 0) hx dX7_declare_65 rfl ?_
    refine r_if_ne (tgt := 83) hx dX7_declare_67 (by decide) (fun c5 => ?_) (fun c5 => ?_)
    · have h := ite_f h c5
      refine r_iconst (v := -1) hx dX7_declare_83 (by decide) ?_
      refine r_iload (k0 := 0) hx dX7_declare_84 rfl ?_
      refine r_isub hx dX7_declare_86 ?_
      exact r_xiret hx hE (by decide) h dX7_declare_87
    · have h := ite_t h c5
      refine r_aload_n (k0 := 1) hx dX7_declare_70 rfl rfl ?_
      refine g_302 hx (k_0_6 hKS) wf_X7_28 dX7_declare_71 ?_
      refine r_iload_n (k0 := 2) hx dX7_declare_74 rfl rfl ?_
      refine r_iload_n (k0 := 3) hx dX7_declare_75 rfl rfl ?_
      refine r_iload_n (k0 := 4) hx dX7_declare_76 rfl rfl ?_
      obtain ⟨S6, v8, c7, h⟩ := bI_some h
      refine r_Vi (ci := 1) (As := [.int l1, .int l2, .int l3]) (rest := []) hx (C_X2_add (c := x_y x) hKS c7) (k_0_1 hKS) rfl wl_X7_158 wi_X2_add we_X2_add wn_X2 wc_X2_add dy_X2_add rfl (by rw [hR]; decide +kernel) rfl (Nat.le_of_ble_eq_true rfl) dX7_declare_77 ?_
      refine r_goto (tgt := 87) hx dX7_declare_80 (by decide) ?_
      exact r_xiret hx hE (by decide) h dX7_declare_87
  · have h := ite_f h c1
    exact r_throw (code := 3) (ik := 150) (is := 152) (ic := 154) (text := "too many names") (names := nms) hx hE.1 (by decide) (by decide) h (by decide +kernel) (by decide +kernel) (by rw [exn_3]; exact wa_X7_150) (by rw [exn_3]; exact wn_UnsupportedOperationException) (by decide +kernel) (atS_ok hx aw_3_154 ab_3_154 (by decide +kernel)) ag_3_154_150 dX7_declare_46 dX7_declare_49 dX7_declare_50 dX7_declare_52 dX7_declare_55 (by rw [hR]; exact ⟨by decide, Nat.le_of_ble_eq_true rfl, rfl, rfl⟩)
set_option maxRecDepth 100000 in
set_option maxHeartbeats 4000000 in
theorem t_X7_declare_0 {n : Nat} {x : XC} (hx : CX x cX7_declare 5 RX7) (hR : x_R x = rm_X7_declare) (hKS : ∀ k ∈ KK, k ∈ x_K x) {out : XO3} (hE : XEI x .int 3 18 out) {S : St} {a1 : Int32} {a2 : Int32} {a3 : Int32} (h : f_X7_declare n S a1 a2 a3 = some out) : WX x 5 0 0 S 0 [(0, .ref (x_ad x 0 6 0)), (1, .int a1), (2, .int a2), (3, .int a3)] [] := by
  unfold f_X7_declare at h
  refine r_iload_n (k0 := 1) hx dX7_declare_0 rfl rfl ?_
  refine r_if_lt (tgt := 9) hx dX7_declare_1 (by decide) (fun c1 => ?_) (fun c1 => ?_)
  · have h := ite_t h c1
    refine WX.sub (lv' := []) ?_ [] rfl
    exact t_X7_declare_9 hx hR hKS hE h
  · have h := ite_f h c1
    refine r_iload_n (k0 := 1) hx dX7_declare_4 rfl rfl ?_
    refine r_iconst (v := 2) hx dX7_declare_5 (by decide) ?_
    refine r_icmp_le (tgt := 19) hx dX7_declare_6 (by decide) (fun c2 => ?_) (fun c2 => ?_)
    · have h := ite_t h c2
      refine r_aload_n (k0 := 0) hx dX7_declare_19 rfl rfl ?_
      refine r_iload_n (k0 := 2) hx dX7_declare_20 rfl rfl ?_
      obtain ⟨S3, t6, v5, c4, x7, h⟩ := bX_some h
      refine r_XV (ci := 6) (As := [.int a2]) (rest := []) hx hE.1 (C_X7_needTerm (c := x_y x) hKS hE.1.2.2.2 c4) (k_0_6 hKS) rfl wl_X7_116 wi_X7_needTerm we_X7_needTerm wn_X7 wc_X7_needTerm dy_X7_needTerm rfl (by rw [hR]; decide +kernel) (by decide) rfl (Nat.le_of_ble_eq_true rfl) dX7_declare_21 x7 (fun z9 => ?_)
      have h := h z9
      refine r_iload_n (k0 := 3) hx dX7_declare_24 rfl rfl ?_
      refine r_iconst (v := -1) hx dX7_declare_25 (by decide) ?_
      refine r_icmp_eq (tgt := 34) hx dX7_declare_26 (by decide) (fun c8 => ?_) (fun c8 => ?_)
      · have h := ite_t h c8
        refine WX.widen (k9 := 2) (n9 := 12) (by decide) (by decide) ?_
        exact t_X7_declare_34 hx hR hKS hE h
      · have h := ite_f h c8
        refine r_aload_n (k0 := 0) hx dX7_declare_29 rfl rfl ?_
        refine r_iload_n (k0 := 3) hx dX7_declare_30 rfl rfl ?_
        obtain ⟨S9, t12, v11, c10, x13, h⟩ := bX_some h
        refine r_XV (ci := 6) (As := [.int a3]) (rest := []) hx hE.1 (C_X7_needTerm (c := x_y x) hKS hE.1.2.2.2 c10) (k_0_6 hKS) rfl wl_X7_116 wi_X7_needTerm we_X7_needTerm wn_X7 wc_X7_needTerm dy_X7_needTerm rfl (by rw [hR]; decide +kernel) (by decide) rfl (Nat.le_of_ble_eq_true rfl) dX7_declare_31 x13 (fun z9 => ?_)
        have h := h z9
        exact t_X7_declare_34 hx hR hKS hE h
    · have h := ite_f h c2
      refine WX.sub (lv' := []) ?_ [] rfl
      exact t_X7_declare_9 hx hR hKS hE h
set_option maxHeartbeats 4000000 in
theorem C_X7_declare {n : Nat} {c : YC} (hKS : ∀ k ∈ KK, k ∈ c.2.2.2.2) (hst : c.1.stackTraces = false) {S : St} {a1 : Int32} {a2 : Int32} {a3 : Int32} {out : XO3} (h : f_X7_declare n S a1 a2 a3 = some out) : MXI c yX7_declare cX7_declare 5 (some .int) rm_X7_declare 3 18 S [.ref (c.2.2.1 0 6 0), .int a1, .int a2, .int a3] out := mk_XI (own := RX7) (by decide +kernel) rfl (Nat.le_of_ble_eq_true rfl) hst (fun x hx hR hy hE => by subst hy; exact t_X7_declare_0 hx hR hKS hE h)
def f_X7_part (n : Nat) (S : St) (a1 : Int32) (a2 : Int32) : Option (XO3) :=
  bX (f_X7_needTerm n S a1) fun S1 v3 =>
  if a2 = 0 then
    gI S1 201 0 a1 1500 fun v7 =>
    some (S1, 0, v7)
  else if a2 = 1 then
    gI S1 202 0 a1 1500 fun v11 =>
    some (S1, 0, v11)
  else if a2 = 2 then
    gI S1 203 0 a1 1500 fun v15 =>
    some (S1, 0, v15)
  else if a2 = 3 then
    gI S1 204 0 a1 1500 fun v19 =>
    some (S1, 0, v19)
  else if a2 = 4 then
    gI S1 205 0 a1 1500 fun v23 =>
    some (S1, 0, v23)
  else if a2 = 5 then
    gI S1 206 0 a1 1500 fun v27 =>
    some (S1, 0, v27)
  else some (S1, 1, 0)
set_option maxRecDepth 100000 in
set_option maxHeartbeats 4000000 in
theorem t_X7_part_0 {n : Nat} {x : XC} (hx : CX x cX7_part 3 RX7) (hR : x_R x = rm_X7_part) (hKS : ∀ k ∈ KK, k ∈ x_K x) {out : XO3} (hE : XEI x .int 2 12 out) {S : St} {a1 : Int32} {a2 : Int32} (h : f_X7_part n S a1 a2 = some out) : WX x 3 0 0 S 0 [(0, .ref (x_ad x 0 6 0)), (1, .int a1), (2, .int a2)] [] := by
  unfold f_X7_part at h
  refine r_aload_n (k0 := 0) hx dX7_part_0 rfl rfl ?_
  refine r_iload_n (k0 := 1) hx dX7_part_1 rfl rfl ?_
  obtain ⟨S1, t4, v3, c2, x5, h⟩ := bX_some h
  refine r_XV (ci := 6) (As := [.int a1]) (rest := []) hx hE.1 (C_X7_needTerm (c := x_y x) hKS hE.1.2.2.2 c2) (k_0_6 hKS) rfl wl_X7_116 wi_X7_needTerm we_X7_needTerm wn_X7 wc_X7_needTerm dy_X7_needTerm rfl (by rw [hR]; decide +kernel) (by decide) rfl (Nat.le_of_ble_eq_true rfl) dX7_part_2 x5 (fun z9 => ?_)
  have h := h z9
  refine r_iload_n (k0 := 2) hx dX7_part_5 rfl rfl ?_
  by_cases c6 : a2 = 0
  · have h := ite_t h c6
    refine r_tabI (c9 := 0) (tgt := 44) hx dX7_part_6 c6 (by decide +kernel) ?_
    refine r_aload_n (k0 := 0) hx dX7_part_44 rfl rfl ?_
    refine g_301 hx (k_0_6 hKS) wf_X7_21 dX7_part_45 ?_
    refine g_201 hx (k_0_4 hKS) wf_X7_161 dX7_part_48 ?_
    refine r_iload_n (k0 := 1) hx dX7_part_51 rfl rfl ?_
    obtain ⟨v7, e8, i9, h⟩ := gI_some h
    refine r_iald hx (k_1_201 hKS) rfl i9 e8 dX7_part_52 ?_
    exact r_xiret hx hE (by decide) h dX7_part_53
  have h := ite_f h c6
  by_cases c10 : a2 = 1
  · have h := ite_t h c10
    refine r_tabI (c9 := 1) (tgt := 54) hx dX7_part_6 c10 (by decide +kernel) ?_
    refine r_aload_n (k0 := 0) hx dX7_part_54 rfl rfl ?_
    refine g_301 hx (k_0_6 hKS) wf_X7_21 dX7_part_55 ?_
    refine g_202 hx (k_0_4 hKS) wf_X7_165 dX7_part_58 ?_
    refine r_iload_n (k0 := 1) hx dX7_part_61 rfl rfl ?_
    obtain ⟨v11, e12, i13, h⟩ := gI_some h
    refine r_iald hx (k_1_202 hKS) rfl i13 e12 dX7_part_62 ?_
    exact r_xiret hx hE (by decide) h dX7_part_63
  have h := ite_f h c10
  by_cases c14 : a2 = 2
  · have h := ite_t h c14
    refine r_tabI (c9 := 2) (tgt := 64) hx dX7_part_6 c14 (by decide +kernel) ?_
    refine r_aload_n (k0 := 0) hx dX7_part_64 rfl rfl ?_
    refine g_301 hx (k_0_6 hKS) wf_X7_21 dX7_part_65 ?_
    refine g_203 hx (k_0_4 hKS) wf_X7_168 dX7_part_68 ?_
    refine r_iload_n (k0 := 1) hx dX7_part_71 rfl rfl ?_
    obtain ⟨v15, e16, i17, h⟩ := gI_some h
    refine r_iald hx (k_1_203 hKS) rfl i17 e16 dX7_part_72 ?_
    exact r_xiret hx hE (by decide) h dX7_part_73
  have h := ite_f h c14
  by_cases c18 : a2 = 3
  · have h := ite_t h c18
    refine r_tabI (c9 := 3) (tgt := 74) hx dX7_part_6 c18 (by decide +kernel) ?_
    refine r_aload_n (k0 := 0) hx dX7_part_74 rfl rfl ?_
    refine g_301 hx (k_0_6 hKS) wf_X7_21 dX7_part_75 ?_
    refine g_204 hx (k_0_4 hKS) wf_X7_171 dX7_part_78 ?_
    refine r_iload_n (k0 := 1) hx dX7_part_81 rfl rfl ?_
    obtain ⟨v19, e20, i21, h⟩ := gI_some h
    refine r_iald hx (k_1_204 hKS) rfl i21 e20 dX7_part_82 ?_
    exact r_xiret hx hE (by decide) h dX7_part_83
  have h := ite_f h c18
  by_cases c22 : a2 = 4
  · have h := ite_t h c22
    refine r_tabI (c9 := 4) (tgt := 84) hx dX7_part_6 c22 (by decide +kernel) ?_
    refine r_aload_n (k0 := 0) hx dX7_part_84 rfl rfl ?_
    refine g_301 hx (k_0_6 hKS) wf_X7_21 dX7_part_85 ?_
    refine g_205 hx (k_0_4 hKS) wf_X7_174 dX7_part_88 ?_
    refine r_iload_n (k0 := 1) hx dX7_part_91 rfl rfl ?_
    obtain ⟨v23, e24, i25, h⟩ := gI_some h
    refine r_iald hx (k_1_205 hKS) rfl i25 e24 dX7_part_92 ?_
    exact r_xiret hx hE (by decide) h dX7_part_93
  have h := ite_f h c22
  by_cases c26 : a2 = 5
  · have h := ite_t h c26
    refine r_tabI (c9 := 5) (tgt := 94) hx dX7_part_6 c26 (by decide +kernel) ?_
    refine r_aload_n (k0 := 0) hx dX7_part_94 rfl rfl ?_
    refine g_301 hx (k_0_6 hKS) wf_X7_21 dX7_part_95 ?_
    refine g_206 hx (k_0_4 hKS) wf_X7_176 dX7_part_98 ?_
    refine r_iload_n (k0 := 1) hx dX7_part_101 rfl rfl ?_
    obtain ⟨v27, e28, i29, h⟩ := gI_some h
    refine r_iald hx (k_1_206 hKS) rfl i29 e28 dX7_part_102 ?_
    exact r_xiret hx hE (by decide) h dX7_part_103
  have h := ite_f h c26
  refine r_tabO (tgt := 104) hx dX7_part_6 (tabo_0_6 c6 c10 c14 c18 c22 c26) (by decide) ?_
  exact r_throw (code := 1) (ik := 60) (is := 179) (ic := 64) (text := "no such part of a term") (names := nms) hx hE.1 (by decide) (by decide) h (by decide +kernel) (by decide +kernel) (by rw [exn_1]; exact wa_X7_60) (by rw [exn_1]; exact wn_IllegalArgumentException) (by decide +kernel) (atS_ok hx aw_1_64 ab_1_64 (by decide +kernel)) ag_1_64_60 dX7_part_104 dX7_part_107 dX7_part_108 dX7_part_110 dX7_part_113 (by rw [hR]; exact ⟨by decide, Nat.le_of_ble_eq_true rfl, rfl, rfl⟩)
set_option maxHeartbeats 4000000 in
theorem C_X7_part {n : Nat} {c : YC} (hKS : ∀ k ∈ KK, k ∈ c.2.2.2.2) (hst : c.1.stackTraces = false) {S : St} {a1 : Int32} {a2 : Int32} {out : XO3} (h : f_X7_part n S a1 a2 = some out) : MXI c yX7_part cX7_part 3 (some .int) rm_X7_part 2 12 S [.ref (c.2.2.1 0 6 0), .int a1, .int a2] out := mk_XI (own := RX7) (by decide +kernel) rfl (Nat.le_of_ble_eq_true rfl) hst (fun x hx hR hy hE => by subst hy; exact t_X7_part_0 hx hR hKS hE h)
def f_X7_levelPart (n : Nat) (S : St) (a1 : Int32) (a2 : Int32) : Option (XO3) :=
  bX (f_X7_needLevel n S a1) fun S1 v3 =>
  if a2 = 0 then
    bL (f_X1_codeOf n S1 a1) fun S7 v9 =>
    bI (f_X0_kindOf n S7 v9) fun S10 v12 =>
    some (S10, 0, v12)
  else if a2 = 1 then
    gI S1 2 0 a1 300 fun v14 =>
    some (S1, 0, v14)
  else if a2 = 2 then
    gI S1 3 0 a1 300 fun v18 =>
    some (S1, 0, v18)
  else if a2 = 3 then
    bL (f_X1_codeOf n S1 a1) fun S22 v24 =>
    bI (f_X0_sizeOf n S22 v24) fun S25 v27 =>
    some (S25, 0, v27)
  else some (S1, 1, 0)
set_option maxRecDepth 100000 in
set_option maxHeartbeats 4000000 in
theorem t_X7_levelPart_0 {n : Nat} {x : XC} (hx : CX x cX7_levelPart 3 RX7) (hR : x_R x = rm_X7_levelPart) (hKS : ∀ k ∈ KK, k ∈ x_K x) {out : XO3} (hE : XEI x .int 2 12 out) {S : St} {a1 : Int32} {a2 : Int32} (h : f_X7_levelPart n S a1 a2 = some out) : WX x 3 0 0 S 0 [(0, .ref (x_ad x 0 6 0)), (1, .int a1), (2, .int a2)] [] := by
  unfold f_X7_levelPart at h
  refine r_aload_n (k0 := 0) hx dX7_levelPart_0 rfl rfl ?_
  refine r_iload_n (k0 := 1) hx dX7_levelPart_1 rfl rfl ?_
  obtain ⟨S1, t4, v3, c2, x5, h⟩ := bX_some h
  refine r_XV (ci := 6) (As := [.int a1]) (rest := []) hx hE.1 (C_X7_needLevel (c := x_y x) hKS hE.1.2.2.2 c2) (k_0_6 hKS) rfl wl_X7_79 wi_X7_needLevel we_X7_needLevel wn_X7 wc_X7_needLevel dy_X7_needLevel rfl (by rw [hR]; decide +kernel) (by decide) rfl (Nat.le_of_ble_eq_true rfl) dX7_levelPart_2 x5 (fun z9 => ?_)
  have h := h z9
  refine r_iload_n (k0 := 2) hx dX7_levelPart_5 rfl rfl ?_
  by_cases c6 : a2 = 0
  · have h := ite_t h c6
    refine r_tabI (c9 := 0) (tgt := 36) hx dX7_levelPart_6 c6 (by decide +kernel) ?_
    refine r_aload_n (k0 := 0) hx dX7_levelPart_36 rfl rfl ?_
    refine g_300 hx (k_0_6 hKS) wf_X7_10 dX7_levelPart_37 ?_
    refine r_iload_n (k0 := 1) hx dX7_levelPart_40 rfl rfl ?_
    obtain ⟨S7, v9, c8, h⟩ := bL_some h
    refine r_Vl (ci := 0) (As := [.int a1]) (rest := []) hx (C_X1_codeOf (c := x_y x) hKS c8) (k_0_0 hKS) rfl wl_X7_83 wi_X1_codeOf we_X1_codeOf wn_X1 wc_X1_codeOf dy_X1_codeOf rfl (by rw [hR]; decide +kernel) rfl (Nat.le_of_ble_eq_true rfl) dX7_levelPart_41 ?_
    obtain ⟨S10, v12, c11, h⟩ := bI_some h
    refine r_Si (As := [.long v9]) (rest := []) hx (C_X0_kindOf (c := x_y x) hKS c11) wl_X7_181 wt_X0_kindOf wn_X0 wc_X0_kindOf dy_X0_kindOf rfl (by rw [hR]; decide +kernel) rfl (Nat.le_of_ble_eq_true rfl) dX7_levelPart_44 ?_
    exact r_xiret hx hE (by decide) h dX7_levelPart_47
  have h := ite_f h c6
  by_cases c13 : a2 = 1
  · have h := ite_t h c13
    refine r_tabI (c9 := 1) (tgt := 48) hx dX7_levelPart_6 c13 (by decide +kernel) ?_
    refine r_aload_n (k0 := 0) hx dX7_levelPart_48 rfl rfl ?_
    refine g_300 hx (k_0_6 hKS) wf_X7_10 dX7_levelPart_49 ?_
    refine g_2 hx (k_0_0 hKS) wf_X7_184 dX7_levelPart_52 ?_
    refine r_iload_n (k0 := 1) hx dX7_levelPart_55 rfl rfl ?_
    obtain ⟨v14, e15, i16, h⟩ := gI_some h
    refine r_iald hx (k_1_2 hKS) rfl i16 e15 dX7_levelPart_56 ?_
    exact r_xiret hx hE (by decide) h dX7_levelPart_57
  have h := ite_f h c13
  by_cases c17 : a2 = 2
  · have h := ite_t h c17
    refine r_tabI (c9 := 2) (tgt := 58) hx dX7_levelPart_6 c17 (by decide +kernel) ?_
    refine r_aload_n (k0 := 0) hx dX7_levelPart_58 rfl rfl ?_
    refine g_300 hx (k_0_6 hKS) wf_X7_10 dX7_levelPart_59 ?_
    refine g_3 hx (k_0_0 hKS) wf_X7_185 dX7_levelPart_62 ?_
    refine r_iload_n (k0 := 1) hx dX7_levelPart_65 rfl rfl ?_
    obtain ⟨v18, e19, i20, h⟩ := gI_some h
    refine r_iald hx (k_1_3 hKS) rfl i20 e19 dX7_levelPart_66 ?_
    exact r_xiret hx hE (by decide) h dX7_levelPart_67
  have h := ite_f h c17
  by_cases c21 : a2 = 3
  · have h := ite_t h c21
    refine r_tabI (c9 := 3) (tgt := 68) hx dX7_levelPart_6 c21 (by decide +kernel) ?_
    refine r_aload_n (k0 := 0) hx dX7_levelPart_68 rfl rfl ?_
    refine g_300 hx (k_0_6 hKS) wf_X7_10 dX7_levelPart_69 ?_
    refine r_iload_n (k0 := 1) hx dX7_levelPart_72 rfl rfl ?_
    obtain ⟨S22, v24, c23, h⟩ := bL_some h
    refine r_Vl (ci := 0) (As := [.int a1]) (rest := []) hx (C_X1_codeOf (c := x_y x) hKS c23) (k_0_0 hKS) rfl wl_X7_83 wi_X1_codeOf we_X1_codeOf wn_X1 wc_X1_codeOf dy_X1_codeOf rfl (by rw [hR]; decide +kernel) rfl (Nat.le_of_ble_eq_true rfl) dX7_levelPart_73 ?_
    obtain ⟨S25, v27, c26, h⟩ := bI_some h
    refine r_Si (As := [.long v24]) (rest := []) hx (C_X0_sizeOf (c := x_y x) hKS c26) wl_X7_186 wt_X0_sizeOf wn_X0 wc_X0_sizeOf dy_X0_sizeOf rfl (by rw [hR]; decide +kernel) rfl (Nat.le_of_ble_eq_true rfl) dX7_levelPart_76 ?_
    exact r_xiret hx hE (by decide) h dX7_levelPart_79
  have h := ite_f h c21
  refine r_tabO (tgt := 80) hx dX7_levelPart_6 (tabo_0_4 c6 c13 c17 c21) (by decide) ?_
  exact r_throw (code := 1) (ik := 60) (is := 189) (ic := 64) (text := "no such part of a level") (names := nms) hx hE.1 (by decide) (by decide) h (by decide +kernel) (by decide +kernel) (by rw [exn_1]; exact wa_X7_60) (by rw [exn_1]; exact wn_IllegalArgumentException) (by decide +kernel) (atS_ok hx aw_1_64 ab_1_64 (by decide +kernel)) ag_1_64_60 dX7_levelPart_80 dX7_levelPart_83 dX7_levelPart_84 dX7_levelPart_86 dX7_levelPart_89 (by rw [hR]; exact ⟨by decide, Nat.le_of_ble_eq_true rfl, rfl, rfl⟩)
set_option maxHeartbeats 4000000 in
theorem C_X7_levelPart {n : Nat} {c : YC} (hKS : ∀ k ∈ KK, k ∈ c.2.2.2.2) (hst : c.1.stackTraces = false) {S : St} {a1 : Int32} {a2 : Int32} {out : XO3} (h : f_X7_levelPart n S a1 a2 = some out) : MXI c yX7_levelPart cX7_levelPart 3 (some .int) rm_X7_levelPart 2 12 S [.ref (c.2.2.1 0 6 0), .int a1, .int a2] out := mk_XI (own := RX7) (by decide +kernel) rfl (Nat.le_of_ble_eq_true rfl) hst (fun x hx hR hy hE => by subst hy; exact t_X7_levelPart_0 hx hR hKS hE h)
def f_X7_declared (n : Nat) (S : St) (a1 : Int32) (a2 : Int32) : Option (XO3) :=
  bX (f_X7_needName n S a1) fun S1 v3 =>
  if a2 = 0 then
    gI S1 51 0 a1 40 fun v7 =>
    some (S1, 0, v7)
  else if a2 = 1 then
    gI S1 52 0 a1 40 fun v11 =>
    some (S1, 0, v11)
  else if a2 = 2 then
    gI S1 53 0 a1 40 fun v15 =>
    some (S1, 0, v15)
  else some (S1, 1, 0)
set_option maxRecDepth 100000 in
set_option maxHeartbeats 4000000 in
theorem t_X7_declared_0 {n : Nat} {x : XC} (hx : CX x cX7_declared 3 RX7) (hR : x_R x = rm_X7_declared) (hKS : ∀ k ∈ KK, k ∈ x_K x) {out : XO3} (hE : XEI x .int 2 12 out) {S : St} {a1 : Int32} {a2 : Int32} (h : f_X7_declared n S a1 a2 = some out) : WX x 3 0 0 S 0 [(0, .ref (x_ad x 0 6 0)), (1, .int a1), (2, .int a2)] [] := by
  unfold f_X7_declared at h
  refine r_aload_n (k0 := 0) hx dX7_declared_0 rfl rfl ?_
  refine r_iload_n (k0 := 1) hx dX7_declared_1 rfl rfl ?_
  obtain ⟨S1, t4, v3, c2, x5, h⟩ := bX_some h
  refine r_XV (ci := 6) (As := [.int a1]) (rest := []) hx hE.1 (C_X7_needName (c := x_y x) hKS hE.1.2.2.2 c2) (k_0_6 hKS) rfl wl_X7_111 wi_X7_needName we_X7_needName wn_X7 wc_X7_needName dy_X7_needName rfl (by rw [hR]; decide +kernel) (by decide) rfl (Nat.le_of_ble_eq_true rfl) dX7_declared_2 x5 (fun z9 => ?_)
  have h := h z9
  refine r_iload_n (k0 := 2) hx dX7_declared_5 rfl rfl ?_
  by_cases c6 : a2 = 0
  · have h := ite_t h c6
    refine r_tabI (c9 := 0) (tgt := 32) hx dX7_declared_6 c6 (by decide +kernel) ?_
    refine r_aload_n (k0 := 0) hx dX7_declared_32 rfl rfl ?_
    refine g_302 hx (k_0_6 hKS) wf_X7_28 dX7_declared_33 ?_
    refine g_51 hx (k_0_1 hKS) wf_X7_191 dX7_declared_36 ?_
    refine r_iload_n (k0 := 1) hx dX7_declared_39 rfl rfl ?_
    obtain ⟨v7, e8, i9, h⟩ := gI_some h
    refine r_iald hx (k_1_51 hKS) rfl i9 e8 dX7_declared_40 ?_
    exact r_xiret hx hE (by decide) h dX7_declared_41
  have h := ite_f h c6
  by_cases c10 : a2 = 1
  · have h := ite_t h c10
    refine r_tabI (c9 := 1) (tgt := 42) hx dX7_declared_6 c10 (by decide +kernel) ?_
    refine r_aload_n (k0 := 0) hx dX7_declared_42 rfl rfl ?_
    refine g_302 hx (k_0_6 hKS) wf_X7_28 dX7_declared_43 ?_
    refine g_52 hx (k_0_1 hKS) wf_X7_194 dX7_declared_46 ?_
    refine r_iload_n (k0 := 1) hx dX7_declared_49 rfl rfl ?_
    obtain ⟨v11, e12, i13, h⟩ := gI_some h
    refine r_iald hx (k_1_52 hKS) rfl i13 e12 dX7_declared_50 ?_
    exact r_xiret hx hE (by decide) h dX7_declared_51
  have h := ite_f h c10
  by_cases c14 : a2 = 2
  · have h := ite_t h c14
    refine r_tabI (c9 := 2) (tgt := 52) hx dX7_declared_6 c14 (by decide +kernel) ?_
    refine r_aload_n (k0 := 0) hx dX7_declared_52 rfl rfl ?_
    refine g_302 hx (k_0_6 hKS) wf_X7_28 dX7_declared_53 ?_
    refine g_53 hx (k_0_1 hKS) wf_X7_197 dX7_declared_56 ?_
    refine r_iload_n (k0 := 1) hx dX7_declared_59 rfl rfl ?_
    obtain ⟨v15, e16, i17, h⟩ := gI_some h
    refine r_iald hx (k_1_53 hKS) rfl i17 e16 dX7_declared_60 ?_
    exact r_xiret hx hE (by decide) h dX7_declared_61
  have h := ite_f h c14
  refine r_tabO (tgt := 62) hx dX7_declared_6 (tabo_0_3 c6 c10 c14) (by decide) ?_
  exact r_throw (code := 1) (ik := 60) (is := 200) (ic := 64) (text := "no such part of a name") (names := nms) hx hE.1 (by decide) (by decide) h (by decide +kernel) (by decide +kernel) (by rw [exn_1]; exact wa_X7_60) (by rw [exn_1]; exact wn_IllegalArgumentException) (by decide +kernel) (atS_ok hx aw_1_64 ab_1_64 (by decide +kernel)) ag_1_64_60 dX7_declared_62 dX7_declared_65 dX7_declared_66 dX7_declared_68 dX7_declared_71 (by rw [hR]; exact ⟨by decide, Nat.le_of_ble_eq_true rfl, rfl, rfl⟩)
set_option maxHeartbeats 4000000 in
theorem C_X7_declared {n : Nat} {c : YC} (hKS : ∀ k ∈ KK, k ∈ c.2.2.2.2) (hst : c.1.stackTraces = false) {S : St} {a1 : Int32} {a2 : Int32} {out : XO3} (h : f_X7_declared n S a1 a2 = some out) : MXI c yX7_declared cX7_declared 3 (some .int) rm_X7_declared 2 12 S [.ref (c.2.2.1 0 6 0), .int a1, .int a2] out := mk_XI (own := RX7) (by decide +kernel) rfl (Nat.le_of_ble_eq_true rfl) hst (fun x hx hR hy hE => by subst hy; exact t_X7_declared_0 hx hR hKS hE h)
