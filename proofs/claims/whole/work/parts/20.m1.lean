theorem dX8_isIn_0 : decode cX8_isIn 0 = .ok (.iload_n 0, 1) := by decide +kernel
theorem dX8_isIn_1 : decode cX8_isIn 1 = .ok (.iload_n 1, 1) := by decide +kernel
theorem dX8_isIn_2 : decode cX8_isIn 2 = .ok (.if_icmp .lt 12, 3) := by decide +kernel
theorem dX8_isIn_5 : decode cX8_isIn 5 = .ok (.iload_n 0, 1) := by decide +kernel
theorem dX8_isIn_6 : decode cX8_isIn 6 = .ok (.iload_n 2, 1) := by decide +kernel
theorem dX8_isIn_7 : decode cX8_isIn 7 = .ok (.if_icmp .gt 7, 3) := by decide +kernel
theorem dX8_isIn_10 : decode cX8_isIn 10 = .ok (.iconst 1, 1) := by decide +kernel
theorem dX8_isIn_11 : decode cX8_isIn 11 = .ok (.goto 4, 3) := by decide +kernel
theorem dX8_isIn_14 : decode cX8_isIn 14 = .ok (.iconst 0, 1) := by decide +kernel
theorem dX8_isIn_15 : decode cX8_isIn 15 = .ok (.ireturn, 1) := by decide +kernel
theorem dy_X8_isIn : DY yX8_isIn 3 := by decide +kernel
theorem dX8_isLevel_0 : decode cX8_isLevel 0 = .ok (.iload_n 1, 1) := by decide +kernel
theorem dX8_isLevel_1 : decode cX8_isLevel 1 = .ok (.iconst 0, 1) := by decide +kernel
theorem dX8_isLevel_2 : decode cX8_isLevel 2 = .ok (.aload_n 0, 1) := by decide +kernel
theorem dX8_isLevel_3 : decode cX8_isLevel 3 = .ok (.getfield 22, 3) := by decide +kernel
theorem dX8_isLevel_6 : decode cX8_isLevel 6 = .ok (.iconst 1, 1) := by decide +kernel
theorem dX8_isLevel_7 : decode cX8_isLevel 7 = .ok (.isub, 1) := by decide +kernel
theorem dX8_isLevel_8 : decode cX8_isLevel 8 = .ok (.invokestatic 115, 3) := by decide +kernel
theorem dX8_isLevel_11 : decode cX8_isLevel 11 = .ok (.ireturn, 1) := by decide +kernel
theorem dy_X8_isLevel : DY yX8_isLevel 1 := by decide +kernel
theorem dX8_isTerm_0 : decode cX8_isTerm 0 = .ok (.iload_n 1, 1) := by decide +kernel
theorem dX8_isTerm_1 : decode cX8_isTerm 1 = .ok (.iconst 0, 1) := by decide +kernel
theorem dX8_isTerm_2 : decode cX8_isTerm 2 = .ok (.aload_n 0, 1) := by decide +kernel
theorem dX8_isTerm_3 : decode cX8_isTerm 3 = .ok (.getfield 109, 3) := by decide +kernel
theorem dX8_isTerm_6 : decode cX8_isTerm 6 = .ok (.iconst 1, 1) := by decide +kernel
theorem dX8_isTerm_7 : decode cX8_isTerm 7 = .ok (.isub, 1) := by decide +kernel
theorem dX8_isTerm_8 : decode cX8_isTerm 8 = .ok (.invokestatic 115, 3) := by decide +kernel
theorem dX8_isTerm_11 : decode cX8_isTerm 11 = .ok (.ireturn, 1) := by decide +kernel
theorem dy_X8_isTerm : DY yX8_isTerm 1 := by decide +kernel
theorem dX8_isName_0 : decode cX8_isName 0 = .ok (.iload_n 1, 1) := by decide +kernel
theorem dX8_isName_1 : decode cX8_isName 1 = .ok (.iconst 0, 1) := by decide +kernel
theorem dX8_isName_2 : decode cX8_isName 2 = .ok (.aload_n 0, 1) := by decide +kernel
theorem dX8_isName_3 : decode cX8_isName 3 = .ok (.getfield 112, 3) := by decide +kernel
theorem dX8_isName_6 : decode cX8_isName 6 = .ok (.iconst 1, 1) := by decide +kernel
theorem dX8_isName_7 : decode cX8_isName 7 = .ok (.isub, 1) := by decide +kernel
theorem dX8_isName_8 : decode cX8_isName 8 = .ok (.invokestatic 115, 3) := by decide +kernel
theorem dX8_isName_11 : decode cX8_isName 11 = .ok (.ireturn, 1) := by decide +kernel
theorem dy_X8_isName : DY yX8_isName 1 := by decide +kernel
theorem dX8_openOf_0 : decode cX8_openOf 0 = .ok (.iload_n 1, 1) := by decide +kernel
theorem dX8_openOf_1 : decode cX8_openOf 1 = .ok (.iconst 3, 1) := by decide +kernel
theorem dX8_openOf_2 : decode cX8_openOf 2 = .ok (.if_icmp .ge 16, 3) := by decide +kernel
theorem dX8_openOf_5 : decode cX8_openOf 5 = .ok (.iload_n 1, 1) := by decide +kernel
theorem dX8_openOf_6 : decode cX8_openOf 6 = .ok (.iconst 1, 1) := by decide +kernel
theorem dX8_openOf_7 : decode cX8_openOf 7 = .ok (.if_icmp .ne 9, 3) := by decide +kernel
theorem dX8_openOf_10 : decode cX8_openOf 10 = .ok (.iload_n 2, 1) := by decide +kernel
theorem dX8_openOf_11 : decode cX8_openOf 11 = .ok (.iconst 1, 1) := by decide +kernel
theorem dX8_openOf_12 : decode cX8_openOf 12 = .ok (.iadd, 1) := by decide +kernel
theorem dX8_openOf_13 : decode cX8_openOf 13 = .ok (.goto 4, 3) := by decide +kernel
theorem dX8_openOf_16 : decode cX8_openOf 16 = .ok (.iconst 0, 1) := by decide +kernel
theorem dX8_openOf_17 : decode cX8_openOf 17 = .ok (.ireturn, 1) := by decide +kernel
theorem dX8_openOf_18 : decode cX8_openOf 18 = .ok (.aload_n 0, 1) := by decide +kernel
theorem dX8_openOf_19 : decode cX8_openOf 19 = .ok (.getfield 41, 3) := by decide +kernel
theorem dX8_openOf_22 : decode cX8_openOf 22 = .ok (.iload_n 2, 1) := by decide +kernel
theorem dX8_openOf_23 : decode cX8_openOf 23 = .ok (.iaload, 1) := by decide +kernel
theorem dX8_openOf_24 : decode cX8_openOf 24 = .ok (.istore 5, 2) := by decide +kernel
theorem dX8_openOf_26 : decode cX8_openOf 26 = .ok (.iload_n 1, 1) := by decide +kernel
theorem dX8_openOf_27 : decode cX8_openOf 27 = .ok (.iconst 3, 1) := by decide +kernel
theorem dX8_openOf_28 : decode cX8_openOf 28 = .ok (.if_icmp .eq 8, 3) := by decide +kernel
theorem dX8_openOf_31 : decode cX8_openOf 31 = .ok (.iload_n 1, 1) := by decide +kernel
theorem dX8_openOf_32 : decode cX8_openOf 32 = .ok (.iconst 4, 1) := by decide +kernel
theorem dX8_openOf_33 : decode cX8_openOf 33 = .ok (.if_icmp .ne 14, 3) := by decide +kernel
theorem dX8_openOf_36 : decode cX8_openOf 36 = .ok (.aload_n 0, 1) := by decide +kernel
theorem dX8_openOf_37 : decode cX8_openOf 37 = .ok (.getfield 41, 3) := by decide +kernel
theorem dX8_openOf_40 : decode cX8_openOf 40 = .ok (.iload_n 3, 1) := by decide +kernel
theorem dX8_openOf_41 : decode cX8_openOf 41 = .ok (.iaload, 1) := by decide +kernel
theorem dX8_openOf_42 : decode cX8_openOf 42 = .ok (.iconst 1, 1) := by decide +kernel
theorem dX8_openOf_43 : decode cX8_openOf 43 = .ok (.isub, 1) := by decide +kernel
theorem dX8_openOf_44 : decode cX8_openOf 44 = .ok (.goto 9, 3) := by decide +kernel
theorem dX8_openOf_47 : decode cX8_openOf 47 = .ok (.aload_n 0, 1) := by decide +kernel
theorem dX8_openOf_48 : decode cX8_openOf 48 = .ok (.getfield 41, 3) := by decide +kernel
theorem dX8_openOf_51 : decode cX8_openOf 51 = .ok (.iload_n 3, 1) := by decide +kernel
theorem dX8_openOf_52 : decode cX8_openOf 52 = .ok (.iaload, 1) := by decide +kernel
theorem dX8_openOf_53 : decode cX8_openOf 53 = .ok (.istore 6, 2) := by decide +kernel
theorem dX8_openOf_55 : decode cX8_openOf 55 = .ok (.iload_n 1, 1) := by decide +kernel
theorem dX8_openOf_56 : decode cX8_openOf 56 = .ok (.bipush 6, 2) := by decide +kernel
theorem dX8_openOf_58 : decode cX8_openOf 58 = .ok (.if_icmp .ne 15, 3) := by decide +kernel
theorem dX8_openOf_61 : decode cX8_openOf 61 = .ok (.aload_n 0, 1) := by decide +kernel
theorem dX8_openOf_62 : decode cX8_openOf 62 = .ok (.getfield 41, 3) := by decide +kernel
theorem dX8_openOf_65 : decode cX8_openOf 65 = .ok (.iload 4, 2) := by decide +kernel
theorem dX8_openOf_67 : decode cX8_openOf 67 = .ok (.iaload, 1) := by decide +kernel
theorem dX8_openOf_68 : decode cX8_openOf 68 = .ok (.iconst 1, 1) := by decide +kernel
theorem dX8_openOf_69 : decode cX8_openOf 69 = .ok (.isub, 1) := by decide +kernel
theorem dX8_openOf_70 : decode cX8_openOf 70 = .ok (.goto 4, 3) := by decide +kernel
theorem dX8_openOf_73 : decode cX8_openOf 73 = .ok (.iconst 0, 1) := by decide +kernel
theorem dX8_openOf_74 : decode cX8_openOf 74 = .ok (.istore 7, 2) := by decide +kernel
theorem dX8_openOf_76 : decode cX8_openOf 76 = .ok (.iload 6, 2) := by decide +kernel
theorem dX8_openOf_78 : decode cX8_openOf 78 = .ok (.iload 5, 2) := by decide +kernel
theorem dX8_openOf_80 : decode cX8_openOf 80 = .ok (.if_icmp .le 8, 3) := by decide +kernel
theorem dX8_openOf_83 : decode cX8_openOf 83 = .ok (.iload 6, 2) := by decide +kernel
theorem dX8_openOf_85 : decode cX8_openOf 85 = .ok (.goto 5, 3) := by decide +kernel
theorem dX8_openOf_88 : decode cX8_openOf 88 = .ok (.iload 5, 2) := by decide +kernel
theorem dX8_openOf_90 : decode cX8_openOf 90 = .ok (.istore 5, 2) := by decide +kernel
theorem dX8_openOf_92 : decode cX8_openOf 92 = .ok (.iload 7, 2) := by decide +kernel
theorem dX8_openOf_94 : decode cX8_openOf 94 = .ok (.iload 5, 2) := by decide +kernel
theorem dX8_openOf_96 : decode cX8_openOf 96 = .ok (.if_icmp .le 8, 3) := by decide +kernel
theorem dX8_openOf_99 : decode cX8_openOf 99 = .ok (.iload 7, 2) := by decide +kernel
theorem dX8_openOf_101 : decode cX8_openOf 101 = .ok (.goto 5, 3) := by decide +kernel
theorem dX8_openOf_104 : decode cX8_openOf 104 = .ok (.iload 5, 2) := by decide +kernel
theorem dX8_openOf_106 : decode cX8_openOf 106 = .ok (.ireturn, 1) := by decide +kernel
theorem dy_X8_openOf : DY yX8_openOf 4 := by decide +kernel
theorem dX8_numberOfLevel_0 : decode cX8_numberOfLevel 0 = .ok (.iconst 1, 1) := by decide +kernel
theorem dX8_numberOfLevel_1 : decode cX8_numberOfLevel 1 = .ok (.iload_n 1, 1) := by decide +kernel
theorem dX8_numberOfLevel_2 : decode cX8_numberOfLevel 2 = .ok (.ifCond .le 17, 3) := by decide +kernel
theorem dX8_numberOfLevel_5 : decode cX8_numberOfLevel 5 = .ok (.iload_n 1, 1) := by decide +kernel
theorem dX8_numberOfLevel_6 : decode cX8_numberOfLevel 6 = .ok (.iconst 4, 1) := by decide +kernel
theorem dX8_numberOfLevel_7 : decode cX8_numberOfLevel 7 = .ok (.if_icmp .ge 12, 3) := by decide +kernel
theorem dX8_numberOfLevel_10 : decode cX8_numberOfLevel 10 = .ok (.aload_n 0, 1) := by decide +kernel
theorem dX8_numberOfLevel_11 : decode cX8_numberOfLevel 11 = .ok (.getfield 19, 3) := by decide +kernel
theorem dX8_numberOfLevel_14 : decode cX8_numberOfLevel 14 = .ok (.iload_n 2, 1) := by decide +kernel
theorem dX8_numberOfLevel_15 : decode cX8_numberOfLevel 15 = .ok (.iaload, 1) := by decide +kernel
theorem dX8_numberOfLevel_16 : decode cX8_numberOfLevel 16 = .ok (.goto 4, 3) := by decide +kernel
theorem dX8_numberOfLevel_19 : decode cX8_numberOfLevel 19 = .ok (.iconst 0, 1) := by decide +kernel
theorem dX8_numberOfLevel_20 : decode cX8_numberOfLevel 20 = .ok (.iadd, 1) := by decide +kernel
theorem dX8_numberOfLevel_21 : decode cX8_numberOfLevel 21 = .ok (.iload_n 1, 1) := by decide +kernel
theorem dX8_numberOfLevel_22 : decode cX8_numberOfLevel 22 = .ok (.iconst 2, 1) := by decide +kernel
theorem dX8_numberOfLevel_23 : decode cX8_numberOfLevel 23 = .ok (.if_icmp .eq 8, 3) := by decide +kernel
theorem dX8_numberOfLevel_26 : decode cX8_numberOfLevel 26 = .ok (.iload_n 1, 1) := by decide +kernel
theorem dX8_numberOfLevel_27 : decode cX8_numberOfLevel 27 = .ok (.iconst 3, 1) := by decide +kernel
theorem dX8_numberOfLevel_28 : decode cX8_numberOfLevel 28 = .ok (.if_icmp .ne 12, 3) := by decide +kernel
theorem dX8_numberOfLevel_31 : decode cX8_numberOfLevel 31 = .ok (.aload_n 0, 1) := by decide +kernel
theorem dX8_numberOfLevel_32 : decode cX8_numberOfLevel 32 = .ok (.getfield 19, 3) := by decide +kernel
theorem dX8_numberOfLevel_35 : decode cX8_numberOfLevel 35 = .ok (.iload_n 3, 1) := by decide +kernel
theorem dX8_numberOfLevel_36 : decode cX8_numberOfLevel 36 = .ok (.iaload, 1) := by decide +kernel
theorem dX8_numberOfLevel_37 : decode cX8_numberOfLevel 37 = .ok (.goto 4, 3) := by decide +kernel
theorem dX8_numberOfLevel_40 : decode cX8_numberOfLevel 40 = .ok (.iconst 0, 1) := by decide +kernel
theorem dX8_numberOfLevel_41 : decode cX8_numberOfLevel 41 = .ok (.iadd, 1) := by decide +kernel
theorem dX8_numberOfLevel_42 : decode cX8_numberOfLevel 42 = .ok (.istore 4, 2) := by decide +kernel
theorem dX8_numberOfLevel_44 : decode cX8_numberOfLevel 44 = .ok (.aload_n 0, 1) := by decide +kernel
theorem dX8_numberOfLevel_45 : decode cX8_numberOfLevel 45 = .ok (.getfield 78, 3) := by decide +kernel
theorem dX8_numberOfLevel_48 : decode cX8_numberOfLevel 48 = .ok (.ifCond .eq 12, 3) := by decide +kernel
theorem dX8_numberOfLevel_51 : decode cX8_numberOfLevel 51 = .ok (.iload 4, 2) := by decide +kernel
theorem dX8_numberOfLevel_53 : decode cX8_numberOfLevel 53 = .ok (.bipush 8, 2) := by decide +kernel
theorem dX8_numberOfLevel_55 : decode cX8_numberOfLevel 55 = .ok (.if_icmp .le 5, 3) := by decide +kernel
theorem dX8_numberOfLevel_58 : decode cX8_numberOfLevel 58 = .ok (.iconst (-1), 1) := by decide +kernel
theorem dX8_numberOfLevel_59 : decode cX8_numberOfLevel 59 = .ok (.ireturn, 1) := by decide +kernel
theorem dX8_numberOfLevel_60 : decode cX8_numberOfLevel 60 = .ok (.iconst 0, 1) := by decide +kernel
theorem dX8_numberOfLevel_61 : decode cX8_numberOfLevel 61 = .ok (.istore 5, 2) := by decide +kernel
theorem dX8_numberOfLevel_63 : decode cX8_numberOfLevel 63 = .ok (.iload 5, 2) := by decide +kernel
theorem dX8_numberOfLevel_65 : decode cX8_numberOfLevel 65 = .ok (.aload_n 0, 1) := by decide +kernel
theorem dX8_numberOfLevel_66 : decode cX8_numberOfLevel 66 = .ok (.getfield 22, 3) := by decide +kernel
theorem dX8_numberOfLevel_69 : decode cX8_numberOfLevel 69 = .ok (.if_icmp .ge 45, 3) := by decide +kernel
theorem dX8_numberOfLevel_72 : decode cX8_numberOfLevel 72 = .ok (.aload_n 0, 1) := by decide +kernel
theorem dX8_numberOfLevel_73 : decode cX8_numberOfLevel 73 = .ok (.getfield 7, 3) := by decide +kernel
theorem dX8_numberOfLevel_76 : decode cX8_numberOfLevel 76 = .ok (.iload 5, 2) := by decide +kernel
theorem dX8_numberOfLevel_78 : decode cX8_numberOfLevel 78 = .ok (.iaload, 1) := by decide +kernel
theorem dX8_numberOfLevel_79 : decode cX8_numberOfLevel 79 = .ok (.iload_n 1, 1) := by decide +kernel
theorem dX8_numberOfLevel_80 : decode cX8_numberOfLevel 80 = .ok (.if_icmp .ne 28, 3) := by decide +kernel
theorem dX8_numberOfLevel_83 : decode cX8_numberOfLevel 83 = .ok (.aload_n 0, 1) := by decide +kernel
theorem dX8_numberOfLevel_84 : decode cX8_numberOfLevel 84 = .ok (.getfield 13, 3) := by decide +kernel
theorem dX8_numberOfLevel_87 : decode cX8_numberOfLevel 87 = .ok (.iload 5, 2) := by decide +kernel
theorem dX8_numberOfLevel_89 : decode cX8_numberOfLevel 89 = .ok (.iaload, 1) := by decide +kernel
theorem dX8_numberOfLevel_90 : decode cX8_numberOfLevel 90 = .ok (.iload_n 2, 1) := by decide +kernel
theorem dX8_numberOfLevel_91 : decode cX8_numberOfLevel 91 = .ok (.if_icmp .ne 17, 3) := by decide +kernel
theorem dX8_numberOfLevel_94 : decode cX8_numberOfLevel 94 = .ok (.aload_n 0, 1) := by decide +kernel
theorem dX8_numberOfLevel_95 : decode cX8_numberOfLevel 95 = .ok (.getfield 16, 3) := by decide +kernel
theorem dX8_numberOfLevel_98 : decode cX8_numberOfLevel 98 = .ok (.iload 5, 2) := by decide +kernel
theorem dX8_numberOfLevel_100 : decode cX8_numberOfLevel 100 = .ok (.iaload, 1) := by decide +kernel
theorem dX8_numberOfLevel_101 : decode cX8_numberOfLevel 101 = .ok (.iload_n 3, 1) := by decide +kernel
theorem dX8_numberOfLevel_102 : decode cX8_numberOfLevel 102 = .ok (.if_icmp .ne 6, 3) := by decide +kernel
theorem dX8_numberOfLevel_105 : decode cX8_numberOfLevel 105 = .ok (.iload 5, 2) := by decide +kernel
theorem dX8_numberOfLevel_107 : decode cX8_numberOfLevel 107 = .ok (.ireturn, 1) := by decide +kernel
theorem dX8_numberOfLevel_108 : decode cX8_numberOfLevel 108 = .ok (.iinc 5 1, 3) := by decide +kernel
theorem dX8_numberOfLevel_111 : decode cX8_numberOfLevel 111 = .ok (.goto (-48), 3) := by decide +kernel
theorem dX8_numberOfLevel_114 : decode cX8_numberOfLevel 114 = .ok (.aload_n 0, 1) := by decide +kernel
theorem dX8_numberOfLevel_115 : decode cX8_numberOfLevel 115 = .ok (.getfield 22, 3) := by decide +kernel
theorem dX8_numberOfLevel_118 : decode cX8_numberOfLevel 118 = .ok (.sipush 300, 3) := by decide +kernel
theorem dX8_numberOfLevel_121 : decode cX8_numberOfLevel 121 = .ok (.if_icmp .ne 5, 3) := by decide +kernel
theorem dX8_numberOfLevel_124 : decode cX8_numberOfLevel 124 = .ok (.iconst (-1), 1) := by decide +kernel
theorem dX8_numberOfLevel_125 : decode cX8_numberOfLevel 125 = .ok (.ireturn, 1) := by decide +kernel
theorem dX8_numberOfLevel_126 : decode cX8_numberOfLevel 126 = .ok (.aload_n 0, 1) := by decide +kernel
theorem dX8_numberOfLevel_127 : decode cX8_numberOfLevel 127 = .ok (.getfield 7, 3) := by decide +kernel
theorem dX8_numberOfLevel_130 : decode cX8_numberOfLevel 130 = .ok (.aload_n 0, 1) := by decide +kernel
theorem dX8_numberOfLevel_131 : decode cX8_numberOfLevel 131 = .ok (.getfield 22, 3) := by decide +kernel
theorem dX8_numberOfLevel_134 : decode cX8_numberOfLevel 134 = .ok (.iload_n 1, 1) := by decide +kernel
theorem dX8_numberOfLevel_135 : decode cX8_numberOfLevel 135 = .ok (.iastore, 1) := by decide +kernel
theorem dX8_numberOfLevel_136 : decode cX8_numberOfLevel 136 = .ok (.aload_n 0, 1) := by decide +kernel
theorem dX8_numberOfLevel_137 : decode cX8_numberOfLevel 137 = .ok (.getfield 13, 3) := by decide +kernel
theorem dX8_numberOfLevel_140 : decode cX8_numberOfLevel 140 = .ok (.aload_n 0, 1) := by decide +kernel
theorem dX8_numberOfLevel_141 : decode cX8_numberOfLevel 141 = .ok (.getfield 22, 3) := by decide +kernel
theorem dX8_numberOfLevel_144 : decode cX8_numberOfLevel 144 = .ok (.iload_n 2, 1) := by decide +kernel
theorem dX8_numberOfLevel_145 : decode cX8_numberOfLevel 145 = .ok (.iastore, 1) := by decide +kernel
theorem dX8_numberOfLevel_146 : decode cX8_numberOfLevel 146 = .ok (.aload_n 0, 1) := by decide +kernel
theorem dX8_numberOfLevel_147 : decode cX8_numberOfLevel 147 = .ok (.getfield 16, 3) := by decide +kernel
theorem dX8_numberOfLevel_150 : decode cX8_numberOfLevel 150 = .ok (.aload_n 0, 1) := by decide +kernel
theorem dX8_numberOfLevel_151 : decode cX8_numberOfLevel 151 = .ok (.getfield 22, 3) := by decide +kernel
theorem dX8_numberOfLevel_154 : decode cX8_numberOfLevel 154 = .ok (.iload_n 3, 1) := by decide +kernel
theorem dX8_numberOfLevel_155 : decode cX8_numberOfLevel 155 = .ok (.iastore, 1) := by decide +kernel
theorem dX8_numberOfLevel_156 : decode cX8_numberOfLevel 156 = .ok (.aload_n 0, 1) := by decide +kernel
theorem dX8_numberOfLevel_157 : decode cX8_numberOfLevel 157 = .ok (.getfield 19, 3) := by decide +kernel
theorem dX8_numberOfLevel_160 : decode cX8_numberOfLevel 160 = .ok (.aload_n 0, 1) := by decide +kernel
theorem dX8_numberOfLevel_161 : decode cX8_numberOfLevel 161 = .ok (.getfield 22, 3) := by decide +kernel
theorem dX8_numberOfLevel_164 : decode cX8_numberOfLevel 164 = .ok (.iload 4, 2) := by decide +kernel
theorem dX8_numberOfLevel_166 : decode cX8_numberOfLevel 166 = .ok (.iastore, 1) := by decide +kernel
theorem dX8_numberOfLevel_167 : decode cX8_numberOfLevel 167 = .ok (.aload_n 0, 1) := by decide +kernel
theorem dX8_numberOfLevel_168 : decode cX8_numberOfLevel 168 = .ok (.dup, 1) := by decide +kernel
theorem dX8_numberOfLevel_169 : decode cX8_numberOfLevel 169 = .ok (.getfield 22, 3) := by decide +kernel
theorem dX8_numberOfLevel_172 : decode cX8_numberOfLevel 172 = .ok (.iconst 1, 1) := by decide +kernel
theorem dX8_numberOfLevel_173 : decode cX8_numberOfLevel 173 = .ok (.iadd, 1) := by decide +kernel
theorem dX8_numberOfLevel_174 : decode cX8_numberOfLevel 174 = .ok (.putfield 22, 3) := by decide +kernel
theorem dX8_numberOfLevel_177 : decode cX8_numberOfLevel 177 = .ok (.aload_n 0, 1) := by decide +kernel
theorem dX8_numberOfLevel_178 : decode cX8_numberOfLevel 178 = .ok (.getfield 22, 3) := by decide +kernel
theorem dX8_numberOfLevel_181 : decode cX8_numberOfLevel 181 = .ok (.iconst 1, 1) := by decide +kernel
theorem dX8_numberOfLevel_182 : decode cX8_numberOfLevel 182 = .ok (.isub, 1) := by decide +kernel
theorem dX8_numberOfLevel_183 : decode cX8_numberOfLevel 183 = .ok (.ireturn, 1) := by decide +kernel
theorem dy_X8_numberOfLevel : DY yX8_numberOfLevel 3 := by decide +kernel
theorem dX8_numberOfTerm_0 : decode cX8_numberOfTerm 0 = .ok (.iconst 1, 1) := by decide +kernel
theorem dX8_numberOfTerm_1 : decode cX8_numberOfTerm 1 = .ok (.iload_n 1, 1) := by decide +kernel
theorem dX8_numberOfTerm_2 : decode cX8_numberOfTerm 2 = .ok (.iconst 2, 1) := by decide +kernel
theorem dX8_numberOfTerm_3 : decode cX8_numberOfTerm 3 = .ok (.if_icmp .le 19, 3) := by decide +kernel
theorem dX8_numberOfTerm_6 : decode cX8_numberOfTerm 6 = .ok (.aload_n 0, 1) := by decide +kernel
theorem dX8_numberOfTerm_7 : decode cX8_numberOfTerm 7 = .ok (.getfield 38, 3) := by decide +kernel
theorem dX8_numberOfTerm_10 : decode cX8_numberOfTerm 10 = .ok (.iload_n 2, 1) := by decide +kernel
theorem dX8_numberOfTerm_11 : decode cX8_numberOfTerm 11 = .ok (.iaload, 1) := by decide +kernel
theorem dX8_numberOfTerm_12 : decode cX8_numberOfTerm 12 = .ok (.aload_n 0, 1) := by decide +kernel
theorem dX8_numberOfTerm_13 : decode cX8_numberOfTerm 13 = .ok (.getfield 38, 3) := by decide +kernel
theorem dX8_numberOfTerm_16 : decode cX8_numberOfTerm 16 = .ok (.iload_n 3, 1) := by decide +kernel
theorem dX8_numberOfTerm_17 : decode cX8_numberOfTerm 17 = .ok (.iaload, 1) := by decide +kernel
theorem dX8_numberOfTerm_18 : decode cX8_numberOfTerm 18 = .ok (.iadd, 1) := by decide +kernel
theorem dX8_numberOfTerm_19 : decode cX8_numberOfTerm 19 = .ok (.goto 4, 3) := by decide +kernel
theorem dX8_numberOfTerm_22 : decode cX8_numberOfTerm 22 = .ok (.iconst 0, 1) := by decide +kernel
theorem dX8_numberOfTerm_23 : decode cX8_numberOfTerm 23 = .ok (.iadd, 1) := by decide +kernel
theorem dX8_numberOfTerm_24 : decode cX8_numberOfTerm 24 = .ok (.iload_n 1, 1) := by decide +kernel
theorem dX8_numberOfTerm_25 : decode cX8_numberOfTerm 25 = .ok (.bipush 6, 2) := by decide +kernel
theorem dX8_numberOfTerm_27 : decode cX8_numberOfTerm 27 = .ok (.if_icmp .ne 13, 3) := by decide +kernel
theorem dX8_numberOfTerm_30 : decode cX8_numberOfTerm 30 = .ok (.aload_n 0, 1) := by decide +kernel
theorem dX8_numberOfTerm_31 : decode cX8_numberOfTerm 31 = .ok (.getfield 38, 3) := by decide +kernel
theorem dX8_numberOfTerm_34 : decode cX8_numberOfTerm 34 = .ok (.iload 4, 2) := by decide +kernel
theorem dX8_numberOfTerm_36 : decode cX8_numberOfTerm 36 = .ok (.iaload, 1) := by decide +kernel
theorem dX8_numberOfTerm_37 : decode cX8_numberOfTerm 37 = .ok (.goto 4, 3) := by decide +kernel
theorem dX8_numberOfTerm_40 : decode cX8_numberOfTerm 40 = .ok (.iconst 0, 1) := by decide +kernel
theorem dX8_numberOfTerm_41 : decode cX8_numberOfTerm 41 = .ok (.iadd, 1) := by decide +kernel
theorem dX8_numberOfTerm_42 : decode cX8_numberOfTerm 42 = .ok (.istore 5, 2) := by decide +kernel
theorem dX8_numberOfTerm_44 : decode cX8_numberOfTerm 44 = .ok (.aload_n 0, 1) := by decide +kernel
theorem dX8_numberOfTerm_45 : decode cX8_numberOfTerm 45 = .ok (.getfield 78, 3) := by decide +kernel
theorem dX8_numberOfTerm_48 : decode cX8_numberOfTerm 48 = .ok (.ifCond .eq 12, 3) := by decide +kernel
theorem dX8_numberOfTerm_51 : decode cX8_numberOfTerm 51 = .ok (.iload 5, 2) := by decide +kernel
theorem dX8_numberOfTerm_53 : decode cX8_numberOfTerm 53 = .ok (.bipush 60, 2) := by decide +kernel
theorem dX8_numberOfTerm_55 : decode cX8_numberOfTerm 55 = .ok (.if_icmp .le 5, 3) := by decide +kernel
theorem dX8_numberOfTerm_58 : decode cX8_numberOfTerm 58 = .ok (.iconst (-1), 1) := by decide +kernel
theorem dX8_numberOfTerm_59 : decode cX8_numberOfTerm 59 = .ok (.ireturn, 1) := by decide +kernel
theorem dX8_numberOfTerm_60 : decode cX8_numberOfTerm 60 = .ok (.iconst 0, 1) := by decide +kernel
theorem dX8_numberOfTerm_61 : decode cX8_numberOfTerm 61 = .ok (.istore 6, 2) := by decide +kernel
theorem dX8_numberOfTerm_63 : decode cX8_numberOfTerm 63 = .ok (.iload 6, 2) := by decide +kernel
theorem dX8_numberOfTerm_65 : decode cX8_numberOfTerm 65 = .ok (.aload_n 0, 1) := by decide +kernel
theorem dX8_numberOfTerm_66 : decode cX8_numberOfTerm 66 = .ok (.getfield 109, 3) := by decide +kernel
theorem dX8_numberOfTerm_69 : decode cX8_numberOfTerm 69 = .ok (.if_icmp .ge 57, 3) := by decide +kernel
theorem dX8_numberOfTerm_72 : decode cX8_numberOfTerm 72 = .ok (.aload_n 0, 1) := by decide +kernel
theorem dX8_numberOfTerm_73 : decode cX8_numberOfTerm 73 = .ok (.getfield 26, 3) := by decide +kernel
theorem dX8_numberOfTerm_76 : decode cX8_numberOfTerm 76 = .ok (.iload 6, 2) := by decide +kernel
theorem dX8_numberOfTerm_78 : decode cX8_numberOfTerm 78 = .ok (.iaload, 1) := by decide +kernel
theorem dX8_numberOfTerm_79 : decode cX8_numberOfTerm 79 = .ok (.iload_n 1, 1) := by decide +kernel
theorem dX8_numberOfTerm_80 : decode cX8_numberOfTerm 80 = .ok (.if_icmp .ne 40, 3) := by decide +kernel
theorem dX8_numberOfTerm_83 : decode cX8_numberOfTerm 83 = .ok (.aload_n 0, 1) := by decide +kernel
theorem dX8_numberOfTerm_84 : decode cX8_numberOfTerm 84 = .ok (.getfield 29, 3) := by decide +kernel
theorem dX8_numberOfTerm_87 : decode cX8_numberOfTerm 87 = .ok (.iload 6, 2) := by decide +kernel
theorem dX8_numberOfTerm_89 : decode cX8_numberOfTerm 89 = .ok (.iaload, 1) := by decide +kernel
theorem dX8_numberOfTerm_90 : decode cX8_numberOfTerm 90 = .ok (.iload_n 2, 1) := by decide +kernel
theorem dX8_numberOfTerm_91 : decode cX8_numberOfTerm 91 = .ok (.if_icmp .ne 29, 3) := by decide +kernel
theorem dX8_numberOfTerm_94 : decode cX8_numberOfTerm 94 = .ok (.aload_n 0, 1) := by decide +kernel
theorem dX8_numberOfTerm_95 : decode cX8_numberOfTerm 95 = .ok (.getfield 32, 3) := by decide +kernel
theorem dX8_numberOfTerm_98 : decode cX8_numberOfTerm 98 = .ok (.iload 6, 2) := by decide +kernel
theorem dX8_numberOfTerm_100 : decode cX8_numberOfTerm 100 = .ok (.iaload, 1) := by decide +kernel
theorem dX8_numberOfTerm_101 : decode cX8_numberOfTerm 101 = .ok (.iload_n 3, 1) := by decide +kernel
theorem dX8_numberOfTerm_102 : decode cX8_numberOfTerm 102 = .ok (.if_icmp .ne 18, 3) := by decide +kernel
theorem dX8_numberOfTerm_105 : decode cX8_numberOfTerm 105 = .ok (.aload_n 0, 1) := by decide +kernel
theorem dX8_numberOfTerm_106 : decode cX8_numberOfTerm 106 = .ok (.getfield 35, 3) := by decide +kernel
theorem dX8_numberOfTerm_109 : decode cX8_numberOfTerm 109 = .ok (.iload 6, 2) := by decide +kernel
theorem dX8_numberOfTerm_111 : decode cX8_numberOfTerm 111 = .ok (.iaload, 1) := by decide +kernel
theorem dX8_numberOfTerm_112 : decode cX8_numberOfTerm 112 = .ok (.iload 4, 2) := by decide +kernel
theorem dX8_numberOfTerm_114 : decode cX8_numberOfTerm 114 = .ok (.if_icmp .ne 6, 3) := by decide +kernel
theorem dX8_numberOfTerm_117 : decode cX8_numberOfTerm 117 = .ok (.iload 6, 2) := by decide +kernel
theorem dX8_numberOfTerm_119 : decode cX8_numberOfTerm 119 = .ok (.ireturn, 1) := by decide +kernel
theorem dX8_numberOfTerm_120 : decode cX8_numberOfTerm 120 = .ok (.iinc 6 1, 3) := by decide +kernel
theorem dX8_numberOfTerm_123 : decode cX8_numberOfTerm 123 = .ok (.goto (-60), 3) := by decide +kernel
theorem dX8_numberOfTerm_126 : decode cX8_numberOfTerm 126 = .ok (.aload_n 0, 1) := by decide +kernel
theorem dX8_numberOfTerm_127 : decode cX8_numberOfTerm 127 = .ok (.getfield 109, 3) := by decide +kernel
theorem dX8_numberOfTerm_130 : decode cX8_numberOfTerm 130 = .ok (.sipush 1500, 3) := by decide +kernel
theorem dX8_numberOfTerm_133 : decode cX8_numberOfTerm 133 = .ok (.if_icmp .ne 5, 3) := by decide +kernel
theorem dX8_numberOfTerm_136 : decode cX8_numberOfTerm 136 = .ok (.iconst (-1), 1) := by decide +kernel
theorem dX8_numberOfTerm_137 : decode cX8_numberOfTerm 137 = .ok (.ireturn, 1) := by decide +kernel
theorem dX8_numberOfTerm_138 : decode cX8_numberOfTerm 138 = .ok (.aload_n 0, 1) := by decide +kernel
theorem dX8_numberOfTerm_139 : decode cX8_numberOfTerm 139 = .ok (.getfield 26, 3) := by decide +kernel
theorem dX8_numberOfTerm_142 : decode cX8_numberOfTerm 142 = .ok (.aload_n 0, 1) := by decide +kernel
theorem dX8_numberOfTerm_143 : decode cX8_numberOfTerm 143 = .ok (.getfield 109, 3) := by decide +kernel
theorem dX8_numberOfTerm_146 : decode cX8_numberOfTerm 146 = .ok (.iload_n 1, 1) := by decide +kernel
theorem dX8_numberOfTerm_147 : decode cX8_numberOfTerm 147 = .ok (.iastore, 1) := by decide +kernel
theorem dX8_numberOfTerm_148 : decode cX8_numberOfTerm 148 = .ok (.aload_n 0, 1) := by decide +kernel
theorem dX8_numberOfTerm_149 : decode cX8_numberOfTerm 149 = .ok (.getfield 29, 3) := by decide +kernel
theorem dX8_numberOfTerm_152 : decode cX8_numberOfTerm 152 = .ok (.aload_n 0, 1) := by decide +kernel
theorem dX8_numberOfTerm_153 : decode cX8_numberOfTerm 153 = .ok (.getfield 109, 3) := by decide +kernel
theorem dX8_numberOfTerm_156 : decode cX8_numberOfTerm 156 = .ok (.iload_n 2, 1) := by decide +kernel
theorem dX8_numberOfTerm_157 : decode cX8_numberOfTerm 157 = .ok (.iastore, 1) := by decide +kernel
theorem dX8_numberOfTerm_158 : decode cX8_numberOfTerm 158 = .ok (.aload_n 0, 1) := by decide +kernel
theorem dX8_numberOfTerm_159 : decode cX8_numberOfTerm 159 = .ok (.getfield 32, 3) := by decide +kernel
theorem dX8_numberOfTerm_162 : decode cX8_numberOfTerm 162 = .ok (.aload_n 0, 1) := by decide +kernel
theorem dX8_numberOfTerm_163 : decode cX8_numberOfTerm 163 = .ok (.getfield 109, 3) := by decide +kernel
theorem dX8_numberOfTerm_166 : decode cX8_numberOfTerm 166 = .ok (.iload_n 3, 1) := by decide +kernel
theorem dX8_numberOfTerm_167 : decode cX8_numberOfTerm 167 = .ok (.iastore, 1) := by decide +kernel
theorem dX8_numberOfTerm_168 : decode cX8_numberOfTerm 168 = .ok (.aload_n 0, 1) := by decide +kernel
theorem dX8_numberOfTerm_169 : decode cX8_numberOfTerm 169 = .ok (.getfield 35, 3) := by decide +kernel
theorem dX8_numberOfTerm_172 : decode cX8_numberOfTerm 172 = .ok (.aload_n 0, 1) := by decide +kernel
theorem dX8_numberOfTerm_173 : decode cX8_numberOfTerm 173 = .ok (.getfield 109, 3) := by decide +kernel
theorem dX8_numberOfTerm_176 : decode cX8_numberOfTerm 176 = .ok (.iload 4, 2) := by decide +kernel
theorem dX8_numberOfTerm_178 : decode cX8_numberOfTerm 178 = .ok (.iastore, 1) := by decide +kernel
theorem dX8_numberOfTerm_179 : decode cX8_numberOfTerm 179 = .ok (.aload_n 0, 1) := by decide +kernel
theorem dX8_numberOfTerm_180 : decode cX8_numberOfTerm 180 = .ok (.getfield 38, 3) := by decide +kernel
theorem dX8_numberOfTerm_183 : decode cX8_numberOfTerm 183 = .ok (.aload_n 0, 1) := by decide +kernel
theorem dX8_numberOfTerm_184 : decode cX8_numberOfTerm 184 = .ok (.getfield 109, 3) := by decide +kernel
theorem dX8_numberOfTerm_187 : decode cX8_numberOfTerm 187 = .ok (.iload 5, 2) := by decide +kernel
theorem dX8_numberOfTerm_189 : decode cX8_numberOfTerm 189 = .ok (.iastore, 1) := by decide +kernel
theorem dX8_numberOfTerm_190 : decode cX8_numberOfTerm 190 = .ok (.aload_n 0, 1) := by decide +kernel
theorem dX8_numberOfTerm_191 : decode cX8_numberOfTerm 191 = .ok (.getfield 41, 3) := by decide +kernel
theorem dX8_numberOfTerm_194 : decode cX8_numberOfTerm 194 = .ok (.aload_n 0, 1) := by decide +kernel
theorem dX8_numberOfTerm_195 : decode cX8_numberOfTerm 195 = .ok (.getfield 109, 3) := by decide +kernel
theorem dX8_numberOfTerm_198 : decode cX8_numberOfTerm 198 = .ok (.aload_n 0, 1) := by decide +kernel
theorem dX8_numberOfTerm_199 : decode cX8_numberOfTerm 199 = .ok (.iload_n 1, 1) := by decide +kernel
theorem dX8_numberOfTerm_200 : decode cX8_numberOfTerm 200 = .ok (.iload_n 2, 1) := by decide +kernel
theorem dX8_numberOfTerm_201 : decode cX8_numberOfTerm 201 = .ok (.iload_n 3, 1) := by decide +kernel
theorem dX8_numberOfTerm_202 : decode cX8_numberOfTerm 202 = .ok (.iload 4, 2) := by decide +kernel
theorem dX8_numberOfTerm_204 : decode cX8_numberOfTerm 204 = .ok (.invokevirtual 119, 3) := by decide +kernel
theorem dX8_numberOfTerm_207 : decode cX8_numberOfTerm 207 = .ok (.iastore, 1) := by decide +kernel
theorem dX8_numberOfTerm_208 : decode cX8_numberOfTerm 208 = .ok (.aload_n 0, 1) := by decide +kernel
theorem dX8_numberOfTerm_209 : decode cX8_numberOfTerm 209 = .ok (.dup, 1) := by decide +kernel
theorem dX8_numberOfTerm_210 : decode cX8_numberOfTerm 210 = .ok (.getfield 109, 3) := by decide +kernel
theorem dX8_numberOfTerm_213 : decode cX8_numberOfTerm 213 = .ok (.iconst 1, 1) := by decide +kernel
theorem dX8_numberOfTerm_214 : decode cX8_numberOfTerm 214 = .ok (.iadd, 1) := by decide +kernel
theorem dX8_numberOfTerm_215 : decode cX8_numberOfTerm 215 = .ok (.putfield 109, 3) := by decide +kernel
theorem dX8_numberOfTerm_218 : decode cX8_numberOfTerm 218 = .ok (.aload_n 0, 1) := by decide +kernel
theorem dX8_numberOfTerm_219 : decode cX8_numberOfTerm 219 = .ok (.getfield 109, 3) := by decide +kernel
theorem dX8_numberOfTerm_222 : decode cX8_numberOfTerm 222 = .ok (.iconst 1, 1) := by decide +kernel
theorem dX8_numberOfTerm_223 : decode cX8_numberOfTerm 223 = .ok (.isub, 1) := by decide +kernel
theorem dX8_numberOfTerm_224 : decode cX8_numberOfTerm 224 = .ok (.ireturn, 1) := by decide +kernel
theorem dy_X8_numberOfTerm : DY yX8_numberOfTerm 4 := by decide +kernel
theorem dX8_orFull_0 : decode cX8_orFull 0 = .ok (.aload_n 0, 1) := by decide +kernel
theorem dX8_orFull_1 : decode cX8_orFull 1 = .ok (.iload_n 1, 1) := by decide +kernel
theorem dX8_orFull_2 : decode cX8_orFull 2 = .ok (.ifCond .ge 7, 3) := by decide +kernel
theorem dX8_orFull_5 : decode cX8_orFull 5 = .ok (.iload_n 2, 1) := by decide +kernel
theorem dX8_orFull_6 : decode cX8_orFull 6 = .ok (.goto 4, 3) := by decide +kernel
theorem dX8_orFull_9 : decode cX8_orFull 9 = .ok (.iconst 0, 1) := by decide +kernel
theorem dX8_orFull_10 : decode cX8_orFull 10 = .ok (.putfield 106, 3) := by decide +kernel
theorem dX8_orFull_13 : decode cX8_orFull 13 = .ok (.iload_n 1, 1) := by decide +kernel
theorem dX8_orFull_14 : decode cX8_orFull 14 = .ok (.ifCond .ge 7, 3) := by decide +kernel
theorem dX8_orFull_17 : decode cX8_orFull 17 = .ok (.iconst 0, 1) := by decide +kernel
theorem dX8_orFull_18 : decode cX8_orFull 18 = .ok (.goto 4, 3) := by decide +kernel
theorem dX8_orFull_21 : decode cX8_orFull 21 = .ok (.iload_n 1, 1) := by decide +kernel
theorem dX8_orFull_22 : decode cX8_orFull 22 = .ok (.ireturn, 1) := by decide +kernel
theorem dy_X8_orFull : DY yX8_orFull 2 := by decide +kernel
theorem dX8_behindLevel_0 : decode cX8_behindLevel 0 = .ok (.iload_n 1, 1) := by decide +kernel
theorem dX8_behindLevel_1 : decode cX8_behindLevel 1 = .ok (.istore_n 2, 1) := by decide +kernel
theorem dX8_behindLevel_2 : decode cX8_behindLevel 2 = .ok (.iconst 1, 1) := by decide +kernel
theorem dX8_behindLevel_3 : decode cX8_behindLevel 3 = .ok (.istore_n 3, 1) := by decide +kernel
theorem dX8_behindLevel_4 : decode cX8_behindLevel 4 = .ok (.iload_n 3, 1) := by decide +kernel
theorem dX8_behindLevel_5 : decode cX8_behindLevel 5 = .ok (.ifCond .le 44, 3) := by decide +kernel
theorem dX8_behindLevel_8 : decode cX8_behindLevel 8 = .ok (.aload_n 0, 1) := by decide +kernel
theorem dX8_behindLevel_9 : decode cX8_behindLevel 9 = .ok (.iload_n 2, 1) := by decide +kernel
theorem dX8_behindLevel_10 : decode cX8_behindLevel 10 = .ok (.iaload, 1) := by decide +kernel
theorem dX8_behindLevel_11 : decode cX8_behindLevel 11 = .ok (.iconst 1, 1) := by decide +kernel
theorem dX8_behindLevel_12 : decode cX8_behindLevel 12 = .ok (.if_icmp .ne 7, 3) := by decide +kernel
theorem dX8_behindLevel_15 : decode cX8_behindLevel 15 = .ok (.iload_n 3, 1) := by decide +kernel
theorem dX8_behindLevel_16 : decode cX8_behindLevel 16 = .ok (.goto 26, 3) := by decide +kernel
theorem dX8_behindLevel_19 : decode cX8_behindLevel 19 = .ok (.aload_n 0, 1) := by decide +kernel
theorem dX8_behindLevel_20 : decode cX8_behindLevel 20 = .ok (.iload_n 2, 1) := by decide +kernel
theorem dX8_behindLevel_21 : decode cX8_behindLevel 21 = .ok (.iaload, 1) := by decide +kernel
theorem dX8_behindLevel_22 : decode cX8_behindLevel 22 = .ok (.iconst 2, 1) := by decide +kernel
theorem dX8_behindLevel_23 : decode cX8_behindLevel 23 = .ok (.if_icmp .eq 10, 3) := by decide +kernel
theorem dX8_behindLevel_26 : decode cX8_behindLevel 26 = .ok (.aload_n 0, 1) := by decide +kernel
theorem dX8_behindLevel_27 : decode cX8_behindLevel 27 = .ok (.iload_n 2, 1) := by decide +kernel
theorem dX8_behindLevel_28 : decode cX8_behindLevel 28 = .ok (.iaload, 1) := by decide +kernel
theorem dX8_behindLevel_29 : decode cX8_behindLevel 29 = .ok (.iconst 3, 1) := by decide +kernel
theorem dX8_behindLevel_30 : decode cX8_behindLevel 30 = .ok (.if_icmp .ne 9, 3) := by decide +kernel
theorem dX8_behindLevel_33 : decode cX8_behindLevel 33 = .ok (.iload_n 3, 1) := by decide +kernel
theorem dX8_behindLevel_34 : decode cX8_behindLevel 34 = .ok (.iconst 1, 1) := by decide +kernel
theorem dX8_behindLevel_35 : decode cX8_behindLevel 35 = .ok (.iadd, 1) := by decide +kernel
theorem dX8_behindLevel_36 : decode cX8_behindLevel 36 = .ok (.goto 6, 3) := by decide +kernel
theorem dX8_behindLevel_39 : decode cX8_behindLevel 39 = .ok (.iload_n 3, 1) := by decide +kernel
theorem dX8_behindLevel_40 : decode cX8_behindLevel 40 = .ok (.iconst 1, 1) := by decide +kernel
theorem dX8_behindLevel_41 : decode cX8_behindLevel 41 = .ok (.isub, 1) := by decide +kernel
theorem dX8_behindLevel_42 : decode cX8_behindLevel 42 = .ok (.istore_n 3, 1) := by decide +kernel
theorem dX8_behindLevel_43 : decode cX8_behindLevel 43 = .ok (.iinc 2 1, 3) := by decide +kernel
theorem dX8_behindLevel_46 : decode cX8_behindLevel 46 = .ok (.goto (-42), 3) := by decide +kernel
theorem dX8_behindLevel_49 : decode cX8_behindLevel 49 = .ok (.iload_n 2, 1) := by decide +kernel
theorem dX8_behindLevel_50 : decode cX8_behindLevel 50 = .ok (.ireturn, 1) := by decide +kernel
theorem dy_X8_behindLevel : DY yX8_behindLevel 2 := by decide +kernel
theorem dX8_behindToken_0 : decode cX8_behindToken 0 = .ok (.aload_n 0, 1) := by decide +kernel
theorem dX8_behindToken_1 : decode cX8_behindToken 1 = .ok (.iload_n 1, 1) := by decide +kernel
theorem dX8_behindToken_2 : decode cX8_behindToken 2 = .ok (.iaload, 1) := by decide +kernel
theorem dX8_behindToken_3 : decode cX8_behindToken 3 = .ok (.ifCond .ne 11, 3) := by decide +kernel
theorem dX8_behindToken_6 : decode cX8_behindToken 6 = .ok (.aload_n 0, 1) := by decide +kernel
theorem dX8_behindToken_7 : decode cX8_behindToken 7 = .ok (.iload_n 1, 1) := by decide +kernel
theorem dX8_behindToken_8 : decode cX8_behindToken 8 = .ok (.iconst 1, 1) := by decide +kernel
theorem dX8_behindToken_9 : decode cX8_behindToken 9 = .ok (.iadd, 1) := by decide +kernel
theorem dX8_behindToken_10 : decode cX8_behindToken 10 = .ok (.invokestatic 144, 3) := by decide +kernel
theorem dX8_behindToken_13 : decode cX8_behindToken 13 = .ok (.ireturn, 1) := by decide +kernel
theorem dX8_behindToken_14 : decode cX8_behindToken 14 = .ok (.aload_n 0, 1) := by decide +kernel
theorem dX8_behindToken_15 : decode cX8_behindToken 15 = .ok (.iload_n 1, 1) := by decide +kernel
theorem dX8_behindToken_16 : decode cX8_behindToken 16 = .ok (.iaload, 1) := by decide +kernel
theorem dX8_behindToken_17 : decode cX8_behindToken 17 = .ok (.iconst 2, 1) := by decide +kernel
theorem dX8_behindToken_18 : decode cX8_behindToken 18 = .ok (.if_icmp .ne 15, 3) := by decide +kernel
theorem dX8_behindToken_21 : decode cX8_behindToken 21 = .ok (.aload_n 0, 1) := by decide +kernel
theorem dX8_behindToken_22 : decode cX8_behindToken 22 = .ok (.aload_n 0, 1) := by decide +kernel
theorem dX8_behindToken_23 : decode cX8_behindToken 23 = .ok (.iload_n 1, 1) := by decide +kernel
theorem dX8_behindToken_24 : decode cX8_behindToken 24 = .ok (.iconst 2, 1) := by decide +kernel
theorem dX8_behindToken_25 : decode cX8_behindToken 25 = .ok (.iadd, 1) := by decide +kernel
theorem dX8_behindToken_26 : decode cX8_behindToken 26 = .ok (.invokestatic 144, 3) := by decide +kernel
theorem dX8_behindToken_29 : decode cX8_behindToken 29 = .ok (.invokestatic 144, 3) := by decide +kernel
theorem dX8_behindToken_32 : decode cX8_behindToken 32 = .ok (.ireturn, 1) := by decide +kernel
theorem dX8_behindToken_33 : decode cX8_behindToken 33 = .ok (.aload_n 0, 1) := by decide +kernel
theorem dX8_behindToken_34 : decode cX8_behindToken 34 = .ok (.iload_n 1, 1) := by decide +kernel
theorem dX8_behindToken_35 : decode cX8_behindToken 35 = .ok (.iaload, 1) := by decide +kernel
theorem dX8_behindToken_36 : decode cX8_behindToken 36 = .ok (.iconst 1, 1) := by decide +kernel
theorem dX8_behindToken_37 : decode cX8_behindToken 37 = .ok (.if_icmp .ne 9, 3) := by decide +kernel
theorem dX8_behindToken_40 : decode cX8_behindToken 40 = .ok (.iload_n 1, 1) := by decide +kernel
theorem dX8_behindToken_41 : decode cX8_behindToken 41 = .ok (.iconst 2, 1) := by decide +kernel
theorem dX8_behindToken_42 : decode cX8_behindToken 42 = .ok (.iadd, 1) := by decide +kernel
theorem dX8_behindToken_43 : decode cX8_behindToken 43 = .ok (.goto 6, 3) := by decide +kernel
theorem dX8_behindToken_46 : decode cX8_behindToken 46 = .ok (.iload_n 1, 1) := by decide +kernel
theorem dX8_behindToken_47 : decode cX8_behindToken 47 = .ok (.iconst 1, 1) := by decide +kernel
theorem dX8_behindToken_48 : decode cX8_behindToken 48 = .ok (.iadd, 1) := by decide +kernel
theorem dX8_behindToken_49 : decode cX8_behindToken 49 = .ok (.ireturn, 1) := by decide +kernel
theorem dy_X8_behindToken : DY yX8_behindToken 2 := by decide +kernel
theorem dX8_partsOf_0 : decode cX8_partsOf 0 = .ok (.iload_n 0, 1) := by decide +kernel
theorem dX8_partsOf_1 : decode cX8_partsOf 1 = .ok (.iconst 3, 1) := by decide +kernel
theorem dX8_partsOf_2 : decode cX8_partsOf 2 = .ok (.if_icmp .ge 7, 3) := by decide +kernel
theorem dX8_partsOf_5 : decode cX8_partsOf 5 = .ok (.iconst 0, 1) := by decide +kernel
theorem dX8_partsOf_6 : decode cX8_partsOf 6 = .ok (.goto 14, 3) := by decide +kernel
theorem dX8_partsOf_9 : decode cX8_partsOf 9 = .ok (.iload_n 0, 1) := by decide +kernel
theorem dX8_partsOf_10 : decode cX8_partsOf 10 = .ok (.bipush 6, 2) := by decide +kernel
theorem dX8_partsOf_12 : decode cX8_partsOf 12 = .ok (.if_icmp .ne 7, 3) := by decide +kernel
theorem dX8_partsOf_15 : decode cX8_partsOf 15 = .ok (.iconst 3, 1) := by decide +kernel
theorem dX8_partsOf_16 : decode cX8_partsOf 16 = .ok (.goto 4, 3) := by decide +kernel
theorem dX8_partsOf_19 : decode cX8_partsOf 19 = .ok (.iconst 2, 1) := by decide +kernel
theorem dX8_partsOf_20 : decode cX8_partsOf 20 = .ok (.ireturn, 1) := by decide +kernel
theorem dy_X8_partsOf : DY yX8_partsOf 1 := by decide +kernel
theorem dX8_behindTerm_0 : decode cX8_behindTerm 0 = .ok (.iload_n 1, 1) := by decide +kernel
theorem dX8_behindTerm_1 : decode cX8_behindTerm 1 = .ok (.istore_n 2, 1) := by decide +kernel
theorem dX8_behindTerm_2 : decode cX8_behindTerm 2 = .ok (.iconst 1, 1) := by decide +kernel
theorem dX8_behindTerm_3 : decode cX8_behindTerm 3 = .ok (.istore_n 3, 1) := by decide +kernel
theorem dX8_behindTerm_4 : decode cX8_behindTerm 4 = .ok (.iload_n 3, 1) := by decide +kernel
theorem dX8_behindTerm_5 : decode cX8_behindTerm 5 = .ok (.ifCond .le 23, 3) := by decide +kernel
theorem dX8_behindTerm_8 : decode cX8_behindTerm 8 = .ok (.iload_n 3, 1) := by decide +kernel
theorem dX8_behindTerm_9 : decode cX8_behindTerm 9 = .ok (.aload_n 0, 1) := by decide +kernel
theorem dX8_behindTerm_10 : decode cX8_behindTerm 10 = .ok (.iload_n 2, 1) := by decide +kernel
theorem dX8_behindTerm_11 : decode cX8_behindTerm 11 = .ok (.iaload, 1) := by decide +kernel
theorem dX8_behindTerm_12 : decode cX8_behindTerm 12 = .ok (.invokestatic 148, 3) := by decide +kernel
theorem dX8_behindTerm_15 : decode cX8_behindTerm 15 = .ok (.iconst 1, 1) := by decide +kernel
theorem dX8_behindTerm_16 : decode cX8_behindTerm 16 = .ok (.isub, 1) := by decide +kernel
theorem dX8_behindTerm_17 : decode cX8_behindTerm 17 = .ok (.iadd, 1) := by decide +kernel
theorem dX8_behindTerm_18 : decode cX8_behindTerm 18 = .ok (.istore_n 3, 1) := by decide +kernel
theorem dX8_behindTerm_19 : decode cX8_behindTerm 19 = .ok (.aload_n 0, 1) := by decide +kernel
theorem dX8_behindTerm_20 : decode cX8_behindTerm 20 = .ok (.iload_n 2, 1) := by decide +kernel
theorem dX8_behindTerm_21 : decode cX8_behindTerm 21 = .ok (.invokestatic 152, 3) := by decide +kernel
theorem dX8_behindTerm_24 : decode cX8_behindTerm 24 = .ok (.istore_n 2, 1) := by decide +kernel
theorem dX8_behindTerm_25 : decode cX8_behindTerm 25 = .ok (.goto (-21), 3) := by decide +kernel
theorem dX8_behindTerm_28 : decode cX8_behindTerm 28 = .ok (.iload_n 2, 1) := by decide +kernel
theorem dX8_behindTerm_29 : decode cX8_behindTerm 29 = .ok (.ireturn, 1) := by decide +kernel
theorem dy_X8_behindTerm : DY yX8_behindTerm 2 := by decide +kernel
theorem dX8_fits_0 : decode cX8_fits 0 = .ok (.iconst 0, 1) := by decide +kernel
theorem dX8_fits_1 : decode cX8_fits 1 = .ok (.istore_n 3, 1) := by decide +kernel
theorem dX8_fits_2 : decode cX8_fits 2 = .ok (.iconst 1, 1) := by decide +kernel
theorem dX8_fits_3 : decode cX8_fits 3 = .ok (.istore 4, 2) := by decide +kernel
theorem dX8_fits_5 : decode cX8_fits 5 = .ok (.iload_n 1, 1) := by decide +kernel
theorem dX8_fits_6 : decode cX8_fits 6 = .ok (.istore 5, 2) := by decide +kernel
theorem dX8_fits_8 : decode cX8_fits 8 = .ok (.iload 5, 2) := by decide +kernel
theorem dX8_fits_10 : decode cX8_fits 10 = .ok (.iload_n 2, 1) := by decide +kernel
theorem dX8_fits_11 : decode cX8_fits 11 = .ok (.if_icmp .ge 129, 3) := by decide +kernel
theorem dX8_fits_14 : decode cX8_fits 14 = .ok (.iload 4, 2) := by decide +kernel
theorem dX8_fits_16 : decode cX8_fits 16 = .ok (.ifCond .eq 124, 3) := by decide +kernel
theorem dX8_fits_19 : decode cX8_fits 19 = .ok (.iinc 3 1, 3) := by decide +kernel
theorem dX8_fits_22 : decode cX8_fits 22 = .ok (.aload_n 0, 1) := by decide +kernel
theorem dX8_fits_23 : decode cX8_fits 23 = .ok (.iload 5, 2) := by decide +kernel
theorem dX8_fits_25 : decode cX8_fits 25 = .ok (.iaload, 1) := by decide +kernel
theorem dX8_fits_26 : decode cX8_fits 26 = .ok (.ifCond .ne 10, 3) := by decide +kernel
theorem dX8_fits_29 : decode cX8_fits 29 = .ok (.iload 5, 2) := by decide +kernel
theorem dX8_fits_31 : decode cX8_fits 31 = .ok (.iconst 1, 1) := by decide +kernel
theorem dX8_fits_32 : decode cX8_fits 32 = .ok (.iadd, 1) := by decide +kernel
theorem dX8_fits_33 : decode cX8_fits 33 = .ok (.goto 19, 3) := by decide +kernel
theorem dX8_fits_36 : decode cX8_fits 36 = .ok (.aload_n 0, 1) := by decide +kernel
theorem dX8_fits_37 : decode cX8_fits 37 = .ok (.iload 5, 2) := by decide +kernel
theorem dX8_fits_39 : decode cX8_fits 39 = .ok (.iaload, 1) := by decide +kernel
theorem dX8_fits_40 : decode cX8_fits 40 = .ok (.iconst 2, 1) := by decide +kernel
theorem dX8_fits_41 : decode cX8_fits 41 = .ok (.if_icmp .ne 10, 3) := by decide +kernel
theorem dX8_fits_44 : decode cX8_fits 44 = .ok (.iload 5, 2) := by decide +kernel
theorem dX8_fits_46 : decode cX8_fits 46 = .ok (.iconst 2, 1) := by decide +kernel
theorem dX8_fits_47 : decode cX8_fits 47 = .ok (.iadd, 1) := by decide +kernel
theorem dX8_fits_48 : decode cX8_fits 48 = .ok (.goto 4, 3) := by decide +kernel
theorem dX8_fits_51 : decode cX8_fits 51 = .ok (.iconst 0, 1) := by decide +kernel
theorem dX8_fits_52 : decode cX8_fits 52 = .ok (.istore 6, 2) := by decide +kernel
theorem dX8_fits_54 : decode cX8_fits 54 = .ok (.iload 6, 2) := by decide +kernel
theorem dX8_fits_56 : decode cX8_fits 56 = .ok (.ifCond .le 12, 3) := by decide +kernel
theorem dX8_fits_59 : decode cX8_fits 59 = .ok (.aload_n 0, 1) := by decide +kernel
theorem dX8_fits_60 : decode cX8_fits 60 = .ok (.iload 6, 2) := by decide +kernel
theorem dX8_fits_62 : decode cX8_fits 62 = .ok (.invokestatic 144, 3) := by decide +kernel
theorem dX8_fits_65 : decode cX8_fits 65 = .ok (.goto 4, 3) := by decide +kernel
theorem dX8_fits_68 : decode cX8_fits 68 = .ok (.iconst 0, 1) := by decide +kernel
theorem dX8_fits_69 : decode cX8_fits 69 = .ok (.istore 7, 2) := by decide +kernel
theorem dX8_fits_71 : decode cX8_fits 71 = .ok (.iload_n 3, 1) := by decide +kernel
theorem dX8_fits_72 : decode cX8_fits 72 = .ok (.sipush 200, 3) := by decide +kernel
theorem dX8_fits_75 : decode cX8_fits 75 = .ok (.if_icmp .gt 17, 3) := by decide +kernel
theorem dX8_fits_78 : decode cX8_fits 78 = .ok (.iload 7, 2) := by decide +kernel
theorem dX8_fits_80 : decode cX8_fits 80 = .ok (.iload 6, 2) := by decide +kernel
theorem dX8_fits_82 : decode cX8_fits 82 = .ok (.isub, 1) := by decide +kernel
theorem dX8_fits_83 : decode cX8_fits 83 = .ok (.bipush 16, 2) := by decide +kernel
theorem dX8_fits_85 : decode cX8_fits 85 = .ok (.if_icmp .gt 7, 3) := by decide +kernel
theorem dX8_fits_88 : decode cX8_fits 88 = .ok (.iconst 1, 1) := by decide +kernel
theorem dX8_fits_89 : decode cX8_fits 89 = .ok (.goto 4, 3) := by decide +kernel
theorem dX8_fits_92 : decode cX8_fits 92 = .ok (.iconst 0, 1) := by decide +kernel
theorem dX8_fits_93 : decode cX8_fits 93 = .ok (.istore 4, 2) := by decide +kernel
theorem dX8_fits_95 : decode cX8_fits 95 = .ok (.iload 4, 2) := by decide +kernel
theorem dX8_fits_97 : decode cX8_fits 97 = .ok (.ifCond .eq 29, 3) := by decide +kernel
theorem dX8_fits_100 : decode cX8_fits 100 = .ok (.aload_n 0, 1) := by decide +kernel
theorem dX8_fits_101 : decode cX8_fits 101 = .ok (.iload 5, 2) := by decide +kernel
theorem dX8_fits_103 : decode cX8_fits 103 = .ok (.iaload, 1) := by decide +kernel
theorem dX8_fits_104 : decode cX8_fits 104 = .ok (.iconst 2, 1) := by decide +kernel
theorem dX8_fits_105 : decode cX8_fits 105 = .ok (.if_icmp .ne 17, 3) := by decide +kernel
theorem dX8_fits_108 : decode cX8_fits 108 = .ok (.aload_n 0, 1) := by decide +kernel
theorem dX8_fits_109 : decode cX8_fits 109 = .ok (.iload 7, 2) := by decide +kernel
theorem dX8_fits_111 : decode cX8_fits 111 = .ok (.invokestatic 144, 3) := by decide +kernel
theorem dX8_fits_114 : decode cX8_fits 114 = .ok (.iload 7, 2) := by decide +kernel
theorem dX8_fits_116 : decode cX8_fits 116 = .ok (.isub, 1) := by decide +kernel
theorem dX8_fits_117 : decode cX8_fits 117 = .ok (.bipush 16, 2) := by decide +kernel
theorem dX8_fits_119 : decode cX8_fits 119 = .ok (.if_icmp .gt 7, 3) := by decide +kernel
theorem dX8_fits_122 : decode cX8_fits 122 = .ok (.iconst 1, 1) := by decide +kernel
theorem dX8_fits_123 : decode cX8_fits 123 = .ok (.goto 4, 3) := by decide +kernel
theorem dX8_fits_126 : decode cX8_fits 126 = .ok (.iconst 0, 1) := by decide +kernel
theorem dX8_fits_127 : decode cX8_fits 127 = .ok (.istore 4, 2) := by decide +kernel
theorem dX8_fits_129 : decode cX8_fits 129 = .ok (.aload_n 0, 1) := by decide +kernel
theorem dX8_fits_130 : decode cX8_fits 130 = .ok (.iload 5, 2) := by decide +kernel
theorem dX8_fits_132 : decode cX8_fits 132 = .ok (.invokestatic 152, 3) := by decide +kernel
theorem dX8_fits_135 : decode cX8_fits 135 = .ok (.istore 5, 2) := by decide +kernel
theorem dX8_fits_137 : decode cX8_fits 137 = .ok (.goto (-129), 3) := by decide +kernel
theorem dX8_fits_140 : decode cX8_fits 140 = .ok (.iload 4, 2) := by decide +kernel
theorem dX8_fits_142 : decode cX8_fits 142 = .ok (.ireturn, 1) := by decide +kernel
theorem dy_X8_fits : DY yX8_fits 3 := by decide +kernel
theorem dX8_layLevel_0 : decode cX8_layLevel 0 = .ok (.iload_n 3, 1) := by decide +kernel
theorem dX8_layLevel_1 : decode cX8_layLevel 1 = .ok (.istore 4, 2) := by decide +kernel
theorem dX8_layLevel_3 : decode cX8_layLevel 3 = .ok (.iconst 1, 1) := by decide +kernel
theorem dX8_layLevel_4 : decode cX8_layLevel 4 = .ok (.istore 5, 2) := by decide +kernel
theorem dX8_layLevel_6 : decode cX8_layLevel 6 = .ok (.aload_n 0, 1) := by decide +kernel
theorem dX8_layLevel_7 : decode cX8_layLevel 7 = .ok (.getfield 75, 3) := by decide +kernel
theorem dX8_layLevel_10 : decode cX8_layLevel 10 = .ok (.iconst 0, 1) := by decide +kernel
theorem dX8_layLevel_11 : decode cX8_layLevel 11 = .ok (.iload_n 1, 1) := by decide +kernel
theorem dX8_layLevel_12 : decode cX8_layLevel 12 = .ok (.iastore, 1) := by decide +kernel
theorem dX8_layLevel_13 : decode cX8_layLevel 13 = .ok (.iload 5, 2) := by decide +kernel
theorem dX8_layLevel_15 : decode cX8_layLevel 15 = .ok (.ifCond .le 132, 3) := by decide +kernel
theorem dX8_layLevel_18 : decode cX8_layLevel 18 = .ok (.iinc 5 (-1), 3) := by decide +kernel
theorem dX8_layLevel_21 : decode cX8_layLevel 21 = .ok (.aload_n 0, 1) := by decide +kernel
theorem dX8_layLevel_22 : decode cX8_layLevel 22 = .ok (.getfield 75, 3) := by decide +kernel
theorem dX8_layLevel_25 : decode cX8_layLevel 25 = .ok (.iload 5, 2) := by decide +kernel
theorem dX8_layLevel_27 : decode cX8_layLevel 27 = .ok (.iaload, 1) := by decide +kernel
theorem dX8_layLevel_28 : decode cX8_layLevel 28 = .ok (.istore 6, 2) := by decide +kernel
theorem dX8_layLevel_30 : decode cX8_layLevel 30 = .ok (.aload_n 2, 1) := by decide +kernel
theorem dX8_layLevel_31 : decode cX8_layLevel 31 = .ok (.iload 4, 2) := by decide +kernel
theorem dX8_layLevel_33 : decode cX8_layLevel 33 = .ok (.aload_n 0, 1) := by decide +kernel
theorem dX8_layLevel_34 : decode cX8_layLevel 34 = .ok (.getfield 7, 3) := by decide +kernel
theorem dX8_layLevel_37 : decode cX8_layLevel 37 = .ok (.iload 6, 2) := by decide +kernel
theorem dX8_layLevel_39 : decode cX8_layLevel 39 = .ok (.iaload, 1) := by decide +kernel
theorem dX8_layLevel_40 : decode cX8_layLevel 40 = .ok (.iconst 4, 1) := by decide +kernel
theorem dX8_layLevel_41 : decode cX8_layLevel 41 = .ok (.if_icmp .ne 15, 3) := by decide +kernel
theorem dX8_layLevel_44 : decode cX8_layLevel 44 = .ok (.iconst 4, 1) := by decide +kernel
theorem dX8_layLevel_45 : decode cX8_layLevel 45 = .ok (.aload_n 0, 1) := by decide +kernel
theorem dX8_layLevel_46 : decode cX8_layLevel 46 = .ok (.getfield 13, 3) := by decide +kernel
theorem dX8_layLevel_49 : decode cX8_layLevel 49 = .ok (.iload 6, 2) := by decide +kernel
theorem dX8_layLevel_51 : decode cX8_layLevel 51 = .ok (.iaload, 1) := by decide +kernel
theorem dX8_layLevel_52 : decode cX8_layLevel 52 = .ok (.iadd, 1) := by decide +kernel
theorem dX8_layLevel_53 : decode cX8_layLevel 53 = .ok (.goto 10, 3) := by decide +kernel
theorem dX8_layLevel_56 : decode cX8_layLevel 56 = .ok (.aload_n 0, 1) := by decide +kernel
theorem dX8_layLevel_57 : decode cX8_layLevel 57 = .ok (.getfield 7, 3) := by decide +kernel
theorem dX8_layLevel_60 : decode cX8_layLevel 60 = .ok (.iload 6, 2) := by decide +kernel
theorem dX8_layLevel_62 : decode cX8_layLevel 62 = .ok (.iaload, 1) := by decide +kernel
theorem dX8_layLevel_63 : decode cX8_layLevel 63 = .ok (.iastore, 1) := by decide +kernel
theorem dX8_layLevel_64 : decode cX8_layLevel 64 = .ok (.iinc 4 1, 3) := by decide +kernel
theorem dX8_layLevel_67 : decode cX8_layLevel 67 = .ok (.aload_n 0, 1) := by decide +kernel
theorem dX8_layLevel_68 : decode cX8_layLevel 68 = .ok (.getfield 7, 3) := by decide +kernel
theorem dX8_layLevel_71 : decode cX8_layLevel 71 = .ok (.iload 6, 2) := by decide +kernel
theorem dX8_layLevel_73 : decode cX8_layLevel 73 = .ok (.iaload, 1) := by decide +kernel
theorem dX8_layLevel_74 : decode cX8_layLevel 74 = .ok (.iconst 2, 1) := by decide +kernel
theorem dX8_layLevel_75 : decode cX8_layLevel 75 = .ok (.if_icmp .eq 14, 3) := by decide +kernel
theorem dX8_layLevel_78 : decode cX8_layLevel 78 = .ok (.aload_n 0, 1) := by decide +kernel
theorem dX8_layLevel_79 : decode cX8_layLevel 79 = .ok (.getfield 7, 3) := by decide +kernel
theorem dX8_layLevel_82 : decode cX8_layLevel 82 = .ok (.iload 6, 2) := by decide +kernel
theorem dX8_layLevel_84 : decode cX8_layLevel 84 = .ok (.iaload, 1) := by decide +kernel
theorem dX8_layLevel_85 : decode cX8_layLevel 85 = .ok (.iconst 3, 1) := by decide +kernel
theorem dX8_layLevel_86 : decode cX8_layLevel 86 = .ok (.if_icmp .ne 20, 3) := by decide +kernel
theorem dX8_layLevel_89 : decode cX8_layLevel 89 = .ok (.aload_n 0, 1) := by decide +kernel
theorem dX8_layLevel_90 : decode cX8_layLevel 90 = .ok (.getfield 75, 3) := by decide +kernel
theorem dX8_layLevel_93 : decode cX8_layLevel 93 = .ok (.iload 5, 2) := by decide +kernel
theorem dX8_layLevel_95 : decode cX8_layLevel 95 = .ok (.aload_n 0, 1) := by decide +kernel
theorem dX8_layLevel_96 : decode cX8_layLevel 96 = .ok (.getfield 16, 3) := by decide +kernel
theorem dX8_layLevel_99 : decode cX8_layLevel 99 = .ok (.iload 6, 2) := by decide +kernel
theorem dX8_layLevel_101 : decode cX8_layLevel 101 = .ok (.iaload, 1) := by decide +kernel
theorem dX8_layLevel_102 : decode cX8_layLevel 102 = .ok (.iastore, 1) := by decide +kernel
theorem dX8_layLevel_103 : decode cX8_layLevel 103 = .ok (.iinc 5 1, 3) := by decide +kernel
theorem dX8_layLevel_106 : decode cX8_layLevel 106 = .ok (.aload_n 0, 1) := by decide +kernel
theorem dX8_layLevel_107 : decode cX8_layLevel 107 = .ok (.getfield 7, 3) := by decide +kernel
theorem dX8_layLevel_110 : decode cX8_layLevel 110 = .ok (.iload 6, 2) := by decide +kernel
theorem dX8_layLevel_112 : decode cX8_layLevel 112 = .ok (.iaload, 1) := by decide +kernel
theorem dX8_layLevel_113 : decode cX8_layLevel 113 = .ok (.ifCond .le 31, 3) := by decide +kernel
theorem dX8_layLevel_116 : decode cX8_layLevel 116 = .ok (.aload_n 0, 1) := by decide +kernel
theorem dX8_layLevel_117 : decode cX8_layLevel 117 = .ok (.getfield 7, 3) := by decide +kernel
theorem dX8_layLevel_120 : decode cX8_layLevel 120 = .ok (.iload 6, 2) := by decide +kernel
theorem dX8_layLevel_122 : decode cX8_layLevel 122 = .ok (.iaload, 1) := by decide +kernel
theorem dX8_layLevel_123 : decode cX8_layLevel 123 = .ok (.iconst 4, 1) := by decide +kernel
theorem dX8_layLevel_124 : decode cX8_layLevel 124 = .ok (.if_icmp .ge 20, 3) := by decide +kernel
theorem dX8_layLevel_127 : decode cX8_layLevel 127 = .ok (.aload_n 0, 1) := by decide +kernel
theorem dX8_layLevel_128 : decode cX8_layLevel 128 = .ok (.getfield 75, 3) := by decide +kernel
theorem dX8_layLevel_131 : decode cX8_layLevel 131 = .ok (.iload 5, 2) := by decide +kernel
theorem dX8_layLevel_133 : decode cX8_layLevel 133 = .ok (.aload_n 0, 1) := by decide +kernel
theorem dX8_layLevel_134 : decode cX8_layLevel 134 = .ok (.getfield 13, 3) := by decide +kernel
theorem dX8_layLevel_137 : decode cX8_layLevel 137 = .ok (.iload 6, 2) := by decide +kernel
theorem dX8_layLevel_139 : decode cX8_layLevel 139 = .ok (.iaload, 1) := by decide +kernel
theorem dX8_layLevel_140 : decode cX8_layLevel 140 = .ok (.iastore, 1) := by decide +kernel
theorem dX8_layLevel_141 : decode cX8_layLevel 141 = .ok (.iinc 5 1, 3) := by decide +kernel
theorem dX8_layLevel_144 : decode cX8_layLevel 144 = .ok (.goto (-131), 3) := by decide +kernel
theorem dX8_layLevel_147 : decode cX8_layLevel 147 = .ok (.iload 4, 2) := by decide +kernel
theorem dX8_layLevel_149 : decode cX8_layLevel 149 = .ok (.ireturn, 1) := by decide +kernel
theorem dy_X8_layLevel : DY yX8_layLevel 3 := by decide +kernel
theorem dX8_layTerm_0 : decode cX8_layTerm 0 = .ok (.iload_n 3, 1) := by decide +kernel
theorem dX8_layTerm_1 : decode cX8_layTerm 1 = .ok (.istore 4, 2) := by decide +kernel
theorem dX8_layTerm_3 : decode cX8_layTerm 3 = .ok (.iconst 1, 1) := by decide +kernel
theorem dX8_layTerm_4 : decode cX8_layTerm 4 = .ok (.istore 5, 2) := by decide +kernel
theorem dX8_layTerm_6 : decode cX8_layTerm 6 = .ok (.aload_n 0, 1) := by decide +kernel
theorem dX8_layTerm_7 : decode cX8_layTerm 7 = .ok (.getfield 69, 3) := by decide +kernel
theorem dX8_layTerm_10 : decode cX8_layTerm 10 = .ok (.iconst 0, 1) := by decide +kernel
theorem dX8_layTerm_11 : decode cX8_layTerm 11 = .ok (.iload_n 1, 1) := by decide +kernel
theorem dX8_layTerm_12 : decode cX8_layTerm 12 = .ok (.iastore, 1) := by decide +kernel
theorem dX8_layTerm_13 : decode cX8_layTerm 13 = .ok (.iload 5, 2) := by decide +kernel
theorem dX8_layTerm_15 : decode cX8_layTerm 15 = .ok (.ifCond .le 196, 3) := by decide +kernel
theorem dX8_layTerm_18 : decode cX8_layTerm 18 = .ok (.iinc 5 (-1), 3) := by decide +kernel
theorem dX8_layTerm_21 : decode cX8_layTerm 21 = .ok (.aload_n 0, 1) := by decide +kernel
theorem dX8_layTerm_22 : decode cX8_layTerm 22 = .ok (.getfield 69, 3) := by decide +kernel
theorem dX8_layTerm_25 : decode cX8_layTerm 25 = .ok (.iload 5, 2) := by decide +kernel
theorem dX8_layTerm_27 : decode cX8_layTerm 27 = .ok (.iaload, 1) := by decide +kernel
theorem dX8_layTerm_28 : decode cX8_layTerm 28 = .ok (.istore 6, 2) := by decide +kernel
theorem dX8_layTerm_30 : decode cX8_layTerm 30 = .ok (.aload_n 2, 1) := by decide +kernel
theorem dX8_layTerm_31 : decode cX8_layTerm 31 = .ok (.iload 4, 2) := by decide +kernel
theorem dX8_layTerm_33 : decode cX8_layTerm 33 = .ok (.aload_n 0, 1) := by decide +kernel
theorem dX8_layTerm_34 : decode cX8_layTerm 34 = .ok (.getfield 26, 3) := by decide +kernel
theorem dX8_layTerm_37 : decode cX8_layTerm 37 = .ok (.iload 6, 2) := by decide +kernel
theorem dX8_layTerm_39 : decode cX8_layTerm 39 = .ok (.iaload, 1) := by decide +kernel
theorem dX8_layTerm_40 : decode cX8_layTerm 40 = .ok (.iastore, 1) := by decide +kernel
theorem dX8_layTerm_41 : decode cX8_layTerm 41 = .ok (.iinc 4 1, 3) := by decide +kernel
theorem dX8_layTerm_44 : decode cX8_layTerm 44 = .ok (.aload_n 0, 1) := by decide +kernel
theorem dX8_layTerm_45 : decode cX8_layTerm 45 = .ok (.getfield 26, 3) := by decide +kernel
theorem dX8_layTerm_48 : decode cX8_layTerm 48 = .ok (.iload 6, 2) := by decide +kernel
theorem dX8_layTerm_50 : decode cX8_layTerm 50 = .ok (.iaload, 1) := by decide +kernel
theorem dX8_layTerm_51 : decode cX8_layTerm 51 = .ok (.ifCond .ne 22, 3) := by decide +kernel
theorem dX8_layTerm_54 : decode cX8_layTerm 54 = .ok (.aload_n 0, 1) := by decide +kernel
theorem dX8_layTerm_55 : decode cX8_layTerm 55 = .ok (.aload_n 0, 1) := by decide +kernel
theorem dX8_layTerm_56 : decode cX8_layTerm 56 = .ok (.getfield 29, 3) := by decide +kernel
theorem dX8_layTerm_59 : decode cX8_layTerm 59 = .ok (.iload 6, 2) := by decide +kernel
theorem dX8_layTerm_61 : decode cX8_layTerm 61 = .ok (.iaload, 1) := by decide +kernel
theorem dX8_layTerm_62 : decode cX8_layTerm 62 = .ok (.aload_n 2, 1) := by decide +kernel
theorem dX8_layTerm_63 : decode cX8_layTerm 63 = .ok (.iload 4, 2) := by decide +kernel
theorem dX8_layTerm_65 : decode cX8_layTerm 65 = .ok (.invokevirtual 155, 3) := by decide +kernel
theorem dX8_layTerm_68 : decode cX8_layTerm 68 = .ok (.istore 4, 2) := by decide +kernel
theorem dX8_layTerm_70 : decode cX8_layTerm 70 = .ok (.goto 138, 3) := by decide +kernel
theorem dX8_layTerm_73 : decode cX8_layTerm 73 = .ok (.aload_n 0, 1) := by decide +kernel
theorem dX8_layTerm_74 : decode cX8_layTerm 74 = .ok (.getfield 26, 3) := by decide +kernel
theorem dX8_layTerm_77 : decode cX8_layTerm 77 = .ok (.iload 6, 2) := by decide +kernel
theorem dX8_layTerm_79 : decode cX8_layTerm 79 = .ok (.iaload, 1) := by decide +kernel
theorem dX8_layTerm_80 : decode cX8_layTerm 80 = .ok (.iconst 3, 1) := by decide +kernel
theorem dX8_layTerm_81 : decode cX8_layTerm 81 = .ok (.if_icmp .ge 65, 3) := by decide +kernel
theorem dX8_layTerm_84 : decode cX8_layTerm 84 = .ok (.aload_n 2, 1) := by decide +kernel
theorem dX8_layTerm_85 : decode cX8_layTerm 85 = .ok (.iload 4, 2) := by decide +kernel
theorem dX8_layTerm_87 : decode cX8_layTerm 87 = .ok (.aload_n 0, 1) := by decide +kernel
theorem dX8_layTerm_88 : decode cX8_layTerm 88 = .ok (.getfield 29, 3) := by decide +kernel
theorem dX8_layTerm_91 : decode cX8_layTerm 91 = .ok (.iload 6, 2) := by decide +kernel
theorem dX8_layTerm_93 : decode cX8_layTerm 93 = .ok (.iaload, 1) := by decide +kernel
theorem dX8_layTerm_94 : decode cX8_layTerm 94 = .ok (.iastore, 1) := by decide +kernel
theorem dX8_layTerm_95 : decode cX8_layTerm 95 = .ok (.aload_n 0, 1) := by decide +kernel
theorem dX8_layTerm_96 : decode cX8_layTerm 96 = .ok (.getfield 26, 3) := by decide +kernel
theorem dX8_layTerm_99 : decode cX8_layTerm 99 = .ok (.iload 6, 2) := by decide +kernel
theorem dX8_layTerm_101 : decode cX8_layTerm 101 = .ok (.iaload, 1) := by decide +kernel
theorem dX8_layTerm_102 : decode cX8_layTerm 102 = .ok (.iconst 2, 1) := by decide +kernel
theorem dX8_layTerm_103 : decode cX8_layTerm 103 = .ok (.if_icmp .ne 34, 3) := by decide +kernel
theorem dX8_layTerm_106 : decode cX8_layTerm 106 = .ok (.aload_n 0, 1) := by decide +kernel
theorem dX8_layTerm_107 : decode cX8_layTerm 107 = .ok (.aload_n 0, 1) := by decide +kernel
theorem dX8_layTerm_108 : decode cX8_layTerm 108 = .ok (.getfield 35, 3) := by decide +kernel
theorem dX8_layTerm_111 : decode cX8_layTerm 111 = .ok (.iload 6, 2) := by decide +kernel
theorem dX8_layTerm_113 : decode cX8_layTerm 113 = .ok (.iaload, 1) := by decide +kernel
theorem dX8_layTerm_114 : decode cX8_layTerm 114 = .ok (.aload_n 2, 1) := by decide +kernel
theorem dX8_layTerm_115 : decode cX8_layTerm 115 = .ok (.aload_n 0, 1) := by decide +kernel
theorem dX8_layTerm_116 : decode cX8_layTerm 116 = .ok (.aload_n 0, 1) := by decide +kernel
theorem dX8_layTerm_117 : decode cX8_layTerm 117 = .ok (.getfield 32, 3) := by decide +kernel
theorem dX8_layTerm_120 : decode cX8_layTerm 120 = .ok (.iload 6, 2) := by decide +kernel
theorem dX8_layTerm_122 : decode cX8_layTerm 122 = .ok (.iaload, 1) := by decide +kernel
theorem dX8_layTerm_123 : decode cX8_layTerm 123 = .ok (.aload_n 2, 1) := by decide +kernel
theorem dX8_layTerm_124 : decode cX8_layTerm 124 = .ok (.iload 4, 2) := by decide +kernel
theorem dX8_layTerm_126 : decode cX8_layTerm 126 = .ok (.iconst 1, 1) := by decide +kernel
theorem dX8_layTerm_127 : decode cX8_layTerm 127 = .ok (.iadd, 1) := by decide +kernel
theorem dX8_layTerm_128 : decode cX8_layTerm 128 = .ok (.invokevirtual 155, 3) := by decide +kernel
theorem dX8_layTerm_131 : decode cX8_layTerm 131 = .ok (.invokevirtual 155, 3) := by decide +kernel
theorem dX8_layTerm_134 : decode cX8_layTerm 134 = .ok (.goto 7, 3) := by decide +kernel
theorem dX8_layTerm_137 : decode cX8_layTerm 137 = .ok (.iload 4, 2) := by decide +kernel
theorem dX8_layTerm_139 : decode cX8_layTerm 139 = .ok (.iconst 1, 1) := by decide +kernel
theorem dX8_layTerm_140 : decode cX8_layTerm 140 = .ok (.iadd, 1) := by decide +kernel
theorem dX8_layTerm_141 : decode cX8_layTerm 141 = .ok (.istore 4, 2) := by decide +kernel
theorem dX8_layTerm_143 : decode cX8_layTerm 143 = .ok (.goto 65, 3) := by decide +kernel
theorem dX8_layTerm_146 : decode cX8_layTerm 146 = .ok (.aload_n 0, 1) := by decide +kernel
theorem dX8_layTerm_147 : decode cX8_layTerm 147 = .ok (.getfield 26, 3) := by decide +kernel
theorem dX8_layTerm_150 : decode cX8_layTerm 150 = .ok (.iload 6, 2) := by decide +kernel
theorem dX8_layTerm_152 : decode cX8_layTerm 152 = .ok (.iaload, 1) := by decide +kernel
theorem dX8_layTerm_153 : decode cX8_layTerm 153 = .ok (.bipush 6, 2) := by decide +kernel
theorem dX8_layTerm_155 : decode cX8_layTerm 155 = .ok (.if_icmp .ne 20, 3) := by decide +kernel
theorem dX8_layTerm_158 : decode cX8_layTerm 158 = .ok (.aload_n 0, 1) := by decide +kernel
theorem dX8_layTerm_159 : decode cX8_layTerm 159 = .ok (.getfield 69, 3) := by decide +kernel
theorem dX8_layTerm_162 : decode cX8_layTerm 162 = .ok (.iload 5, 2) := by decide +kernel
theorem dX8_layTerm_164 : decode cX8_layTerm 164 = .ok (.aload_n 0, 1) := by decide +kernel
theorem dX8_layTerm_165 : decode cX8_layTerm 165 = .ok (.getfield 35, 3) := by decide +kernel
theorem dX8_layTerm_168 : decode cX8_layTerm 168 = .ok (.iload 6, 2) := by decide +kernel
theorem dX8_layTerm_170 : decode cX8_layTerm 170 = .ok (.iaload, 1) := by decide +kernel
theorem dX8_layTerm_171 : decode cX8_layTerm 171 = .ok (.iastore, 1) := by decide +kernel
theorem dX8_layTerm_172 : decode cX8_layTerm 172 = .ok (.iinc 5 1, 3) := by decide +kernel
theorem dX8_layTerm_175 : decode cX8_layTerm 175 = .ok (.aload_n 0, 1) := by decide +kernel
theorem dX8_layTerm_176 : decode cX8_layTerm 176 = .ok (.getfield 69, 3) := by decide +kernel
theorem dX8_layTerm_179 : decode cX8_layTerm 179 = .ok (.iload 5, 2) := by decide +kernel
theorem dX8_layTerm_181 : decode cX8_layTerm 181 = .ok (.aload_n 0, 1) := by decide +kernel
theorem dX8_layTerm_182 : decode cX8_layTerm 182 = .ok (.getfield 32, 3) := by decide +kernel
theorem dX8_layTerm_185 : decode cX8_layTerm 185 = .ok (.iload 6, 2) := by decide +kernel
theorem dX8_layTerm_187 : decode cX8_layTerm 187 = .ok (.iaload, 1) := by decide +kernel
theorem dX8_layTerm_188 : decode cX8_layTerm 188 = .ok (.iastore, 1) := by decide +kernel
theorem dX8_layTerm_189 : decode cX8_layTerm 189 = .ok (.aload_n 0, 1) := by decide +kernel
theorem dX8_layTerm_190 : decode cX8_layTerm 190 = .ok (.getfield 69, 3) := by decide +kernel
theorem dX8_layTerm_193 : decode cX8_layTerm 193 = .ok (.iload 5, 2) := by decide +kernel
theorem dX8_layTerm_195 : decode cX8_layTerm 195 = .ok (.iconst 1, 1) := by decide +kernel
theorem dX8_layTerm_196 : decode cX8_layTerm 196 = .ok (.iadd, 1) := by decide +kernel
theorem dX8_layTerm_197 : decode cX8_layTerm 197 = .ok (.aload_n 0, 1) := by decide +kernel
theorem dX8_layTerm_198 : decode cX8_layTerm 198 = .ok (.getfield 29, 3) := by decide +kernel
theorem dX8_layTerm_201 : decode cX8_layTerm 201 = .ok (.iload 6, 2) := by decide +kernel
theorem dX8_layTerm_203 : decode cX8_layTerm 203 = .ok (.iaload, 1) := by decide +kernel
theorem dX8_layTerm_204 : decode cX8_layTerm 204 = .ok (.iastore, 1) := by decide +kernel
theorem dX8_layTerm_205 : decode cX8_layTerm 205 = .ok (.iinc 5 2, 3) := by decide +kernel
theorem dX8_layTerm_208 : decode cX8_layTerm 208 = .ok (.goto (-195), 3) := by decide +kernel
theorem dX8_layTerm_211 : decode cX8_layTerm 211 = .ok (.iload 4, 2) := by decide +kernel
theorem dX8_layTerm_213 : decode cX8_layTerm 213 = .ok (.ireturn, 1) := by decide +kernel
theorem dy_X8_layTerm : DY yX8_layTerm 3 := by decide +kernel
theorem dX8_put_0 : decode cX8_put 0 = .ok (.aload_n 0, 1) := by decide +kernel
theorem dX8_put_1 : decode cX8_put 1 = .ok (.getfield 159, 3) := by decide +kernel
theorem dX8_put_4 : decode cX8_put 4 = .ok (.sipush 8000, 3) := by decide +kernel
theorem dX8_put_7 : decode cX8_put 7 = .ok (.if_icmp .ne 9, 3) := by decide +kernel
theorem dX8_put_10 : decode cX8_put 10 = .ok (.aload_n 0, 1) := by decide +kernel
theorem dX8_put_11 : decode cX8_put 11 = .ok (.iconst 1, 1) := by decide +kernel
theorem dX8_put_12 : decode cX8_put 12 = .ok (.putfield 162, 3) := by decide +kernel
theorem dX8_put_15 : decode cX8_put 15 = .ok (.return_, 1) := by decide +kernel
theorem dX8_put_16 : decode cX8_put 16 = .ok (.aload_n 0, 1) := by decide +kernel
theorem dX8_put_17 : decode cX8_put 17 = .ok (.getfield 59, 3) := by decide +kernel
theorem dX8_put_20 : decode cX8_put 20 = .ok (.aload_n 0, 1) := by decide +kernel
theorem dX8_put_21 : decode cX8_put 21 = .ok (.getfield 159, 3) := by decide +kernel
theorem dX8_put_24 : decode cX8_put 24 = .ok (.iload_n 1, 1) := by decide +kernel
theorem dX8_put_25 : decode cX8_put 25 = .ok (.iastore, 1) := by decide +kernel
theorem dX8_put_26 : decode cX8_put 26 = .ok (.aload_n 0, 1) := by decide +kernel
theorem dX8_put_27 : decode cX8_put 27 = .ok (.dup, 1) := by decide +kernel
theorem dX8_put_28 : decode cX8_put 28 = .ok (.getfield 159, 3) := by decide +kernel
theorem dX8_put_31 : decode cX8_put 31 = .ok (.iconst 1, 1) := by decide +kernel
theorem dX8_put_32 : decode cX8_put 32 = .ok (.iadd, 1) := by decide +kernel
theorem dX8_put_33 : decode cX8_put 33 = .ok (.putfield 159, 3) := by decide +kernel
theorem dX8_put_36 : decode cX8_put 36 = .ok (.return_, 1) := by decide +kernel
theorem dy_X8_put : DY yX8_put 1 := by decide +kernel
theorem dX8_copy_0 : decode cX8_copy 0 = .ok (.iload_n 2, 1) := by decide +kernel
theorem dX8_copy_1 : decode cX8_copy 1 = .ok (.istore 4, 2) := by decide +kernel
theorem dX8_copy_3 : decode cX8_copy 3 = .ok (.iload 4, 2) := by decide +kernel
theorem dX8_copy_5 : decode cX8_copy 5 = .ok (.iload_n 3, 1) := by decide +kernel
theorem dX8_copy_6 : decode cX8_copy 6 = .ok (.if_icmp .ge 24, 3) := by decide +kernel
theorem dX8_copy_9 : decode cX8_copy 9 = .ok (.aload_n 0, 1) := by decide +kernel
theorem dX8_copy_10 : decode cX8_copy 10 = .ok (.getfield 162, 3) := by decide +kernel
theorem dX8_copy_13 : decode cX8_copy 13 = .ok (.ifCond .ne 17, 3) := by decide +kernel
theorem dX8_copy_16 : decode cX8_copy 16 = .ok (.aload_n 0, 1) := by decide +kernel
theorem dX8_copy_17 : decode cX8_copy 17 = .ok (.aload_n 1, 1) := by decide +kernel
theorem dX8_copy_18 : decode cX8_copy 18 = .ok (.iload 4, 2) := by decide +kernel
theorem dX8_copy_20 : decode cX8_copy 20 = .ok (.iaload, 1) := by decide +kernel
theorem dX8_copy_21 : decode cX8_copy 21 = .ok (.invokevirtual 165, 3) := by decide +kernel
theorem dX8_copy_24 : decode cX8_copy 24 = .ok (.iinc 4 1, 3) := by decide +kernel
theorem dX8_copy_27 : decode cX8_copy 27 = .ok (.goto (-24), 3) := by decide +kernel
theorem dX8_copy_30 : decode cX8_copy 30 = .ok (.return_, 1) := by decide +kernel
theorem dy_X8_copy : DY yX8_copy 3 := by decide +kernel
abbrev rm_X8_isIn : Room := { frames := 0, cells := 0, slots := 0, locals := 0 }
abbrev rm_X8_isLevel : Room := { frames := 1, cells := 0, slots := 0, locals := 22 }
abbrev rm_X8_isTerm : Room := { frames := 1, cells := 0, slots := 0, locals := 22 }
abbrev rm_X8_isName : Room := { frames := 1, cells := 0, slots := 0, locals := 22 }
abbrev rm_X8_openOf : Room := { frames := 0, cells := 0, slots := 0, locals := 0 }
abbrev rm_X8_numberOfLevel : Room := { frames := 0, cells := 0, slots := 0, locals := 0 }
abbrev rm_X8_numberOfTerm : Room := { frames := 1, cells := 0, slots := 0, locals := 27 }
abbrev rm_X8_orFull : Room := { frames := 0, cells := 0, slots := 0, locals := 0 }
abbrev rm_X8_behindLevel : Room := { frames := 0, cells := 0, slots := 0, locals := 0 }
abbrev rm_X8_behindToken : Room := { frames := 1, cells := 0, slots := 0, locals := 23 }
abbrev rm_X8_partsOf : Room := { frames := 0, cells := 0, slots := 0, locals := 0 }
abbrev rm_X8_behindTerm : Room := { frames := 2, cells := 0, slots := 0, locals := 44 }
abbrev rm_X8_fits : Room := { frames := 2, cells := 0, slots := 0, locals := 44 }
abbrev rm_X8_layLevel : Room := { frames := 0, cells := 0, slots := 0, locals := 0 }
abbrev rm_X8_layTerm : Room := { frames := 1, cells := 0, slots := 0, locals := 26 }
abbrev rm_X8_put : Room := { frames := 0, cells := 0, slots := 0, locals := 0 }
abbrev rm_X8_copy : Room := { frames := 1, cells := 0, slots := 0, locals := 21 }
def g_X8_isIn (n : Nat) (S : St) (a1 : Int32) (a2 : Int32) (a3 : Int32) : Option (St × Int32) :=
  if a1 < a2 then
    some (S, 0)
  else
    if a3 < a1 then
      some (S, 0)
    else
      some (S, 1)
set_option maxRecDepth 100000 in
set_option maxHeartbeats 4000000 in
theorem t_X8_isIn_0 {n : Nat} {x : XC} (hx : CX x cX8_isIn 3 RX8) (hR : x_R x = rm_X8_isIn) (hKS : ∀ k ∈ KM, k ∈ x_K x) {out : St × Int32} (hE : EI x cX8_isIn out) {S : St} {a1 : Int32} {a2 : Int32} {a3 : Int32} (h : g_X8_isIn n S a1 a2 a3 = some out) : WX x 3 0 0 S 0 [(0, .int a1), (1, .int a2), (2, .int a3)] [] := by
  unfold g_X8_isIn at h
  refine r_iload_n (k0 := 0) hx dX8_isIn_0 rfl rfl ?_
  refine r_iload_n (k0 := 1) hx dX8_isIn_1 rfl rfl ?_
  refine r_icmp_lt (tgt := 14) hx dX8_isIn_2 (by decide) (fun c1 => ?_) (fun c1 => ?_)
  · have h := ite_t h c1
    refine r_iconst (v := 0) hx dX8_isIn_14 (by decide) ?_
    exact r_iret hE h dX8_isIn_15
  · have h := ite_f h c1
    refine r_iload_n (k0 := 0) hx dX8_isIn_5 rfl rfl ?_
    refine r_iload_n (k0 := 2) hx dX8_isIn_6 rfl rfl ?_
    refine r_icmp_gt (tgt := 14) hx dX8_isIn_7 (by decide) (fun c2 => ?_) (fun c2 => ?_)
    · have h := ite_t h c2
      refine r_iconst (v := 0) hx dX8_isIn_14 (by decide) ?_
      exact r_iret hE h dX8_isIn_15
    · have h := ite_f h c2
      refine r_iconst (v := 1) hx dX8_isIn_10 (by decide) ?_
      refine r_goto (tgt := 15) hx dX8_isIn_11 (by decide) ?_
      exact r_iret hE h dX8_isIn_15
def f_X8_isIn (n : Nat) (S : St) (a1 : Int32) (a2 : Int32) (a3 : Int32) : Option (St × Int32) := zW (g_X8_isIn n S a1 a2 a3)
set_option maxHeartbeats 4000000 in
theorem C_X8_isIn {n : Nat} {c : YC} (hKS : ∀ k ∈ KM, k ∈ c.2.2.2.2) {S : St} {a1 : Int32} {a2 : Int32} {a3 : Int32} {out : St × Int32} (h : f_X8_isIn n S a1 a2 a3 = some out) : MI c yX8_isIn cX8_isIn 3 (some .boolean) rm_X8_isIn S [.int a1, .int a2, .int a3] out := mk_Z (own := RX8) (by decide +kernel) rfl (Nat.le_of_ble_eq_true rfl) (zW_some h).2 (fun x hx hR hy hE => by subst hy; exact t_X8_isIn_0 hx hR hKS hE (zW_some h).1)
def g_X8_isLevel (n : Nat) (S : St) (a1 : Int32) : Option (St × Int32) :=
  bI (f_X8_isIn n S a1 0 ((S.1 355 0) - 1)) fun S1 v3 =>
  some (S1, v3)
set_option maxRecDepth 100000 in
set_option maxHeartbeats 4000000 in
theorem t_X8_isLevel_0 {n : Nat} {x : XC} (hx : CX x cX8_isLevel 2 RX8) (hR : x_R x = rm_X8_isLevel) (hKS : ∀ k ∈ KM, k ∈ x_K x) {out : St × Int32} (hE : EI x cX8_isLevel out) {S : St} {a1 : Int32} (h : g_X8_isLevel n S a1 = some out) : WX x 2 0 0 S 0 [(0, .ref (x_ad x 0 7 0)), (1, .int a1)] [] := by
  unfold g_X8_isLevel at h
  refine r_iload_n (k0 := 1) hx dX8_isLevel_0 rfl rfl ?_
  refine r_iconst (v := 0) hx dX8_isLevel_1 (by decide) ?_
  refine r_aload_n (k0 := 0) hx dX8_isLevel_2 rfl rfl ?_
  refine g_355 hx (k_0_7 hKS) wf_X8_22 dX8_isLevel_3 ?_
  refine r_iconst (v := 1) hx dX8_isLevel_6 (by decide) ?_
  refine r_isub hx dX8_isLevel_7 ?_
  obtain ⟨S1, v3, c2, h⟩ := bI_some h
  refine r_Si (As := [.int a1, .int 0, .int ((S.1 355 0) - 1)]) (rest := []) hx (C_X8_isIn (c := x_y x) hKS c2) wl_X8_115 wt_X8_isIn wn_X8 wc_X8_isIn dy_X8_isIn rfl (by rw [hR]; decide +kernel) rfl (Nat.le_of_ble_eq_true rfl) dX8_isLevel_8 ?_
  exact r_iret hE h dX8_isLevel_11
def f_X8_isLevel (n : Nat) (S : St) (a1 : Int32) : Option (St × Int32) := zW (g_X8_isLevel n S a1)
set_option maxHeartbeats 4000000 in
theorem C_X8_isLevel {n : Nat} {c : YC} (hKS : ∀ k ∈ KM, k ∈ c.2.2.2.2) {S : St} {a1 : Int32} {out : St × Int32} (h : f_X8_isLevel n S a1 = some out) : MI c yX8_isLevel cX8_isLevel 2 (some .boolean) rm_X8_isLevel S [.ref (c.2.2.1 0 7 0), .int a1] out := mk_Z (own := RX8) (by decide +kernel) rfl (Nat.le_of_ble_eq_true rfl) (zW_some h).2 (fun x hx hR hy hE => by subst hy; exact t_X8_isLevel_0 hx hR hKS hE (zW_some h).1)
def g_X8_isTerm (n : Nat) (S : St) (a1 : Int32) : Option (St × Int32) :=
  bI (f_X8_isIn n S a1 0 ((S.1 362 0) - 1)) fun S1 v3 =>
  some (S1, v3)
set_option maxRecDepth 100000 in
set_option maxHeartbeats 4000000 in
theorem t_X8_isTerm_0 {n : Nat} {x : XC} (hx : CX x cX8_isTerm 2 RX8) (hR : x_R x = rm_X8_isTerm) (hKS : ∀ k ∈ KM, k ∈ x_K x) {out : St × Int32} (hE : EI x cX8_isTerm out) {S : St} {a1 : Int32} (h : g_X8_isTerm n S a1 = some out) : WX x 2 0 0 S 0 [(0, .ref (x_ad x 0 7 0)), (1, .int a1)] [] := by
  unfold g_X8_isTerm at h
  refine r_iload_n (k0 := 1) hx dX8_isTerm_0 rfl rfl ?_
  refine r_iconst (v := 0) hx dX8_isTerm_1 (by decide) ?_
  refine r_aload_n (k0 := 0) hx dX8_isTerm_2 rfl rfl ?_
  refine g_362 hx (k_0_7 hKS) wf_X8_109 dX8_isTerm_3 ?_
  refine r_iconst (v := 1) hx dX8_isTerm_6 (by decide) ?_
  refine r_isub hx dX8_isTerm_7 ?_
  obtain ⟨S1, v3, c2, h⟩ := bI_some h
  refine r_Si (As := [.int a1, .int 0, .int ((S.1 362 0) - 1)]) (rest := []) hx (C_X8_isIn (c := x_y x) hKS c2) wl_X8_115 wt_X8_isIn wn_X8 wc_X8_isIn dy_X8_isIn rfl (by rw [hR]; decide +kernel) rfl (Nat.le_of_ble_eq_true rfl) dX8_isTerm_8 ?_
  exact r_iret hE h dX8_isTerm_11
def f_X8_isTerm (n : Nat) (S : St) (a1 : Int32) : Option (St × Int32) := zW (g_X8_isTerm n S a1)
set_option maxHeartbeats 4000000 in
theorem C_X8_isTerm {n : Nat} {c : YC} (hKS : ∀ k ∈ KM, k ∈ c.2.2.2.2) {S : St} {a1 : Int32} {out : St × Int32} (h : f_X8_isTerm n S a1 = some out) : MI c yX8_isTerm cX8_isTerm 2 (some .boolean) rm_X8_isTerm S [.ref (c.2.2.1 0 7 0), .int a1] out := mk_Z (own := RX8) (by decide +kernel) rfl (Nat.le_of_ble_eq_true rfl) (zW_some h).2 (fun x hx hR hy hE => by subst hy; exact t_X8_isTerm_0 hx hR hKS hE (zW_some h).1)
def g_X8_isName (n : Nat) (S : St) (a1 : Int32) : Option (St × Int32) :=
  bI (f_X8_isIn n S a1 0 ((S.1 366 0) - 1)) fun S1 v3 =>
  some (S1, v3)
set_option maxRecDepth 100000 in
set_option maxHeartbeats 4000000 in
theorem t_X8_isName_0 {n : Nat} {x : XC} (hx : CX x cX8_isName 2 RX8) (hR : x_R x = rm_X8_isName) (hKS : ∀ k ∈ KM, k ∈ x_K x) {out : St × Int32} (hE : EI x cX8_isName out) {S : St} {a1 : Int32} (h : g_X8_isName n S a1 = some out) : WX x 2 0 0 S 0 [(0, .ref (x_ad x 0 7 0)), (1, .int a1)] [] := by
  unfold g_X8_isName at h
  refine r_iload_n (k0 := 1) hx dX8_isName_0 rfl rfl ?_
  refine r_iconst (v := 0) hx dX8_isName_1 (by decide) ?_
  refine r_aload_n (k0 := 0) hx dX8_isName_2 rfl rfl ?_
  refine g_366 hx (k_0_7 hKS) wf_X8_112 dX8_isName_3 ?_
  refine r_iconst (v := 1) hx dX8_isName_6 (by decide) ?_
  refine r_isub hx dX8_isName_7 ?_
  obtain ⟨S1, v3, c2, h⟩ := bI_some h
  refine r_Si (As := [.int a1, .int 0, .int ((S.1 366 0) - 1)]) (rest := []) hx (C_X8_isIn (c := x_y x) hKS c2) wl_X8_115 wt_X8_isIn wn_X8 wc_X8_isIn dy_X8_isIn rfl (by rw [hR]; decide +kernel) rfl (Nat.le_of_ble_eq_true rfl) dX8_isName_8 ?_
  exact r_iret hE h dX8_isName_11
def f_X8_isName (n : Nat) (S : St) (a1 : Int32) : Option (St × Int32) := zW (g_X8_isName n S a1)
set_option maxHeartbeats 4000000 in
theorem C_X8_isName {n : Nat} {c : YC} (hKS : ∀ k ∈ KM, k ∈ c.2.2.2.2) {S : St} {a1 : Int32} {out : St × Int32} (h : f_X8_isName n S a1 = some out) : MI c yX8_isName cX8_isName 2 (some .boolean) rm_X8_isName S [.ref (c.2.2.1 0 7 0), .int a1] out := mk_Z (own := RX8) (by decide +kernel) rfl (Nat.le_of_ble_eq_true rfl) (zW_some h).2 (fun x hx hR hy hE => by subst hy; exact t_X8_isName_0 hx hR hKS hE (zW_some h).1)
def j_X8_openOf_90 (n : Nat) (S : St) (l7 : Int32) (s0 : Int32) : Option (St × Int32) :=
  if l7 ≤ s0 then
    some (S, s0)
  else
    some (S, l7)
def j_X8_openOf_74 (n : Nat) (S : St) (l5 : Int32) (l6 : Int32) (s0 : Int32) : Option (St × Int32) :=
  if l6 ≤ l5 then
    j_X8_openOf_90 n S s0 l5
  else
    j_X8_openOf_90 n S s0 l6
def j_X8_openOf_53 (n : Nat) (S : St) (l1 : Int32) (l4 : Int32) (l5 : Int32) (s0 : Int32) : Option (St × Int32) :=
  if l1 = 6 then
    gI S 361 0 l4 1500 fun v2 =>
    j_X8_openOf_74 n S l5 s0 (v2 - 1)
  else
    j_X8_openOf_74 n S l5 s0 0
def j_X8_openOf_36 (n : Nat) (S : St) (l1 : Int32) (l3 : Int32) (l4 : Int32) (l5 : Int32) : Option (St × Int32) :=
  gI S 361 0 l3 1500 fun v1 =>
  j_X8_openOf_53 n S l1 l4 l5 (v1 - 1)
def f_X8_openOf (n : Nat) (S : St) (a1 : Int32) (a2 : Int32) (a3 : Int32) (a4 : Int32) : Option (St × Int32) :=
  if 3 ≤ a1 then
    gI S 361 0 a2 1500 fun v2 =>
    if a1 = 3 then
      j_X8_openOf_36 n S a1 a3 a4 v2
    else
      if a1 = 4 then
        j_X8_openOf_36 n S a1 a3 a4 v2
      else
        gI S 361 0 a3 1500 fun v7 =>
        j_X8_openOf_53 n S a1 a4 v2 v7
  else
    if a1 = 1 then
      some (S, (a2 + 1))
    else
      some (S, 0)
set_option maxRecDepth 100000 in
set_option maxHeartbeats 4000000 in
theorem t_X8_openOf_90 {n : Nat} {x : XC} (hx : CX x cX8_openOf 8 RX8) (hR : x_R x = rm_X8_openOf) (hKS : ∀ k ∈ KM, k ∈ x_K x) {out : St × Int32} (hE : EI x cX8_openOf out) {S : St} {l7 : Int32} {s0 : Int32} (h : j_X8_openOf_90 n S l7 s0 = some out) : WX x 8 0 0 S 90 [(7, .int l7)] [.int s0] := by
  unfold j_X8_openOf_90 at h
  refine r_istore (lv' := [(5, .int s0), (7, .int l7)]) hx dX8_openOf_90 (by decide) rfl ?_
  refine r_iload (k0 := 1) hx dX8_openOf_92 rfl ?_
  refine r_iload (k0 := 0) hx dX8_openOf_94 rfl ?_
  refine r_icmp_le (tgt := 104) hx dX8_openOf_96 (by decide) (fun c1 => ?_) (fun c1 => ?_)
  · have h := ite_t h c1
    refine r_iload (k0 := 0) hx dX8_openOf_104 rfl ?_
    exact r_iret hE h dX8_openOf_106
  · have h := ite_f h c1
    refine r_iload (k0 := 1) hx dX8_openOf_99 rfl ?_
    refine r_goto (tgt := 106) hx dX8_openOf_101 (by decide) ?_
    exact r_iret hE h dX8_openOf_106
set_option maxRecDepth 100000 in
set_option maxHeartbeats 4000000 in
theorem t_X8_openOf_74 {n : Nat} {x : XC} (hx : CX x cX8_openOf 8 RX8) (hR : x_R x = rm_X8_openOf) (hKS : ∀ k ∈ KM, k ∈ x_K x) {out : St × Int32} (hE : EI x cX8_openOf out) {S : St} {l5 : Int32} {l6 : Int32} {s0 : Int32} (h : j_X8_openOf_74 n S l5 l6 s0 = some out) : WX x 8 0 0 S 74 [(5, .int l5), (6, .int l6)] [.int s0] := by
  unfold j_X8_openOf_74 at h
  refine r_istore (lv' := [(7, .int s0), (5, .int l5), (6, .int l6)]) hx dX8_openOf_74 (by decide) rfl ?_
  refine r_iload (k0 := 2) hx dX8_openOf_76 rfl ?_
  refine r_iload (k0 := 1) hx dX8_openOf_78 rfl ?_
  refine r_icmp_le (tgt := 88) hx dX8_openOf_80 (by decide) (fun c1 => ?_) (fun c1 => ?_)
  · have h := ite_t h c1
    refine r_iload (k0 := 1) hx dX8_openOf_88 rfl ?_
    refine WX.sub (lv' := [(7, .int s0)]) ?_ [0] rfl
    exact t_X8_openOf_90 hx hR hKS hE h
  · have h := ite_f h c1
    refine r_iload (k0 := 2) hx dX8_openOf_83 rfl ?_
    refine r_goto (tgt := 90) hx dX8_openOf_85 (by decide) ?_
    refine WX.sub (lv' := [(7, .int s0)]) ?_ [0] rfl
    exact t_X8_openOf_90 hx hR hKS hE h
set_option maxRecDepth 100000 in
set_option maxHeartbeats 4000000 in
theorem t_X8_openOf_53 {n : Nat} {x : XC} (hx : CX x cX8_openOf 8 RX8) (hR : x_R x = rm_X8_openOf) (hKS : ∀ k ∈ KM, k ∈ x_K x) {out : St × Int32} (hE : EI x cX8_openOf out) {S : St} {l1 : Int32} {l4 : Int32} {l5 : Int32} {s0 : Int32} (h : j_X8_openOf_53 n S l1 l4 l5 s0 = some out) : WX x 8 0 0 S 53 [(0, .ref (x_ad x 0 7 0)), (1, .int l1), (4, .int l4), (5, .int l5)] [.int s0] := by
  unfold j_X8_openOf_53 at h
  refine r_istore (lv' := [(6, .int s0), (0, .ref (x_ad x 0 7 0)), (1, .int l1), (4, .int l4), (5, .int l5)]) hx dX8_openOf_53 (by decide) rfl ?_
  refine r_iload_n (k0 := 2) hx dX8_openOf_55 rfl rfl ?_
  refine r_bipush (v := 6) hx dX8_openOf_56 (by decide) ?_
  refine r_icmp_ne (tgt := 73) hx dX8_openOf_58 (by decide) (fun c1 => ?_) (fun c1 => ?_)
  · have h := ite_f h c1
    refine r_iconst (v := 0) hx dX8_openOf_73 (by decide) ?_
    refine WX.sub (lv' := [(5, .int l5), (6, .int s0)]) ?_ [4, 0] rfl
    exact t_X8_openOf_74 hx hR hKS hE h
  · have h := ite_t h c1
    refine r_aload_n (k0 := 1) hx dX8_openOf_61 rfl rfl ?_
    refine g_361 hx (k_0_7 hKS) wf_X8_41 dX8_openOf_62 ?_
    refine r_iload (k0 := 3) hx dX8_openOf_65 rfl ?_
    obtain ⟨v2, e3, i4, h⟩ := gI_some h
    refine r_iald hx (k_1_361 hKS) rfl i4 e3 dX8_openOf_67 ?_
    refine r_iconst (v := 1) hx dX8_openOf_68 (by decide) ?_
    refine r_isub hx dX8_openOf_69 ?_
    refine r_goto (tgt := 74) hx dX8_openOf_70 (by decide) ?_
    refine WX.sub (lv' := [(5, .int l5), (6, .int s0)]) ?_ [4, 0] rfl
    exact t_X8_openOf_74 hx hR hKS hE h
set_option maxRecDepth 100000 in
set_option maxHeartbeats 4000000 in
theorem t_X8_openOf_36 {n : Nat} {x : XC} (hx : CX x cX8_openOf 8 RX8) (hR : x_R x = rm_X8_openOf) (hKS : ∀ k ∈ KM, k ∈ x_K x) {out : St × Int32} (hE : EI x cX8_openOf out) {S : St} {l1 : Int32} {l3 : Int32} {l4 : Int32} {l5 : Int32} (h : j_X8_openOf_36 n S l1 l3 l4 l5 = some out) : WX x 8 0 0 S 36 [(0, .ref (x_ad x 0 7 0)), (1, .int l1), (3, .int l3), (4, .int l4), (5, .int l5)] [] := by
  unfold j_X8_openOf_36 at h
  refine r_aload_n (k0 := 0) hx dX8_openOf_36 rfl rfl ?_
  refine g_361 hx (k_0_7 hKS) wf_X8_41 dX8_openOf_37 ?_
  refine r_iload_n (k0 := 2) hx dX8_openOf_40 rfl rfl ?_
  obtain ⟨v1, e2, i3, h⟩ := gI_some h
  refine r_iald hx (k_1_361 hKS) rfl i3 e2 dX8_openOf_41 ?_
  refine r_iconst (v := 1) hx dX8_openOf_42 (by decide) ?_
  refine r_isub hx dX8_openOf_43 ?_
  refine r_goto (tgt := 53) hx dX8_openOf_44 (by decide) ?_
  refine WX.sub (lv' := [(0, .ref (x_ad x 0 7 0)), (1, .int l1), (4, .int l4), (5, .int l5)]) ?_ [0, 1, 3, 4] rfl
  exact t_X8_openOf_53 hx hR hKS hE h
set_option maxRecDepth 100000 in
set_option maxHeartbeats 4000000 in
theorem t_X8_openOf_0 {n : Nat} {x : XC} (hx : CX x cX8_openOf 8 RX8) (hR : x_R x = rm_X8_openOf) (hKS : ∀ k ∈ KM, k ∈ x_K x) {out : St × Int32} (hE : EI x cX8_openOf out) {S : St} {a1 : Int32} {a2 : Int32} {a3 : Int32} {a4 : Int32} (h : f_X8_openOf n S a1 a2 a3 a4 = some out) : WX x 8 0 0 S 0 [(0, .ref (x_ad x 0 7 0)), (1, .int a1), (2, .int a2), (3, .int a3), (4, .int a4)] [] := by
  unfold f_X8_openOf at h
  refine r_iload_n (k0 := 1) hx dX8_openOf_0 rfl rfl ?_
  refine r_iconst (v := 3) hx dX8_openOf_1 (by decide) ?_
  refine r_icmp_ge (tgt := 18) hx dX8_openOf_2 (by decide) (fun c1 => ?_) (fun c1 => ?_)
  · have h := ite_t h c1
    refine r_aload_n (k0 := 0) hx dX8_openOf_18 rfl rfl ?_
    refine g_361 hx (k_0_7 hKS) wf_X8_41 dX8_openOf_19 ?_
    refine r_iload_n (k0 := 2) hx dX8_openOf_22 rfl rfl ?_
    obtain ⟨v2, e3, i4, h⟩ := gI_some h
    refine r_iald hx (k_1_361 hKS) rfl i4 e3 dX8_openOf_23 ?_
    refine r_istore (lv' := [(5, .int v2), (0, .ref (x_ad x 0 7 0)), (1, .int a1), (2, .int a2), (3, .int a3), (4, .int a4)]) hx dX8_openOf_24 (by decide) rfl ?_
    refine r_iload_n (k0 := 2) hx dX8_openOf_26 rfl rfl ?_
    refine r_iconst (v := 3) hx dX8_openOf_27 (by decide) ?_
    refine r_icmp_eq (tgt := 36) hx dX8_openOf_28 (by decide) (fun c5 => ?_) (fun c5 => ?_)
    · have h := ite_t h c5
      refine WX.sub (lv' := [(0, .ref (x_ad x 0 7 0)), (1, .int a1), (3, .int a3), (4, .int a4), (5, .int v2)]) ?_ [1, 2, 4, 5, 0] rfl
      exact t_X8_openOf_36 hx hR hKS hE h
    · have h := ite_f h c5
      refine r_iload_n (k0 := 2) hx dX8_openOf_31 rfl rfl ?_
      refine r_iconst (v := 4) hx dX8_openOf_32 (by decide) ?_
      refine r_icmp_ne (tgt := 47) hx dX8_openOf_33 (by decide) (fun c6 => ?_) (fun c6 => ?_)
      · have h := ite_f h c6
        refine r_aload_n (k0 := 1) hx dX8_openOf_47 rfl rfl ?_
        refine g_361 hx (k_0_7 hKS) wf_X8_41 dX8_openOf_48 ?_
        refine r_iload_n (k0 := 4) hx dX8_openOf_51 rfl rfl ?_
        obtain ⟨v7, e8, i9, h⟩ := gI_some h
        refine r_iald hx (k_1_361 hKS) rfl i9 e8 dX8_openOf_52 ?_
        refine WX.sub (lv' := [(0, .ref (x_ad x 0 7 0)), (1, .int a1), (4, .int a4), (5, .int v2)]) ?_ [1, 2, 5, 0] rfl
        exact t_X8_openOf_53 hx hR hKS hE h
      · have h := ite_t h c6
        refine WX.sub (lv' := [(0, .ref (x_ad x 0 7 0)), (1, .int a1), (3, .int a3), (4, .int a4), (5, .int v2)]) ?_ [1, 2, 4, 5, 0] rfl
        exact t_X8_openOf_36 hx hR hKS hE h
  · have h := ite_f h c1
    refine r_iload_n (k0 := 1) hx dX8_openOf_5 rfl rfl ?_
    refine r_iconst (v := 1) hx dX8_openOf_6 (by decide) ?_
    refine r_icmp_ne (tgt := 16) hx dX8_openOf_7 (by decide) (fun c10 => ?_) (fun c10 => ?_)
    · have h := ite_f h c10
      refine r_iconst (v := 0) hx dX8_openOf_16 (by decide) ?_
      exact r_iret hE h dX8_openOf_17
    · have h := ite_t h c10
      refine r_iload_n (k0 := 2) hx dX8_openOf_10 rfl rfl ?_
      refine r_iconst (v := 1) hx dX8_openOf_11 (by decide) ?_
      refine r_iadd hx dX8_openOf_12 ?_
      refine r_goto (tgt := 17) hx dX8_openOf_13 (by decide) ?_
      exact r_iret hE h dX8_openOf_17
set_option maxHeartbeats 4000000 in
theorem C_X8_openOf {n : Nat} {c : YC} (hKS : ∀ k ∈ KM, k ∈ c.2.2.2.2) {S : St} {a1 : Int32} {a2 : Int32} {a3 : Int32} {a4 : Int32} {out : St × Int32} (h : f_X8_openOf n S a1 a2 a3 a4 = some out) : MI c yX8_openOf cX8_openOf 8 (some .int) rm_X8_openOf S [.ref (c.2.2.1 0 7 0), .int a1, .int a2, .int a3, .int a4] out := mk_I (own := RX8) (by decide +kernel) rfl (Nat.le_of_ble_eq_true rfl) (fun x hx hR hy hE => by subst hy; exact t_X8_openOf_0 hx hR hKS hE h)
def j_X8_numberOfLevel_108 (n : Nat) (K63 : St → Int32 → Int32 → Int32 → Int32 → Int32 → Option (St × Int32)) (S : St) (l1 : Int32) (l2 : Int32) (l3 : Int32) (l4 : Int32) (l5 : Int32) : Option (St × Int32) :=
  bV (l5 + 1) fun v1 =>
  K63 S l1 l2 l3 l4 v1
def l_X8_numberOfLevel_63 (n : Nat) : Nat → St → Int32 → Int32 → Int32 → Int32 → Int32 → Option (St × Int32)
  | 0, _, _, _, _, _, _ => none
  | m + 1, S, l1, l2, l3, l4, l5 =>
    if (S.1 355 0) ≤ l5 then
      if (S.1 355 0) = 300 then
        some (S, (-1))
      else
        pI S 351 0 (S.1 355 0) 300 l1 fun S3 =>
        pI S3 352 0 (S3.1 355 0) 300 l2 fun S6 =>
        pI S6 353 0 (S6.1 355 0) 300 l3 fun S9 =>
        pI S9 354 0 (S9.1 355 0) 300 l4 fun S12 =>
        pS S12 355 0 ((S12.1 355 0) + 1) fun S15 =>
        some (S15, ((S15.1 355 0) - 1))
    else
      gI S 351 0 l5 300 fun v17 =>
      if v17 = l1 then
        gI S 352 0 l5 300 fun v21 =>
        if v21 = l2 then
          gI S 353 0 l5 300 fun v25 =>
          if v25 = l3 then
            some (S, l5)
          else
            j_X8_numberOfLevel_108 n (fun S l1 l2 l3 l4 l5 => l_X8_numberOfLevel_63 n m S l1 l2 l3 l4 l5) S l1 l2 l3 l4 l5
        else
          j_X8_numberOfLevel_108 n (fun S l1 l2 l3 l4 l5 => l_X8_numberOfLevel_63 n m S l1 l2 l3 l4 l5) S l1 l2 l3 l4 l5
      else
        j_X8_numberOfLevel_108 n (fun S l1 l2 l3 l4 l5 => l_X8_numberOfLevel_63 n m S l1 l2 l3 l4 l5) S l1 l2 l3 l4 l5
def j_X8_numberOfLevel_60 (n : Nat) (S : St) (l1 : Int32) (l2 : Int32) (l3 : Int32) (l4 : Int32) : Option (St × Int32) :=
  l_X8_numberOfLevel_63 n n S l1 l2 l3 l4 0
def j_X8_numberOfLevel_41 (n : Nat) (S : St) (l1 : Int32) (l2 : Int32) (l3 : Int32) (s0 : Int32) (s1 : Int32) : Option (St × Int32) :=
  bV (s1 + s0) fun v1 =>
  if (S.1 379 0) = 0 then
    j_X8_numberOfLevel_60 n S l1 l2 l3 v1
  else
    if v1 ≤ 8 then
      j_X8_numberOfLevel_60 n S l1 l2 l3 v1
    else
      some (S, (-1))
def j_X8_numberOfLevel_31 (n : Nat) (S : St) (l1 : Int32) (l2 : Int32) (l3 : Int32) (s0 : Int32) : Option (St × Int32) :=
  gI S 354 0 l3 300 fun v1 =>
  j_X8_numberOfLevel_41 n S l1 l2 l3 v1 s0
def j_X8_numberOfLevel_20 (n : Nat) (S : St) (l1 : Int32) (l2 : Int32) (l3 : Int32) (s0 : Int32) (s1 : Int32) : Option (St × Int32) :=
  if l1 = 2 then
    j_X8_numberOfLevel_31 n S l1 l2 l3 (s1 + s0)
  else
    if l1 = 3 then
      j_X8_numberOfLevel_31 n S l1 l2 l3 (s1 + s0)
    else
      j_X8_numberOfLevel_41 n S l1 l2 l3 0 (s1 + s0)
def j_X8_numberOfLevel_19 (n : Nat) (S : St) (l1 : Int32) (l2 : Int32) (l3 : Int32) (s0 : Int32) : Option (St × Int32) :=
  j_X8_numberOfLevel_20 n S l1 l2 l3 0 s0
def f_X8_numberOfLevel (n : Nat) (S : St) (a1 : Int32) (a2 : Int32) (a3 : Int32) : Option (St × Int32) :=
  if a1 ≤ 0 then
    j_X8_numberOfLevel_19 n S a1 a2 a3 1
  else
    if 4 ≤ a1 then
      j_X8_numberOfLevel_19 n S a1 a2 a3 1
    else
      gI S 354 0 a2 300 fun v3 =>
      j_X8_numberOfLevel_20 n S a1 a2 a3 v3 1
set_option maxRecDepth 100000 in
set_option maxHeartbeats 4000000 in
theorem t_X8_numberOfLevel_108 {n : Nat} {K63 : St → Int32 → Int32 → Int32 → Int32 → Int32 → Option (St × Int32)} {x : XC} (hx : CX x cX8_numberOfLevel 6 RX8) (hR : x_R x = rm_X8_numberOfLevel) (hKS : ∀ k ∈ KM, k ∈ x_K x) {out : St × Int32} (hE : EI x cX8_numberOfLevel out) (hK63 : ∀ {S : St} {l1 : Int32} {l2 : Int32} {l3 : Int32} {l4 : Int32} {l5 : Int32}, K63 S l1 l2 l3 l4 l5 = some out → WX x 6 0 0 S 63 [(0, .ref (x_ad x 0 7 0)), (1, .int l1), (2, .int l2), (3, .int l3), (4, .int l4), (5, .int l5)] []) {S : St} {l1 : Int32} {l2 : Int32} {l3 : Int32} {l4 : Int32} {l5 : Int32} (h : j_X8_numberOfLevel_108 n K63 S l1 l2 l3 l4 l5 = some out) : WX x 6 0 0 S 108 [(0, .ref (x_ad x 0 7 0)), (1, .int l1), (2, .int l2), (3, .int l3), (4, .int l4), (5, .int l5)] [] := by
  unfold j_X8_numberOfLevel_108 at h
  obtain ⟨v1, e2, h⟩ := bV_some h
  refine r_iinc (k := 5) (v := v1) (lv' := [(5, .int v1), (0, .ref (x_ad x 0 7 0)), (1, .int l1), (2, .int l2), (3, .int l3), (4, .int l4)]) hx dX8_numberOfLevel_108 rfl (by rw [e2]; rfl) (by decide) rfl ?_
  refine r_goto (tgt := 63) hx dX8_numberOfLevel_111 (by decide) ?_
  refine WX.sub (lv' := [(0, .ref (x_ad x 0 7 0)), (1, .int l1), (2, .int l2), (3, .int l3), (4, .int l4), (5, .int v1)]) ?_ [1, 2, 3, 4, 5, 0] rfl
  exact hK63  h
set_option maxRecDepth 100000 in
set_option maxHeartbeats 4000000 in
theorem t_X8_numberOfLevel_63 {n : Nat} {x : XC} (hx : CX x cX8_numberOfLevel 6 RX8) (hR : x_R x = rm_X8_numberOfLevel) (hKS : ∀ k ∈ KM, k ∈ x_K x) {out : St × Int32} (hE : EI x cX8_numberOfLevel out) : ∀ {m : Nat} {S : St} {l1 : Int32} {l2 : Int32} {l3 : Int32} {l4 : Int32} {l5 : Int32} (h : l_X8_numberOfLevel_63 n m S l1 l2 l3 l4 l5 = some out), WX x 6 0 0 S 63 [(0, .ref (x_ad x 0 7 0)), (1, .int l1), (2, .int l2), (3, .int l3), (4, .int l4), (5, .int l5)] [] := by
  intro m
  induction m with
  | zero => intro S l1 l2 l3 l4 l5 h; cases h
  | succ m ih =>
    intro S l1 l2 l3 l4 l5 h
    unfold l_X8_numberOfLevel_63 at h
    refine r_iload (k0 := 5) hx dX8_numberOfLevel_63 rfl ?_
    refine r_aload_n (k0 := 0) hx dX8_numberOfLevel_65 rfl rfl ?_
    refine g_355 hx (k_0_7 hKS) wf_X8_22 dX8_numberOfLevel_66 ?_
    refine r_icmp_ge (tgt := 114) hx dX8_numberOfLevel_69 (by decide) (fun c1 => ?_) (fun c1 => ?_)
    · have h := ite_t h c1
      refine r_aload_n (k0 := 0) hx dX8_numberOfLevel_114 rfl rfl ?_
      refine g_355 hx (k_0_7 hKS) wf_X8_22 dX8_numberOfLevel_115 ?_
      refine r_sipush (v := 300) hx dX8_numberOfLevel_118 (by decide) ?_
      refine r_icmp_ne (tgt := 126) hx dX8_numberOfLevel_121 (by decide) (fun c2 => ?_) (fun c2 => ?_)
      · have h := ite_f h c2
        refine r_aload_n (k0 := 0) hx dX8_numberOfLevel_126 rfl rfl ?_
        refine g_351 hx (k_0_7 hKS) wf_X8_7 dX8_numberOfLevel_127 ?_
        refine r_aload_n (k0 := 0) hx dX8_numberOfLevel_130 rfl rfl ?_
        refine g_355 hx (k_0_7 hKS) wf_X8_22 dX8_numberOfLevel_131 ?_
        refine r_iload_n (k0 := 1) hx dX8_numberOfLevel_134 rfl rfl ?_
        obtain ⟨S3, e4, i5, h⟩ := pI_some h
        refine r_iast hx (k_1_351 hKS) rfl i5 e4 dX8_numberOfLevel_135 ?_
        refine r_aload_n (k0 := 0) hx dX8_numberOfLevel_136 rfl rfl ?_
        refine g_352 hx (k_0_7 hKS) wf_X8_13 dX8_numberOfLevel_137 ?_
        refine r_aload_n (k0 := 0) hx dX8_numberOfLevel_140 rfl rfl ?_
        refine g_355 hx (k_0_7 hKS) wf_X8_22 dX8_numberOfLevel_141 ?_
        refine r_iload_n (k0 := 2) hx dX8_numberOfLevel_144 rfl rfl ?_
        obtain ⟨S6, e7, i8, h⟩ := pI_some h
        refine r_iast hx (k_1_352 hKS) rfl i8 e7 dX8_numberOfLevel_145 ?_
        refine r_aload_n (k0 := 0) hx dX8_numberOfLevel_146 rfl rfl ?_
        refine g_353 hx (k_0_7 hKS) wf_X8_16 dX8_numberOfLevel_147 ?_
        refine r_aload_n (k0 := 0) hx dX8_numberOfLevel_150 rfl rfl ?_
        refine g_355 hx (k_0_7 hKS) wf_X8_22 dX8_numberOfLevel_151 ?_
        refine r_iload_n (k0 := 3) hx dX8_numberOfLevel_154 rfl rfl ?_
        obtain ⟨S9, e10, i11, h⟩ := pI_some h
        refine r_iast hx (k_1_353 hKS) rfl i11 e10 dX8_numberOfLevel_155 ?_
        refine r_aload_n (k0 := 0) hx dX8_numberOfLevel_156 rfl rfl ?_
        refine g_354 hx (k_0_7 hKS) wf_X8_19 dX8_numberOfLevel_157 ?_
        refine r_aload_n (k0 := 0) hx dX8_numberOfLevel_160 rfl rfl ?_
        refine g_355 hx (k_0_7 hKS) wf_X8_22 dX8_numberOfLevel_161 ?_
        refine r_iload (k0 := 4) hx dX8_numberOfLevel_164 rfl ?_
        obtain ⟨S12, e13, i14, h⟩ := pI_some h
        refine r_iast hx (k_1_354 hKS) rfl i14 e13 dX8_numberOfLevel_166 ?_
        refine r_aload_n (k0 := 0) hx dX8_numberOfLevel_167 rfl rfl ?_
        refine r_dup hx dX8_numberOfLevel_168 rfl ?_
        refine g_355 hx (k_0_7 hKS) wf_X8_22 dX8_numberOfLevel_169 ?_
        refine r_iconst (v := 1) hx dX8_numberOfLevel_172 (by decide) ?_
        refine r_iadd hx dX8_numberOfLevel_173 ?_
        obtain ⟨S15, e16, h⟩ := pS_some h
        refine p_355 hx (k_0_7 hKS) wf_X8_22 dX8_numberOfLevel_174 e16 ?_
        refine r_aload_n (k0 := 0) hx dX8_numberOfLevel_177 rfl rfl ?_
        refine g_355 hx (k_0_7 hKS) wf_X8_22 dX8_numberOfLevel_178 ?_
        refine r_iconst (v := 1) hx dX8_numberOfLevel_181 (by decide) ?_
        refine r_isub hx dX8_numberOfLevel_182 ?_
        exact r_iret hE h dX8_numberOfLevel_183
      · have h := ite_t h c2
        refine r_iconst (v := -1) hx dX8_numberOfLevel_124 (by decide) ?_
        exact r_iret hE h dX8_numberOfLevel_125
    · have h := ite_f h c1
      refine r_aload_n (k0 := 0) hx dX8_numberOfLevel_72 rfl rfl ?_
      refine g_351 hx (k_0_7 hKS) wf_X8_7 dX8_numberOfLevel_73 ?_
      refine r_iload (k0 := 5) hx dX8_numberOfLevel_76 rfl ?_
      obtain ⟨v17, e18, i19, h⟩ := gI_some h
      refine r_iald hx (k_1_351 hKS) rfl i19 e18 dX8_numberOfLevel_78 ?_
      refine r_iload_n (k0 := 1) hx dX8_numberOfLevel_79 rfl rfl ?_
      refine r_icmp_ne (tgt := 108) hx dX8_numberOfLevel_80 (by decide) (fun c20 => ?_) (fun c20 => ?_)
      · have h := ite_f h c20
        exact t_X8_numberOfLevel_108 hx hR hKS hE ih h
      · have h := ite_t h c20
        refine r_aload_n (k0 := 0) hx dX8_numberOfLevel_83 rfl rfl ?_
        refine g_352 hx (k_0_7 hKS) wf_X8_13 dX8_numberOfLevel_84 ?_
        refine r_iload (k0 := 5) hx dX8_numberOfLevel_87 rfl ?_
        obtain ⟨v21, e22, i23, h⟩ := gI_some h
        refine r_iald hx (k_1_352 hKS) rfl i23 e22 dX8_numberOfLevel_89 ?_
        refine r_iload_n (k0 := 2) hx dX8_numberOfLevel_90 rfl rfl ?_
        refine r_icmp_ne (tgt := 108) hx dX8_numberOfLevel_91 (by decide) (fun c24 => ?_) (fun c24 => ?_)
        · have h := ite_f h c24
          exact t_X8_numberOfLevel_108 hx hR hKS hE ih h
        · have h := ite_t h c24
          refine r_aload_n (k0 := 0) hx dX8_numberOfLevel_94 rfl rfl ?_
          refine g_353 hx (k_0_7 hKS) wf_X8_16 dX8_numberOfLevel_95 ?_
          refine r_iload (k0 := 5) hx dX8_numberOfLevel_98 rfl ?_
          obtain ⟨v25, e26, i27, h⟩ := gI_some h
          refine r_iald hx (k_1_353 hKS) rfl i27 e26 dX8_numberOfLevel_100 ?_
          refine r_iload_n (k0 := 3) hx dX8_numberOfLevel_101 rfl rfl ?_
          refine r_icmp_ne (tgt := 108) hx dX8_numberOfLevel_102 (by decide) (fun c28 => ?_) (fun c28 => ?_)
          · have h := ite_f h c28
            exact t_X8_numberOfLevel_108 hx hR hKS hE ih h
          · have h := ite_t h c28
            refine r_iload (k0 := 5) hx dX8_numberOfLevel_105 rfl ?_
            exact r_iret hE h dX8_numberOfLevel_107
set_option maxRecDepth 100000 in
set_option maxHeartbeats 4000000 in
theorem t_X8_numberOfLevel_60 {n : Nat} {x : XC} (hx : CX x cX8_numberOfLevel 6 RX8) (hR : x_R x = rm_X8_numberOfLevel) (hKS : ∀ k ∈ KM, k ∈ x_K x) {out : St × Int32} (hE : EI x cX8_numberOfLevel out) {S : St} {l1 : Int32} {l2 : Int32} {l3 : Int32} {l4 : Int32} (h : j_X8_numberOfLevel_60 n S l1 l2 l3 l4 = some out) : WX x 6 0 0 S 60 [(0, .ref (x_ad x 0 7 0)), (1, .int l1), (2, .int l2), (3, .int l3), (4, .int l4)] [] := by
  unfold j_X8_numberOfLevel_60 at h
  refine r_iconst (v := 0) hx dX8_numberOfLevel_60 (by decide) ?_
  refine r_istore (lv' := [(5, .int 0), (0, .ref (x_ad x 0 7 0)), (1, .int l1), (2, .int l2), (3, .int l3), (4, .int l4)]) hx dX8_numberOfLevel_61 (by decide) rfl ?_
  refine WX.sub (lv' := [(0, .ref (x_ad x 0 7 0)), (1, .int l1), (2, .int l2), (3, .int l3), (4, .int l4), (5, .int 0)]) ?_ [1, 2, 3, 4, 5, 0] rfl
  exact t_X8_numberOfLevel_63 hx hR hKS hE h
set_option maxRecDepth 100000 in
set_option maxHeartbeats 4000000 in
theorem t_X8_numberOfLevel_41 {n : Nat} {x : XC} (hx : CX x cX8_numberOfLevel 6 RX8) (hR : x_R x = rm_X8_numberOfLevel) (hKS : ∀ k ∈ KM, k ∈ x_K x) {out : St × Int32} (hE : EI x cX8_numberOfLevel out) {S : St} {l1 : Int32} {l2 : Int32} {l3 : Int32} {s0 : Int32} {s1 : Int32} (h : j_X8_numberOfLevel_41 n S l1 l2 l3 s0 s1 = some out) : WX x 6 0 0 S 41 [(0, .ref (x_ad x 0 7 0)), (1, .int l1), (2, .int l2), (3, .int l3)] [.int s0, .int s1] := by
  unfold j_X8_numberOfLevel_41 at h
  refine r_iadd hx dX8_numberOfLevel_41 ?_
  obtain ⟨v1, e2, h⟩ := bV_some h
  rw [← e2]
  refine r_istore (lv' := [(4, .int v1), (0, .ref (x_ad x 0 7 0)), (1, .int l1), (2, .int l2), (3, .int l3)]) hx dX8_numberOfLevel_42 (by decide) rfl ?_
  refine r_aload_n (k0 := 1) hx dX8_numberOfLevel_44 rfl rfl ?_
  refine g_379 hx (k_0_7 hKS) wf_X8_78 dX8_numberOfLevel_45 ?_
  refine r_if_eq (tgt := 60) hx dX8_numberOfLevel_48 (by decide) (fun c3 => ?_) (fun c3 => ?_)
  · have h := ite_t h c3
    refine WX.sub (lv' := [(0, .ref (x_ad x 0 7 0)), (1, .int l1), (2, .int l2), (3, .int l3), (4, .int v1)]) ?_ [1, 2, 3, 4, 0] rfl
    exact t_X8_numberOfLevel_60 hx hR hKS hE h
  · have h := ite_f h c3
    refine r_iload (k0 := 0) hx dX8_numberOfLevel_51 rfl ?_
    refine r_bipush (v := 8) hx dX8_numberOfLevel_53 (by decide) ?_
    refine r_icmp_le (tgt := 60) hx dX8_numberOfLevel_55 (by decide) (fun c4 => ?_) (fun c4 => ?_)
    · have h := ite_t h c4
      refine WX.sub (lv' := [(0, .ref (x_ad x 0 7 0)), (1, .int l1), (2, .int l2), (3, .int l3), (4, .int v1)]) ?_ [1, 2, 3, 4, 0] rfl
      exact t_X8_numberOfLevel_60 hx hR hKS hE h
    · have h := ite_f h c4
      refine r_iconst (v := -1) hx dX8_numberOfLevel_58 (by decide) ?_
      exact r_iret hE h dX8_numberOfLevel_59
set_option maxRecDepth 100000 in
set_option maxHeartbeats 4000000 in
theorem t_X8_numberOfLevel_31 {n : Nat} {x : XC} (hx : CX x cX8_numberOfLevel 6 RX8) (hR : x_R x = rm_X8_numberOfLevel) (hKS : ∀ k ∈ KM, k ∈ x_K x) {out : St × Int32} (hE : EI x cX8_numberOfLevel out) {S : St} {l1 : Int32} {l2 : Int32} {l3 : Int32} {s0 : Int32} (h : j_X8_numberOfLevel_31 n S l1 l2 l3 s0 = some out) : WX x 6 0 0 S 31 [(0, .ref (x_ad x 0 7 0)), (1, .int l1), (2, .int l2), (3, .int l3)] [.int s0] := by
  unfold j_X8_numberOfLevel_31 at h
  refine r_aload_n (k0 := 0) hx dX8_numberOfLevel_31 rfl rfl ?_
  refine g_354 hx (k_0_7 hKS) wf_X8_19 dX8_numberOfLevel_32 ?_
  refine r_iload_n (k0 := 3) hx dX8_numberOfLevel_35 rfl rfl ?_
  obtain ⟨v1, e2, i3, h⟩ := gI_some h
  refine r_iald hx (k_1_354 hKS) rfl i3 e2 dX8_numberOfLevel_36 ?_
  refine r_goto (tgt := 41) hx dX8_numberOfLevel_37 (by decide) ?_
  exact t_X8_numberOfLevel_41 hx hR hKS hE h
set_option maxRecDepth 100000 in
set_option maxHeartbeats 4000000 in
theorem t_X8_numberOfLevel_20 {n : Nat} {x : XC} (hx : CX x cX8_numberOfLevel 6 RX8) (hR : x_R x = rm_X8_numberOfLevel) (hKS : ∀ k ∈ KM, k ∈ x_K x) {out : St × Int32} (hE : EI x cX8_numberOfLevel out) {S : St} {l1 : Int32} {l2 : Int32} {l3 : Int32} {s0 : Int32} {s1 : Int32} (h : j_X8_numberOfLevel_20 n S l1 l2 l3 s0 s1 = some out) : WX x 6 0 0 S 20 [(0, .ref (x_ad x 0 7 0)), (1, .int l1), (2, .int l2), (3, .int l3)] [.int s0, .int s1] := by
  unfold j_X8_numberOfLevel_20 at h
  refine r_iadd hx dX8_numberOfLevel_20 ?_
  refine r_iload_n (k0 := 1) hx dX8_numberOfLevel_21 rfl rfl ?_
  refine r_iconst (v := 2) hx dX8_numberOfLevel_22 (by decide) ?_
  refine r_icmp_eq (tgt := 31) hx dX8_numberOfLevel_23 (by decide) (fun c1 => ?_) (fun c1 => ?_)
  · have h := ite_t h c1
    exact t_X8_numberOfLevel_31 hx hR hKS hE h
  · have h := ite_f h c1
    refine r_iload_n (k0 := 1) hx dX8_numberOfLevel_26 rfl rfl ?_
    refine r_iconst (v := 3) hx dX8_numberOfLevel_27 (by decide) ?_
    refine r_icmp_ne (tgt := 40) hx dX8_numberOfLevel_28 (by decide) (fun c2 => ?_) (fun c2 => ?_)
    · have h := ite_f h c2
      refine r_iconst (v := 0) hx dX8_numberOfLevel_40 (by decide) ?_
      exact t_X8_numberOfLevel_41 hx hR hKS hE h
    · have h := ite_t h c2
      exact t_X8_numberOfLevel_31 hx hR hKS hE h
set_option maxRecDepth 100000 in
set_option maxHeartbeats 4000000 in
theorem t_X8_numberOfLevel_19 {n : Nat} {x : XC} (hx : CX x cX8_numberOfLevel 6 RX8) (hR : x_R x = rm_X8_numberOfLevel) (hKS : ∀ k ∈ KM, k ∈ x_K x) {out : St × Int32} (hE : EI x cX8_numberOfLevel out) {S : St} {l1 : Int32} {l2 : Int32} {l3 : Int32} {s0 : Int32} (h : j_X8_numberOfLevel_19 n S l1 l2 l3 s0 = some out) : WX x 6 0 0 S 19 [(0, .ref (x_ad x 0 7 0)), (1, .int l1), (2, .int l2), (3, .int l3)] [.int s0] := by
  unfold j_X8_numberOfLevel_19 at h
  refine r_iconst (v := 0) hx dX8_numberOfLevel_19 (by decide) ?_
  exact t_X8_numberOfLevel_20 hx hR hKS hE h
set_option maxRecDepth 100000 in
set_option maxHeartbeats 4000000 in
theorem t_X8_numberOfLevel_0 {n : Nat} {x : XC} (hx : CX x cX8_numberOfLevel 6 RX8) (hR : x_R x = rm_X8_numberOfLevel) (hKS : ∀ k ∈ KM, k ∈ x_K x) {out : St × Int32} (hE : EI x cX8_numberOfLevel out) {S : St} {a1 : Int32} {a2 : Int32} {a3 : Int32} (h : f_X8_numberOfLevel n S a1 a2 a3 = some out) : WX x 6 0 0 S 0 [(0, .ref (x_ad x 0 7 0)), (1, .int a1), (2, .int a2), (3, .int a3)] [] := by
  unfold f_X8_numberOfLevel at h
  refine r_iconst (v := 1) hx dX8_numberOfLevel_0 (by decide) ?_
  refine r_iload_n (k0 := 1) hx dX8_numberOfLevel_1 rfl rfl ?_
  refine r_if_le (tgt := 19) hx dX8_numberOfLevel_2 (by decide) (fun c1 => ?_) (fun c1 => ?_)
  · have h := ite_t h c1
    exact t_X8_numberOfLevel_19 hx hR hKS hE h
  · have h := ite_f h c1
    refine r_iload_n (k0 := 1) hx dX8_numberOfLevel_5 rfl rfl ?_
    refine r_iconst (v := 4) hx dX8_numberOfLevel_6 (by decide) ?_
    refine r_icmp_ge (tgt := 19) hx dX8_numberOfLevel_7 (by decide) (fun c2 => ?_) (fun c2 => ?_)
    · have h := ite_t h c2
      exact t_X8_numberOfLevel_19 hx hR hKS hE h
    · have h := ite_f h c2
      refine r_aload_n (k0 := 0) hx dX8_numberOfLevel_10 rfl rfl ?_
      refine g_354 hx (k_0_7 hKS) wf_X8_19 dX8_numberOfLevel_11 ?_
      refine r_iload_n (k0 := 2) hx dX8_numberOfLevel_14 rfl rfl ?_
      obtain ⟨v3, e4, i5, h⟩ := gI_some h
      refine r_iald hx (k_1_354 hKS) rfl i5 e4 dX8_numberOfLevel_15 ?_
      refine r_goto (tgt := 20) hx dX8_numberOfLevel_16 (by decide) ?_
      exact t_X8_numberOfLevel_20 hx hR hKS hE h
set_option maxHeartbeats 4000000 in
theorem C_X8_numberOfLevel {n : Nat} {c : YC} (hKS : ∀ k ∈ KM, k ∈ c.2.2.2.2) {S : St} {a1 : Int32} {a2 : Int32} {a3 : Int32} {out : St × Int32} (h : f_X8_numberOfLevel n S a1 a2 a3 = some out) : MI c yX8_numberOfLevel cX8_numberOfLevel 6 (some .int) rm_X8_numberOfLevel S [.ref (c.2.2.1 0 7 0), .int a1, .int a2, .int a3] out := mk_I (own := RX8) (by decide +kernel) rfl (Nat.le_of_ble_eq_true rfl) (fun x hx hR hy hE => by subst hy; exact t_X8_numberOfLevel_0 hx hR hKS hE h)
def j_X8_numberOfTerm_120 (n : Nat) (K63 : St → Int32 → Int32 → Int32 → Int32 → Int32 → Int32 → Option (St × Int32)) (S : St) (l1 : Int32) (l2 : Int32) (l3 : Int32) (l4 : Int32) (l5 : Int32) (l6 : Int32) : Option (St × Int32) :=
  bV (l6 + 1) fun v1 =>
  K63 S l1 l2 l3 l4 l5 v1
def l_X8_numberOfTerm_63 (n : Nat) : Nat → St → Int32 → Int32 → Int32 → Int32 → Int32 → Int32 → Option (St × Int32)
  | 0, _, _, _, _, _, _, _ => none
  | m + 1, S, l1, l2, l3, l4, l5, l6 =>
    if (S.1 362 0) ≤ l6 then
      if (S.1 362 0) = 1500 then
        some (S, (-1))
      else
        pI S 356 0 (S.1 362 0) 1500 l1 fun S3 =>
        pI S3 357 0 (S3.1 362 0) 1500 l2 fun S6 =>
        pI S6 358 0 (S6.1 362 0) 1500 l3 fun S9 =>
        pI S9 359 0 (S9.1 362 0) 1500 l4 fun S12 =>
        pI S12 360 0 (S12.1 362 0) 1500 l5 fun S15 =>
        bI (f_X8_openOf n S15 l1 l2 l3 l4) fun S18 v20 =>
        pI S18 361 0 (S15.1 362 0) 1500 v20 fun S21 =>
        pS S21 362 0 ((S21.1 362 0) + 1) fun S24 =>
        some (S24, ((S24.1 362 0) - 1))
    else
      gI S 356 0 l6 1500 fun v26 =>
      if v26 = l1 then
        gI S 357 0 l6 1500 fun v30 =>
        if v30 = l2 then
          gI S 358 0 l6 1500 fun v34 =>
          if v34 = l3 then
            gI S 359 0 l6 1500 fun v38 =>
            if v38 = l4 then
              some (S, l6)
            else
              j_X8_numberOfTerm_120 n (fun S l1 l2 l3 l4 l5 l6 => l_X8_numberOfTerm_63 n m S l1 l2 l3 l4 l5 l6) S l1 l2 l3 l4 l5 l6
          else
            j_X8_numberOfTerm_120 n (fun S l1 l2 l3 l4 l5 l6 => l_X8_numberOfTerm_63 n m S l1 l2 l3 l4 l5 l6) S l1 l2 l3 l4 l5 l6
        else
          j_X8_numberOfTerm_120 n (fun S l1 l2 l3 l4 l5 l6 => l_X8_numberOfTerm_63 n m S l1 l2 l3 l4 l5 l6) S l1 l2 l3 l4 l5 l6
      else
        j_X8_numberOfTerm_120 n (fun S l1 l2 l3 l4 l5 l6 => l_X8_numberOfTerm_63 n m S l1 l2 l3 l4 l5 l6) S l1 l2 l3 l4 l5 l6
def j_X8_numberOfTerm_60 (n : Nat) (S : St) (l1 : Int32) (l2 : Int32) (l3 : Int32) (l4 : Int32) (l5 : Int32) : Option (St × Int32) :=
  l_X8_numberOfTerm_63 n n S l1 l2 l3 l4 l5 0
def j_X8_numberOfTerm_41 (n : Nat) (S : St) (l1 : Int32) (l2 : Int32) (l3 : Int32) (l4 : Int32) (s0 : Int32) (s1 : Int32) : Option (St × Int32) :=
  bV (s1 + s0) fun v1 =>
  if (S.1 379 0) = 0 then
    j_X8_numberOfTerm_60 n S l1 l2 l3 l4 v1
  else
    if v1 ≤ 60 then
      j_X8_numberOfTerm_60 n S l1 l2 l3 l4 v1
    else
      some (S, (-1))
def j_X8_numberOfTerm_23 (n : Nat) (S : St) (l1 : Int32) (l2 : Int32) (l3 : Int32) (l4 : Int32) (s0 : Int32) (s1 : Int32) : Option (St × Int32) :=
  if l1 = 6 then
    gI S 360 0 l4 1500 fun v2 =>
    j_X8_numberOfTerm_41 n S l1 l2 l3 l4 v2 (s1 + s0)
  else
    j_X8_numberOfTerm_41 n S l1 l2 l3 l4 0 (s1 + s0)
def f_X8_numberOfTerm (n : Nat) (S : St) (a1 : Int32) (a2 : Int32) (a3 : Int32) (a4 : Int32) : Option (St × Int32) :=
  if a1 ≤ 2 then
    j_X8_numberOfTerm_23 n S a1 a2 a3 a4 0 1
  else
    gI S 360 0 a2 1500 fun v2 =>
    gI S 360 0 a3 1500 fun v5 =>
    j_X8_numberOfTerm_23 n S a1 a2 a3 a4 (v2 + v5) 1
set_option maxRecDepth 100000 in
set_option maxHeartbeats 4000000 in
theorem t_X8_numberOfTerm_120 {n : Nat} {K63 : St → Int32 → Int32 → Int32 → Int32 → Int32 → Int32 → Option (St × Int32)} {x : XC} (hx : CX x cX8_numberOfTerm 7 RX8) (hR : x_R x = rm_X8_numberOfTerm) (hKS : ∀ k ∈ KM, k ∈ x_K x) {out : St × Int32} (hE : EI x cX8_numberOfTerm out) (hK63 : ∀ {S : St} {l1 : Int32} {l2 : Int32} {l3 : Int32} {l4 : Int32} {l5 : Int32} {l6 : Int32}, K63 S l1 l2 l3 l4 l5 l6 = some out → WX x 7 0 0 S 63 [(0, .ref (x_ad x 0 7 0)), (1, .int l1), (2, .int l2), (3, .int l3), (4, .int l4), (5, .int l5), (6, .int l6)] []) {S : St} {l1 : Int32} {l2 : Int32} {l3 : Int32} {l4 : Int32} {l5 : Int32} {l6 : Int32} (h : j_X8_numberOfTerm_120 n K63 S l1 l2 l3 l4 l5 l6 = some out) : WX x 7 0 0 S 120 [(0, .ref (x_ad x 0 7 0)), (1, .int l1), (2, .int l2), (3, .int l3), (4, .int l4), (5, .int l5), (6, .int l6)] [] := by
  unfold j_X8_numberOfTerm_120 at h
  obtain ⟨v1, e2, h⟩ := bV_some h
  refine r_iinc (k := 6) (v := v1) (lv' := [(6, .int v1), (0, .ref (x_ad x 0 7 0)), (1, .int l1), (2, .int l2), (3, .int l3), (4, .int l4), (5, .int l5)]) hx dX8_numberOfTerm_120 rfl (by rw [e2]; rfl) (by decide) rfl ?_
  refine r_goto (tgt := 63) hx dX8_numberOfTerm_123 (by decide) ?_
  refine WX.sub (lv' := [(0, .ref (x_ad x 0 7 0)), (1, .int l1), (2, .int l2), (3, .int l3), (4, .int l4), (5, .int l5), (6, .int v1)]) ?_ [1, 2, 3, 4, 5, 6, 0] rfl
  exact hK63  h
set_option maxRecDepth 100000 in
set_option maxHeartbeats 4000000 in
theorem t_X8_numberOfTerm_63 {n : Nat} {x : XC} (hx : CX x cX8_numberOfTerm 7 RX8) (hR : x_R x = rm_X8_numberOfTerm) (hKS : ∀ k ∈ KM, k ∈ x_K x) {out : St × Int32} (hE : EI x cX8_numberOfTerm out) : ∀ {m : Nat} {S : St} {l1 : Int32} {l2 : Int32} {l3 : Int32} {l4 : Int32} {l5 : Int32} {l6 : Int32} (h : l_X8_numberOfTerm_63 n m S l1 l2 l3 l4 l5 l6 = some out), WX x 7 0 0 S 63 [(0, .ref (x_ad x 0 7 0)), (1, .int l1), (2, .int l2), (3, .int l3), (4, .int l4), (5, .int l5), (6, .int l6)] [] := by
  intro m
  induction m with
  | zero => intro S l1 l2 l3 l4 l5 l6 h; cases h
  | succ m ih =>
    intro S l1 l2 l3 l4 l5 l6 h
    unfold l_X8_numberOfTerm_63 at h
    refine r_iload (k0 := 6) hx dX8_numberOfTerm_63 rfl ?_
    refine r_aload_n (k0 := 0) hx dX8_numberOfTerm_65 rfl rfl ?_
    refine g_362 hx (k_0_7 hKS) wf_X8_109 dX8_numberOfTerm_66 ?_
    refine r_icmp_ge (tgt := 126) hx dX8_numberOfTerm_69 (by decide) (fun c1 => ?_) (fun c1 => ?_)
    · have h := ite_t h c1
      refine r_aload_n (k0 := 0) hx dX8_numberOfTerm_126 rfl rfl ?_
      refine g_362 hx (k_0_7 hKS) wf_X8_109 dX8_numberOfTerm_127 ?_
      refine r_sipush (v := 1500) hx dX8_numberOfTerm_130 (by decide) ?_
      refine r_icmp_ne (tgt := 138) hx dX8_numberOfTerm_133 (by decide) (fun c2 => ?_) (fun c2 => ?_)
      · have h := ite_f h c2
        refine r_aload_n (k0 := 0) hx dX8_numberOfTerm_138 rfl rfl ?_
        refine g_356 hx (k_0_7 hKS) wf_X8_26 dX8_numberOfTerm_139 ?_
        refine r_aload_n (k0 := 0) hx dX8_numberOfTerm_142 rfl rfl ?_
        refine g_362 hx (k_0_7 hKS) wf_X8_109 dX8_numberOfTerm_143 ?_
        refine r_iload_n (k0 := 1) hx dX8_numberOfTerm_146 rfl rfl ?_
        obtain ⟨S3, e4, i5, h⟩ := pI_some h
        refine r_iast hx (k_1_356 hKS) rfl i5 e4 dX8_numberOfTerm_147 ?_
        refine r_aload_n (k0 := 0) hx dX8_numberOfTerm_148 rfl rfl ?_
        refine g_357 hx (k_0_7 hKS) wf_X8_29 dX8_numberOfTerm_149 ?_
        refine r_aload_n (k0 := 0) hx dX8_numberOfTerm_152 rfl rfl ?_
        refine g_362 hx (k_0_7 hKS) wf_X8_109 dX8_numberOfTerm_153 ?_
        refine r_iload_n (k0 := 2) hx dX8_numberOfTerm_156 rfl rfl ?_
        obtain ⟨S6, e7, i8, h⟩ := pI_some h
        refine r_iast hx (k_1_357 hKS) rfl i8 e7 dX8_numberOfTerm_157 ?_
        refine r_aload_n (k0 := 0) hx dX8_numberOfTerm_158 rfl rfl ?_
        refine g_358 hx (k_0_7 hKS) wf_X8_32 dX8_numberOfTerm_159 ?_
        refine r_aload_n (k0 := 0) hx dX8_numberOfTerm_162 rfl rfl ?_
        refine g_362 hx (k_0_7 hKS) wf_X8_109 dX8_numberOfTerm_163 ?_
        refine r_iload_n (k0 := 3) hx dX8_numberOfTerm_166 rfl rfl ?_
        obtain ⟨S9, e10, i11, h⟩ := pI_some h
        refine r_iast hx (k_1_358 hKS) rfl i11 e10 dX8_numberOfTerm_167 ?_
        refine r_aload_n (k0 := 0) hx dX8_numberOfTerm_168 rfl rfl ?_
        refine g_359 hx (k_0_7 hKS) wf_X8_35 dX8_numberOfTerm_169 ?_
        refine r_aload_n (k0 := 0) hx dX8_numberOfTerm_172 rfl rfl ?_
        refine g_362 hx (k_0_7 hKS) wf_X8_109 dX8_numberOfTerm_173 ?_
        refine r_iload (k0 := 4) hx dX8_numberOfTerm_176 rfl ?_
        obtain ⟨S12, e13, i14, h⟩ := pI_some h
        refine r_iast hx (k_1_359 hKS) rfl i14 e13 dX8_numberOfTerm_178 ?_
        refine r_aload_n (k0 := 0) hx dX8_numberOfTerm_179 rfl rfl ?_
        refine g_360 hx (k_0_7 hKS) wf_X8_38 dX8_numberOfTerm_180 ?_
        refine r_aload_n (k0 := 0) hx dX8_numberOfTerm_183 rfl rfl ?_
        refine g_362 hx (k_0_7 hKS) wf_X8_109 dX8_numberOfTerm_184 ?_
        refine r_iload (k0 := 5) hx dX8_numberOfTerm_187 rfl ?_
        obtain ⟨S15, e16, i17, h⟩ := pI_some h
        refine r_iast hx (k_1_360 hKS) rfl i17 e16 dX8_numberOfTerm_189 ?_
        refine r_aload_n (k0 := 0) hx dX8_numberOfTerm_190 rfl rfl ?_
        refine g_361 hx (k_0_7 hKS) wf_X8_41 dX8_numberOfTerm_191 ?_
        refine r_aload_n (k0 := 0) hx dX8_numberOfTerm_194 rfl rfl ?_
        refine g_362 hx (k_0_7 hKS) wf_X8_109 dX8_numberOfTerm_195 ?_
        refine r_aload_n (k0 := 0) hx dX8_numberOfTerm_198 rfl rfl ?_
        refine r_iload_n (k0 := 1) hx dX8_numberOfTerm_199 rfl rfl ?_
        refine r_iload_n (k0 := 2) hx dX8_numberOfTerm_200 rfl rfl ?_
        refine r_iload_n (k0 := 3) hx dX8_numberOfTerm_201 rfl rfl ?_
        refine r_iload (k0 := 4) hx dX8_numberOfTerm_202 rfl ?_
        obtain ⟨S18, v20, c19, h⟩ := bI_some h
        refine r_Vi (ci := 7) (As := [.int l1, .int l2, .int l3, .int l4]) (rest := [.int (S15.1 362 0), .ref (x_ad x 1 361 0)]) hx (C_X8_openOf (c := x_y x) hKS c19) (k_0_7 hKS) rfl wl_X8_119 wi_X8_openOf we_X8_openOf wn_X8 wc_X8_openOf dy_X8_openOf rfl (by rw [hR]; decide +kernel) rfl (Nat.le_of_ble_eq_true rfl) dX8_numberOfTerm_204 ?_
        obtain ⟨S21, e22, i23, h⟩ := pI_some h
        refine r_iast hx (k_1_361 hKS) rfl i23 e22 dX8_numberOfTerm_207 ?_
        refine r_aload_n (k0 := 0) hx dX8_numberOfTerm_208 rfl rfl ?_
        refine r_dup hx dX8_numberOfTerm_209 rfl ?_
        refine g_362 hx (k_0_7 hKS) wf_X8_109 dX8_numberOfTerm_210 ?_
        refine r_iconst (v := 1) hx dX8_numberOfTerm_213 (by decide) ?_
        refine r_iadd hx dX8_numberOfTerm_214 ?_
        obtain ⟨S24, e25, h⟩ := pS_some h
        refine p_362 hx (k_0_7 hKS) wf_X8_109 dX8_numberOfTerm_215 e25 ?_
        refine r_aload_n (k0 := 0) hx dX8_numberOfTerm_218 rfl rfl ?_
        refine g_362 hx (k_0_7 hKS) wf_X8_109 dX8_numberOfTerm_219 ?_
        refine r_iconst (v := 1) hx dX8_numberOfTerm_222 (by decide) ?_
        refine r_isub hx dX8_numberOfTerm_223 ?_
        exact r_iret hE h dX8_numberOfTerm_224
      · have h := ite_t h c2
        refine r_iconst (v := -1) hx dX8_numberOfTerm_136 (by decide) ?_
        exact r_iret hE h dX8_numberOfTerm_137
    · have h := ite_f h c1
      refine r_aload_n (k0 := 0) hx dX8_numberOfTerm_72 rfl rfl ?_
      refine g_356 hx (k_0_7 hKS) wf_X8_26 dX8_numberOfTerm_73 ?_
      refine r_iload (k0 := 6) hx dX8_numberOfTerm_76 rfl ?_
      obtain ⟨v26, e27, i28, h⟩ := gI_some h
      refine r_iald hx (k_1_356 hKS) rfl i28 e27 dX8_numberOfTerm_78 ?_
      refine r_iload_n (k0 := 1) hx dX8_numberOfTerm_79 rfl rfl ?_
      refine r_icmp_ne (tgt := 120) hx dX8_numberOfTerm_80 (by decide) (fun c29 => ?_) (fun c29 => ?_)
      · have h := ite_f h c29
        exact t_X8_numberOfTerm_120 hx hR hKS hE ih h
      · have h := ite_t h c29
        refine r_aload_n (k0 := 0) hx dX8_numberOfTerm_83 rfl rfl ?_
        refine g_357 hx (k_0_7 hKS) wf_X8_29 dX8_numberOfTerm_84 ?_
        refine r_iload (k0 := 6) hx dX8_numberOfTerm_87 rfl ?_
        obtain ⟨v30, e31, i32, h⟩ := gI_some h
        refine r_iald hx (k_1_357 hKS) rfl i32 e31 dX8_numberOfTerm_89 ?_
        refine r_iload_n (k0 := 2) hx dX8_numberOfTerm_90 rfl rfl ?_
        refine r_icmp_ne (tgt := 120) hx dX8_numberOfTerm_91 (by decide) (fun c33 => ?_) (fun c33 => ?_)
        · have h := ite_f h c33
          exact t_X8_numberOfTerm_120 hx hR hKS hE ih h
        · have h := ite_t h c33
          refine r_aload_n (k0 := 0) hx dX8_numberOfTerm_94 rfl rfl ?_
          refine g_358 hx (k_0_7 hKS) wf_X8_32 dX8_numberOfTerm_95 ?_
          refine r_iload (k0 := 6) hx dX8_numberOfTerm_98 rfl ?_
          obtain ⟨v34, e35, i36, h⟩ := gI_some h
          refine r_iald hx (k_1_358 hKS) rfl i36 e35 dX8_numberOfTerm_100 ?_
          refine r_iload_n (k0 := 3) hx dX8_numberOfTerm_101 rfl rfl ?_
          refine r_icmp_ne (tgt := 120) hx dX8_numberOfTerm_102 (by decide) (fun c37 => ?_) (fun c37 => ?_)
          · have h := ite_f h c37
            exact t_X8_numberOfTerm_120 hx hR hKS hE ih h
          · have h := ite_t h c37
            refine r_aload_n (k0 := 0) hx dX8_numberOfTerm_105 rfl rfl ?_
            refine g_359 hx (k_0_7 hKS) wf_X8_35 dX8_numberOfTerm_106 ?_
            refine r_iload (k0 := 6) hx dX8_numberOfTerm_109 rfl ?_
            obtain ⟨v38, e39, i40, h⟩ := gI_some h
            refine r_iald hx (k_1_359 hKS) rfl i40 e39 dX8_numberOfTerm_111 ?_
            refine r_iload (k0 := 4) hx dX8_numberOfTerm_112 rfl ?_
            refine r_icmp_ne (tgt := 120) hx dX8_numberOfTerm_114 (by decide) (fun c41 => ?_) (fun c41 => ?_)
            · have h := ite_f h c41
              exact t_X8_numberOfTerm_120 hx hR hKS hE ih h
            · have h := ite_t h c41
              refine r_iload (k0 := 6) hx dX8_numberOfTerm_117 rfl ?_
              exact r_iret hE h dX8_numberOfTerm_119
set_option maxRecDepth 100000 in
set_option maxHeartbeats 4000000 in
theorem t_X8_numberOfTerm_60 {n : Nat} {x : XC} (hx : CX x cX8_numberOfTerm 7 RX8) (hR : x_R x = rm_X8_numberOfTerm) (hKS : ∀ k ∈ KM, k ∈ x_K x) {out : St × Int32} (hE : EI x cX8_numberOfTerm out) {S : St} {l1 : Int32} {l2 : Int32} {l3 : Int32} {l4 : Int32} {l5 : Int32} (h : j_X8_numberOfTerm_60 n S l1 l2 l3 l4 l5 = some out) : WX x 7 0 0 S 60 [(0, .ref (x_ad x 0 7 0)), (1, .int l1), (2, .int l2), (3, .int l3), (4, .int l4), (5, .int l5)] [] := by
  unfold j_X8_numberOfTerm_60 at h
  refine r_iconst (v := 0) hx dX8_numberOfTerm_60 (by decide) ?_
  refine r_istore (lv' := [(6, .int 0), (0, .ref (x_ad x 0 7 0)), (1, .int l1), (2, .int l2), (3, .int l3), (4, .int l4), (5, .int l5)]) hx dX8_numberOfTerm_61 (by decide) rfl ?_
  refine WX.sub (lv' := [(0, .ref (x_ad x 0 7 0)), (1, .int l1), (2, .int l2), (3, .int l3), (4, .int l4), (5, .int l5), (6, .int 0)]) ?_ [1, 2, 3, 4, 5, 6, 0] rfl
  exact t_X8_numberOfTerm_63 hx hR hKS hE h
set_option maxRecDepth 100000 in
set_option maxHeartbeats 4000000 in
theorem t_X8_numberOfTerm_41 {n : Nat} {x : XC} (hx : CX x cX8_numberOfTerm 7 RX8) (hR : x_R x = rm_X8_numberOfTerm) (hKS : ∀ k ∈ KM, k ∈ x_K x) {out : St × Int32} (hE : EI x cX8_numberOfTerm out) {S : St} {l1 : Int32} {l2 : Int32} {l3 : Int32} {l4 : Int32} {s0 : Int32} {s1 : Int32} (h : j_X8_numberOfTerm_41 n S l1 l2 l3 l4 s0 s1 = some out) : WX x 7 0 0 S 41 [(0, .ref (x_ad x 0 7 0)), (1, .int l1), (2, .int l2), (3, .int l3), (4, .int l4)] [.int s0, .int s1] := by
  unfold j_X8_numberOfTerm_41 at h
  refine r_iadd hx dX8_numberOfTerm_41 ?_
  obtain ⟨v1, e2, h⟩ := bV_some h
  rw [← e2]
  refine r_istore (lv' := [(5, .int v1), (0, .ref (x_ad x 0 7 0)), (1, .int l1), (2, .int l2), (3, .int l3), (4, .int l4)]) hx dX8_numberOfTerm_42 (by decide) rfl ?_
  refine r_aload_n (k0 := 1) hx dX8_numberOfTerm_44 rfl rfl ?_
  refine g_379 hx (k_0_7 hKS) wf_X8_78 dX8_numberOfTerm_45 ?_
  refine r_if_eq (tgt := 60) hx dX8_numberOfTerm_48 (by decide) (fun c3 => ?_) (fun c3 => ?_)
  · have h := ite_t h c3
    refine WX.sub (lv' := [(0, .ref (x_ad x 0 7 0)), (1, .int l1), (2, .int l2), (3, .int l3), (4, .int l4), (5, .int v1)]) ?_ [1, 2, 3, 4, 5, 0] rfl
    exact t_X8_numberOfTerm_60 hx hR hKS hE h
  · have h := ite_f h c3
    refine r_iload (k0 := 0) hx dX8_numberOfTerm_51 rfl ?_
    refine r_bipush (v := 60) hx dX8_numberOfTerm_53 (by decide) ?_
    refine r_icmp_le (tgt := 60) hx dX8_numberOfTerm_55 (by decide) (fun c4 => ?_) (fun c4 => ?_)
    · have h := ite_t h c4
      refine WX.sub (lv' := [(0, .ref (x_ad x 0 7 0)), (1, .int l1), (2, .int l2), (3, .int l3), (4, .int l4), (5, .int v1)]) ?_ [1, 2, 3, 4, 5, 0] rfl
      exact t_X8_numberOfTerm_60 hx hR hKS hE h
    · have h := ite_f h c4
      refine r_iconst (v := -1) hx dX8_numberOfTerm_58 (by decide) ?_
      exact r_iret hE h dX8_numberOfTerm_59
set_option maxRecDepth 100000 in
set_option maxHeartbeats 4000000 in
theorem t_X8_numberOfTerm_23 {n : Nat} {x : XC} (hx : CX x cX8_numberOfTerm 7 RX8) (hR : x_R x = rm_X8_numberOfTerm) (hKS : ∀ k ∈ KM, k ∈ x_K x) {out : St × Int32} (hE : EI x cX8_numberOfTerm out) {S : St} {l1 : Int32} {l2 : Int32} {l3 : Int32} {l4 : Int32} {s0 : Int32} {s1 : Int32} (h : j_X8_numberOfTerm_23 n S l1 l2 l3 l4 s0 s1 = some out) : WX x 7 0 0 S 23 [(0, .ref (x_ad x 0 7 0)), (1, .int l1), (2, .int l2), (3, .int l3), (4, .int l4)] [.int s0, .int s1] := by
  unfold j_X8_numberOfTerm_23 at h
  refine r_iadd hx dX8_numberOfTerm_23 ?_
  refine r_iload_n (k0 := 1) hx dX8_numberOfTerm_24 rfl rfl ?_
  refine r_bipush (v := 6) hx dX8_numberOfTerm_25 (by decide) ?_
  refine r_icmp_ne (tgt := 40) hx dX8_numberOfTerm_27 (by decide) (fun c1 => ?_) (fun c1 => ?_)
  · have h := ite_f h c1
    refine r_iconst (v := 0) hx dX8_numberOfTerm_40 (by decide) ?_
    exact t_X8_numberOfTerm_41 hx hR hKS hE h
  · have h := ite_t h c1
    refine r_aload_n (k0 := 0) hx dX8_numberOfTerm_30 rfl rfl ?_
    refine g_360 hx (k_0_7 hKS) wf_X8_38 dX8_numberOfTerm_31 ?_
    refine r_iload (k0 := 4) hx dX8_numberOfTerm_34 rfl ?_
    obtain ⟨v2, e3, i4, h⟩ := gI_some h
    refine r_iald hx (k_1_360 hKS) rfl i4 e3 dX8_numberOfTerm_36 ?_
    refine r_goto (tgt := 41) hx dX8_numberOfTerm_37 (by decide) ?_
    exact t_X8_numberOfTerm_41 hx hR hKS hE h
set_option maxRecDepth 100000 in
set_option maxHeartbeats 4000000 in
theorem t_X8_numberOfTerm_0 {n : Nat} {x : XC} (hx : CX x cX8_numberOfTerm 7 RX8) (hR : x_R x = rm_X8_numberOfTerm) (hKS : ∀ k ∈ KM, k ∈ x_K x) {out : St × Int32} (hE : EI x cX8_numberOfTerm out) {S : St} {a1 : Int32} {a2 : Int32} {a3 : Int32} {a4 : Int32} (h : f_X8_numberOfTerm n S a1 a2 a3 a4 = some out) : WX x 7 0 0 S 0 [(0, .ref (x_ad x 0 7 0)), (1, .int a1), (2, .int a2), (3, .int a3), (4, .int a4)] [] := by
  unfold f_X8_numberOfTerm at h
  refine r_iconst (v := 1) hx dX8_numberOfTerm_0 (by decide) ?_
  refine r_iload_n (k0 := 1) hx dX8_numberOfTerm_1 rfl rfl ?_
  refine r_iconst (v := 2) hx dX8_numberOfTerm_2 (by decide) ?_
  refine r_icmp_le (tgt := 22) hx dX8_numberOfTerm_3 (by decide) (fun c1 => ?_) (fun c1 => ?_)
  · have h := ite_t h c1
    refine r_iconst (v := 0) hx dX8_numberOfTerm_22 (by decide) ?_
    exact t_X8_numberOfTerm_23 hx hR hKS hE h
  · have h := ite_f h c1
    refine r_aload_n (k0 := 0) hx dX8_numberOfTerm_6 rfl rfl ?_
    refine g_360 hx (k_0_7 hKS) wf_X8_38 dX8_numberOfTerm_7 ?_
    refine r_iload_n (k0 := 2) hx dX8_numberOfTerm_10 rfl rfl ?_
    obtain ⟨v2, e3, i4, h⟩ := gI_some h
    refine r_iald hx (k_1_360 hKS) rfl i4 e3 dX8_numberOfTerm_11 ?_
    refine r_aload_n (k0 := 0) hx dX8_numberOfTerm_12 rfl rfl ?_
    refine g_360 hx (k_0_7 hKS) wf_X8_38 dX8_numberOfTerm_13 ?_
    refine r_iload_n (k0 := 3) hx dX8_numberOfTerm_16 rfl rfl ?_
    obtain ⟨v5, e6, i7, h⟩ := gI_some h
    refine r_iald hx (k_1_360 hKS) rfl i7 e6 dX8_numberOfTerm_17 ?_
    refine r_iadd hx dX8_numberOfTerm_18 ?_
    refine r_goto (tgt := 23) hx dX8_numberOfTerm_19 (by decide) ?_
    exact t_X8_numberOfTerm_23 hx hR hKS hE h
set_option maxHeartbeats 4000000 in
theorem C_X8_numberOfTerm {n : Nat} {c : YC} (hKS : ∀ k ∈ KM, k ∈ c.2.2.2.2) {S : St} {a1 : Int32} {a2 : Int32} {a3 : Int32} {a4 : Int32} {out : St × Int32} (h : f_X8_numberOfTerm n S a1 a2 a3 a4 = some out) : MI c yX8_numberOfTerm cX8_numberOfTerm 7 (some .int) rm_X8_numberOfTerm S [.ref (c.2.2.1 0 7 0), .int a1, .int a2, .int a3, .int a4] out := mk_I (own := RX8) (by decide +kernel) rfl (Nat.le_of_ble_eq_true rfl) (fun x hx hR hy hE => by subst hy; exact t_X8_numberOfTerm_0 hx hR hKS hE h)
def j_X8_orFull_10 (n : Nat) (S : St) (l1 : Int32) (s0 : Int32) : Option (St × Int32) :=
  pS S 350 0 s0 fun S1 =>
  if 0 ≤ l1 then
    some (S1, l1)
  else
    some (S1, 0)
def f_X8_orFull (n : Nat) (S : St) (a1 : Int32) (a2 : Int32) : Option (St × Int32) :=
  if 0 ≤ a1 then
    j_X8_orFull_10 n S a1 0
  else
    j_X8_orFull_10 n S a1 a2
set_option maxRecDepth 100000 in
set_option maxHeartbeats 4000000 in
theorem t_X8_orFull_10 {n : Nat} {x : XC} (hx : CX x cX8_orFull 3 RX8) (hR : x_R x = rm_X8_orFull) (hKS : ∀ k ∈ KM, k ∈ x_K x) {out : St × Int32} (hE : EI x cX8_orFull out) {S : St} {l1 : Int32} {s0 : Int32} (h : j_X8_orFull_10 n S l1 s0 = some out) : WX x 3 0 0 S 10 [(1, .int l1)] [.int s0, .ref (x_ad x 0 7 0)] := by
  unfold j_X8_orFull_10 at h
  obtain ⟨S1, e2, h⟩ := pS_some h
  refine p_350 hx (k_0_7 hKS) wf_X8_106 dX8_orFull_10 e2 ?_
  refine r_iload_n (k0 := 0) hx dX8_orFull_13 rfl rfl ?_
  refine r_if_ge (tgt := 21) hx dX8_orFull_14 (by decide) (fun c3 => ?_) (fun c3 => ?_)
  · have h := ite_t h c3
    refine r_iload_n (k0 := 0) hx dX8_orFull_21 rfl rfl ?_
    exact r_iret hE h dX8_orFull_22
  · have h := ite_f h c3
    refine r_iconst (v := 0) hx dX8_orFull_17 (by decide) ?_
    refine r_goto (tgt := 22) hx dX8_orFull_18 (by decide) ?_
    exact r_iret hE h dX8_orFull_22
set_option maxRecDepth 100000 in
set_option maxHeartbeats 4000000 in
theorem t_X8_orFull_0 {n : Nat} {x : XC} (hx : CX x cX8_orFull 3 RX8) (hR : x_R x = rm_X8_orFull) (hKS : ∀ k ∈ KM, k ∈ x_K x) {out : St × Int32} (hE : EI x cX8_orFull out) {S : St} {a1 : Int32} {a2 : Int32} (h : f_X8_orFull n S a1 a2 = some out) : WX x 3 0 0 S 0 [(0, .ref (x_ad x 0 7 0)), (1, .int a1), (2, .int a2)] [] := by
  unfold f_X8_orFull at h
  refine r_aload_n (k0 := 0) hx dX8_orFull_0 rfl rfl ?_
  refine r_iload_n (k0 := 1) hx dX8_orFull_1 rfl rfl ?_
  refine r_if_ge (tgt := 9) hx dX8_orFull_2 (by decide) (fun c1 => ?_) (fun c1 => ?_)
  · have h := ite_t h c1
    refine r_iconst (v := 0) hx dX8_orFull_9 (by decide) ?_
    refine WX.sub (lv' := [(1, .int a1)]) ?_ [1] rfl
    exact t_X8_orFull_10 hx hR hKS hE h
  · have h := ite_f h c1
    refine r_iload_n (k0 := 2) hx dX8_orFull_5 rfl rfl ?_
    refine r_goto (tgt := 10) hx dX8_orFull_6 (by decide) ?_
    refine WX.sub (lv' := [(1, .int a1)]) ?_ [1] rfl
    exact t_X8_orFull_10 hx hR hKS hE h
set_option maxHeartbeats 4000000 in
theorem C_X8_orFull {n : Nat} {c : YC} (hKS : ∀ k ∈ KM, k ∈ c.2.2.2.2) {S : St} {a1 : Int32} {a2 : Int32} {out : St × Int32} (h : f_X8_orFull n S a1 a2 = some out) : MI c yX8_orFull cX8_orFull 3 (some .int) rm_X8_orFull S [.ref (c.2.2.1 0 7 0), .int a1, .int a2] out := mk_I (own := RX8) (by decide +kernel) rfl (Nat.le_of_ble_eq_true rfl) (fun x hx hR hy hE => by subst hy; exact t_X8_orFull_0 hx hR hKS hE h)
def j_X8_behindLevel_42 (n : Nat) (K4 : St → Nat → Int32 → Int32 → Option (St × Int32)) (S : St) (a1 : Nat) (l2 : Int32) (s0 : Int32) : Option (St × Int32) :=
  bV (l2 + 1) fun v1 =>
  K4 S a1 v1 s0
def j_X8_behindLevel_33 (n : Nat) (K4 : St → Nat → Int32 → Int32 → Option (St × Int32)) (S : St) (a1 : Nat) (l2 : Int32) (l3 : Int32) : Option (St × Int32) :=
  j_X8_behindLevel_42 n K4 S a1 l2 (l3 + 1)
def l_X8_behindLevel_4 (n : Nat) : Nat → St → Nat → Int32 → Int32 → Option (St × Int32)
  | 0, _, _, _, _ => none
  | m + 1, S, a1, l2, l3 =>
    if l3 ≤ 0 then
      some (S, l2)
    else
      gI S a1 0 l2 (ln a1) fun v2 =>
      if v2 = 1 then
        j_X8_behindLevel_42 n (fun S a1 l2 l3 => l_X8_behindLevel_4 n m S a1 l2 l3) S a1 l2 l3
      else
        gI S a1 0 l2 (ln a1) fun v6 =>
        if v6 = 2 then
          j_X8_behindLevel_33 n (fun S a1 l2 l3 => l_X8_behindLevel_4 n m S a1 l2 l3) S a1 l2 l3
        else
          gI S a1 0 l2 (ln a1) fun v10 =>
          if v10 = 3 then
            j_X8_behindLevel_33 n (fun S a1 l2 l3 => l_X8_behindLevel_4 n m S a1 l2 l3) S a1 l2 l3
          else
            j_X8_behindLevel_42 n (fun S a1 l2 l3 => l_X8_behindLevel_4 n m S a1 l2 l3) S a1 l2 (l3 - 1)
def f_X8_behindLevel (n : Nat) (S : St) (a1 : Nat) (a2 : Int32) : Option (St × Int32) :=
  l_X8_behindLevel_4 n n S a1 a2 1
set_option maxRecDepth 100000 in
set_option maxHeartbeats 4000000 in
theorem t_X8_behindLevel_42 {n : Nat} {K4 : St → Nat → Int32 → Int32 → Option (St × Int32)} {x : XC} (hx : CX x cX8_behindLevel 4 RX8) (hR : x_R x = rm_X8_behindLevel) (hKS : ∀ k ∈ KM, k ∈ x_K x) {out : St × Int32} (hE : EI x cX8_behindLevel out) (hK4 : ∀ {S : St} {a1 : Nat} {l2 : Int32} {l3 : Int32} (_ : (1, a1, 0) ∈ KM), K4 S a1 l2 l3 = some out → WX x 4 0 0 S 4 [(0, .ref (x_ad x 1 a1 0)), (2, .int l2), (3, .int l3)] []) {S : St} {a1 : Nat} {l2 : Int32} {s0 : Int32} (h_a1 : (1, a1, 0) ∈ KM) (h : j_X8_behindLevel_42 n K4 S a1 l2 s0 = some out) : WX x 4 0 0 S 42 [(0, .ref (x_ad x 1 a1 0)), (2, .int l2)] [.int s0] := by
  unfold j_X8_behindLevel_42 at h
  refine r_istore_n (lv' := [(3, .int s0), (0, .ref (x_ad x 1 a1 0)), (2, .int l2)]) hx dX8_behindLevel_42 rfl (by decide) rfl ?_
  obtain ⟨v1, e2, h⟩ := bV_some h
  refine r_iinc (k := 2) (v := v1) (lv' := [(2, .int v1), (3, .int s0), (0, .ref (x_ad x 1 a1 0))]) hx dX8_behindLevel_43 rfl (by rw [e2]; rfl) (by decide) rfl ?_
  refine r_goto (tgt := 4) hx dX8_behindLevel_46 (by decide) ?_
  refine WX.sub (lv' := [(0, .ref (x_ad x 1 a1 0)), (2, .int v1), (3, .int s0)]) ?_ [2, 0, 1] rfl
  exact hK4 h_a1 h
set_option maxRecDepth 100000 in
set_option maxHeartbeats 4000000 in
theorem t_X8_behindLevel_33 {n : Nat} {K4 : St → Nat → Int32 → Int32 → Option (St × Int32)} {x : XC} (hx : CX x cX8_behindLevel 4 RX8) (hR : x_R x = rm_X8_behindLevel) (hKS : ∀ k ∈ KM, k ∈ x_K x) {out : St × Int32} (hE : EI x cX8_behindLevel out) (hK4 : ∀ {S : St} {a1 : Nat} {l2 : Int32} {l3 : Int32} (_ : (1, a1, 0) ∈ KM), K4 S a1 l2 l3 = some out → WX x 4 0 0 S 4 [(0, .ref (x_ad x 1 a1 0)), (2, .int l2), (3, .int l3)] []) {S : St} {a1 : Nat} {l2 : Int32} {l3 : Int32} (h_a1 : (1, a1, 0) ∈ KM) (h : j_X8_behindLevel_33 n K4 S a1 l2 l3 = some out) : WX x 4 0 0 S 33 [(0, .ref (x_ad x 1 a1 0)), (2, .int l2), (3, .int l3)] [] := by
  unfold j_X8_behindLevel_33 at h
  refine r_iload_n (k0 := 2) hx dX8_behindLevel_33 rfl rfl ?_
  refine r_iconst (v := 1) hx dX8_behindLevel_34 (by decide) ?_
  refine r_iadd hx dX8_behindLevel_35 ?_
  refine r_goto (tgt := 42) hx dX8_behindLevel_36 (by decide) ?_
  refine WX.sub (lv' := [(0, .ref (x_ad x 1 a1 0)), (2, .int l2)]) ?_ [0, 1] rfl
  exact t_X8_behindLevel_42 hx hR hKS hE hK4 h_a1 h
set_option maxRecDepth 100000 in
set_option maxHeartbeats 4000000 in
theorem t_X8_behindLevel_4 {n : Nat} {x : XC} (hx : CX x cX8_behindLevel 4 RX8) (hR : x_R x = rm_X8_behindLevel) (hKS : ∀ k ∈ KM, k ∈ x_K x) {out : St × Int32} (hE : EI x cX8_behindLevel out) : ∀ {m : Nat} {S : St} {a1 : Nat} {l2 : Int32} {l3 : Int32} (h_a1 : (1, a1, 0) ∈ KM) (h : l_X8_behindLevel_4 n m S a1 l2 l3 = some out), WX x 4 0 0 S 4 [(0, .ref (x_ad x 1 a1 0)), (2, .int l2), (3, .int l3)] [] := by
  intro m
  induction m with
  | zero => intro S a1 l2 l3 h_a1 h; cases h
  | succ m ih =>
    intro S a1 l2 l3 h_a1 h
    unfold l_X8_behindLevel_4 at h
    refine r_iload_n (k0 := 2) hx dX8_behindLevel_4 rfl rfl ?_
    refine r_if_le (tgt := 49) hx dX8_behindLevel_5 (by decide) (fun c1 => ?_) (fun c1 => ?_)
    · have h := ite_t h c1
      refine r_iload_n (k0 := 1) hx dX8_behindLevel_49 rfl rfl ?_
      exact r_iret hE h dX8_behindLevel_50
    · have h := ite_f h c1
      refine r_aload_n (k0 := 0) hx dX8_behindLevel_8 rfl rfl ?_
      refine r_iload_n (k0 := 1) hx dX8_behindLevel_9 rfl rfl ?_
      obtain ⟨v2, e3, i4, h⟩ := gI_some h
      refine r_iald hx (hKS _ h_a1) rfl i4 e3 dX8_behindLevel_10 ?_
      refine r_iconst (v := 1) hx dX8_behindLevel_11 (by decide) ?_
      refine r_icmp_ne (tgt := 19) hx dX8_behindLevel_12 (by decide) (fun c5 => ?_) (fun c5 => ?_)
      · have h := ite_f h c5
        refine r_aload_n (k0 := 0) hx dX8_behindLevel_19 rfl rfl ?_
        refine r_iload_n (k0 := 1) hx dX8_behindLevel_20 rfl rfl ?_
        obtain ⟨v6, e7, i8, h⟩ := gI_some h
        refine r_iald hx (hKS _ h_a1) rfl i8 e7 dX8_behindLevel_21 ?_
        refine r_iconst (v := 2) hx dX8_behindLevel_22 (by decide) ?_
        refine r_icmp_eq (tgt := 33) hx dX8_behindLevel_23 (by decide) (fun c9 => ?_) (fun c9 => ?_)
        · have h := ite_t h c9
          exact t_X8_behindLevel_33 hx hR hKS hE ih h_a1 h
        · have h := ite_f h c9
          refine r_aload_n (k0 := 0) hx dX8_behindLevel_26 rfl rfl ?_
          refine r_iload_n (k0 := 1) hx dX8_behindLevel_27 rfl rfl ?_
          obtain ⟨v10, e11, i12, h⟩ := gI_some h
          refine r_iald hx (hKS _ h_a1) rfl i12 e11 dX8_behindLevel_28 ?_
          refine r_iconst (v := 3) hx dX8_behindLevel_29 (by decide) ?_
          refine r_icmp_ne (tgt := 39) hx dX8_behindLevel_30 (by decide) (fun c13 => ?_) (fun c13 => ?_)
          · have h := ite_f h c13
            refine r_iload_n (k0 := 2) hx dX8_behindLevel_39 rfl rfl ?_
            refine r_iconst (v := 1) hx dX8_behindLevel_40 (by decide) ?_
            refine r_isub hx dX8_behindLevel_41 ?_
            refine WX.sub (lv' := [(0, .ref (x_ad x 1 a1 0)), (2, .int l2)]) ?_ [0, 1] rfl
            exact t_X8_behindLevel_42 hx hR hKS hE ih h_a1 h
          · have h := ite_t h c13
            exact t_X8_behindLevel_33 hx hR hKS hE ih h_a1 h
      · have h := ite_t h c5
        refine r_iload_n (k0 := 2) hx dX8_behindLevel_15 rfl rfl ?_
        refine r_goto (tgt := 42) hx dX8_behindLevel_16 (by decide) ?_
        refine WX.sub (lv' := [(0, .ref (x_ad x 1 a1 0)), (2, .int l2)]) ?_ [0, 1] rfl
        exact t_X8_behindLevel_42 hx hR hKS hE ih h_a1 h
set_option maxRecDepth 100000 in
set_option maxHeartbeats 4000000 in
theorem t_X8_behindLevel_0 {n : Nat} {x : XC} (hx : CX x cX8_behindLevel 4 RX8) (hR : x_R x = rm_X8_behindLevel) (hKS : ∀ k ∈ KM, k ∈ x_K x) {out : St × Int32} (hE : EI x cX8_behindLevel out) {S : St} {a1 : Nat} {a2 : Int32} (h_a1 : (1, a1, 0) ∈ KM) (h : f_X8_behindLevel n S a1 a2 = some out) : WX x 4 0 0 S 0 [(0, .ref (x_ad x 1 a1 0)), (1, .int a2)] [] := by
  unfold f_X8_behindLevel at h
  refine r_iload_n (k0 := 1) hx dX8_behindLevel_0 rfl rfl ?_
  refine r_istore_n (lv' := [(2, .int a2), (0, .ref (x_ad x 1 a1 0)), (1, .int a2)]) hx dX8_behindLevel_1 rfl (by decide) rfl ?_
  refine r_iconst (v := 1) hx dX8_behindLevel_2 (by decide) ?_
  refine r_istore_n (lv' := [(3, .int 1), (2, .int a2), (0, .ref (x_ad x 1 a1 0)), (1, .int a2)]) hx dX8_behindLevel_3 rfl (by decide) rfl ?_
  refine WX.sub (lv' := [(0, .ref (x_ad x 1 a1 0)), (2, .int a2), (3, .int 1)]) ?_ [2, 1, 0] rfl
  exact t_X8_behindLevel_4 hx hR hKS hE h_a1 h
set_option maxHeartbeats 4000000 in
theorem C_X8_behindLevel {n : Nat} {c : YC} (hKS : ∀ k ∈ KM, k ∈ c.2.2.2.2) {S : St} {a1 : Nat} {a2 : Int32} {out : St × Int32} (h_a1 : (1, a1, 0) ∈ KM) (h : f_X8_behindLevel n S a1 a2 = some out) : MI c yX8_behindLevel cX8_behindLevel 4 (some .int) rm_X8_behindLevel S [.ref (c.2.2.1 1 a1 0), .int a2] out := mk_I (own := RX8) (by decide +kernel) rfl (Nat.le_of_ble_eq_true rfl) (fun x hx hR hy hE => by subst hy; exact t_X8_behindLevel_0 hx hR hKS hE h_a1 h)
def f_X8_behindToken (n : Nat) (S : St) (a1 : Nat) (a2 : Int32) : Option (St × Int32) :=
  gI S a1 0 a2 (ln a1) fun v1 =>
  if v1 = 0 then
    bI (f_X8_behindLevel n S a1 (a2 + 1)) fun S19 v21 =>
    some (S19, v21)
  else
    gI S a1 0 a2 (ln a1) fun v5 =>
    if v5 = 2 then
      bI (f_X8_behindLevel n S a1 (a2 + 2)) fun S13 v15 =>
      bI (f_X8_behindLevel n S13 a1 v15) fun S16 v18 =>
      some (S16, v18)
    else
      gI S a1 0 a2 (ln a1) fun v9 =>
      if v9 = 1 then
        some (S, (a2 + 2))
      else
        some (S, (a2 + 1))
set_option maxRecDepth 100000 in
set_option maxHeartbeats 4000000 in
theorem t_X8_behindToken_0 {n : Nat} {x : XC} (hx : CX x cX8_behindToken 2 RX8) (hR : x_R x = rm_X8_behindToken) (hKS : ∀ k ∈ KM, k ∈ x_K x) {out : St × Int32} (hE : EI x cX8_behindToken out) {S : St} {a1 : Nat} {a2 : Int32} (h_a1 : (1, a1, 0) ∈ KM) (h : f_X8_behindToken n S a1 a2 = some out) : WX x 2 0 0 S 0 [(0, .ref (x_ad x 1 a1 0)), (1, .int a2)] [] := by
  unfold f_X8_behindToken at h
  refine r_aload_n (k0 := 0) hx dX8_behindToken_0 rfl rfl ?_
  refine r_iload_n (k0 := 1) hx dX8_behindToken_1 rfl rfl ?_
  obtain ⟨v1, e2, i3, h⟩ := gI_some h
  refine r_iald hx (hKS _ h_a1) rfl i3 e2 dX8_behindToken_2 ?_
  refine r_if_ne (tgt := 14) hx dX8_behindToken_3 (by decide) (fun c4 => ?_) (fun c4 => ?_)
  · have h := ite_f h c4
    refine r_aload_n (k0 := 0) hx dX8_behindToken_14 rfl rfl ?_
    refine r_iload_n (k0 := 1) hx dX8_behindToken_15 rfl rfl ?_
    obtain ⟨v5, e6, i7, h⟩ := gI_some h
    refine r_iald hx (hKS _ h_a1) rfl i7 e6 dX8_behindToken_16 ?_
    refine r_iconst (v := 2) hx dX8_behindToken_17 (by decide) ?_
    refine r_icmp_ne (tgt := 33) hx dX8_behindToken_18 (by decide) (fun c8 => ?_) (fun c8 => ?_)
    · have h := ite_f h c8
      refine r_aload_n (k0 := 0) hx dX8_behindToken_33 rfl rfl ?_
      refine r_iload_n (k0 := 1) hx dX8_behindToken_34 rfl rfl ?_
      obtain ⟨v9, e10, i11, h⟩ := gI_some h
      refine r_iald hx (hKS _ h_a1) rfl i11 e10 dX8_behindToken_35 ?_
      refine r_iconst (v := 1) hx dX8_behindToken_36 (by decide) ?_
      refine r_icmp_ne (tgt := 46) hx dX8_behindToken_37 (by decide) (fun c12 => ?_) (fun c12 => ?_)
      · have h := ite_f h c12
        refine r_iload_n (k0 := 1) hx dX8_behindToken_46 rfl rfl ?_
        refine r_iconst (v := 1) hx dX8_behindToken_47 (by decide) ?_
        refine r_iadd hx dX8_behindToken_48 ?_
        exact r_iret hE h dX8_behindToken_49
      · have h := ite_t h c12
        refine r_iload_n (k0 := 1) hx dX8_behindToken_40 rfl rfl ?_
        refine r_iconst (v := 2) hx dX8_behindToken_41 (by decide) ?_
        refine r_iadd hx dX8_behindToken_42 ?_
        refine r_goto (tgt := 49) hx dX8_behindToken_43 (by decide) ?_
        exact r_iret hE h dX8_behindToken_49
    · have h := ite_t h c8
      refine r_aload_n (k0 := 0) hx dX8_behindToken_21 rfl rfl ?_
      refine r_aload_n (k0 := 0) hx dX8_behindToken_22 rfl rfl ?_
      refine r_iload_n (k0 := 1) hx dX8_behindToken_23 rfl rfl ?_
      refine r_iconst (v := 2) hx dX8_behindToken_24 (by decide) ?_
      refine r_iadd hx dX8_behindToken_25 ?_
      obtain ⟨S13, v15, c14, h⟩ := bI_some h
      refine r_Si (As := [.ref (x_ad x 1 a1 0), .int (a2 + 2)]) (rest := [.ref (x_ad x 1 a1 0)]) hx (C_X8_behindLevel (c := x_y x) hKS h_a1 c14) wl_X8_144 wt_X8_behindLevel wn_X8 wc_X8_behindLevel dy_X8_behindLevel rfl (by rw [hR]; decide +kernel) rfl (Nat.le_of_ble_eq_true rfl) dX8_behindToken_26 ?_
      obtain ⟨S16, v18, c17, h⟩ := bI_some h
      refine r_Si (As := [.ref (x_ad x 1 a1 0), .int v15]) (rest := []) hx (C_X8_behindLevel (c := x_y x) hKS h_a1 c17) wl_X8_144 wt_X8_behindLevel wn_X8 wc_X8_behindLevel dy_X8_behindLevel rfl (by rw [hR]; decide +kernel) rfl (Nat.le_of_ble_eq_true rfl) dX8_behindToken_29 ?_
      exact r_iret hE h dX8_behindToken_32
  · have h := ite_t h c4
    refine r_aload_n (k0 := 0) hx dX8_behindToken_6 rfl rfl ?_
    refine r_iload_n (k0 := 1) hx dX8_behindToken_7 rfl rfl ?_
    refine r_iconst (v := 1) hx dX8_behindToken_8 (by decide) ?_
    refine r_iadd hx dX8_behindToken_9 ?_
    obtain ⟨S19, v21, c20, h⟩ := bI_some h
    refine r_Si (As := [.ref (x_ad x 1 a1 0), .int (a2 + 1)]) (rest := []) hx (C_X8_behindLevel (c := x_y x) hKS h_a1 c20) wl_X8_144 wt_X8_behindLevel wn_X8 wc_X8_behindLevel dy_X8_behindLevel rfl (by rw [hR]; decide +kernel) rfl (Nat.le_of_ble_eq_true rfl) dX8_behindToken_10 ?_
    exact r_iret hE h dX8_behindToken_13
set_option maxHeartbeats 4000000 in
theorem C_X8_behindToken {n : Nat} {c : YC} (hKS : ∀ k ∈ KM, k ∈ c.2.2.2.2) {S : St} {a1 : Nat} {a2 : Int32} {out : St × Int32} (h_a1 : (1, a1, 0) ∈ KM) (h : f_X8_behindToken n S a1 a2 = some out) : MI c yX8_behindToken cX8_behindToken 2 (some .int) rm_X8_behindToken S [.ref (c.2.2.1 1 a1 0), .int a2] out := mk_I (own := RX8) (by decide +kernel) rfl (Nat.le_of_ble_eq_true rfl) (fun x hx hR hy hE => by subst hy; exact t_X8_behindToken_0 hx hR hKS hE h_a1 h)
def f_X8_partsOf (n : Nat) (S : St) (a1 : Int32) : Option (St × Int32) :=
  if 3 ≤ a1 then
    if a1 = 6 then
      some (S, 3)
    else
      some (S, 2)
  else
    some (S, 0)
set_option maxRecDepth 100000 in
set_option maxHeartbeats 4000000 in
theorem t_X8_partsOf_0 {n : Nat} {x : XC} (hx : CX x cX8_partsOf 1 RX8) (hR : x_R x = rm_X8_partsOf) (hKS : ∀ k ∈ KM, k ∈ x_K x) {out : St × Int32} (hE : EI x cX8_partsOf out) {S : St} {a1 : Int32} (h : f_X8_partsOf n S a1 = some out) : WX x 1 0 0 S 0 [(0, .int a1)] [] := by
  unfold f_X8_partsOf at h
  refine r_iload_n (k0 := 0) hx dX8_partsOf_0 rfl rfl ?_
  refine r_iconst (v := 3) hx dX8_partsOf_1 (by decide) ?_
  refine r_icmp_ge (tgt := 9) hx dX8_partsOf_2 (by decide) (fun c1 => ?_) (fun c1 => ?_)
  · have h := ite_t h c1
    refine r_iload_n (k0 := 0) hx dX8_partsOf_9 rfl rfl ?_
    refine r_bipush (v := 6) hx dX8_partsOf_10 (by decide) ?_
    refine r_icmp_ne (tgt := 19) hx dX8_partsOf_12 (by decide) (fun c2 => ?_) (fun c2 => ?_)
    · have h := ite_f h c2
      refine r_iconst (v := 2) hx dX8_partsOf_19 (by decide) ?_
      exact r_iret hE h dX8_partsOf_20
    · have h := ite_t h c2
      refine r_iconst (v := 3) hx dX8_partsOf_15 (by decide) ?_
      refine r_goto (tgt := 20) hx dX8_partsOf_16 (by decide) ?_
      exact r_iret hE h dX8_partsOf_20
  · have h := ite_f h c1
    refine r_iconst (v := 0) hx dX8_partsOf_5 (by decide) ?_
    refine r_goto (tgt := 20) hx dX8_partsOf_6 (by decide) ?_
    exact r_iret hE h dX8_partsOf_20
set_option maxHeartbeats 4000000 in
theorem C_X8_partsOf {n : Nat} {c : YC} (hKS : ∀ k ∈ KM, k ∈ c.2.2.2.2) {S : St} {a1 : Int32} {out : St × Int32} (h : f_X8_partsOf n S a1 = some out) : MI c yX8_partsOf cX8_partsOf 1 (some .int) rm_X8_partsOf S [.int a1] out := mk_I (own := RX8) (by decide +kernel) rfl (Nat.le_of_ble_eq_true rfl) (fun x hx hR hy hE => by subst hy; exact t_X8_partsOf_0 hx hR hKS hE h)
def l_X8_behindTerm_4 (n : Nat) : Nat → St → Nat → Int32 → Int32 → Option (St × Int32)
  | 0, _, _, _, _ => none
  | m + 1, S, a1, l2, l3 =>
    if l3 ≤ 0 then
      some (S, l2)
    else
      gI S a1 0 l2 (ln a1) fun v2 =>
      bI (f_X8_partsOf n S v2) fun S5 v7 =>
      bV (l3 + (v7 - 1)) fun v8 =>
      bI (f_X8_behindToken n S5 a1 l2) fun S10 v12 =>
      l_X8_behindTerm_4 n m S10 a1 v12 v8
def f_X8_behindTerm (n : Nat) (S : St) (a1 : Nat) (a2 : Int32) : Option (St × Int32) :=
  l_X8_behindTerm_4 n n S a1 a2 1
set_option maxRecDepth 100000 in
set_option maxHeartbeats 4000000 in
theorem t_X8_behindTerm_4 {n : Nat} {x : XC} (hx : CX x cX8_behindTerm 4 RX8) (hR : x_R x = rm_X8_behindTerm) (hKS : ∀ k ∈ KM, k ∈ x_K x) {out : St × Int32} (hE : EI x cX8_behindTerm out) : ∀ {m : Nat} {S : St} {a1 : Nat} {l2 : Int32} {l3 : Int32} (h_a1 : (1, a1, 0) ∈ KM) (h : l_X8_behindTerm_4 n m S a1 l2 l3 = some out), WX x 4 0 0 S 4 [(0, .ref (x_ad x 1 a1 0)), (2, .int l2), (3, .int l3)] [] := by
  intro m
  induction m with
  | zero => intro S a1 l2 l3 h_a1 h; cases h
  | succ m ih =>
    intro S a1 l2 l3 h_a1 h
    unfold l_X8_behindTerm_4 at h
    refine r_iload_n (k0 := 2) hx dX8_behindTerm_4 rfl rfl ?_
    refine r_if_le (tgt := 28) hx dX8_behindTerm_5 (by decide) (fun c1 => ?_) (fun c1 => ?_)
    · have h := ite_t h c1
      refine r_iload_n (k0 := 1) hx dX8_behindTerm_28 rfl rfl ?_
      exact r_iret hE h dX8_behindTerm_29
    · have h := ite_f h c1
      refine r_iload_n (k0 := 2) hx dX8_behindTerm_8 rfl rfl ?_
      refine r_aload_n (k0 := 0) hx dX8_behindTerm_9 rfl rfl ?_
      refine r_iload_n (k0 := 1) hx dX8_behindTerm_10 rfl rfl ?_
      obtain ⟨v2, e3, i4, h⟩ := gI_some h
      refine r_iald hx (hKS _ h_a1) rfl i4 e3 dX8_behindTerm_11 ?_
      obtain ⟨S5, v7, c6, h⟩ := bI_some h
      refine r_Si (As := [.int v2]) (rest := [.int l3]) hx (C_X8_partsOf (c := x_y x) hKS c6) wl_X8_148 wt_X8_partsOf wn_X8 wc_X8_partsOf dy_X8_partsOf rfl (by rw [hR]; decide +kernel) rfl (Nat.le_of_ble_eq_true rfl) dX8_behindTerm_12 ?_
      refine r_iconst (v := 1) hx dX8_behindTerm_15 (by decide) ?_
      refine r_isub hx dX8_behindTerm_16 ?_
      refine r_iadd hx dX8_behindTerm_17 ?_
      obtain ⟨v8, e9, h⟩ := bV_some h
      rw [← e9]
      refine r_istore_n (lv' := [(3, .int v8), (0, .ref (x_ad x 1 a1 0)), (2, .int l2)]) hx dX8_behindTerm_18 rfl (by decide) rfl ?_
      refine r_aload_n (k0 := 1) hx dX8_behindTerm_19 rfl rfl ?_
      refine r_iload_n (k0 := 2) hx dX8_behindTerm_20 rfl rfl ?_
      obtain ⟨S10, v12, c11, h⟩ := bI_some h
      refine r_Si (As := [.ref (x_ad x 1 a1 0), .int l2]) (rest := []) hx (C_X8_behindToken (c := x_y x) hKS h_a1 c11) wl_X8_152 wt_X8_behindToken wn_X8 wc_X8_behindToken dy_X8_behindToken rfl (by rw [hR]; decide +kernel) rfl (Nat.le_of_ble_eq_true rfl) dX8_behindTerm_21 ?_
      refine r_istore_n (lv' := [(2, .int v12), (3, .int v8), (0, .ref (x_ad x 1 a1 0))]) hx dX8_behindTerm_24 rfl (by decide) rfl ?_
      refine r_goto (tgt := 4) hx dX8_behindTerm_25 (by decide) ?_
      refine WX.sub (lv' := [(0, .ref (x_ad x 1 a1 0)), (2, .int v12), (3, .int v8)]) ?_ [2, 0, 1] rfl
      exact ih h_a1 h
set_option maxRecDepth 100000 in
set_option maxHeartbeats 4000000 in
theorem t_X8_behindTerm_0 {n : Nat} {x : XC} (hx : CX x cX8_behindTerm 4 RX8) (hR : x_R x = rm_X8_behindTerm) (hKS : ∀ k ∈ KM, k ∈ x_K x) {out : St × Int32} (hE : EI x cX8_behindTerm out) {S : St} {a1 : Nat} {a2 : Int32} (h_a1 : (1, a1, 0) ∈ KM) (h : f_X8_behindTerm n S a1 a2 = some out) : WX x 4 0 0 S 0 [(0, .ref (x_ad x 1 a1 0)), (1, .int a2)] [] := by
  unfold f_X8_behindTerm at h
  refine r_iload_n (k0 := 1) hx dX8_behindTerm_0 rfl rfl ?_
  refine r_istore_n (lv' := [(2, .int a2), (0, .ref (x_ad x 1 a1 0)), (1, .int a2)]) hx dX8_behindTerm_1 rfl (by decide) rfl ?_
  refine r_iconst (v := 1) hx dX8_behindTerm_2 (by decide) ?_
  refine r_istore_n (lv' := [(3, .int 1), (2, .int a2), (0, .ref (x_ad x 1 a1 0)), (1, .int a2)]) hx dX8_behindTerm_3 rfl (by decide) rfl ?_
  refine WX.sub (lv' := [(0, .ref (x_ad x 1 a1 0)), (2, .int a2), (3, .int 1)]) ?_ [2, 1, 0] rfl
  exact t_X8_behindTerm_4 hx hR hKS hE h_a1 h
set_option maxHeartbeats 4000000 in
theorem C_X8_behindTerm {n : Nat} {c : YC} (hKS : ∀ k ∈ KM, k ∈ c.2.2.2.2) {S : St} {a1 : Nat} {a2 : Int32} {out : St × Int32} (h_a1 : (1, a1, 0) ∈ KM) (h : f_X8_behindTerm n S a1 a2 = some out) : MI c yX8_behindTerm cX8_behindTerm 4 (some .int) rm_X8_behindTerm S [.ref (c.2.2.1 1 a1 0), .int a2] out := mk_I (own := RX8) (by decide +kernel) rfl (Nat.le_of_ble_eq_true rfl) (fun x hx hR hy hE => by subst hy; exact t_X8_behindTerm_0 hx hR hKS hE h_a1 h)
def j_X8_fits_127 (n : Nat) (K8 : St → Nat → Int32 → Int32 → Int32 → Int32 → Option (St × Int32)) (S : St) (a1 : Nat) (l2 : Int32) (l3 : Int32) (l5 : Int32) (s0 : Int32) : Option (St × Int32) :=
  bI (f_X8_behindToken n S a1 l5) fun S1 v3 =>
  K8 S1 a1 l2 l3 s0 v3
def j_X8_fits_122 (n : Nat) (K8 : St → Nat → Int32 → Int32 → Int32 → Int32 → Option (St × Int32)) (S : St) (a1 : Nat) (l2 : Int32) (l3 : Int32) (l5 : Int32) : Option (St × Int32) :=
  j_X8_fits_127 n K8 S a1 l2 l3 l5 1
def j_X8_fits_126 (n : Nat) (K8 : St → Nat → Int32 → Int32 → Int32 → Int32 → Option (St × Int32)) (S : St) (a1 : Nat) (l2 : Int32) (l3 : Int32) (l5 : Int32) : Option (St × Int32) :=
  j_X8_fits_127 n K8 S a1 l2 l3 l5 0
def j_X8_fits_93 (n : Nat) (K8 : St → Nat → Int32 → Int32 → Int32 → Int32 → Option (St × Int32)) (S : St) (a1 : Nat) (l2 : Int32) (l3 : Int32) (l5 : Int32) (l7 : Int32) (s0 : Int32) : Option (St × Int32) :=
  if s0 = 0 then
    j_X8_fits_126 n K8 S a1 l2 l3 l5
  else
    gI S a1 0 l5 (ln a1) fun v2 =>
    if v2 = 2 then
      bI (f_X8_behindLevel n S a1 l7) fun S6 v8 =>
      if 16 < (v8 - l7) then
        j_X8_fits_126 n K8 S6 a1 l2 l3 l5
      else
        j_X8_fits_122 n K8 S6 a1 l2 l3 l5
    else
      j_X8_fits_122 n K8 S a1 l2 l3 l5
def j_X8_fits_92 (n : Nat) (K8 : St → Nat → Int32 → Int32 → Int32 → Int32 → Option (St × Int32)) (S : St) (a1 : Nat) (l2 : Int32) (l3 : Int32) (l5 : Int32) (l7 : Int32) : Option (St × Int32) :=
  j_X8_fits_93 n K8 S a1 l2 l3 l5 l7 0
def j_X8_fits_69 (n : Nat) (K8 : St → Nat → Int32 → Int32 → Int32 → Int32 → Option (St × Int32)) (S : St) (a1 : Nat) (l2 : Int32) (l3 : Int32) (l5 : Int32) (l6 : Int32) (s0 : Int32) : Option (St × Int32) :=
  if 200 < l3 then
    j_X8_fits_92 n K8 S a1 l2 l3 l5 s0
  else
    if 16 < (s0 - l6) then
      j_X8_fits_92 n K8 S a1 l2 l3 l5 s0
    else
      j_X8_fits_93 n K8 S a1 l2 l3 l5 s0 1
def j_X8_fits_52 (n : Nat) (K8 : St → Nat → Int32 → Int32 → Int32 → Int32 → Option (St × Int32)) (S : St) (a1 : Nat) (l2 : Int32) (l3 : Int32) (l5 : Int32) (s0 : Int32) : Option (St × Int32) :=
  if s0 ≤ 0 then
    j_X8_fits_69 n K8 S a1 l2 l3 l5 s0 0
  else
    bI (f_X8_behindLevel n S a1 s0) fun S2 v4 =>
    j_X8_fits_69 n K8 S2 a1 l2 l3 l5 s0 v4
def l_X8_fits_8 (n : Nat) : Nat → St → Nat → Int32 → Int32 → Int32 → Int32 → Option (St × Int32)
  | 0, _, _, _, _, _, _ => none
  | m + 1, S, a1, l2, l3, l4, l5 =>
    if l2 ≤ l5 then
      some (S, l4)
    else
      if l4 = 0 then
        some (S, l4)
      else
        bV (l3 + 1) fun v3 =>
        gI S a1 0 l5 (ln a1) fun v5 =>
        if v5 = 0 then
          j_X8_fits_52 n (fun S a1 l2 l3 l4 l5 => l_X8_fits_8 n m S a1 l2 l3 l4 l5) S a1 l2 v3 l5 (l5 + 1)
        else
          gI S a1 0 l5 (ln a1) fun v9 =>
          if v9 = 2 then
            j_X8_fits_52 n (fun S a1 l2 l3 l4 l5 => l_X8_fits_8 n m S a1 l2 l3 l4 l5) S a1 l2 v3 l5 (l5 + 2)
          else
            j_X8_fits_52 n (fun S a1 l2 l3 l4 l5 => l_X8_fits_8 n m S a1 l2 l3 l4 l5) S a1 l2 v3 l5 0
def g_X8_fits (n : Nat) (S : St) (a1 : Nat) (a2 : Int32) (a3 : Int32) : Option (St × Int32) :=
  l_X8_fits_8 n n S a1 a3 0 1 a2
set_option maxRecDepth 100000 in
set_option maxHeartbeats 4000000 in
theorem t_X8_fits_127 {n : Nat} {K8 : St → Nat → Int32 → Int32 → Int32 → Int32 → Option (St × Int32)} {x : XC} (hx : CX x cX8_fits 8 RX8) (hR : x_R x = rm_X8_fits) (hKS : ∀ k ∈ KM, k ∈ x_K x) {out : St × Int32} (hE : EI x cX8_fits out) (hK8 : ∀ {S : St} {a1 : Nat} {l2 : Int32} {l3 : Int32} {l4 : Int32} {l5 : Int32} (_ : (1, a1, 0) ∈ KM), K8 S a1 l2 l3 l4 l5 = some out → WX x 8 0 0 S 8 [(0, .ref (x_ad x 1 a1 0)), (2, .int l2), (3, .int l3), (4, .int l4), (5, .int l5)] []) {S : St} {a1 : Nat} {l2 : Int32} {l3 : Int32} {l5 : Int32} {s0 : Int32} (h_a1 : (1, a1, 0) ∈ KM) (h : j_X8_fits_127 n K8 S a1 l2 l3 l5 s0 = some out) : WX x 8 0 0 S 127 [(0, .ref (x_ad x 1 a1 0)), (2, .int l2), (3, .int l3), (5, .int l5)] [.int s0] := by
  unfold j_X8_fits_127 at h
  refine r_istore (lv' := [(4, .int s0), (0, .ref (x_ad x 1 a1 0)), (2, .int l2), (3, .int l3), (5, .int l5)]) hx dX8_fits_127 (by decide) rfl ?_
  refine r_aload_n (k0 := 1) hx dX8_fits_129 rfl rfl ?_
  refine r_iload (k0 := 4) hx dX8_fits_130 rfl ?_
  obtain ⟨S1, v3, c2, h⟩ := bI_some h
  refine r_Si (As := [.ref (x_ad x 1 a1 0), .int l5]) (rest := []) hx (C_X8_behindToken (c := x_y x) hKS h_a1 c2) wl_X8_152 wt_X8_behindToken wn_X8 wc_X8_behindToken dy_X8_behindToken rfl (by rw [hR]; decide +kernel) rfl (Nat.le_of_ble_eq_true rfl) dX8_fits_132 ?_
  refine r_istore (lv' := [(5, .int v3), (4, .int s0), (0, .ref (x_ad x 1 a1 0)), (2, .int l2), (3, .int l3)]) hx dX8_fits_135 (by decide) rfl ?_
  refine r_goto (tgt := 8) hx dX8_fits_137 (by decide) ?_
  refine WX.sub (lv' := [(0, .ref (x_ad x 1 a1 0)), (2, .int l2), (3, .int l3), (4, .int s0), (5, .int v3)]) ?_ [2, 3, 4, 1, 0] rfl
  exact hK8 h_a1 h
set_option maxRecDepth 100000 in
set_option maxHeartbeats 4000000 in
theorem t_X8_fits_122 {n : Nat} {K8 : St → Nat → Int32 → Int32 → Int32 → Int32 → Option (St × Int32)} {x : XC} (hx : CX x cX8_fits 8 RX8) (hR : x_R x = rm_X8_fits) (hKS : ∀ k ∈ KM, k ∈ x_K x) {out : St × Int32} (hE : EI x cX8_fits out) (hK8 : ∀ {S : St} {a1 : Nat} {l2 : Int32} {l3 : Int32} {l4 : Int32} {l5 : Int32} (_ : (1, a1, 0) ∈ KM), K8 S a1 l2 l3 l4 l5 = some out → WX x 8 0 0 S 8 [(0, .ref (x_ad x 1 a1 0)), (2, .int l2), (3, .int l3), (4, .int l4), (5, .int l5)] []) {S : St} {a1 : Nat} {l2 : Int32} {l3 : Int32} {l5 : Int32} (h_a1 : (1, a1, 0) ∈ KM) (h : j_X8_fits_122 n K8 S a1 l2 l3 l5 = some out) : WX x 8 0 0 S 122 [(0, .ref (x_ad x 1 a1 0)), (2, .int l2), (3, .int l3), (5, .int l5)] [] := by
  unfold j_X8_fits_122 at h
  refine r_iconst (v := 1) hx dX8_fits_122 (by decide) ?_
  refine r_goto (tgt := 127) hx dX8_fits_123 (by decide) ?_
  exact t_X8_fits_127 hx hR hKS hE hK8 h_a1 h
set_option maxRecDepth 100000 in
set_option maxHeartbeats 4000000 in
theorem t_X8_fits_126 {n : Nat} {K8 : St → Nat → Int32 → Int32 → Int32 → Int32 → Option (St × Int32)} {x : XC} (hx : CX x cX8_fits 8 RX8) (hR : x_R x = rm_X8_fits) (hKS : ∀ k ∈ KM, k ∈ x_K x) {out : St × Int32} (hE : EI x cX8_fits out) (hK8 : ∀ {S : St} {a1 : Nat} {l2 : Int32} {l3 : Int32} {l4 : Int32} {l5 : Int32} (_ : (1, a1, 0) ∈ KM), K8 S a1 l2 l3 l4 l5 = some out → WX x 8 0 0 S 8 [(0, .ref (x_ad x 1 a1 0)), (2, .int l2), (3, .int l3), (4, .int l4), (5, .int l5)] []) {S : St} {a1 : Nat} {l2 : Int32} {l3 : Int32} {l5 : Int32} (h_a1 : (1, a1, 0) ∈ KM) (h : j_X8_fits_126 n K8 S a1 l2 l3 l5 = some out) : WX x 8 0 0 S 126 [(0, .ref (x_ad x 1 a1 0)), (2, .int l2), (3, .int l3), (5, .int l5)] [] := by
  unfold j_X8_fits_126 at h
  refine r_iconst (v := 0) hx dX8_fits_126 (by decide) ?_
  exact t_X8_fits_127 hx hR hKS hE hK8 h_a1 h
set_option maxRecDepth 100000 in
set_option maxHeartbeats 4000000 in
theorem t_X8_fits_93 {n : Nat} {K8 : St → Nat → Int32 → Int32 → Int32 → Int32 → Option (St × Int32)} {x : XC} (hx : CX x cX8_fits 8 RX8) (hR : x_R x = rm_X8_fits) (hKS : ∀ k ∈ KM, k ∈ x_K x) {out : St × Int32} (hE : EI x cX8_fits out) (hK8 : ∀ {S : St} {a1 : Nat} {l2 : Int32} {l3 : Int32} {l4 : Int32} {l5 : Int32} (_ : (1, a1, 0) ∈ KM), K8 S a1 l2 l3 l4 l5 = some out → WX x 8 0 0 S 8 [(0, .ref (x_ad x 1 a1 0)), (2, .int l2), (3, .int l3), (4, .int l4), (5, .int l5)] []) {S : St} {a1 : Nat} {l2 : Int32} {l3 : Int32} {l5 : Int32} {l7 : Int32} {s0 : Int32} (h_a1 : (1, a1, 0) ∈ KM) (h : j_X8_fits_93 n K8 S a1 l2 l3 l5 l7 s0 = some out) : WX x 8 0 0 S 93 [(0, .ref (x_ad x 1 a1 0)), (2, .int l2), (3, .int l3), (5, .int l5), (7, .int l7)] [.int s0] := by
  unfold j_X8_fits_93 at h
  refine r_istore (lv' := [(4, .int s0), (0, .ref (x_ad x 1 a1 0)), (2, .int l2), (3, .int l3), (5, .int l5), (7, .int l7)]) hx dX8_fits_93 (by decide) rfl ?_
  refine r_iload (k0 := 0) hx dX8_fits_95 rfl ?_
  refine r_if_eq (tgt := 126) hx dX8_fits_97 (by decide) (fun c1 => ?_) (fun c1 => ?_)
  · have h := ite_t h c1
    refine WX.sub (lv' := [(0, .ref (x_ad x 1 a1 0)), (2, .int l2), (3, .int l3), (5, .int l5)]) ?_ [1, 2, 3, 4] rfl
    exact t_X8_fits_126 hx hR hKS hE hK8 h_a1 h
  · have h := ite_f h c1
    refine r_aload_n (k0 := 1) hx dX8_fits_100 rfl rfl ?_
    refine r_iload (k0 := 4) hx dX8_fits_101 rfl ?_
    obtain ⟨v2, e3, i4, h⟩ := gI_some h
    refine r_iald hx (hKS _ h_a1) rfl i4 e3 dX8_fits_103 ?_
    refine r_iconst (v := 2) hx dX8_fits_104 (by decide) ?_
    refine r_icmp_ne (tgt := 122) hx dX8_fits_105 (by decide) (fun c5 => ?_) (fun c5 => ?_)
    · have h := ite_f h c5
      refine WX.sub (lv' := [(0, .ref (x_ad x 1 a1 0)), (2, .int l2), (3, .int l3), (5, .int l5)]) ?_ [1, 2, 3, 4] rfl
      exact t_X8_fits_122 hx hR hKS hE hK8 h_a1 h
    · have h := ite_t h c5
      refine r_aload_n (k0 := 1) hx dX8_fits_108 rfl rfl ?_
      refine r_iload (k0 := 5) hx dX8_fits_109 rfl ?_
      obtain ⟨S6, v8, c7, h⟩ := bI_some h
      refine r_Si (As := [.ref (x_ad x 1 a1 0), .int l7]) (rest := []) hx (C_X8_behindLevel (c := x_y x) hKS h_a1 c7) wl_X8_144 wt_X8_behindLevel wn_X8 wc_X8_behindLevel dy_X8_behindLevel rfl (by rw [hR]; decide +kernel) rfl (Nat.le_of_ble_eq_true rfl) dX8_fits_111 ?_
      refine r_iload (k0 := 5) hx dX8_fits_114 rfl ?_
      refine r_isub hx dX8_fits_116 ?_
      refine r_bipush (v := 16) hx dX8_fits_117 (by decide) ?_
      refine r_icmp_gt (tgt := 126) hx dX8_fits_119 (by decide) (fun c9 => ?_) (fun c9 => ?_)
      · have h := ite_t h c9
        refine WX.sub (lv' := [(0, .ref (x_ad x 1 a1 0)), (2, .int l2), (3, .int l3), (5, .int l5)]) ?_ [1, 2, 3, 4] rfl
        exact t_X8_fits_126 hx hR hKS hE hK8 h_a1 h
      · have h := ite_f h c9
        refine WX.sub (lv' := [(0, .ref (x_ad x 1 a1 0)), (2, .int l2), (3, .int l3), (5, .int l5)]) ?_ [1, 2, 3, 4] rfl
        exact t_X8_fits_122 hx hR hKS hE hK8 h_a1 h
set_option maxRecDepth 100000 in
set_option maxHeartbeats 4000000 in
theorem t_X8_fits_92 {n : Nat} {K8 : St → Nat → Int32 → Int32 → Int32 → Int32 → Option (St × Int32)} {x : XC} (hx : CX x cX8_fits 8 RX8) (hR : x_R x = rm_X8_fits) (hKS : ∀ k ∈ KM, k ∈ x_K x) {out : St × Int32} (hE : EI x cX8_fits out) (hK8 : ∀ {S : St} {a1 : Nat} {l2 : Int32} {l3 : Int32} {l4 : Int32} {l5 : Int32} (_ : (1, a1, 0) ∈ KM), K8 S a1 l2 l3 l4 l5 = some out → WX x 8 0 0 S 8 [(0, .ref (x_ad x 1 a1 0)), (2, .int l2), (3, .int l3), (4, .int l4), (5, .int l5)] []) {S : St} {a1 : Nat} {l2 : Int32} {l3 : Int32} {l5 : Int32} {l7 : Int32} (h_a1 : (1, a1, 0) ∈ KM) (h : j_X8_fits_92 n K8 S a1 l2 l3 l5 l7 = some out) : WX x 8 0 0 S 92 [(0, .ref (x_ad x 1 a1 0)), (2, .int l2), (3, .int l3), (5, .int l5), (7, .int l7)] [] := by
  unfold j_X8_fits_92 at h
  refine r_iconst (v := 0) hx dX8_fits_92 (by decide) ?_
  exact t_X8_fits_93 hx hR hKS hE hK8 h_a1 h
set_option maxRecDepth 100000 in
set_option maxHeartbeats 4000000 in
theorem t_X8_fits_69 {n : Nat} {K8 : St → Nat → Int32 → Int32 → Int32 → Int32 → Option (St × Int32)} {x : XC} (hx : CX x cX8_fits 8 RX8) (hR : x_R x = rm_X8_fits) (hKS : ∀ k ∈ KM, k ∈ x_K x) {out : St × Int32} (hE : EI x cX8_fits out) (hK8 : ∀ {S : St} {a1 : Nat} {l2 : Int32} {l3 : Int32} {l4 : Int32} {l5 : Int32} (_ : (1, a1, 0) ∈ KM), K8 S a1 l2 l3 l4 l5 = some out → WX x 8 0 0 S 8 [(0, .ref (x_ad x 1 a1 0)), (2, .int l2), (3, .int l3), (4, .int l4), (5, .int l5)] []) {S : St} {a1 : Nat} {l2 : Int32} {l3 : Int32} {l5 : Int32} {l6 : Int32} {s0 : Int32} (h_a1 : (1, a1, 0) ∈ KM) (h : j_X8_fits_69 n K8 S a1 l2 l3 l5 l6 s0 = some out) : WX x 8 0 0 S 69 [(0, .ref (x_ad x 1 a1 0)), (2, .int l2), (3, .int l3), (5, .int l5), (6, .int l6)] [.int s0] := by
  unfold j_X8_fits_69 at h
  refine r_istore (lv' := [(7, .int s0), (0, .ref (x_ad x 1 a1 0)), (2, .int l2), (3, .int l3), (5, .int l5), (6, .int l6)]) hx dX8_fits_69 (by decide) rfl ?_
  refine r_iload_n (k0 := 3) hx dX8_fits_71 rfl rfl ?_
  refine r_sipush (v := 200) hx dX8_fits_72 (by decide) ?_
  refine r_icmp_gt (tgt := 92) hx dX8_fits_75 (by decide) (fun c1 => ?_) (fun c1 => ?_)
  · have h := ite_t h c1
    refine WX.sub (lv' := [(0, .ref (x_ad x 1 a1 0)), (2, .int l2), (3, .int l3), (5, .int l5), (7, .int s0)]) ?_ [1, 2, 3, 4, 0] rfl
    exact t_X8_fits_92 hx hR hKS hE hK8 h_a1 h
  · have h := ite_f h c1
    refine r_iload (k0 := 0) hx dX8_fits_78 rfl ?_
    refine r_iload (k0 := 5) hx dX8_fits_80 rfl ?_
    refine r_isub hx dX8_fits_82 ?_
    refine r_bipush (v := 16) hx dX8_fits_83 (by decide) ?_
    refine r_icmp_gt (tgt := 92) hx dX8_fits_85 (by decide) (fun c2 => ?_) (fun c2 => ?_)
    · have h := ite_t h c2
      refine WX.sub (lv' := [(0, .ref (x_ad x 1 a1 0)), (2, .int l2), (3, .int l3), (5, .int l5), (7, .int s0)]) ?_ [1, 2, 3, 4, 0] rfl
      exact t_X8_fits_92 hx hR hKS hE hK8 h_a1 h
    · have h := ite_f h c2
      refine r_iconst (v := 1) hx dX8_fits_88 (by decide) ?_
      refine r_goto (tgt := 93) hx dX8_fits_89 (by decide) ?_
      refine WX.sub (lv' := [(0, .ref (x_ad x 1 a1 0)), (2, .int l2), (3, .int l3), (5, .int l5), (7, .int s0)]) ?_ [1, 2, 3, 4, 0] rfl
      exact t_X8_fits_93 hx hR hKS hE hK8 h_a1 h
set_option maxRecDepth 100000 in
set_option maxHeartbeats 4000000 in
theorem t_X8_fits_52 {n : Nat} {K8 : St → Nat → Int32 → Int32 → Int32 → Int32 → Option (St × Int32)} {x : XC} (hx : CX x cX8_fits 8 RX8) (hR : x_R x = rm_X8_fits) (hKS : ∀ k ∈ KM, k ∈ x_K x) {out : St × Int32} (hE : EI x cX8_fits out) (hK8 : ∀ {S : St} {a1 : Nat} {l2 : Int32} {l3 : Int32} {l4 : Int32} {l5 : Int32} (_ : (1, a1, 0) ∈ KM), K8 S a1 l2 l3 l4 l5 = some out → WX x 8 0 0 S 8 [(0, .ref (x_ad x 1 a1 0)), (2, .int l2), (3, .int l3), (4, .int l4), (5, .int l5)] []) {S : St} {a1 : Nat} {l2 : Int32} {l3 : Int32} {l5 : Int32} {s0 : Int32} (h_a1 : (1, a1, 0) ∈ KM) (h : j_X8_fits_52 n K8 S a1 l2 l3 l5 s0 = some out) : WX x 8 0 0 S 52 [(0, .ref (x_ad x 1 a1 0)), (2, .int l2), (3, .int l3), (5, .int l5)] [.int s0] := by
  unfold j_X8_fits_52 at h
  refine r_istore (lv' := [(6, .int s0), (0, .ref (x_ad x 1 a1 0)), (2, .int l2), (3, .int l3), (5, .int l5)]) hx dX8_fits_52 (by decide) rfl ?_
  refine r_iload (k0 := 0) hx dX8_fits_54 rfl ?_
  refine r_if_le (tgt := 68) hx dX8_fits_56 (by decide) (fun c1 => ?_) (fun c1 => ?_)
  · have h := ite_t h c1
    refine r_iconst (v := 0) hx dX8_fits_68 (by decide) ?_
    refine WX.sub (lv' := [(0, .ref (x_ad x 1 a1 0)), (2, .int l2), (3, .int l3), (5, .int l5), (6, .int s0)]) ?_ [1, 2, 3, 4, 0] rfl
    exact t_X8_fits_69 hx hR hKS hE hK8 h_a1 h
  · have h := ite_f h c1
    refine r_aload_n (k0 := 1) hx dX8_fits_59 rfl rfl ?_
    refine r_iload (k0 := 0) hx dX8_fits_60 rfl ?_
    obtain ⟨S2, v4, c3, h⟩ := bI_some h
    refine r_Si (As := [.ref (x_ad x 1 a1 0), .int s0]) (rest := []) hx (C_X8_behindLevel (c := x_y x) hKS h_a1 c3) wl_X8_144 wt_X8_behindLevel wn_X8 wc_X8_behindLevel dy_X8_behindLevel rfl (by rw [hR]; decide +kernel) rfl (Nat.le_of_ble_eq_true rfl) dX8_fits_62 ?_
    refine r_goto (tgt := 69) hx dX8_fits_65 (by decide) ?_
    refine WX.sub (lv' := [(0, .ref (x_ad x 1 a1 0)), (2, .int l2), (3, .int l3), (5, .int l5), (6, .int s0)]) ?_ [1, 2, 3, 4, 0] rfl
    exact t_X8_fits_69 hx hR hKS hE hK8 h_a1 h
set_option maxRecDepth 100000 in
set_option maxHeartbeats 4000000 in
theorem t_X8_fits_8 {n : Nat} {x : XC} (hx : CX x cX8_fits 8 RX8) (hR : x_R x = rm_X8_fits) (hKS : ∀ k ∈ KM, k ∈ x_K x) {out : St × Int32} (hE : EI x cX8_fits out) : ∀ {m : Nat} {S : St} {a1 : Nat} {l2 : Int32} {l3 : Int32} {l4 : Int32} {l5 : Int32} (h_a1 : (1, a1, 0) ∈ KM) (h : l_X8_fits_8 n m S a1 l2 l3 l4 l5 = some out), WX x 8 0 0 S 8 [(0, .ref (x_ad x 1 a1 0)), (2, .int l2), (3, .int l3), (4, .int l4), (5, .int l5)] [] := by
  intro m
  induction m with
  | zero => intro S a1 l2 l3 l4 l5 h_a1 h; cases h
  | succ m ih =>
    intro S a1 l2 l3 l4 l5 h_a1 h
    unfold l_X8_fits_8 at h
    refine r_iload (k0 := 4) hx dX8_fits_8 rfl ?_
    refine r_iload_n (k0 := 1) hx dX8_fits_10 rfl rfl ?_
    refine r_icmp_ge (tgt := 140) hx dX8_fits_11 (by decide) (fun c1 => ?_) (fun c1 => ?_)
    · have h := ite_t h c1
      refine r_iload (k0 := 3) hx dX8_fits_140 rfl ?_
      exact r_iret hE h dX8_fits_142
    · have h := ite_f h c1
      refine r_iload (k0 := 3) hx dX8_fits_14 rfl ?_
      refine r_if_eq (tgt := 140) hx dX8_fits_16 (by decide) (fun c2 => ?_) (fun c2 => ?_)
      · have h := ite_t h c2
        refine r_iload (k0 := 3) hx dX8_fits_140 rfl ?_
        exact r_iret hE h dX8_fits_142
      · have h := ite_f h c2
        obtain ⟨v3, e4, h⟩ := bV_some h
        refine r_iinc (k := 2) (v := v3) (lv' := [(3, .int v3), (0, .ref (x_ad x 1 a1 0)), (2, .int l2), (4, .int l4), (5, .int l5)]) hx dX8_fits_19 rfl (by rw [e4]; rfl) (by decide) rfl ?_
        refine r_aload_n (k0 := 1) hx dX8_fits_22 rfl rfl ?_
        refine r_iload (k0 := 4) hx dX8_fits_23 rfl ?_
        obtain ⟨v5, e6, i7, h⟩ := gI_some h
        refine r_iald hx (hKS _ h_a1) rfl i7 e6 dX8_fits_25 ?_
        refine r_if_ne (tgt := 36) hx dX8_fits_26 (by decide) (fun c8 => ?_) (fun c8 => ?_)
        · have h := ite_f h c8
          refine r_aload_n (k0 := 1) hx dX8_fits_36 rfl rfl ?_
          refine r_iload (k0 := 4) hx dX8_fits_37 rfl ?_
          obtain ⟨v9, e10, i11, h⟩ := gI_some h
          refine r_iald hx (hKS _ h_a1) rfl i11 e10 dX8_fits_39 ?_
          refine r_iconst (v := 2) hx dX8_fits_40 (by decide) ?_
          refine r_icmp_ne (tgt := 51) hx dX8_fits_41 (by decide) (fun c12 => ?_) (fun c12 => ?_)
          · have h := ite_f h c12
            refine r_iconst (v := 0) hx dX8_fits_51 (by decide) ?_
            refine WX.sub (lv' := [(0, .ref (x_ad x 1 a1 0)), (2, .int l2), (3, .int v3), (5, .int l5)]) ?_ [1, 2, 0, 4] rfl
            exact t_X8_fits_52 hx hR hKS hE ih h_a1 h
          · have h := ite_t h c12
            refine r_iload (k0 := 4) hx dX8_fits_44 rfl ?_
            refine r_iconst (v := 2) hx dX8_fits_46 (by decide) ?_
            refine r_iadd hx dX8_fits_47 ?_
            refine r_goto (tgt := 52) hx dX8_fits_48 (by decide) ?_
            refine WX.sub (lv' := [(0, .ref (x_ad x 1 a1 0)), (2, .int l2), (3, .int v3), (5, .int l5)]) ?_ [1, 2, 0, 4] rfl
            exact t_X8_fits_52 hx hR hKS hE ih h_a1 h
        · have h := ite_t h c8
          refine r_iload (k0 := 4) hx dX8_fits_29 rfl ?_
          refine r_iconst (v := 1) hx dX8_fits_31 (by decide) ?_
          refine r_iadd hx dX8_fits_32 ?_
          refine r_goto (tgt := 52) hx dX8_fits_33 (by decide) ?_
          refine WX.sub (lv' := [(0, .ref (x_ad x 1 a1 0)), (2, .int l2), (3, .int v3), (5, .int l5)]) ?_ [1, 2, 0, 4] rfl
          exact t_X8_fits_52 hx hR hKS hE ih h_a1 h
set_option maxRecDepth 100000 in
set_option maxHeartbeats 4000000 in
theorem t_X8_fits_0 {n : Nat} {x : XC} (hx : CX x cX8_fits 8 RX8) (hR : x_R x = rm_X8_fits) (hKS : ∀ k ∈ KM, k ∈ x_K x) {out : St × Int32} (hE : EI x cX8_fits out) {S : St} {a1 : Nat} {a2 : Int32} {a3 : Int32} (h_a1 : (1, a1, 0) ∈ KM) (h : g_X8_fits n S a1 a2 a3 = some out) : WX x 8 0 0 S 0 [(0, .ref (x_ad x 1 a1 0)), (1, .int a2), (2, .int a3)] [] := by
  unfold g_X8_fits at h
  refine r_iconst (v := 0) hx dX8_fits_0 (by decide) ?_
  refine r_istore_n (lv' := [(3, .int 0), (0, .ref (x_ad x 1 a1 0)), (1, .int a2), (2, .int a3)]) hx dX8_fits_1 rfl (by decide) rfl ?_
  refine r_iconst (v := 1) hx dX8_fits_2 (by decide) ?_
  refine r_istore (lv' := [(4, .int 1), (3, .int 0), (0, .ref (x_ad x 1 a1 0)), (1, .int a2), (2, .int a3)]) hx dX8_fits_3 (by decide) rfl ?_
  refine r_iload_n (k0 := 3) hx dX8_fits_5 rfl rfl ?_
  refine r_istore (lv' := [(5, .int a2), (4, .int 1), (3, .int 0), (0, .ref (x_ad x 1 a1 0)), (1, .int a2), (2, .int a3)]) hx dX8_fits_6 (by decide) rfl ?_
  refine WX.sub (lv' := [(0, .ref (x_ad x 1 a1 0)), (2, .int a3), (3, .int 0), (4, .int 1), (5, .int a2)]) ?_ [3, 5, 2, 1, 0] rfl
  exact t_X8_fits_8 hx hR hKS hE h_a1 h
def f_X8_fits (n : Nat) (S : St) (a1 : Nat) (a2 : Int32) (a3 : Int32) : Option (St × Int32) := zW (g_X8_fits n S a1 a2 a3)
set_option maxHeartbeats 4000000 in
theorem C_X8_fits {n : Nat} {c : YC} (hKS : ∀ k ∈ KM, k ∈ c.2.2.2.2) {S : St} {a1 : Nat} {a2 : Int32} {a3 : Int32} {out : St × Int32} (h_a1 : (1, a1, 0) ∈ KM) (h : f_X8_fits n S a1 a2 a3 = some out) : MI c yX8_fits cX8_fits 8 (some .boolean) rm_X8_fits S [.ref (c.2.2.1 1 a1 0), .int a2, .int a3] out := mk_Z (own := RX8) (by decide +kernel) rfl (Nat.le_of_ble_eq_true rfl) (zW_some h).2 (fun x hx hR hy hE => by subst hy; exact t_X8_fits_0 hx hR hKS hE h_a1 (zW_some h).1)
def j_X8_layLevel_106 (n : Nat) (K13 : St → Nat → Int32 → Int32 → Option (St × Int32)) (S : St) (a2 : Nat) (l4 : Int32) (l5 : Int32) (l6 : Int32) : Option (St × Int32) :=
  gI S 351 0 l6 300 fun v1 =>
  if v1 ≤ 0 then
    K13 S a2 l4 l5
  else
    gI S 351 0 l6 300 fun v5 =>
    if 4 ≤ v5 then
      K13 S a2 l4 l5
    else
      gI S 352 0 l6 300 fun v9 =>
      pI S 378 0 l5 100 v9 fun S12 =>
      bV (l5 + 1) fun v15 =>
      K13 S12 a2 l4 v15
def j_X8_layLevel_89 (n : Nat) (K13 : St → Nat → Int32 → Int32 → Option (St × Int32)) (S : St) (a2 : Nat) (l4 : Int32) (l5 : Int32) (l6 : Int32) : Option (St × Int32) :=
  gI S 353 0 l6 300 fun v1 =>
  pI S 378 0 l5 100 v1 fun S4 =>
  bV (l5 + 1) fun v7 =>
  j_X8_layLevel_106 n K13 S4 a2 l4 v7 l6
def j_X8_layLevel_63 (n : Nat) (K13 : St → Nat → Int32 → Int32 → Option (St × Int32)) (S : St) (a2 : Nat) (l4 : Int32) (l5 : Int32) (l6 : Int32) (s0 : Int32) (s1 : Int32) : Option (St × Int32) :=
  pI S a2 0 s1 (ln a2) s0 fun S1 =>
  bV (l4 + 1) fun v4 =>
  gI S1 351 0 l6 300 fun v6 =>
  if v6 = 2 then
    j_X8_layLevel_89 n K13 S1 a2 v4 l5 l6
  else
    gI S1 351 0 l6 300 fun v10 =>
    if v10 = 3 then
      j_X8_layLevel_89 n K13 S1 a2 v4 l5 l6
    else
      j_X8_layLevel_106 n K13 S1 a2 v4 l5 l6
def l_X8_layLevel_13 (n : Nat) : Nat → St → Nat → Int32 → Int32 → Option (St × Int32)
  | 0, _, _, _, _ => none
  | m + 1, S, a2, l4, l5 =>
    if l5 ≤ 0 then
      some (S, l4)
    else
      bV (l5 + (-1)) fun v2 =>
      gI S 378 0 v2 100 fun v4 =>
      gI S 351 0 v4 300 fun v7 =>
      if v7 = 4 then
        gI S 352 0 v4 300 fun v14 =>
        j_X8_layLevel_63 n (fun S a2 l4 l5 => l_X8_layLevel_13 n m S a2 l4 l5) S a2 l4 v2 v4 (4 + v14) l4
      else
        gI S 351 0 v4 300 fun v11 =>
        j_X8_layLevel_63 n (fun S a2 l4 l5 => l_X8_layLevel_13 n m S a2 l4 l5) S a2 l4 v2 v4 v11 l4
def f_X8_layLevel (n : Nat) (S : St) (a1 : Int32) (a2 : Nat) (a3 : Int32) : Option (St × Int32) :=
  pI S 378 0 0 100 a1 fun S1 =>
  l_X8_layLevel_13 n n S1 a2 a3 1
set_option maxRecDepth 100000 in
set_option maxHeartbeats 4000000 in
theorem t_X8_layLevel_106 {n : Nat} {K13 : St → Nat → Int32 → Int32 → Option (St × Int32)} {x : XC} (hx : CX x cX8_layLevel 7 RX8) (hR : x_R x = rm_X8_layLevel) (hKS : ∀ k ∈ KM, k ∈ x_K x) {out : St × Int32} (hE : EI x cX8_layLevel out) (hK13 : ∀ {S : St} {a2 : Nat} {l4 : Int32} {l5 : Int32} (_ : (1, a2, 0) ∈ KM), K13 S a2 l4 l5 = some out → WX x 7 0 0 S 13 [(0, .ref (x_ad x 0 7 0)), (2, .ref (x_ad x 1 a2 0)), (4, .int l4), (5, .int l5)] []) {S : St} {a2 : Nat} {l4 : Int32} {l5 : Int32} {l6 : Int32} (h_a2 : (1, a2, 0) ∈ KM) (h : j_X8_layLevel_106 n K13 S a2 l4 l5 l6 = some out) : WX x 7 0 0 S 106 [(0, .ref (x_ad x 0 7 0)), (2, .ref (x_ad x 1 a2 0)), (4, .int l4), (5, .int l5), (6, .int l6)] [] := by
  unfold j_X8_layLevel_106 at h
  refine r_aload_n (k0 := 0) hx dX8_layLevel_106 rfl rfl ?_
  refine g_351 hx (k_0_7 hKS) wf_X8_7 dX8_layLevel_107 ?_
  refine r_iload (k0 := 4) hx dX8_layLevel_110 rfl ?_
  obtain ⟨v1, e2, i3, h⟩ := gI_some h
  refine r_iald hx (k_1_351 hKS) rfl i3 e2 dX8_layLevel_112 ?_
  refine r_if_le (tgt := 144) hx dX8_layLevel_113 (by decide) (fun c4 => ?_) (fun c4 => ?_)
  · have h := ite_t h c4
    refine r_goto (tgt := 13) hx dX8_layLevel_144 (by decide) ?_
    refine WX.sub (lv' := [(0, .ref (x_ad x 0 7 0)), (2, .ref (x_ad x 1 a2 0)), (4, .int l4), (5, .int l5)]) ?_ [0, 1, 2, 3] rfl
    exact hK13 h_a2 h
  · have h := ite_f h c4
    refine r_aload_n (k0 := 0) hx dX8_layLevel_116 rfl rfl ?_
    refine g_351 hx (k_0_7 hKS) wf_X8_7 dX8_layLevel_117 ?_
    refine r_iload (k0 := 4) hx dX8_layLevel_120 rfl ?_
    obtain ⟨v5, e6, i7, h⟩ := gI_some h
    refine r_iald hx (k_1_351 hKS) rfl i7 e6 dX8_layLevel_122 ?_
    refine r_iconst (v := 4) hx dX8_layLevel_123 (by decide) ?_
    refine r_icmp_ge (tgt := 144) hx dX8_layLevel_124 (by decide) (fun c8 => ?_) (fun c8 => ?_)
    · have h := ite_t h c8
      refine r_goto (tgt := 13) hx dX8_layLevel_144 (by decide) ?_
      refine WX.sub (lv' := [(0, .ref (x_ad x 0 7 0)), (2, .ref (x_ad x 1 a2 0)), (4, .int l4), (5, .int l5)]) ?_ [0, 1, 2, 3] rfl
      exact hK13 h_a2 h
    · have h := ite_f h c8
      refine r_aload_n (k0 := 0) hx dX8_layLevel_127 rfl rfl ?_
      refine g_378 hx (k_0_7 hKS) wf_X8_75 dX8_layLevel_128 ?_
      refine r_iload (k0 := 3) hx dX8_layLevel_131 rfl ?_
      refine r_aload_n (k0 := 0) hx dX8_layLevel_133 rfl rfl ?_
      refine g_352 hx (k_0_7 hKS) wf_X8_13 dX8_layLevel_134 ?_
      refine r_iload (k0 := 4) hx dX8_layLevel_137 rfl ?_
      obtain ⟨v9, e10, i11, h⟩ := gI_some h
      refine r_iald hx (k_1_352 hKS) rfl i11 e10 dX8_layLevel_139 ?_
      obtain ⟨S12, e13, i14, h⟩ := pI_some h
      refine r_iast hx (k_1_378 hKS) rfl i14 e13 dX8_layLevel_140 ?_
      obtain ⟨v15, e16, h⟩ := bV_some h
      refine r_iinc (k := 3) (v := v15) (lv' := [(5, .int v15), (0, .ref (x_ad x 0 7 0)), (2, .ref (x_ad x 1 a2 0)), (4, .int l4), (6, .int l6)]) hx dX8_layLevel_141 rfl (by rw [e16]; rfl) (by decide) rfl ?_
      refine r_goto (tgt := 13) hx dX8_layLevel_144 (by decide) ?_
      refine WX.sub (lv' := [(0, .ref (x_ad x 0 7 0)), (2, .ref (x_ad x 1 a2 0)), (4, .int l4), (5, .int v15)]) ?_ [1, 2, 3, 0] rfl
      exact hK13 h_a2 h
set_option maxRecDepth 100000 in
set_option maxHeartbeats 4000000 in
theorem t_X8_layLevel_89 {n : Nat} {K13 : St → Nat → Int32 → Int32 → Option (St × Int32)} {x : XC} (hx : CX x cX8_layLevel 7 RX8) (hR : x_R x = rm_X8_layLevel) (hKS : ∀ k ∈ KM, k ∈ x_K x) {out : St × Int32} (hE : EI x cX8_layLevel out) (hK13 : ∀ {S : St} {a2 : Nat} {l4 : Int32} {l5 : Int32} (_ : (1, a2, 0) ∈ KM), K13 S a2 l4 l5 = some out → WX x 7 0 0 S 13 [(0, .ref (x_ad x 0 7 0)), (2, .ref (x_ad x 1 a2 0)), (4, .int l4), (5, .int l5)] []) {S : St} {a2 : Nat} {l4 : Int32} {l5 : Int32} {l6 : Int32} (h_a2 : (1, a2, 0) ∈ KM) (h : j_X8_layLevel_89 n K13 S a2 l4 l5 l6 = some out) : WX x 7 0 0 S 89 [(0, .ref (x_ad x 0 7 0)), (2, .ref (x_ad x 1 a2 0)), (4, .int l4), (5, .int l5), (6, .int l6)] [] := by
  unfold j_X8_layLevel_89 at h
  refine r_aload_n (k0 := 0) hx dX8_layLevel_89 rfl rfl ?_
  refine g_378 hx (k_0_7 hKS) wf_X8_75 dX8_layLevel_90 ?_
  refine r_iload (k0 := 3) hx dX8_layLevel_93 rfl ?_
  refine r_aload_n (k0 := 0) hx dX8_layLevel_95 rfl rfl ?_
  refine g_353 hx (k_0_7 hKS) wf_X8_16 dX8_layLevel_96 ?_
  refine r_iload (k0 := 4) hx dX8_layLevel_99 rfl ?_
  obtain ⟨v1, e2, i3, h⟩ := gI_some h
  refine r_iald hx (k_1_353 hKS) rfl i3 e2 dX8_layLevel_101 ?_
  obtain ⟨S4, e5, i6, h⟩ := pI_some h
  refine r_iast hx (k_1_378 hKS) rfl i6 e5 dX8_layLevel_102 ?_
  obtain ⟨v7, e8, h⟩ := bV_some h
  refine r_iinc (k := 3) (v := v7) (lv' := [(5, .int v7), (0, .ref (x_ad x 0 7 0)), (2, .ref (x_ad x 1 a2 0)), (4, .int l4), (6, .int l6)]) hx dX8_layLevel_103 rfl (by rw [e8]; rfl) (by decide) rfl ?_
  refine WX.sub (lv' := [(0, .ref (x_ad x 0 7 0)), (2, .ref (x_ad x 1 a2 0)), (4, .int l4), (5, .int v7), (6, .int l6)]) ?_ [1, 2, 3, 0, 4] rfl
  exact t_X8_layLevel_106 hx hR hKS hE hK13 h_a2 h
set_option maxRecDepth 100000 in
set_option maxHeartbeats 4000000 in
theorem t_X8_layLevel_63 {n : Nat} {K13 : St → Nat → Int32 → Int32 → Option (St × Int32)} {x : XC} (hx : CX x cX8_layLevel 7 RX8) (hR : x_R x = rm_X8_layLevel) (hKS : ∀ k ∈ KM, k ∈ x_K x) {out : St × Int32} (hE : EI x cX8_layLevel out) (hK13 : ∀ {S : St} {a2 : Nat} {l4 : Int32} {l5 : Int32} (_ : (1, a2, 0) ∈ KM), K13 S a2 l4 l5 = some out → WX x 7 0 0 S 13 [(0, .ref (x_ad x 0 7 0)), (2, .ref (x_ad x 1 a2 0)), (4, .int l4), (5, .int l5)] []) {S : St} {a2 : Nat} {l4 : Int32} {l5 : Int32} {l6 : Int32} {s0 : Int32} {s1 : Int32} (h_a2 : (1, a2, 0) ∈ KM) (h : j_X8_layLevel_63 n K13 S a2 l4 l5 l6 s0 s1 = some out) : WX x 7 0 0 S 63 [(0, .ref (x_ad x 0 7 0)), (2, .ref (x_ad x 1 a2 0)), (4, .int l4), (5, .int l5), (6, .int l6)] [.int s0, .int s1, .ref (x_ad x 1 a2 0)] := by
  unfold j_X8_layLevel_63 at h
  obtain ⟨S1, e2, i3, h⟩ := pI_some h
  refine r_iast hx (hKS _ h_a2) rfl i3 e2 dX8_layLevel_63 ?_
  obtain ⟨v4, e5, h⟩ := bV_some h
  refine r_iinc (k := 2) (v := v4) (lv' := [(4, .int v4), (0, .ref (x_ad x 0 7 0)), (2, .ref (x_ad x 1 a2 0)), (5, .int l5), (6, .int l6)]) hx dX8_layLevel_64 rfl (by rw [e5]; rfl) (by decide) rfl ?_
  refine r_aload_n (k0 := 1) hx dX8_layLevel_67 rfl rfl ?_
  refine g_351 hx (k_0_7 hKS) wf_X8_7 dX8_layLevel_68 ?_
  refine r_iload (k0 := 4) hx dX8_layLevel_71 rfl ?_
  obtain ⟨v6, e7, i8, h⟩ := gI_some h
  refine r_iald hx (k_1_351 hKS) rfl i8 e7 dX8_layLevel_73 ?_
  refine r_iconst (v := 2) hx dX8_layLevel_74 (by decide) ?_
  refine r_icmp_eq (tgt := 89) hx dX8_layLevel_75 (by decide) (fun c9 => ?_) (fun c9 => ?_)
  · have h := ite_t h c9
    refine WX.sub (lv' := [(0, .ref (x_ad x 0 7 0)), (2, .ref (x_ad x 1 a2 0)), (4, .int v4), (5, .int l5), (6, .int l6)]) ?_ [1, 2, 0, 3, 4] rfl
    exact t_X8_layLevel_89 hx hR hKS hE hK13 h_a2 h
  · have h := ite_f h c9
    refine r_aload_n (k0 := 1) hx dX8_layLevel_78 rfl rfl ?_
    refine g_351 hx (k_0_7 hKS) wf_X8_7 dX8_layLevel_79 ?_
    refine r_iload (k0 := 4) hx dX8_layLevel_82 rfl ?_
    obtain ⟨v10, e11, i12, h⟩ := gI_some h
    refine r_iald hx (k_1_351 hKS) rfl i12 e11 dX8_layLevel_84 ?_
    refine r_iconst (v := 3) hx dX8_layLevel_85 (by decide) ?_
    refine r_icmp_ne (tgt := 106) hx dX8_layLevel_86 (by decide) (fun c13 => ?_) (fun c13 => ?_)
    · have h := ite_f h c13
      refine WX.sub (lv' := [(0, .ref (x_ad x 0 7 0)), (2, .ref (x_ad x 1 a2 0)), (4, .int v4), (5, .int l5), (6, .int l6)]) ?_ [1, 2, 0, 3, 4] rfl
      exact t_X8_layLevel_106 hx hR hKS hE hK13 h_a2 h
    · have h := ite_t h c13
      refine WX.sub (lv' := [(0, .ref (x_ad x 0 7 0)), (2, .ref (x_ad x 1 a2 0)), (4, .int v4), (5, .int l5), (6, .int l6)]) ?_ [1, 2, 0, 3, 4] rfl
      exact t_X8_layLevel_89 hx hR hKS hE hK13 h_a2 h
set_option maxRecDepth 100000 in
set_option maxHeartbeats 4000000 in
theorem t_X8_layLevel_13 {n : Nat} {x : XC} (hx : CX x cX8_layLevel 7 RX8) (hR : x_R x = rm_X8_layLevel) (hKS : ∀ k ∈ KM, k ∈ x_K x) {out : St × Int32} (hE : EI x cX8_layLevel out) : ∀ {m : Nat} {S : St} {a2 : Nat} {l4 : Int32} {l5 : Int32} (h_a2 : (1, a2, 0) ∈ KM) (h : l_X8_layLevel_13 n m S a2 l4 l5 = some out), WX x 7 0 0 S 13 [(0, .ref (x_ad x 0 7 0)), (2, .ref (x_ad x 1 a2 0)), (4, .int l4), (5, .int l5)] [] := by
  intro m
  induction m with
  | zero => intro S a2 l4 l5 h_a2 h; cases h
  | succ m ih =>
    intro S a2 l4 l5 h_a2 h
    unfold l_X8_layLevel_13 at h
    refine r_iload (k0 := 3) hx dX8_layLevel_13 rfl ?_
    refine r_if_le (tgt := 147) hx dX8_layLevel_15 (by decide) (fun c1 => ?_) (fun c1 => ?_)
    · have h := ite_t h c1
      refine r_iload (k0 := 2) hx dX8_layLevel_147 rfl ?_
      exact r_iret hE h dX8_layLevel_149
    · have h := ite_f h c1
      obtain ⟨v2, e3, h⟩ := bV_some h
      refine r_iinc (k := 3) (v := v2) (lv' := [(5, .int v2), (0, .ref (x_ad x 0 7 0)), (2, .ref (x_ad x 1 a2 0)), (4, .int l4)]) hx dX8_layLevel_18 rfl (by rw [e3]; rfl) (by decide) rfl ?_
      refine r_aload_n (k0 := 1) hx dX8_layLevel_21 rfl rfl ?_
      refine g_378 hx (k_0_7 hKS) wf_X8_75 dX8_layLevel_22 ?_
      refine r_iload (k0 := 0) hx dX8_layLevel_25 rfl ?_
      obtain ⟨v4, e5, i6, h⟩ := gI_some h
      refine r_iald hx (k_1_378 hKS) rfl i6 e5 dX8_layLevel_27 ?_
      refine r_istore (lv' := [(6, .int v4), (5, .int v2), (0, .ref (x_ad x 0 7 0)), (2, .ref (x_ad x 1 a2 0)), (4, .int l4)]) hx dX8_layLevel_28 (by decide) rfl ?_
      refine r_aload_n (k0 := 3) hx dX8_layLevel_30 rfl rfl ?_
      refine r_iload (k0 := 4) hx dX8_layLevel_31 rfl ?_
      refine r_aload_n (k0 := 2) hx dX8_layLevel_33 rfl rfl ?_
      refine g_351 hx (k_0_7 hKS) wf_X8_7 dX8_layLevel_34 ?_
      refine r_iload (k0 := 0) hx dX8_layLevel_37 rfl ?_
      obtain ⟨v7, e8, i9, h⟩ := gI_some h
      refine r_iald hx (k_1_351 hKS) rfl i9 e8 dX8_layLevel_39 ?_
      refine r_iconst (v := 4) hx dX8_layLevel_40 (by decide) ?_
      refine r_icmp_ne (tgt := 56) hx dX8_layLevel_41 (by decide) (fun c10 => ?_) (fun c10 => ?_)
      · have h := ite_f h c10
        refine r_aload_n (k0 := 2) hx dX8_layLevel_56 rfl rfl ?_
        refine g_351 hx (k_0_7 hKS) wf_X8_7 dX8_layLevel_57 ?_
        refine r_iload (k0 := 0) hx dX8_layLevel_60 rfl ?_
        obtain ⟨v11, e12, i13, h⟩ := gI_some h
        refine r_iald hx (k_1_351 hKS) rfl i13 e12 dX8_layLevel_62 ?_
        refine WX.sub (lv' := [(0, .ref (x_ad x 0 7 0)), (2, .ref (x_ad x 1 a2 0)), (4, .int l4), (5, .int v2), (6, .int v4)]) ?_ [2, 3, 4, 1, 0] rfl
        exact t_X8_layLevel_63 hx hR hKS hE ih h_a2 h
      · have h := ite_t h c10
        refine r_iconst (v := 4) hx dX8_layLevel_44 (by decide) ?_
        refine r_aload_n (k0 := 2) hx dX8_layLevel_45 rfl rfl ?_
        refine g_352 hx (k_0_7 hKS) wf_X8_13 dX8_layLevel_46 ?_
        refine r_iload (k0 := 0) hx dX8_layLevel_49 rfl ?_
        obtain ⟨v14, e15, i16, h⟩ := gI_some h
        refine r_iald hx (k_1_352 hKS) rfl i16 e15 dX8_layLevel_51 ?_
        refine r_iadd hx dX8_layLevel_52 ?_
        refine r_goto (tgt := 63) hx dX8_layLevel_53 (by decide) ?_
        refine WX.sub (lv' := [(0, .ref (x_ad x 0 7 0)), (2, .ref (x_ad x 1 a2 0)), (4, .int l4), (5, .int v2), (6, .int v4)]) ?_ [2, 3, 4, 1, 0] rfl
        exact t_X8_layLevel_63 hx hR hKS hE ih h_a2 h
set_option maxRecDepth 100000 in
set_option maxHeartbeats 4000000 in
theorem t_X8_layLevel_0 {n : Nat} {x : XC} (hx : CX x cX8_layLevel 7 RX8) (hR : x_R x = rm_X8_layLevel) (hKS : ∀ k ∈ KM, k ∈ x_K x) {out : St × Int32} (hE : EI x cX8_layLevel out) {S : St} {a1 : Int32} {a2 : Nat} {a3 : Int32} (h_a2 : (1, a2, 0) ∈ KM) (h : f_X8_layLevel n S a1 a2 a3 = some out) : WX x 7 0 0 S 0 [(0, .ref (x_ad x 0 7 0)), (1, .int a1), (2, .ref (x_ad x 1 a2 0)), (3, .int a3)] [] := by
  unfold f_X8_layLevel at h
  refine r_iload_n (k0 := 3) hx dX8_layLevel_0 rfl rfl ?_
  refine r_istore (lv' := [(4, .int a3), (0, .ref (x_ad x 0 7 0)), (1, .int a1), (2, .ref (x_ad x 1 a2 0)), (3, .int a3)]) hx dX8_layLevel_1 (by decide) rfl ?_
  refine r_iconst (v := 1) hx dX8_layLevel_3 (by decide) ?_
  refine r_istore (lv' := [(5, .int 1), (4, .int a3), (0, .ref (x_ad x 0 7 0)), (1, .int a1), (2, .ref (x_ad x 1 a2 0)), (3, .int a3)]) hx dX8_layLevel_4 (by decide) rfl ?_
  refine r_aload_n (k0 := 2) hx dX8_layLevel_6 rfl rfl ?_
  refine g_378 hx (k_0_7 hKS) wf_X8_75 dX8_layLevel_7 ?_
  refine r_iconst (v := 0) hx dX8_layLevel_10 (by decide) ?_
  refine r_iload_n (k0 := 3) hx dX8_layLevel_11 rfl rfl ?_
  obtain ⟨S1, e2, i3, h⟩ := pI_some h
  refine r_iast hx (k_1_378 hKS) rfl i3 e2 dX8_layLevel_12 ?_
  refine WX.sub (lv' := [(0, .ref (x_ad x 0 7 0)), (2, .ref (x_ad x 1 a2 0)), (4, .int a3), (5, .int 1)]) ?_ [2, 4, 1, 0] rfl
  exact t_X8_layLevel_13 hx hR hKS hE h_a2 h
set_option maxHeartbeats 4000000 in
theorem C_X8_layLevel {n : Nat} {c : YC} (hKS : ∀ k ∈ KM, k ∈ c.2.2.2.2) {S : St} {a1 : Int32} {a2 : Nat} {a3 : Int32} {out : St × Int32} (h_a2 : (1, a2, 0) ∈ KM) (h : f_X8_layLevel n S a1 a2 a3 = some out) : MI c yX8_layLevel cX8_layLevel 7 (some .int) rm_X8_layLevel S [.ref (c.2.2.1 0 7 0), .int a1, .ref (c.2.2.1 1 a2 0), .int a3] out := mk_I (own := RX8) (by decide +kernel) rfl (Nat.le_of_ble_eq_true rfl) (fun x hx hR hy hE => by subst hy; exact t_X8_layLevel_0 hx hR hKS hE h_a2 h)
def j_X8_layTerm_141 (n : Nat) (K13 : St → Nat → Int32 → Int32 → Option (St × Int32)) (S : St) (a2 : Nat) (l5 : Int32) (s0 : Int32) : Option (St × Int32) :=
  K13 S a2 s0 l5
def j_X8_layTerm_175 (n : Nat) (K13 : St → Nat → Int32 → Int32 → Option (St × Int32)) (S : St) (a2 : Nat) (l4 : Int32) (l5 : Int32) (l6 : Int32) : Option (St × Int32) :=
  gI S 358 0 l6 1500 fun v1 =>
  pI S 376 0 l5 1000 v1 fun S4 =>
  gI S4 357 0 l6 1500 fun v7 =>
  pI S4 376 0 (l5 + 1) 1000 v7 fun S10 =>
  bV (l5 + 2) fun v13 =>
  K13 S10 a2 l4 v13
def l_X8_layTerm_13 (n : Nat) : Nat → St → Nat → Int32 → Int32 → Option (St × Int32)
  | 0, _, _, _, _ => none
  | m + 1, S, a2, l4, l5 =>
    if l5 ≤ 0 then
      some (S, l4)
    else
      bV (l5 + (-1)) fun v2 =>
      gI S 376 0 v2 1000 fun v4 =>
      gI S 356 0 v4 1500 fun v7 =>
      pI S a2 0 l4 (ln a2) v7 fun S10 =>
      bV (l4 + 1) fun v13 =>
      gI S10 356 0 v4 1500 fun v15 =>
      if v15 = 0 then
        gI S10 357 0 v4 1500 fun v57 =>
        bI (f_X8_layLevel n S10 v57 a2 v13) fun S60 v62 =>
        l_X8_layTerm_13 n m S60 a2 v62 v2
      else
        gI S10 356 0 v4 1500 fun v19 =>
        if 3 ≤ v19 then
          gI S10 356 0 v4 1500 fun v23 =>
          if v23 = 6 then
            gI S10 359 0 v4 1500 fun v27 =>
            pI S10 376 0 v2 1000 v27 fun S30 =>
            bV (v2 + 1) fun v33 =>
            j_X8_layTerm_175 n (fun S a2 l4 l5 => l_X8_layTerm_13 n m S a2 l4 l5) S30 a2 v13 v33 v4
          else
            j_X8_layTerm_175 n (fun S a2 l4 l5 => l_X8_layTerm_13 n m S a2 l4 l5) S10 a2 v13 v2 v4
        else
          gI S10 357 0 v4 1500 fun v35 =>
          pI S10 a2 0 v13 (ln a2) v35 fun S38 =>
          gI S38 356 0 v4 1500 fun v41 =>
          if v41 = 2 then
            gI S38 359 0 v4 1500 fun v45 =>
            gI S38 358 0 v4 1500 fun v48 =>
            bI (f_X8_layLevel n S38 v48 a2 (v13 + 1)) fun S51 v53 =>
            bI (f_X8_layLevel n S51 v45 a2 v53) fun S54 v56 =>
            j_X8_layTerm_141 n (fun S a2 l4 l5 => l_X8_layTerm_13 n m S a2 l4 l5) S54 a2 v2 v56
          else
            j_X8_layTerm_141 n (fun S a2 l4 l5 => l_X8_layTerm_13 n m S a2 l4 l5) S38 a2 v2 (v13 + 1)
def f_X8_layTerm (n : Nat) (S : St) (a1 : Int32) (a2 : Nat) (a3 : Int32) : Option (St × Int32) :=
  pI S 376 0 0 1000 a1 fun S1 =>
  l_X8_layTerm_13 n n S1 a2 a3 1
set_option maxRecDepth 100000 in
set_option maxHeartbeats 4000000 in
theorem t_X8_layTerm_141 {n : Nat} {K13 : St → Nat → Int32 → Int32 → Option (St × Int32)} {x : XC} (hx : CX x cX8_layTerm 7 RX8) (hR : x_R x = rm_X8_layTerm) (hKS : ∀ k ∈ KM, k ∈ x_K x) {out : St × Int32} (hE : EI x cX8_layTerm out) (hK13 : ∀ {S : St} {a2 : Nat} {l4 : Int32} {l5 : Int32} (_ : (1, a2, 0) ∈ KM), K13 S a2 l4 l5 = some out → WX x 7 0 0 S 13 [(0, .ref (x_ad x 0 7 0)), (2, .ref (x_ad x 1 a2 0)), (4, .int l4), (5, .int l5)] []) {S : St} {a2 : Nat} {l5 : Int32} {s0 : Int32} (h_a2 : (1, a2, 0) ∈ KM) (h : j_X8_layTerm_141 n K13 S a2 l5 s0 = some out) : WX x 7 0 0 S 141 [(0, .ref (x_ad x 0 7 0)), (2, .ref (x_ad x 1 a2 0)), (5, .int l5)] [.int s0] := by
  unfold j_X8_layTerm_141 at h
  refine r_istore (lv' := [(4, .int s0), (0, .ref (x_ad x 0 7 0)), (2, .ref (x_ad x 1 a2 0)), (5, .int l5)]) hx dX8_layTerm_141 (by decide) rfl ?_
  refine r_goto (tgt := 208) hx dX8_layTerm_143 (by decide) ?_
  refine r_goto (tgt := 13) hx dX8_layTerm_208 (by decide) ?_
  refine WX.sub (lv' := [(0, .ref (x_ad x 0 7 0)), (2, .ref (x_ad x 1 a2 0)), (4, .int s0), (5, .int l5)]) ?_ [1, 2, 0, 3] rfl
  exact hK13 h_a2 h
set_option maxRecDepth 100000 in
set_option maxHeartbeats 4000000 in
theorem t_X8_layTerm_175 {n : Nat} {K13 : St → Nat → Int32 → Int32 → Option (St × Int32)} {x : XC} (hx : CX x cX8_layTerm 7 RX8) (hR : x_R x = rm_X8_layTerm) (hKS : ∀ k ∈ KM, k ∈ x_K x) {out : St × Int32} (hE : EI x cX8_layTerm out) (hK13 : ∀ {S : St} {a2 : Nat} {l4 : Int32} {l5 : Int32} (_ : (1, a2, 0) ∈ KM), K13 S a2 l4 l5 = some out → WX x 7 0 0 S 13 [(0, .ref (x_ad x 0 7 0)), (2, .ref (x_ad x 1 a2 0)), (4, .int l4), (5, .int l5)] []) {S : St} {a2 : Nat} {l4 : Int32} {l5 : Int32} {l6 : Int32} (h_a2 : (1, a2, 0) ∈ KM) (h : j_X8_layTerm_175 n K13 S a2 l4 l5 l6 = some out) : WX x 7 0 0 S 175 [(0, .ref (x_ad x 0 7 0)), (2, .ref (x_ad x 1 a2 0)), (4, .int l4), (5, .int l5), (6, .int l6)] [] := by
  unfold j_X8_layTerm_175 at h
  refine r_aload_n (k0 := 0) hx dX8_layTerm_175 rfl rfl ?_
  refine g_376 hx (k_0_7 hKS) wf_X8_69 dX8_layTerm_176 ?_
  refine r_iload (k0 := 3) hx dX8_layTerm_179 rfl ?_
  refine r_aload_n (k0 := 0) hx dX8_layTerm_181 rfl rfl ?_
  refine g_358 hx (k_0_7 hKS) wf_X8_32 dX8_layTerm_182 ?_
  refine r_iload (k0 := 4) hx dX8_layTerm_185 rfl ?_
  obtain ⟨v1, e2, i3, h⟩ := gI_some h
  refine r_iald hx (k_1_358 hKS) rfl i3 e2 dX8_layTerm_187 ?_
  obtain ⟨S4, e5, i6, h⟩ := pI_some h
  refine r_iast hx (k_1_376 hKS) rfl i6 e5 dX8_layTerm_188 ?_
  refine r_aload_n (k0 := 0) hx dX8_layTerm_189 rfl rfl ?_
  refine g_376 hx (k_0_7 hKS) wf_X8_69 dX8_layTerm_190 ?_
  refine r_iload (k0 := 3) hx dX8_layTerm_193 rfl ?_
  refine r_iconst (v := 1) hx dX8_layTerm_195 (by decide) ?_
  refine r_iadd hx dX8_layTerm_196 ?_
  refine r_aload_n (k0 := 0) hx dX8_layTerm_197 rfl rfl ?_
  refine g_357 hx (k_0_7 hKS) wf_X8_29 dX8_layTerm_198 ?_
  refine r_iload (k0 := 4) hx dX8_layTerm_201 rfl ?_
  obtain ⟨v7, e8, i9, h⟩ := gI_some h
  refine r_iald hx (k_1_357 hKS) rfl i9 e8 dX8_layTerm_203 ?_
  obtain ⟨S10, e11, i12, h⟩ := pI_some h
  refine r_iast hx (k_1_376 hKS) rfl i12 e11 dX8_layTerm_204 ?_
  obtain ⟨v13, e14, h⟩ := bV_some h
  refine r_iinc (k := 3) (v := v13) (lv' := [(5, .int v13), (0, .ref (x_ad x 0 7 0)), (2, .ref (x_ad x 1 a2 0)), (4, .int l4), (6, .int l6)]) hx dX8_layTerm_205 rfl (by rw [e14]; rfl) (by decide) rfl ?_
  refine r_goto (tgt := 13) hx dX8_layTerm_208 (by decide) ?_
  refine WX.sub (lv' := [(0, .ref (x_ad x 0 7 0)), (2, .ref (x_ad x 1 a2 0)), (4, .int l4), (5, .int v13)]) ?_ [1, 2, 3, 0] rfl
  exact hK13 h_a2 h
set_option maxRecDepth 100000 in
set_option maxHeartbeats 4000000 in
theorem t_X8_layTerm_13 {n : Nat} {x : XC} (hx : CX x cX8_layTerm 7 RX8) (hR : x_R x = rm_X8_layTerm) (hKS : ∀ k ∈ KM, k ∈ x_K x) {out : St × Int32} (hE : EI x cX8_layTerm out) : ∀ {m : Nat} {S : St} {a2 : Nat} {l4 : Int32} {l5 : Int32} (h_a2 : (1, a2, 0) ∈ KM) (h : l_X8_layTerm_13 n m S a2 l4 l5 = some out), WX x 7 0 0 S 13 [(0, .ref (x_ad x 0 7 0)), (2, .ref (x_ad x 1 a2 0)), (4, .int l4), (5, .int l5)] [] := by
  intro m
  induction m with
  | zero => intro S a2 l4 l5 h_a2 h; cases h
  | succ m ih =>
    intro S a2 l4 l5 h_a2 h
    unfold l_X8_layTerm_13 at h
    refine r_iload (k0 := 3) hx dX8_layTerm_13 rfl ?_
    refine r_if_le (tgt := 211) hx dX8_layTerm_15 (by decide) (fun c1 => ?_) (fun c1 => ?_)
    · have h := ite_t h c1
      refine r_iload (k0 := 2) hx dX8_layTerm_211 rfl ?_
      exact r_iret hE h dX8_layTerm_213
    · have h := ite_f h c1
      obtain ⟨v2, e3, h⟩ := bV_some h
      refine r_iinc (k := 3) (v := v2) (lv' := [(5, .int v2), (0, .ref (x_ad x 0 7 0)), (2, .ref (x_ad x 1 a2 0)), (4, .int l4)]) hx dX8_layTerm_18 rfl (by rw [e3]; rfl) (by decide) rfl ?_
      refine r_aload_n (k0 := 1) hx dX8_layTerm_21 rfl rfl ?_
      refine g_376 hx (k_0_7 hKS) wf_X8_69 dX8_layTerm_22 ?_
      refine r_iload (k0 := 0) hx dX8_layTerm_25 rfl ?_
      obtain ⟨v4, e5, i6, h⟩ := gI_some h
      refine r_iald hx (k_1_376 hKS) rfl i6 e5 dX8_layTerm_27 ?_
      refine r_istore (lv' := [(6, .int v4), (5, .int v2), (0, .ref (x_ad x 0 7 0)), (2, .ref (x_ad x 1 a2 0)), (4, .int l4)]) hx dX8_layTerm_28 (by decide) rfl ?_
      refine r_aload_n (k0 := 3) hx dX8_layTerm_30 rfl rfl ?_
      refine r_iload (k0 := 4) hx dX8_layTerm_31 rfl ?_
      refine r_aload_n (k0 := 2) hx dX8_layTerm_33 rfl rfl ?_
      refine g_356 hx (k_0_7 hKS) wf_X8_26 dX8_layTerm_34 ?_
      refine r_iload (k0 := 0) hx dX8_layTerm_37 rfl ?_
      obtain ⟨v7, e8, i9, h⟩ := gI_some h
      refine r_iald hx (k_1_356 hKS) rfl i9 e8 dX8_layTerm_39 ?_
      obtain ⟨S10, e11, i12, h⟩ := pI_some h
      refine r_iast hx (hKS _ h_a2) rfl i12 e11 dX8_layTerm_40 ?_
      obtain ⟨v13, e14, h⟩ := bV_some h
      refine r_iinc (k := 4) (v := v13) (lv' := [(4, .int v13), (6, .int v4), (5, .int v2), (0, .ref (x_ad x 0 7 0)), (2, .ref (x_ad x 1 a2 0))]) hx dX8_layTerm_41 rfl (by rw [e14]; rfl) (by decide) rfl ?_
      refine r_aload_n (k0 := 3) hx dX8_layTerm_44 rfl rfl ?_
      refine g_356 hx (k_0_7 hKS) wf_X8_26 dX8_layTerm_45 ?_
      refine r_iload (k0 := 1) hx dX8_layTerm_48 rfl ?_
      obtain ⟨v15, e16, i17, h⟩ := gI_some h
      refine r_iald hx (k_1_356 hKS) rfl i17 e16 dX8_layTerm_50 ?_
      refine r_if_ne (tgt := 73) hx dX8_layTerm_51 (by decide) (fun c18 => ?_) (fun c18 => ?_)
      · have h := ite_f h c18
        refine r_aload_n (k0 := 3) hx dX8_layTerm_73 rfl rfl ?_
        refine g_356 hx (k_0_7 hKS) wf_X8_26 dX8_layTerm_74 ?_
        refine r_iload (k0 := 1) hx dX8_layTerm_77 rfl ?_
        obtain ⟨v19, e20, i21, h⟩ := gI_some h
        refine r_iald hx (k_1_356 hKS) rfl i21 e20 dX8_layTerm_79 ?_
        refine r_iconst (v := 3) hx dX8_layTerm_80 (by decide) ?_
        refine r_icmp_ge (tgt := 146) hx dX8_layTerm_81 (by decide) (fun c22 => ?_) (fun c22 => ?_)
        · have h := ite_t h c22
          refine r_aload_n (k0 := 3) hx dX8_layTerm_146 rfl rfl ?_
          refine g_356 hx (k_0_7 hKS) wf_X8_26 dX8_layTerm_147 ?_
          refine r_iload (k0 := 1) hx dX8_layTerm_150 rfl ?_
          obtain ⟨v23, e24, i25, h⟩ := gI_some h
          refine r_iald hx (k_1_356 hKS) rfl i25 e24 dX8_layTerm_152 ?_
          refine r_bipush (v := 6) hx dX8_layTerm_153 (by decide) ?_
          refine r_icmp_ne (tgt := 175) hx dX8_layTerm_155 (by decide) (fun c26 => ?_) (fun c26 => ?_)
          · have h := ite_f h c26
            refine WX.sub (lv' := [(0, .ref (x_ad x 0 7 0)), (2, .ref (x_ad x 1 a2 0)), (4, .int v13), (5, .int v2), (6, .int v4)]) ?_ [3, 4, 0, 2, 1] rfl
            exact t_X8_layTerm_175 hx hR hKS hE ih h_a2 h
          · have h := ite_t h c26
            refine r_aload_n (k0 := 3) hx dX8_layTerm_158 rfl rfl ?_
            refine g_376 hx (k_0_7 hKS) wf_X8_69 dX8_layTerm_159 ?_
            refine r_iload (k0 := 2) hx dX8_layTerm_162 rfl ?_
            refine r_aload_n (k0 := 3) hx dX8_layTerm_164 rfl rfl ?_
            refine g_359 hx (k_0_7 hKS) wf_X8_35 dX8_layTerm_165 ?_
            refine r_iload (k0 := 1) hx dX8_layTerm_168 rfl ?_
            obtain ⟨v27, e28, i29, h⟩ := gI_some h
            refine r_iald hx (k_1_359 hKS) rfl i29 e28 dX8_layTerm_170 ?_
            obtain ⟨S30, e31, i32, h⟩ := pI_some h
            refine r_iast hx (k_1_376 hKS) rfl i32 e31 dX8_layTerm_171 ?_
            obtain ⟨v33, e34, h⟩ := bV_some h
            refine r_iinc (k := 2) (v := v33) (lv' := [(5, .int v33), (4, .int v13), (6, .int v4), (0, .ref (x_ad x 0 7 0)), (2, .ref (x_ad x 1 a2 0))]) hx dX8_layTerm_172 rfl (by rw [e34]; rfl) (by decide) rfl ?_
            refine WX.sub (lv' := [(0, .ref (x_ad x 0 7 0)), (2, .ref (x_ad x 1 a2 0)), (4, .int v13), (5, .int v33), (6, .int v4)]) ?_ [3, 4, 1, 0, 2] rfl
            exact t_X8_layTerm_175 hx hR hKS hE ih h_a2 h
        · have h := ite_f h c22
          refine r_aload_n (k0 := 4) hx dX8_layTerm_84 rfl rfl ?_
          refine r_iload (k0 := 0) hx dX8_layTerm_85 rfl ?_
          refine r_aload_n (k0 := 3) hx dX8_layTerm_87 rfl rfl ?_
          refine g_357 hx (k_0_7 hKS) wf_X8_29 dX8_layTerm_88 ?_
          refine r_iload (k0 := 1) hx dX8_layTerm_91 rfl ?_
          obtain ⟨v35, e36, i37, h⟩ := gI_some h
          refine r_iald hx (k_1_357 hKS) rfl i37 e36 dX8_layTerm_93 ?_
          obtain ⟨S38, e39, i40, h⟩ := pI_some h
          refine r_iast hx (hKS _ h_a2) rfl i40 e39 dX8_layTerm_94 ?_
          refine r_aload_n (k0 := 3) hx dX8_layTerm_95 rfl rfl ?_
          refine g_356 hx (k_0_7 hKS) wf_X8_26 dX8_layTerm_96 ?_
          refine r_iload (k0 := 1) hx dX8_layTerm_99 rfl ?_
          obtain ⟨v41, e42, i43, h⟩ := gI_some h
          refine r_iald hx (k_1_356 hKS) rfl i43 e42 dX8_layTerm_101 ?_
          refine r_iconst (v := 2) hx dX8_layTerm_102 (by decide) ?_
          refine r_icmp_ne (tgt := 137) hx dX8_layTerm_103 (by decide) (fun c44 => ?_) (fun c44 => ?_)
          · have h := ite_f h c44
            refine r_iload (k0 := 0) hx dX8_layTerm_137 rfl ?_
            refine r_iconst (v := 1) hx dX8_layTerm_139 (by decide) ?_
            refine r_iadd hx dX8_layTerm_140 ?_
            refine WX.sub (lv' := [(0, .ref (x_ad x 0 7 0)), (2, .ref (x_ad x 1 a2 0)), (5, .int v2)]) ?_ [3, 4, 2] rfl
            exact t_X8_layTerm_141 hx hR hKS hE ih h_a2 h
          · have h := ite_t h c44
            refine r_aload_n (k0 := 3) hx dX8_layTerm_106 rfl rfl ?_
            refine r_aload_n (k0 := 3) hx dX8_layTerm_107 rfl rfl ?_
            refine g_359 hx (k_0_7 hKS) wf_X8_35 dX8_layTerm_108 ?_
            refine r_iload (k0 := 1) hx dX8_layTerm_111 rfl ?_
            obtain ⟨v45, e46, i47, h⟩ := gI_some h
            refine r_iald hx (k_1_359 hKS) rfl i47 e46 dX8_layTerm_113 ?_
            refine r_aload_n (k0 := 4) hx dX8_layTerm_114 rfl rfl ?_
            refine r_aload_n (k0 := 3) hx dX8_layTerm_115 rfl rfl ?_
            refine r_aload_n (k0 := 3) hx dX8_layTerm_116 rfl rfl ?_
            refine g_358 hx (k_0_7 hKS) wf_X8_32 dX8_layTerm_117 ?_
            refine r_iload (k0 := 1) hx dX8_layTerm_120 rfl ?_
            obtain ⟨v48, e49, i50, h⟩ := gI_some h
            refine r_iald hx (k_1_358 hKS) rfl i50 e49 dX8_layTerm_122 ?_
            refine r_aload_n (k0 := 4) hx dX8_layTerm_123 rfl rfl ?_
            refine r_iload (k0 := 0) hx dX8_layTerm_124 rfl ?_
            refine r_iconst (v := 1) hx dX8_layTerm_126 (by decide) ?_
            refine r_iadd hx dX8_layTerm_127 ?_
            obtain ⟨S51, v53, c52, h⟩ := bI_some h
            refine r_Vi (ci := 7) (As := [.int v48, .ref (x_ad x 1 a2 0), .int (v13 + 1)]) (rest := [.ref (x_ad x 1 a2 0), .int v45, .ref (x_ad x 0 7 0)]) hx (C_X8_layLevel (c := x_y x) hKS h_a2 c52) (k_0_7 hKS) rfl wl_X8_155 wi_X8_layLevel we_X8_layLevel wn_X8 wc_X8_layLevel dy_X8_layLevel rfl (by rw [hR]; decide +kernel) rfl (Nat.le_of_ble_eq_true rfl) dX8_layTerm_128 ?_
            obtain ⟨S54, v56, c55, h⟩ := bI_some h
            refine r_Vi (ci := 7) (As := [.int v45, .ref (x_ad x 1 a2 0), .int v53]) (rest := []) hx (C_X8_layLevel (c := x_y x) hKS h_a2 c55) (k_0_7 hKS) rfl wl_X8_155 wi_X8_layLevel we_X8_layLevel wn_X8 wc_X8_layLevel dy_X8_layLevel rfl (by rw [hR]; decide +kernel) rfl (Nat.le_of_ble_eq_true rfl) dX8_layTerm_131 ?_
            refine r_goto (tgt := 141) hx dX8_layTerm_134 (by decide) ?_
            refine WX.sub (lv' := [(0, .ref (x_ad x 0 7 0)), (2, .ref (x_ad x 1 a2 0)), (5, .int v2)]) ?_ [3, 4, 2] rfl
            exact t_X8_layTerm_141 hx hR hKS hE ih h_a2 h
      · have h := ite_t h c18
        refine r_aload_n (k0 := 3) hx dX8_layTerm_54 rfl rfl ?_
        refine r_aload_n (k0 := 3) hx dX8_layTerm_55 rfl rfl ?_
        refine g_357 hx (k_0_7 hKS) wf_X8_29 dX8_layTerm_56 ?_
        refine r_iload (k0 := 1) hx dX8_layTerm_59 rfl ?_
        obtain ⟨v57, e58, i59, h⟩ := gI_some h
        refine r_iald hx (k_1_357 hKS) rfl i59 e58 dX8_layTerm_61 ?_
        refine r_aload_n (k0 := 4) hx dX8_layTerm_62 rfl rfl ?_
        refine r_iload (k0 := 0) hx dX8_layTerm_63 rfl ?_
        obtain ⟨S60, v62, c61, h⟩ := bI_some h
        refine r_Vi (ci := 7) (As := [.int v57, .ref (x_ad x 1 a2 0), .int v13]) (rest := []) hx (C_X8_layLevel (c := x_y x) hKS h_a2 c61) (k_0_7 hKS) rfl wl_X8_155 wi_X8_layLevel we_X8_layLevel wn_X8 wc_X8_layLevel dy_X8_layLevel rfl (by rw [hR]; decide +kernel) rfl (Nat.le_of_ble_eq_true rfl) dX8_layTerm_65 ?_
        refine r_istore (lv' := [(4, .int v62), (6, .int v4), (5, .int v2), (0, .ref (x_ad x 0 7 0)), (2, .ref (x_ad x 1 a2 0))]) hx dX8_layTerm_68 (by decide) rfl ?_
        refine r_goto (tgt := 208) hx dX8_layTerm_70 (by decide) ?_
        refine r_goto (tgt := 13) hx dX8_layTerm_208 (by decide) ?_
        refine WX.sub (lv' := [(0, .ref (x_ad x 0 7 0)), (2, .ref (x_ad x 1 a2 0)), (4, .int v62), (5, .int v2)]) ?_ [3, 4, 0, 2] rfl
        exact ih h_a2 h
set_option maxRecDepth 100000 in
set_option maxHeartbeats 4000000 in
theorem t_X8_layTerm_0 {n : Nat} {x : XC} (hx : CX x cX8_layTerm 7 RX8) (hR : x_R x = rm_X8_layTerm) (hKS : ∀ k ∈ KM, k ∈ x_K x) {out : St × Int32} (hE : EI x cX8_layTerm out) {S : St} {a1 : Int32} {a2 : Nat} {a3 : Int32} (h_a2 : (1, a2, 0) ∈ KM) (h : f_X8_layTerm n S a1 a2 a3 = some out) : WX x 7 0 0 S 0 [(0, .ref (x_ad x 0 7 0)), (1, .int a1), (2, .ref (x_ad x 1 a2 0)), (3, .int a3)] [] := by
  unfold f_X8_layTerm at h
  refine r_iload_n (k0 := 3) hx dX8_layTerm_0 rfl rfl ?_
  refine r_istore (lv' := [(4, .int a3), (0, .ref (x_ad x 0 7 0)), (1, .int a1), (2, .ref (x_ad x 1 a2 0)), (3, .int a3)]) hx dX8_layTerm_1 (by decide) rfl ?_
  refine r_iconst (v := 1) hx dX8_layTerm_3 (by decide) ?_
  refine r_istore (lv' := [(5, .int 1), (4, .int a3), (0, .ref (x_ad x 0 7 0)), (1, .int a1), (2, .ref (x_ad x 1 a2 0)), (3, .int a3)]) hx dX8_layTerm_4 (by decide) rfl ?_
  refine r_aload_n (k0 := 2) hx dX8_layTerm_6 rfl rfl ?_
  refine g_376 hx (k_0_7 hKS) wf_X8_69 dX8_layTerm_7 ?_
  refine r_iconst (v := 0) hx dX8_layTerm_10 (by decide) ?_
  refine r_iload_n (k0 := 3) hx dX8_layTerm_11 rfl rfl ?_
  obtain ⟨S1, e2, i3, h⟩ := pI_some h
  refine r_iast hx (k_1_376 hKS) rfl i3 e2 dX8_layTerm_12 ?_
  refine WX.sub (lv' := [(0, .ref (x_ad x 0 7 0)), (2, .ref (x_ad x 1 a2 0)), (4, .int a3), (5, .int 1)]) ?_ [2, 4, 1, 0] rfl
  exact t_X8_layTerm_13 hx hR hKS hE h_a2 h
set_option maxHeartbeats 4000000 in
theorem C_X8_layTerm {n : Nat} {c : YC} (hKS : ∀ k ∈ KM, k ∈ c.2.2.2.2) {S : St} {a1 : Int32} {a2 : Nat} {a3 : Int32} {out : St × Int32} (h_a2 : (1, a2, 0) ∈ KM) (h : f_X8_layTerm n S a1 a2 a3 = some out) : MI c yX8_layTerm cX8_layTerm 7 (some .int) rm_X8_layTerm S [.ref (c.2.2.1 0 7 0), .int a1, .ref (c.2.2.1 1 a2 0), .int a3] out := mk_I (own := RX8) (by decide +kernel) rfl (Nat.le_of_ble_eq_true rfl) (fun x hx hR hy hE => by subst hy; exact t_X8_layTerm_0 hx hR hKS hE h_a2 h)
def f_X8_put (n : Nat) (S : St) (a1 : Int32) : Option (St) :=
  if (S.1 373 0) = 8000 then
    pS S 380 0 1 fun S7 =>
    some S7
  else
    pI S 369 0 (S.1 373 0) 8000 a1 fun S2 =>
    pS S2 373 0 ((S2.1 373 0) + 1) fun S5 =>
    some S5
set_option maxRecDepth 100000 in
set_option maxHeartbeats 4000000 in
theorem t_X8_put_0 {n : Nat} {x : XC} (hx : CX x cX8_put 2 RX8) (hR : x_R x = rm_X8_put) (hKS : ∀ k ∈ KM, k ∈ x_K x) {out : St} (hE : EV x cX8_put out) {S : St} {a1 : Int32} (h : f_X8_put n S a1 = some out) : WX x 2 0 0 S 0 [(0, .ref (x_ad x 0 7 0)), (1, .int a1)] [] := by
  unfold f_X8_put at h
  refine r_aload_n (k0 := 0) hx dX8_put_0 rfl rfl ?_
  refine g_373 hx (k_0_7 hKS) wf_X8_159 dX8_put_1 ?_
  refine r_sipush (v := 8000) hx dX8_put_4 (by decide) ?_
  refine r_icmp_ne (tgt := 16) hx dX8_put_7 (by decide) (fun c1 => ?_) (fun c1 => ?_)
  · have h := ite_f h c1
    refine r_aload_n (k0 := 0) hx dX8_put_16 rfl rfl ?_
    refine g_369 hx (k_0_7 hKS) wf_X8_59 dX8_put_17 ?_
    refine r_aload_n (k0 := 0) hx dX8_put_20 rfl rfl ?_
    refine g_373 hx (k_0_7 hKS) wf_X8_159 dX8_put_21 ?_
    refine r_iload_n (k0 := 1) hx dX8_put_24 rfl rfl ?_
    obtain ⟨S2, e3, i4, h⟩ := pI_some h
    refine r_iast hx (k_1_369 hKS) rfl i4 e3 dX8_put_25 ?_
    refine r_aload_n (k0 := 0) hx dX8_put_26 rfl rfl ?_
    refine r_dup hx dX8_put_27 rfl ?_
    refine g_373 hx (k_0_7 hKS) wf_X8_159 dX8_put_28 ?_
    refine r_iconst (v := 1) hx dX8_put_31 (by decide) ?_
    refine r_iadd hx dX8_put_32 ?_
    obtain ⟨S5, e6, h⟩ := pS_some h
    refine p_373 hx (k_0_7 hKS) wf_X8_159 dX8_put_33 e6 ?_
    exact r_vret hE h dX8_put_36
  · have h := ite_t h c1
    refine r_aload_n (k0 := 0) hx dX8_put_10 rfl rfl ?_
    refine r_iconst (v := 1) hx dX8_put_11 (by decide) ?_
    obtain ⟨S7, e8, h⟩ := pS_some h
    refine p_380 hx (k_0_7 hKS) wf_X8_162 (by decide) dX8_put_12 e8 ?_
    exact r_vret hE h dX8_put_15
set_option maxHeartbeats 4000000 in
theorem C_X8_put {n : Nat} {c : YC} (hKS : ∀ k ∈ KM, k ∈ c.2.2.2.2) {S : St} {a1 : Int32} {out : St} (h : f_X8_put n S a1 = some out) : MV c yX8_put cX8_put 2 none rm_X8_put S [.ref (c.2.2.1 0 7 0), .int a1] out := mk_V (own := RX8) (by decide +kernel) rfl (Nat.le_of_ble_eq_true rfl) (fun x hx hR hy hE => by subst hy; exact t_X8_put_0 hx hR hKS hE h)
def l_X8_copy_3 (n : Nat) : Nat → St → Nat → Int32 → Int32 → Option (St)
  | 0, _, _, _, _ => none
  | m + 1, S, a1, l3, l4 =>
    if l3 ≤ l4 then
      some S
    else
      if (S.1 380 0) = 0 then
        gI S a1 0 l4 (ln a1) fun v3 =>
        bU (f_X8_put n S v3) fun S6 =>
        bV (l4 + 1) fun v8 =>
        l_X8_copy_3 n m S6 a1 l3 v8
      else
        some S
def f_X8_copy (n : Nat) (S : St) (a1 : Nat) (a2 : Int32) (a3 : Int32) : Option (St) :=
  l_X8_copy_3 n n S a1 a3 a2
set_option maxRecDepth 100000 in
set_option maxHeartbeats 4000000 in
theorem t_X8_copy_3 {n : Nat} {x : XC} (hx : CX x cX8_copy 5 RX8) (hR : x_R x = rm_X8_copy) (hKS : ∀ k ∈ KM, k ∈ x_K x) {out : St} (hE : EV x cX8_copy out) : ∀ {m : Nat} {S : St} {a1 : Nat} {l3 : Int32} {l4 : Int32} (h_a1 : (1, a1, 0) ∈ KM) (h : l_X8_copy_3 n m S a1 l3 l4 = some out), WX x 5 0 0 S 3 [(0, .ref (x_ad x 0 7 0)), (1, .ref (x_ad x 1 a1 0)), (3, .int l3), (4, .int l4)] [] := by
  intro m
  induction m with
  | zero => intro S a1 l3 l4 h_a1 h; cases h
  | succ m ih =>
    intro S a1 l3 l4 h_a1 h
    unfold l_X8_copy_3 at h
    refine r_iload (k0 := 3) hx dX8_copy_3 rfl ?_
    refine r_iload_n (k0 := 2) hx dX8_copy_5 rfl rfl ?_
    refine r_icmp_ge (tgt := 30) hx dX8_copy_6 (by decide) (fun c1 => ?_) (fun c1 => ?_)
    · have h := ite_t h c1
      exact r_vret hE h dX8_copy_30
    · have h := ite_f h c1
      refine r_aload_n (k0 := 0) hx dX8_copy_9 rfl rfl ?_
      refine g_380 hx (k_0_7 hKS) wf_X8_162 dX8_copy_10 ?_
      refine r_if_ne (tgt := 30) hx dX8_copy_13 (by decide) (fun c2 => ?_) (fun c2 => ?_)
      · have h := ite_f h c2
        exact r_vret hE h dX8_copy_30
      · have h := ite_t h c2
        refine r_aload_n (k0 := 0) hx dX8_copy_16 rfl rfl ?_
        refine r_aload_n (k0 := 1) hx dX8_copy_17 rfl rfl ?_
        refine r_iload (k0 := 3) hx dX8_copy_18 rfl ?_
        obtain ⟨v3, e4, i5, h⟩ := gI_some h
        refine r_iald hx (hKS _ h_a1) rfl i5 e4 dX8_copy_20 ?_
        obtain ⟨S6, c7, h⟩ := bU_some h
        refine r_Vv (ci := 7) (As := [.int v3]) (rest := []) hx (C_X8_put (c := x_y x) hKS c7) (k_0_7 hKS) rfl wl_X8_165 wi_X8_put we_X8_put wn_X8 wc_X8_put dy_X8_put rfl (by rw [hR]; decide +kernel) rfl (Nat.le_of_ble_eq_true rfl) dX8_copy_21 ?_
        obtain ⟨v8, e9, h⟩ := bV_some h
        refine r_iinc (k := 3) (v := v8) (lv' := [(4, .int v8), (0, .ref (x_ad x 0 7 0)), (1, .ref (x_ad x 1 a1 0)), (3, .int l3)]) hx dX8_copy_24 rfl (by rw [e9]; rfl) (by decide) rfl ?_
        refine r_goto (tgt := 3) hx dX8_copy_27 (by decide) ?_
        refine WX.sub (lv' := [(0, .ref (x_ad x 0 7 0)), (1, .ref (x_ad x 1 a1 0)), (3, .int l3), (4, .int v8)]) ?_ [1, 2, 3, 0] rfl
        exact ih h_a1 h
set_option maxRecDepth 100000 in
set_option maxHeartbeats 4000000 in
theorem t_X8_copy_0 {n : Nat} {x : XC} (hx : CX x cX8_copy 5 RX8) (hR : x_R x = rm_X8_copy) (hKS : ∀ k ∈ KM, k ∈ x_K x) {out : St} (hE : EV x cX8_copy out) {S : St} {a1 : Nat} {a2 : Int32} {a3 : Int32} (h_a1 : (1, a1, 0) ∈ KM) (h : f_X8_copy n S a1 a2 a3 = some out) : WX x 5 0 0 S 0 [(0, .ref (x_ad x 0 7 0)), (1, .ref (x_ad x 1 a1 0)), (2, .int a2), (3, .int a3)] [] := by
  unfold f_X8_copy at h
  refine r_iload_n (k0 := 2) hx dX8_copy_0 rfl rfl ?_
  refine r_istore (lv' := [(4, .int a2), (0, .ref (x_ad x 0 7 0)), (1, .ref (x_ad x 1 a1 0)), (2, .int a2), (3, .int a3)]) hx dX8_copy_1 (by decide) rfl ?_
  refine WX.sub (lv' := [(0, .ref (x_ad x 0 7 0)), (1, .ref (x_ad x 1 a1 0)), (3, .int a3), (4, .int a2)]) ?_ [1, 2, 4, 0] rfl
  exact t_X8_copy_3 hx hR hKS hE h_a1 h
set_option maxHeartbeats 4000000 in
theorem C_X8_copy {n : Nat} {c : YC} (hKS : ∀ k ∈ KM, k ∈ c.2.2.2.2) {S : St} {a1 : Nat} {a2 : Int32} {a3 : Int32} {out : St} (h_a1 : (1, a1, 0) ∈ KM) (h : f_X8_copy n S a1 a2 a3 = some out) : MV c yX8_copy cX8_copy 5 none rm_X8_copy S [.ref (c.2.2.1 0 7 0), .ref (c.2.2.1 1 a1 0), .int a2, .int a3] out := mk_V (own := RX8) (by decide +kernel) rfl (Nat.le_of_ble_eq_true rfl) (fun x hx hR hy hE => by subst hy; exact t_X8_copy_0 hx hR hKS hE h_a1 h)
