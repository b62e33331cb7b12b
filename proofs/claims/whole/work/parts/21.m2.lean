theorem dX8_lift_0 : decode cX8_lift 0 = .ok (.iload_n 2, 1) := by decide +kernel
theorem dX8_lift_1 : decode cX8_lift 1 = .ok (.istore 4, 2) := by decide +kernel
theorem dX8_lift_3 : decode cX8_lift 3 = .ok (.iconst 1, 1) := by decide +kernel
theorem dX8_lift_4 : decode cX8_lift 4 = .ok (.istore 5, 2) := by decide +kernel
theorem dX8_lift_6 : decode cX8_lift 6 = .ok (.aload_n 0, 1) := by decide +kernel
theorem dX8_lift_7 : decode cX8_lift 7 = .ok (.getfield 69, 3) := by decide +kernel
theorem dX8_lift_10 : decode cX8_lift 10 = .ok (.iconst 0, 1) := by decide +kernel
theorem dX8_lift_11 : decode cX8_lift 11 = .ok (.iconst 0, 1) := by decide +kernel
theorem dX8_lift_12 : decode cX8_lift 12 = .ok (.iastore, 1) := by decide +kernel
theorem dX8_lift_13 : decode cX8_lift 13 = .ok (.iload 5, 2) := by decide +kernel
theorem dX8_lift_15 : decode cX8_lift 15 = .ok (.ifCond .le 152, 3) := by decide +kernel
theorem dX8_lift_18 : decode cX8_lift 18 = .ok (.aload_n 0, 1) := by decide +kernel
theorem dX8_lift_19 : decode cX8_lift 19 = .ok (.getfield 162, 3) := by decide +kernel
theorem dX8_lift_22 : decode cX8_lift 22 = .ok (.ifCond .ne 145, 3) := by decide +kernel
theorem dX8_lift_25 : decode cX8_lift 25 = .ok (.iinc 5 (-1), 3) := by decide +kernel
theorem dX8_lift_28 : decode cX8_lift 28 = .ok (.aload_n 0, 1) := by decide +kernel
theorem dX8_lift_29 : decode cX8_lift 29 = .ok (.getfield 69, 3) := by decide +kernel
theorem dX8_lift_32 : decode cX8_lift 32 = .ok (.iload 5, 2) := by decide +kernel
theorem dX8_lift_34 : decode cX8_lift 34 = .ok (.iaload, 1) := by decide +kernel
theorem dX8_lift_35 : decode cX8_lift 35 = .ok (.istore 6, 2) := by decide +kernel
theorem dX8_lift_37 : decode cX8_lift 37 = .ok (.aload_n 1, 1) := by decide +kernel
theorem dX8_lift_38 : decode cX8_lift 38 = .ok (.iload 4, 2) := by decide +kernel
theorem dX8_lift_40 : decode cX8_lift 40 = .ok (.invokestatic 152, 3) := by decide +kernel
theorem dX8_lift_43 : decode cX8_lift 43 = .ok (.istore 7, 2) := by decide +kernel
theorem dX8_lift_45 : decode cX8_lift 45 = .ok (.aload_n 1, 1) := by decide +kernel
theorem dX8_lift_46 : decode cX8_lift 46 = .ok (.iload 4, 2) := by decide +kernel
theorem dX8_lift_48 : decode cX8_lift 48 = .ok (.iaload, 1) := by decide +kernel
theorem dX8_lift_49 : decode cX8_lift 49 = .ok (.iconst 1, 1) := by decide +kernel
theorem dX8_lift_50 : decode cX8_lift 50 = .ok (.if_icmp .ne 43, 3) := by decide +kernel
theorem dX8_lift_53 : decode cX8_lift 53 = .ok (.aload_n 0, 1) := by decide +kernel
theorem dX8_lift_54 : decode cX8_lift 54 = .ok (.iconst 1, 1) := by decide +kernel
theorem dX8_lift_55 : decode cX8_lift 55 = .ok (.invokevirtual 165, 3) := by decide +kernel
theorem dX8_lift_58 : decode cX8_lift 58 = .ok (.aload_n 0, 1) := by decide +kernel
theorem dX8_lift_59 : decode cX8_lift 59 = .ok (.aload_n 1, 1) := by decide +kernel
theorem dX8_lift_60 : decode cX8_lift 60 = .ok (.iload 4, 2) := by decide +kernel
theorem dX8_lift_62 : decode cX8_lift 62 = .ok (.iconst 1, 1) := by decide +kernel
theorem dX8_lift_63 : decode cX8_lift 63 = .ok (.iadd, 1) := by decide +kernel
theorem dX8_lift_64 : decode cX8_lift 64 = .ok (.iaload, 1) := by decide +kernel
theorem dX8_lift_65 : decode cX8_lift 65 = .ok (.iload 6, 2) := by decide +kernel
theorem dX8_lift_67 : decode cX8_lift 67 = .ok (.if_icmp .lt 14, 3) := by decide +kernel
theorem dX8_lift_70 : decode cX8_lift 70 = .ok (.aload_n 1, 1) := by decide +kernel
theorem dX8_lift_71 : decode cX8_lift 71 = .ok (.iload 4, 2) := by decide +kernel
theorem dX8_lift_73 : decode cX8_lift 73 = .ok (.iconst 1, 1) := by decide +kernel
theorem dX8_lift_74 : decode cX8_lift 74 = .ok (.iadd, 1) := by decide +kernel
theorem dX8_lift_75 : decode cX8_lift 75 = .ok (.iaload, 1) := by decide +kernel
theorem dX8_lift_76 : decode cX8_lift 76 = .ok (.iload_n 3, 1) := by decide +kernel
theorem dX8_lift_77 : decode cX8_lift 77 = .ok (.iadd, 1) := by decide +kernel
theorem dX8_lift_78 : decode cX8_lift 78 = .ok (.goto 9, 3) := by decide +kernel
theorem dX8_lift_81 : decode cX8_lift 81 = .ok (.aload_n 1, 1) := by decide +kernel
theorem dX8_lift_82 : decode cX8_lift 82 = .ok (.iload 4, 2) := by decide +kernel
theorem dX8_lift_84 : decode cX8_lift 84 = .ok (.iconst 1, 1) := by decide +kernel
theorem dX8_lift_85 : decode cX8_lift 85 = .ok (.iadd, 1) := by decide +kernel
theorem dX8_lift_86 : decode cX8_lift 86 = .ok (.iaload, 1) := by decide +kernel
theorem dX8_lift_87 : decode cX8_lift 87 = .ok (.invokevirtual 165, 3) := by decide +kernel
theorem dX8_lift_90 : decode cX8_lift 90 = .ok (.goto 12, 3) := by decide +kernel
theorem dX8_lift_93 : decode cX8_lift 93 = .ok (.aload_n 0, 1) := by decide +kernel
theorem dX8_lift_94 : decode cX8_lift 94 = .ok (.aload_n 1, 1) := by decide +kernel
theorem dX8_lift_95 : decode cX8_lift 95 = .ok (.iload 4, 2) := by decide +kernel
theorem dX8_lift_97 : decode cX8_lift 97 = .ok (.iload 7, 2) := by decide +kernel
theorem dX8_lift_99 : decode cX8_lift 99 = .ok (.invokevirtual 169, 3) := by decide +kernel
theorem dX8_lift_102 : decode cX8_lift 102 = .ok (.aload_n 1, 1) := by decide +kernel
theorem dX8_lift_103 : decode cX8_lift 103 = .ok (.iload 4, 2) := by decide +kernel
theorem dX8_lift_105 : decode cX8_lift 105 = .ok (.iaload, 1) := by decide +kernel
theorem dX8_lift_106 : decode cX8_lift 106 = .ok (.invokestatic 148, 3) := by decide +kernel
theorem dX8_lift_109 : decode cX8_lift 109 = .ok (.istore 8, 2) := by decide +kernel
theorem dX8_lift_111 : decode cX8_lift 111 = .ok (.iload 8, 2) := by decide +kernel
theorem dX8_lift_113 : decode cX8_lift 113 = .ok (.istore 9, 2) := by decide +kernel
theorem dX8_lift_115 : decode cX8_lift 115 = .ok (.iload 9, 2) := by decide +kernel
theorem dX8_lift_117 : decode cX8_lift 117 = .ok (.ifCond .le 43, 3) := by decide +kernel
theorem dX8_lift_120 : decode cX8_lift 120 = .ok (.aload_n 0, 1) := by decide +kernel
theorem dX8_lift_121 : decode cX8_lift 121 = .ok (.getfield 69, 3) := by decide +kernel
theorem dX8_lift_124 : decode cX8_lift 124 = .ok (.iload 5, 2) := by decide +kernel
theorem dX8_lift_126 : decode cX8_lift 126 = .ok (.iload 9, 2) := by decide +kernel
theorem dX8_lift_128 : decode cX8_lift 128 = .ok (.iload 8, 2) := by decide +kernel
theorem dX8_lift_130 : decode cX8_lift 130 = .ok (.if_icmp .ne 18, 3) := by decide +kernel
theorem dX8_lift_133 : decode cX8_lift 133 = .ok (.aload_n 1, 1) := by decide +kernel
theorem dX8_lift_134 : decode cX8_lift 134 = .ok (.iload 4, 2) := by decide +kernel
theorem dX8_lift_136 : decode cX8_lift 136 = .ok (.iaload, 1) := by decide +kernel
theorem dX8_lift_137 : decode cX8_lift 137 = .ok (.iconst 5, 1) := by decide +kernel
theorem dX8_lift_138 : decode cX8_lift 138 = .ok (.if_icmp .eq 10, 3) := by decide +kernel
theorem dX8_lift_141 : decode cX8_lift 141 = .ok (.iload 6, 2) := by decide +kernel
theorem dX8_lift_143 : decode cX8_lift 143 = .ok (.iconst 1, 1) := by decide +kernel
theorem dX8_lift_144 : decode cX8_lift 144 = .ok (.iadd, 1) := by decide +kernel
theorem dX8_lift_145 : decode cX8_lift 145 = .ok (.goto 5, 3) := by decide +kernel
theorem dX8_lift_148 : decode cX8_lift 148 = .ok (.iload 6, 2) := by decide +kernel
theorem dX8_lift_150 : decode cX8_lift 150 = .ok (.iastore, 1) := by decide +kernel
theorem dX8_lift_151 : decode cX8_lift 151 = .ok (.iinc 5 1, 3) := by decide +kernel
theorem dX8_lift_154 : decode cX8_lift 154 = .ok (.iinc 9 (-1), 3) := by decide +kernel
theorem dX8_lift_157 : decode cX8_lift 157 = .ok (.goto (-42), 3) := by decide +kernel
theorem dX8_lift_160 : decode cX8_lift 160 = .ok (.iload 7, 2) := by decide +kernel
theorem dX8_lift_162 : decode cX8_lift 162 = .ok (.istore 4, 2) := by decide +kernel
theorem dX8_lift_164 : decode cX8_lift 164 = .ok (.goto (-151), 3) := by decide +kernel
theorem dX8_lift_167 : decode cX8_lift 167 = .ok (.return_, 1) := by decide +kernel
theorem dy_X8_lift : DY yX8_lift 3 := by decide +kernel
theorem dX8_with_0 : decode cX8_with 0 = .ok (.iload_n 2, 1) := by decide +kernel
theorem dX8_with_1 : decode cX8_with 1 = .ok (.istore 5, 2) := by decide +kernel
theorem dX8_with_3 : decode cX8_with 3 = .ok (.iconst 1, 1) := by decide +kernel
theorem dX8_with_4 : decode cX8_with 4 = .ok (.istore 6, 2) := by decide +kernel
theorem dX8_with_6 : decode cX8_with 6 = .ok (.aload_n 0, 1) := by decide +kernel
theorem dX8_with_7 : decode cX8_with 7 = .ok (.getfield 72, 3) := by decide +kernel
theorem dX8_with_10 : decode cX8_with 10 = .ok (.iconst 0, 1) := by decide +kernel
theorem dX8_with_11 : decode cX8_with 11 = .ok (.iconst 0, 1) := by decide +kernel
theorem dX8_with_12 : decode cX8_with 12 = .ok (.iastore, 1) := by decide +kernel
theorem dX8_with_13 : decode cX8_with 13 = .ok (.iload 6, 2) := by decide +kernel
theorem dX8_with_15 : decode cX8_with 15 = .ok (.ifCond .le 183, 3) := by decide +kernel
theorem dX8_with_18 : decode cX8_with 18 = .ok (.aload_n 0, 1) := by decide +kernel
theorem dX8_with_19 : decode cX8_with 19 = .ok (.getfield 162, 3) := by decide +kernel
theorem dX8_with_22 : decode cX8_with 22 = .ok (.ifCond .ne 176, 3) := by decide +kernel
theorem dX8_with_25 : decode cX8_with 25 = .ok (.iinc 6 (-1), 3) := by decide +kernel
theorem dX8_with_28 : decode cX8_with 28 = .ok (.aload_n 0, 1) := by decide +kernel
theorem dX8_with_29 : decode cX8_with 29 = .ok (.getfield 72, 3) := by decide +kernel
theorem dX8_with_32 : decode cX8_with 32 = .ok (.iload 6, 2) := by decide +kernel
theorem dX8_with_34 : decode cX8_with 34 = .ok (.iaload, 1) := by decide +kernel
theorem dX8_with_35 : decode cX8_with 35 = .ok (.istore 7, 2) := by decide +kernel
theorem dX8_with_37 : decode cX8_with 37 = .ok (.aload_n 1, 1) := by decide +kernel
theorem dX8_with_38 : decode cX8_with 38 = .ok (.iload 5, 2) := by decide +kernel
theorem dX8_with_40 : decode cX8_with 40 = .ok (.invokestatic 152, 3) := by decide +kernel
theorem dX8_with_43 : decode cX8_with 43 = .ok (.istore 8, 2) := by decide +kernel
theorem dX8_with_45 : decode cX8_with 45 = .ok (.aload_n 1, 1) := by decide +kernel
theorem dX8_with_46 : decode cX8_with 46 = .ok (.iload 5, 2) := by decide +kernel
theorem dX8_with_48 : decode cX8_with 48 = .ok (.iaload, 1) := by decide +kernel
theorem dX8_with_49 : decode cX8_with 49 = .ok (.iconst 1, 1) := by decide +kernel
theorem dX8_with_50 : decode cX8_with 50 = .ok (.if_icmp .ne 26, 3) := by decide +kernel
theorem dX8_with_53 : decode cX8_with 53 = .ok (.aload_n 1, 1) := by decide +kernel
theorem dX8_with_54 : decode cX8_with 54 = .ok (.iload 5, 2) := by decide +kernel
theorem dX8_with_56 : decode cX8_with 56 = .ok (.iconst 1, 1) := by decide +kernel
theorem dX8_with_57 : decode cX8_with 57 = .ok (.iadd, 1) := by decide +kernel
theorem dX8_with_58 : decode cX8_with 58 = .ok (.iaload, 1) := by decide +kernel
theorem dX8_with_59 : decode cX8_with 59 = .ok (.iload 7, 2) := by decide +kernel
theorem dX8_with_61 : decode cX8_with 61 = .ok (.if_icmp .ne 15, 3) := by decide +kernel
theorem dX8_with_64 : decode cX8_with 64 = .ok (.aload_n 0, 1) := by decide +kernel
theorem dX8_with_65 : decode cX8_with 65 = .ok (.aload_n 3, 1) := by decide +kernel
theorem dX8_with_66 : decode cX8_with 66 = .ok (.iload 4, 2) := by decide +kernel
theorem dX8_with_68 : decode cX8_with 68 = .ok (.iload 7, 2) := by decide +kernel
theorem dX8_with_70 : decode cX8_with 70 = .ok (.invokevirtual 173, 3) := by decide +kernel
theorem dX8_with_73 : decode cX8_with 73 = .ok (.goto 60, 3) := by decide +kernel
theorem dX8_with_76 : decode cX8_with 76 = .ok (.aload_n 1, 1) := by decide +kernel
theorem dX8_with_77 : decode cX8_with 77 = .ok (.iload 5, 2) := by decide +kernel
theorem dX8_with_79 : decode cX8_with 79 = .ok (.iaload, 1) := by decide +kernel
theorem dX8_with_80 : decode cX8_with 80 = .ok (.iconst 1, 1) := by decide +kernel
theorem dX8_with_81 : decode cX8_with 81 = .ok (.if_icmp .ne 43, 3) := by decide +kernel
theorem dX8_with_84 : decode cX8_with 84 = .ok (.aload_n 0, 1) := by decide +kernel
theorem dX8_with_85 : decode cX8_with 85 = .ok (.iconst 1, 1) := by decide +kernel
theorem dX8_with_86 : decode cX8_with 86 = .ok (.invokevirtual 165, 3) := by decide +kernel
theorem dX8_with_89 : decode cX8_with 89 = .ok (.aload_n 0, 1) := by decide +kernel
theorem dX8_with_90 : decode cX8_with 90 = .ok (.aload_n 1, 1) := by decide +kernel
theorem dX8_with_91 : decode cX8_with 91 = .ok (.iload 5, 2) := by decide +kernel
theorem dX8_with_93 : decode cX8_with 93 = .ok (.iconst 1, 1) := by decide +kernel
theorem dX8_with_94 : decode cX8_with 94 = .ok (.iadd, 1) := by decide +kernel
theorem dX8_with_95 : decode cX8_with 95 = .ok (.iaload, 1) := by decide +kernel
theorem dX8_with_96 : decode cX8_with 96 = .ok (.iload 7, 2) := by decide +kernel
theorem dX8_with_98 : decode cX8_with 98 = .ok (.if_icmp .le 14, 3) := by decide +kernel
theorem dX8_with_101 : decode cX8_with 101 = .ok (.aload_n 1, 1) := by decide +kernel
theorem dX8_with_102 : decode cX8_with 102 = .ok (.iload 5, 2) := by decide +kernel
theorem dX8_with_104 : decode cX8_with 104 = .ok (.iconst 1, 1) := by decide +kernel
theorem dX8_with_105 : decode cX8_with 105 = .ok (.iadd, 1) := by decide +kernel
theorem dX8_with_106 : decode cX8_with 106 = .ok (.iaload, 1) := by decide +kernel
theorem dX8_with_107 : decode cX8_with 107 = .ok (.iconst 1, 1) := by decide +kernel
theorem dX8_with_108 : decode cX8_with 108 = .ok (.isub, 1) := by decide +kernel
theorem dX8_with_109 : decode cX8_with 109 = .ok (.goto 9, 3) := by decide +kernel
theorem dX8_with_112 : decode cX8_with 112 = .ok (.aload_n 1, 1) := by decide +kernel
theorem dX8_with_113 : decode cX8_with 113 = .ok (.iload 5, 2) := by decide +kernel
theorem dX8_with_115 : decode cX8_with 115 = .ok (.iconst 1, 1) := by decide +kernel
theorem dX8_with_116 : decode cX8_with 116 = .ok (.iadd, 1) := by decide +kernel
theorem dX8_with_117 : decode cX8_with 117 = .ok (.iaload, 1) := by decide +kernel
theorem dX8_with_118 : decode cX8_with 118 = .ok (.invokevirtual 165, 3) := by decide +kernel
theorem dX8_with_121 : decode cX8_with 121 = .ok (.goto 12, 3) := by decide +kernel
theorem dX8_with_124 : decode cX8_with 124 = .ok (.aload_n 0, 1) := by decide +kernel
theorem dX8_with_125 : decode cX8_with 125 = .ok (.aload_n 1, 1) := by decide +kernel
theorem dX8_with_126 : decode cX8_with 126 = .ok (.iload 5, 2) := by decide +kernel
theorem dX8_with_128 : decode cX8_with 128 = .ok (.iload 8, 2) := by decide +kernel
theorem dX8_with_130 : decode cX8_with 130 = .ok (.invokevirtual 169, 3) := by decide +kernel
theorem dX8_with_133 : decode cX8_with 133 = .ok (.aload_n 1, 1) := by decide +kernel
theorem dX8_with_134 : decode cX8_with 134 = .ok (.iload 5, 2) := by decide +kernel
theorem dX8_with_136 : decode cX8_with 136 = .ok (.iaload, 1) := by decide +kernel
theorem dX8_with_137 : decode cX8_with 137 = .ok (.invokestatic 148, 3) := by decide +kernel
theorem dX8_with_140 : decode cX8_with 140 = .ok (.istore 9, 2) := by decide +kernel
theorem dX8_with_142 : decode cX8_with 142 = .ok (.iload 9, 2) := by decide +kernel
theorem dX8_with_144 : decode cX8_with 144 = .ok (.istore 10, 2) := by decide +kernel
theorem dX8_with_146 : decode cX8_with 146 = .ok (.iload 10, 2) := by decide +kernel
theorem dX8_with_148 : decode cX8_with 148 = .ok (.ifCond .le 43, 3) := by decide +kernel
theorem dX8_with_151 : decode cX8_with 151 = .ok (.aload_n 0, 1) := by decide +kernel
theorem dX8_with_152 : decode cX8_with 152 = .ok (.getfield 72, 3) := by decide +kernel
theorem dX8_with_155 : decode cX8_with 155 = .ok (.iload 6, 2) := by decide +kernel
theorem dX8_with_157 : decode cX8_with 157 = .ok (.iload 10, 2) := by decide +kernel
theorem dX8_with_159 : decode cX8_with 159 = .ok (.iload 9, 2) := by decide +kernel
theorem dX8_with_161 : decode cX8_with 161 = .ok (.if_icmp .ne 18, 3) := by decide +kernel
theorem dX8_with_164 : decode cX8_with 164 = .ok (.aload_n 1, 1) := by decide +kernel
theorem dX8_with_165 : decode cX8_with 165 = .ok (.iload 5, 2) := by decide +kernel
theorem dX8_with_167 : decode cX8_with 167 = .ok (.iaload, 1) := by decide +kernel
theorem dX8_with_168 : decode cX8_with 168 = .ok (.iconst 5, 1) := by decide +kernel
theorem dX8_with_169 : decode cX8_with 169 = .ok (.if_icmp .eq 10, 3) := by decide +kernel
theorem dX8_with_172 : decode cX8_with 172 = .ok (.iload 7, 2) := by decide +kernel
theorem dX8_with_174 : decode cX8_with 174 = .ok (.iconst 1, 1) := by decide +kernel
theorem dX8_with_175 : decode cX8_with 175 = .ok (.iadd, 1) := by decide +kernel
theorem dX8_with_176 : decode cX8_with 176 = .ok (.goto 5, 3) := by decide +kernel
theorem dX8_with_179 : decode cX8_with 179 = .ok (.iload 7, 2) := by decide +kernel
theorem dX8_with_181 : decode cX8_with 181 = .ok (.iastore, 1) := by decide +kernel
theorem dX8_with_182 : decode cX8_with 182 = .ok (.iinc 6 1, 3) := by decide +kernel
theorem dX8_with_185 : decode cX8_with 185 = .ok (.iinc 10 (-1), 3) := by decide +kernel
theorem dX8_with_188 : decode cX8_with 188 = .ok (.goto (-42), 3) := by decide +kernel
theorem dX8_with_191 : decode cX8_with 191 = .ok (.iload 8, 2) := by decide +kernel
theorem dX8_with_193 : decode cX8_with 193 = .ok (.istore 5, 2) := by decide +kernel
theorem dX8_with_195 : decode cX8_with 195 = .ok (.goto (-182), 3) := by decide +kernel
theorem dX8_with_198 : decode cX8_with 198 = .ok (.return_, 1) := by decide +kernel
theorem dy_X8_with : DY yX8_with 4 := by decide +kernel
theorem dX8_withLevels_0 : decode cX8_withLevels 0 = .ok (.aload_n 3, 1) := by decide +kernel
theorem dX8_withLevels_1 : decode cX8_withLevels 1 = .ok (.iload 4, 2) := by decide +kernel
theorem dX8_withLevels_3 : decode cX8_withLevels 3 = .ok (.invokestatic 144, 3) := by decide +kernel
theorem dX8_withLevels_6 : decode cX8_withLevels 6 = .ok (.istore 5, 2) := by decide +kernel
theorem dX8_withLevels_8 : decode cX8_withLevels 8 = .ok (.aload_n 3, 1) := by decide +kernel
theorem dX8_withLevels_9 : decode cX8_withLevels 9 = .ok (.iload 5, 2) := by decide +kernel
theorem dX8_withLevels_11 : decode cX8_withLevels 11 = .ok (.invokestatic 144, 3) := by decide +kernel
theorem dX8_withLevels_14 : decode cX8_withLevels 14 = .ok (.istore 6, 2) := by decide +kernel
theorem dX8_withLevels_16 : decode cX8_withLevels 16 = .ok (.iload_n 1, 1) := by decide +kernel
theorem dX8_withLevels_17 : decode cX8_withLevels 17 = .ok (.istore 7, 2) := by decide +kernel
theorem dX8_withLevels_19 : decode cX8_withLevels 19 = .ok (.iload 7, 2) := by decide +kernel
theorem dX8_withLevels_21 : decode cX8_withLevels 21 = .ok (.iload_n 2, 1) := by decide +kernel
theorem dX8_withLevels_22 : decode cX8_withLevels 22 = .ok (.if_icmp .ge 73, 3) := by decide +kernel
theorem dX8_withLevels_25 : decode cX8_withLevels 25 = .ok (.aload_n 0, 1) := by decide +kernel
theorem dX8_withLevels_26 : decode cX8_withLevels 26 = .ok (.getfield 162, 3) := by decide +kernel
theorem dX8_withLevels_29 : decode cX8_withLevels 29 = .ok (.ifCond .ne 66, 3) := by decide +kernel
theorem dX8_withLevels_32 : decode cX8_withLevels 32 = .ok (.aload_n 0, 1) := by decide +kernel
theorem dX8_withLevels_33 : decode cX8_withLevels 33 = .ok (.getfield 62, 3) := by decide +kernel
theorem dX8_withLevels_36 : decode cX8_withLevels 36 = .ok (.iload 7, 2) := by decide +kernel
theorem dX8_withLevels_38 : decode cX8_withLevels 38 = .ok (.iaload, 1) := by decide +kernel
theorem dX8_withLevels_39 : decode cX8_withLevels 39 = .ok (.iconst 4, 1) := by decide +kernel
theorem dX8_withLevels_40 : decode cX8_withLevels 40 = .ok (.if_icmp .ne 15, 3) := by decide +kernel
theorem dX8_withLevels_43 : decode cX8_withLevels 43 = .ok (.aload_n 0, 1) := by decide +kernel
theorem dX8_withLevels_44 : decode cX8_withLevels 44 = .ok (.aload_n 3, 1) := by decide +kernel
theorem dX8_withLevels_45 : decode cX8_withLevels 45 = .ok (.iload 4, 2) := by decide +kernel
theorem dX8_withLevels_47 : decode cX8_withLevels 47 = .ok (.iload 5, 2) := by decide +kernel
theorem dX8_withLevels_49 : decode cX8_withLevels 49 = .ok (.invokevirtual 169, 3) := by decide +kernel
theorem dX8_withLevels_52 : decode cX8_withLevels 52 = .ok (.goto 37, 3) := by decide +kernel
theorem dX8_withLevels_55 : decode cX8_withLevels 55 = .ok (.aload_n 0, 1) := by decide +kernel
theorem dX8_withLevels_56 : decode cX8_withLevels 56 = .ok (.getfield 62, 3) := by decide +kernel
theorem dX8_withLevels_59 : decode cX8_withLevels 59 = .ok (.iload 7, 2) := by decide +kernel
theorem dX8_withLevels_61 : decode cX8_withLevels 61 = .ok (.iaload, 1) := by decide +kernel
theorem dX8_withLevels_62 : decode cX8_withLevels 62 = .ok (.iconst 5, 1) := by decide +kernel
theorem dX8_withLevels_63 : decode cX8_withLevels 63 = .ok (.if_icmp .ne 15, 3) := by decide +kernel
theorem dX8_withLevels_66 : decode cX8_withLevels 66 = .ok (.aload_n 0, 1) := by decide +kernel
theorem dX8_withLevels_67 : decode cX8_withLevels 67 = .ok (.aload_n 3, 1) := by decide +kernel
theorem dX8_withLevels_68 : decode cX8_withLevels 68 = .ok (.iload 5, 2) := by decide +kernel
theorem dX8_withLevels_70 : decode cX8_withLevels 70 = .ok (.iload 6, 2) := by decide +kernel
theorem dX8_withLevels_72 : decode cX8_withLevels 72 = .ok (.invokevirtual 169, 3) := by decide +kernel
theorem dX8_withLevels_75 : decode cX8_withLevels 75 = .ok (.goto 14, 3) := by decide +kernel
theorem dX8_withLevels_78 : decode cX8_withLevels 78 = .ok (.aload_n 0, 1) := by decide +kernel
theorem dX8_withLevels_79 : decode cX8_withLevels 79 = .ok (.aload_n 0, 1) := by decide +kernel
theorem dX8_withLevels_80 : decode cX8_withLevels 80 = .ok (.getfield 62, 3) := by decide +kernel
theorem dX8_withLevels_83 : decode cX8_withLevels 83 = .ok (.iload 7, 2) := by decide +kernel
theorem dX8_withLevels_85 : decode cX8_withLevels 85 = .ok (.iaload, 1) := by decide +kernel
theorem dX8_withLevels_86 : decode cX8_withLevels 86 = .ok (.invokevirtual 165, 3) := by decide +kernel
theorem dX8_withLevels_89 : decode cX8_withLevels 89 = .ok (.iinc 7 1, 3) := by decide +kernel
theorem dX8_withLevels_92 : decode cX8_withLevels 92 = .ok (.goto (-73), 3) := by decide +kernel
theorem dX8_withLevels_95 : decode cX8_withLevels 95 = .ok (.return_, 1) := by decide +kernel
theorem dy_X8_withLevels : DY yX8_withLevels 4 := by decide +kernel
theorem dX8_named_0 : decode cX8_named 0 = .ok (.aload_n 0, 1) := by decide +kernel
theorem dX8_named_1 : decode cX8_named 1 = .ok (.aload_n 0, 1) := by decide +kernel
theorem dX8_named_2 : decode cX8_named 2 = .ok (.iload_n 1, 1) := by decide +kernel
theorem dX8_named_3 : decode cX8_named 3 = .ok (.aload_n 0, 1) := by decide +kernel
theorem dX8_named_4 : decode cX8_named 4 = .ok (.getfield 62, 3) := by decide +kernel
theorem dX8_named_7 : decode cX8_named 7 = .ok (.iconst 0, 1) := by decide +kernel
theorem dX8_named_8 : decode cX8_named 8 = .ok (.invokevirtual 176, 3) := by decide +kernel
theorem dX8_named_11 : decode cX8_named 11 = .ok (.putfield 179, 3) := by decide +kernel
theorem dX8_named_14 : decode cX8_named 14 = .ok (.iconst 0, 1) := by decide +kernel
theorem dX8_named_15 : decode cX8_named 15 = .ok (.istore 4, 2) := by decide +kernel
theorem dX8_named_17 : decode cX8_named 17 = .ok (.iload 4, 2) := by decide +kernel
theorem dX8_named_19 : decode cX8_named 19 = .ok (.aload_n 0, 1) := by decide +kernel
theorem dX8_named_20 : decode cX8_named 20 = .ok (.getfield 179, 3) := by decide +kernel
theorem dX8_named_23 : decode cX8_named 23 = .ok (.if_icmp .ge 134, 3) := by decide +kernel
theorem dX8_named_26 : decode cX8_named 26 = .ok (.aload_n 0, 1) := by decide +kernel
theorem dX8_named_27 : decode cX8_named 27 = .ok (.getfield 162, 3) := by decide +kernel
theorem dX8_named_30 : decode cX8_named 30 = .ok (.ifCond .ne 127, 3) := by decide +kernel
theorem dX8_named_33 : decode cX8_named 33 = .ok (.aload_n 0, 1) := by decide +kernel
theorem dX8_named_34 : decode cX8_named 34 = .ok (.getfield 62, 3) := by decide +kernel
theorem dX8_named_37 : decode cX8_named 37 = .ok (.iload 4, 2) := by decide +kernel
theorem dX8_named_39 : decode cX8_named 39 = .ok (.invokestatic 152, 3) := by decide +kernel
theorem dX8_named_42 : decode cX8_named 42 = .ok (.istore 5, 2) := by decide +kernel
theorem dX8_named_44 : decode cX8_named 44 = .ok (.aload_n 0, 1) := by decide +kernel
theorem dX8_named_45 : decode cX8_named 45 = .ok (.aload_n 0, 1) := by decide +kernel
theorem dX8_named_46 : decode cX8_named 46 = .ok (.getfield 62, 3) := by decide +kernel
theorem dX8_named_49 : decode cX8_named 49 = .ok (.iload 4, 2) := by decide +kernel
theorem dX8_named_51 : decode cX8_named 51 = .ok (.iaload, 1) := by decide +kernel
theorem dX8_named_52 : decode cX8_named 52 = .ok (.invokevirtual 165, 3) := by decide +kernel
theorem dX8_named_55 : decode cX8_named 55 = .ok (.aload_n 0, 1) := by decide +kernel
theorem dX8_named_56 : decode cX8_named 56 = .ok (.getfield 62, 3) := by decide +kernel
theorem dX8_named_59 : decode cX8_named 59 = .ok (.iload 4, 2) := by decide +kernel
theorem dX8_named_61 : decode cX8_named 61 = .ok (.iaload, 1) := by decide +kernel
theorem dX8_named_62 : decode cX8_named 62 = .ok (.iconst 2, 1) := by decide +kernel
theorem dX8_named_63 : decode cX8_named 63 = .ok (.if_icmp .ne 31, 3) := by decide +kernel
theorem dX8_named_66 : decode cX8_named 66 = .ok (.aload_n 0, 1) := by decide +kernel
theorem dX8_named_67 : decode cX8_named 67 = .ok (.aload_n 0, 1) := by decide +kernel
theorem dX8_named_68 : decode cX8_named 68 = .ok (.getfield 62, 3) := by decide +kernel
theorem dX8_named_71 : decode cX8_named 71 = .ok (.iload 4, 2) := by decide +kernel
theorem dX8_named_73 : decode cX8_named 73 = .ok (.iconst 1, 1) := by decide +kernel
theorem dX8_named_74 : decode cX8_named 74 = .ok (.iadd, 1) := by decide +kernel
theorem dX8_named_75 : decode cX8_named 75 = .ok (.iaload, 1) := by decide +kernel
theorem dX8_named_76 : decode cX8_named 76 = .ok (.invokevirtual 165, 3) := by decide +kernel
theorem dX8_named_79 : decode cX8_named 79 = .ok (.aload_n 0, 1) := by decide +kernel
theorem dX8_named_80 : decode cX8_named 80 = .ok (.iload 4, 2) := by decide +kernel
theorem dX8_named_82 : decode cX8_named 82 = .ok (.iconst 2, 1) := by decide +kernel
theorem dX8_named_83 : decode cX8_named 83 = .ok (.iadd, 1) := by decide +kernel
theorem dX8_named_84 : decode cX8_named 84 = .ok (.iload 5, 2) := by decide +kernel
theorem dX8_named_86 : decode cX8_named 86 = .ok (.aload_n 2, 1) := by decide +kernel
theorem dX8_named_87 : decode cX8_named 87 = .ok (.iload_n 3, 1) := by decide +kernel
theorem dX8_named_88 : decode cX8_named 88 = .ok (.invokevirtual 182, 3) := by decide +kernel
theorem dX8_named_91 : decode cX8_named 91 = .ok (.goto 52, 3) := by decide +kernel
theorem dX8_named_94 : decode cX8_named 94 = .ok (.aload_n 0, 1) := by decide +kernel
theorem dX8_named_95 : decode cX8_named 95 = .ok (.getfield 62, 3) := by decide +kernel
theorem dX8_named_98 : decode cX8_named 98 = .ok (.iload 4, 2) := by decide +kernel
theorem dX8_named_100 : decode cX8_named 100 = .ok (.iaload, 1) := by decide +kernel
theorem dX8_named_101 : decode cX8_named 101 = .ok (.ifCond .ne 18, 3) := by decide +kernel
theorem dX8_named_104 : decode cX8_named 104 = .ok (.aload_n 0, 1) := by decide +kernel
theorem dX8_named_105 : decode cX8_named 105 = .ok (.iload 4, 2) := by decide +kernel
theorem dX8_named_107 : decode cX8_named 107 = .ok (.iconst 1, 1) := by decide +kernel
theorem dX8_named_108 : decode cX8_named 108 = .ok (.iadd, 1) := by decide +kernel
theorem dX8_named_109 : decode cX8_named 109 = .ok (.iload 5, 2) := by decide +kernel
theorem dX8_named_111 : decode cX8_named 111 = .ok (.aload_n 2, 1) := by decide +kernel
theorem dX8_named_112 : decode cX8_named 112 = .ok (.iload_n 3, 1) := by decide +kernel
theorem dX8_named_113 : decode cX8_named 113 = .ok (.invokevirtual 182, 3) := by decide +kernel
theorem dX8_named_116 : decode cX8_named 116 = .ok (.goto 27, 3) := by decide +kernel
theorem dX8_named_119 : decode cX8_named 119 = .ok (.aload_n 0, 1) := by decide +kernel
theorem dX8_named_120 : decode cX8_named 120 = .ok (.getfield 62, 3) := by decide +kernel
theorem dX8_named_123 : decode cX8_named 123 = .ok (.iload 4, 2) := by decide +kernel
theorem dX8_named_125 : decode cX8_named 125 = .ok (.iaload, 1) := by decide +kernel
theorem dX8_named_126 : decode cX8_named 126 = .ok (.iconst 1, 1) := by decide +kernel
theorem dX8_named_127 : decode cX8_named 127 = .ok (.if_icmp .ne 16, 3) := by decide +kernel
theorem dX8_named_130 : decode cX8_named 130 = .ok (.aload_n 0, 1) := by decide +kernel
theorem dX8_named_131 : decode cX8_named 131 = .ok (.aload_n 0, 1) := by decide +kernel
theorem dX8_named_132 : decode cX8_named 132 = .ok (.getfield 62, 3) := by decide +kernel
theorem dX8_named_135 : decode cX8_named 135 = .ok (.iload 4, 2) := by decide +kernel
theorem dX8_named_137 : decode cX8_named 137 = .ok (.iconst 1, 1) := by decide +kernel
theorem dX8_named_138 : decode cX8_named 138 = .ok (.iadd, 1) := by decide +kernel
theorem dX8_named_139 : decode cX8_named 139 = .ok (.iaload, 1) := by decide +kernel
theorem dX8_named_140 : decode cX8_named 140 = .ok (.invokevirtual 165, 3) := by decide +kernel
theorem dX8_named_143 : decode cX8_named 143 = .ok (.aload_n 0, 1) := by decide +kernel
theorem dX8_named_144 : decode cX8_named 144 = .ok (.getfield 62, 3) := by decide +kernel
theorem dX8_named_147 : decode cX8_named 147 = .ok (.iload 4, 2) := by decide +kernel
theorem dX8_named_149 : decode cX8_named 149 = .ok (.invokestatic 152, 3) := by decide +kernel
theorem dX8_named_152 : decode cX8_named 152 = .ok (.istore 4, 2) := by decide +kernel
theorem dX8_named_154 : decode cX8_named 154 = .ok (.goto (-137), 3) := by decide +kernel
theorem dX8_named_157 : decode cX8_named 157 = .ok (.return_, 1) := by decide +kernel
theorem dy_X8_named : DY yX8_named 3 := by decide +kernel
theorem dX8_stepAt_0 : decode cX8_stepAt 0 = .ok (.iconst 0, 1) := by decide +kernel
theorem dX8_stepAt_1 : decode cX8_stepAt 1 = .ok (.istore_n 1, 1) := by decide +kernel
theorem dX8_stepAt_2 : decode cX8_stepAt 2 = .ok (.iload_n 1, 1) := by decide +kernel
theorem dX8_stepAt_3 : decode cX8_stepAt 3 = .ok (.aload_n 0, 1) := by decide +kernel
theorem dX8_stepAt_4 : decode cX8_stepAt 4 = .ok (.getfield 186, 3) := by decide +kernel
theorem dX8_stepAt_7 : decode cX8_stepAt 7 = .ok (.if_icmp .ge 86, 3) := by decide +kernel
theorem dX8_stepAt_10 : decode cX8_stepAt 10 = .ok (.aload_n 0, 1) := by decide +kernel
theorem dX8_stepAt_11 : decode cX8_stepAt 11 = .ok (.getfield 56, 3) := by decide +kernel
theorem dX8_stepAt_14 : decode cX8_stepAt 14 = .ok (.iload_n 1, 1) := by decide +kernel
theorem dX8_stepAt_15 : decode cX8_stepAt 15 = .ok (.iaload, 1) := by decide +kernel
theorem dX8_stepAt_16 : decode cX8_stepAt 16 = .ok (.bipush 6, 2) := by decide +kernel
theorem dX8_stepAt_18 : decode cX8_stepAt 18 = .ok (.if_icmp .eq 51, 3) := by decide +kernel
theorem dX8_stepAt_21 : decode cX8_stepAt 21 = .ok (.aload_n 0, 1) := by decide +kernel
theorem dX8_stepAt_22 : decode cX8_stepAt 22 = .ok (.getfield 56, 3) := by decide +kernel
theorem dX8_stepAt_25 : decode cX8_stepAt 25 = .ok (.iload_n 1, 1) := by decide +kernel
theorem dX8_stepAt_26 : decode cX8_stepAt 26 = .ok (.iaload, 1) := by decide +kernel
theorem dX8_stepAt_27 : decode cX8_stepAt 27 = .ok (.iconst 5, 1) := by decide +kernel
theorem dX8_stepAt_28 : decode cX8_stepAt 28 = .ok (.if_icmp .ne 15, 3) := by decide +kernel
theorem dX8_stepAt_31 : decode cX8_stepAt 31 = .ok (.aload_n 0, 1) := by decide +kernel
theorem dX8_stepAt_32 : decode cX8_stepAt 32 = .ok (.getfield 56, 3) := by decide +kernel
theorem dX8_stepAt_35 : decode cX8_stepAt 35 = .ok (.iload_n 1, 1) := by decide +kernel
theorem dX8_stepAt_36 : decode cX8_stepAt 36 = .ok (.iconst 1, 1) := by decide +kernel
theorem dX8_stepAt_37 : decode cX8_stepAt 37 = .ok (.iadd, 1) := by decide +kernel
theorem dX8_stepAt_38 : decode cX8_stepAt 38 = .ok (.iaload, 1) := by decide +kernel
theorem dX8_stepAt_39 : decode cX8_stepAt 39 = .ok (.iconst 4, 1) := by decide +kernel
theorem dX8_stepAt_40 : decode cX8_stepAt 40 = .ok (.if_icmp .eq 29, 3) := by decide +kernel
theorem dX8_stepAt_43 : decode cX8_stepAt 43 = .ok (.aload_n 0, 1) := by decide +kernel
theorem dX8_stepAt_44 : decode cX8_stepAt 44 = .ok (.getfield 56, 3) := by decide +kernel
theorem dX8_stepAt_47 : decode cX8_stepAt 47 = .ok (.iload_n 1, 1) := by decide +kernel
theorem dX8_stepAt_48 : decode cX8_stepAt 48 = .ok (.iaload, 1) := by decide +kernel
theorem dX8_stepAt_49 : decode cX8_stepAt 49 = .ok (.iconst 2, 1) := by decide +kernel
theorem dX8_stepAt_50 : decode cX8_stepAt 50 = .ok (.if_icmp .ne 23, 3) := by decide +kernel
theorem dX8_stepAt_53 : decode cX8_stepAt 53 = .ok (.aload_n 0, 1) := by decide +kernel
theorem dX8_stepAt_54 : decode cX8_stepAt 54 = .ok (.getfield 50, 3) := by decide +kernel
theorem dX8_stepAt_57 : decode cX8_stepAt 57 = .ok (.aload_n 0, 1) := by decide +kernel
theorem dX8_stepAt_58 : decode cX8_stepAt 58 = .ok (.getfield 56, 3) := by decide +kernel
theorem dX8_stepAt_61 : decode cX8_stepAt 61 = .ok (.iload_n 1, 1) := by decide +kernel
theorem dX8_stepAt_62 : decode cX8_stepAt 62 = .ok (.iconst 1, 1) := by decide +kernel
theorem dX8_stepAt_63 : decode cX8_stepAt 63 = .ok (.iadd, 1) := by decide +kernel
theorem dX8_stepAt_64 : decode cX8_stepAt 64 = .ok (.iaload, 1) := by decide +kernel
theorem dX8_stepAt_65 : decode cX8_stepAt 65 = .ok (.iaload, 1) := by decide +kernel
theorem dX8_stepAt_66 : decode cX8_stepAt 66 = .ok (.ifCond .lt 7, 3) := by decide +kernel
theorem dX8_stepAt_69 : decode cX8_stepAt 69 = .ok (.iconst 1, 1) := by decide +kernel
theorem dX8_stepAt_70 : decode cX8_stepAt 70 = .ok (.goto 4, 3) := by decide +kernel
theorem dX8_stepAt_73 : decode cX8_stepAt 73 = .ok (.iconst 0, 1) := by decide +kernel
theorem dX8_stepAt_74 : decode cX8_stepAt 74 = .ok (.istore_n 2, 1) := by decide +kernel
theorem dX8_stepAt_75 : decode cX8_stepAt 75 = .ok (.iload_n 2, 1) := by decide +kernel
theorem dX8_stepAt_76 : decode cX8_stepAt 76 = .ok (.ifCond .eq 5, 3) := by decide +kernel
theorem dX8_stepAt_79 : decode cX8_stepAt 79 = .ok (.iload_n 1, 1) := by decide +kernel
theorem dX8_stepAt_80 : decode cX8_stepAt 80 = .ok (.ireturn, 1) := by decide +kernel
theorem dX8_stepAt_81 : decode cX8_stepAt 81 = .ok (.aload_n 0, 1) := by decide +kernel
theorem dX8_stepAt_82 : decode cX8_stepAt 82 = .ok (.getfield 56, 3) := by decide +kernel
theorem dX8_stepAt_85 : decode cX8_stepAt 85 = .ok (.iload_n 1, 1) := by decide +kernel
theorem dX8_stepAt_86 : decode cX8_stepAt 86 = .ok (.invokestatic 152, 3) := by decide +kernel
theorem dX8_stepAt_89 : decode cX8_stepAt 89 = .ok (.istore_n 1, 1) := by decide +kernel
theorem dX8_stepAt_90 : decode cX8_stepAt 90 = .ok (.goto (-88), 3) := by decide +kernel
theorem dX8_stepAt_93 : decode cX8_stepAt 93 = .ok (.iconst (-1), 1) := by decide +kernel
theorem dX8_stepAt_94 : decode cX8_stepAt 94 = .ok (.ireturn, 1) := by decide +kernel
theorem dy_X8_stepAt : DY yX8_stepAt 0 := by decide +kernel
theorem dX8_take_0 : decode cX8_take 0 = .ok (.iconst 0, 1) := by decide +kernel
theorem dX8_take_1 : decode cX8_take 1 = .ok (.istore_n 1, 1) := by decide +kernel
theorem dX8_take_2 : decode cX8_take 2 = .ok (.iload_n 1, 1) := by decide +kernel
theorem dX8_take_3 : decode cX8_take 3 = .ok (.aload_n 0, 1) := by decide +kernel
theorem dX8_take_4 : decode cX8_take 4 = .ok (.getfield 159, 3) := by decide +kernel
theorem dX8_take_7 : decode cX8_take 7 = .ok (.if_icmp .ge 21, 3) := by decide +kernel
theorem dX8_take_10 : decode cX8_take 10 = .ok (.aload_n 0, 1) := by decide +kernel
theorem dX8_take_11 : decode cX8_take 11 = .ok (.getfield 56, 3) := by decide +kernel
theorem dX8_take_14 : decode cX8_take 14 = .ok (.iload_n 1, 1) := by decide +kernel
theorem dX8_take_15 : decode cX8_take 15 = .ok (.aload_n 0, 1) := by decide +kernel
theorem dX8_take_16 : decode cX8_take 16 = .ok (.getfield 59, 3) := by decide +kernel
theorem dX8_take_19 : decode cX8_take 19 = .ok (.iload_n 1, 1) := by decide +kernel
theorem dX8_take_20 : decode cX8_take 20 = .ok (.iaload, 1) := by decide +kernel
theorem dX8_take_21 : decode cX8_take 21 = .ok (.iastore, 1) := by decide +kernel
theorem dX8_take_22 : decode cX8_take 22 = .ok (.iinc 1 1, 3) := by decide +kernel
theorem dX8_take_25 : decode cX8_take 25 = .ok (.goto (-23), 3) := by decide +kernel
theorem dX8_take_28 : decode cX8_take 28 = .ok (.aload_n 0, 1) := by decide +kernel
theorem dX8_take_29 : decode cX8_take 29 = .ok (.aload_n 0, 1) := by decide +kernel
theorem dX8_take_30 : decode cX8_take 30 = .ok (.getfield 159, 3) := by decide +kernel
theorem dX8_take_33 : decode cX8_take 33 = .ok (.putfield 186, 3) := by decide +kernel
theorem dX8_take_36 : decode cX8_take 36 = .ok (.return_, 1) := by decide +kernel
theorem dy_X8_take : DY yX8_take 0 := by decide +kernel
theorem dX8_has_0 : decode cX8_has 0 = .ok (.iload_n 1, 1) := by decide +kernel
theorem dX8_has_1 : decode cX8_has 1 = .ok (.istore_n 2, 1) := by decide +kernel
theorem dX8_has_2 : decode cX8_has 2 = .ok (.iconst 1, 1) := by decide +kernel
theorem dX8_has_3 : decode cX8_has 3 = .ok (.istore_n 3, 1) := by decide +kernel
theorem dX8_has_4 : decode cX8_has 4 = .ok (.iconst 0, 1) := by decide +kernel
theorem dX8_has_5 : decode cX8_has 5 = .ok (.istore 4, 2) := by decide +kernel
theorem dX8_has_7 : decode cX8_has 7 = .ok (.aload_n 0, 1) := by decide +kernel
theorem dX8_has_8 : decode cX8_has 8 = .ok (.getfield 69, 3) := by decide +kernel
theorem dX8_has_11 : decode cX8_has 11 = .ok (.iconst 0, 1) := by decide +kernel
theorem dX8_has_12 : decode cX8_has 12 = .ok (.iconst 0, 1) := by decide +kernel
theorem dX8_has_13 : decode cX8_has 13 = .ok (.iastore, 1) := by decide +kernel
theorem dX8_has_14 : decode cX8_has 14 = .ok (.iload_n 3, 1) := by decide +kernel
theorem dX8_has_15 : decode cX8_has 15 = .ok (.ifCond .le 122, 3) := by decide +kernel
theorem dX8_has_18 : decode cX8_has 18 = .ok (.iinc 3 (-1), 3) := by decide +kernel
theorem dX8_has_21 : decode cX8_has 21 = .ok (.aload_n 0, 1) := by decide +kernel
theorem dX8_has_22 : decode cX8_has 22 = .ok (.getfield 69, 3) := by decide +kernel
theorem dX8_has_25 : decode cX8_has 25 = .ok (.iload_n 3, 1) := by decide +kernel
theorem dX8_has_26 : decode cX8_has 26 = .ok (.iaload, 1) := by decide +kernel
theorem dX8_has_27 : decode cX8_has 27 = .ok (.istore 5, 2) := by decide +kernel
theorem dX8_has_29 : decode cX8_has 29 = .ok (.iload 4, 2) := by decide +kernel
theorem dX8_has_31 : decode cX8_has 31 = .ok (.ifCond .ne 26, 3) := by decide +kernel
theorem dX8_has_34 : decode cX8_has 34 = .ok (.aload_n 0, 1) := by decide +kernel
theorem dX8_has_35 : decode cX8_has 35 = .ok (.getfield 56, 3) := by decide +kernel
theorem dX8_has_38 : decode cX8_has 38 = .ok (.iload_n 2, 1) := by decide +kernel
theorem dX8_has_39 : decode cX8_has 39 = .ok (.iaload, 1) := by decide +kernel
theorem dX8_has_40 : decode cX8_has 40 = .ok (.iconst 1, 1) := by decide +kernel
theorem dX8_has_41 : decode cX8_has 41 = .ok (.if_icmp .ne 20, 3) := by decide +kernel
theorem dX8_has_44 : decode cX8_has 44 = .ok (.aload_n 0, 1) := by decide +kernel
theorem dX8_has_45 : decode cX8_has 45 = .ok (.getfield 56, 3) := by decide +kernel
theorem dX8_has_48 : decode cX8_has 48 = .ok (.iload_n 2, 1) := by decide +kernel
theorem dX8_has_49 : decode cX8_has 49 = .ok (.iconst 1, 1) := by decide +kernel
theorem dX8_has_50 : decode cX8_has 50 = .ok (.iadd, 1) := by decide +kernel
theorem dX8_has_51 : decode cX8_has 51 = .ok (.iaload, 1) := by decide +kernel
theorem dX8_has_52 : decode cX8_has 52 = .ok (.iload 5, 2) := by decide +kernel
theorem dX8_has_54 : decode cX8_has 54 = .ok (.if_icmp .ne 7, 3) := by decide +kernel
theorem dX8_has_57 : decode cX8_has 57 = .ok (.iconst 1, 1) := by decide +kernel
theorem dX8_has_58 : decode cX8_has 58 = .ok (.goto 4, 3) := by decide +kernel
theorem dX8_has_61 : decode cX8_has 61 = .ok (.iconst 0, 1) := by decide +kernel
theorem dX8_has_62 : decode cX8_has 62 = .ok (.istore 4, 2) := by decide +kernel
theorem dX8_has_64 : decode cX8_has 64 = .ok (.aload_n 0, 1) := by decide +kernel
theorem dX8_has_65 : decode cX8_has 65 = .ok (.getfield 56, 3) := by decide +kernel
theorem dX8_has_68 : decode cX8_has 68 = .ok (.iload_n 2, 1) := by decide +kernel
theorem dX8_has_69 : decode cX8_has 69 = .ok (.iaload, 1) := by decide +kernel
theorem dX8_has_70 : decode cX8_has 70 = .ok (.invokestatic 148, 3) := by decide +kernel
theorem dX8_has_73 : decode cX8_has 73 = .ok (.istore 6, 2) := by decide +kernel
theorem dX8_has_75 : decode cX8_has 75 = .ok (.iload 6, 2) := by decide +kernel
theorem dX8_has_77 : decode cX8_has 77 = .ok (.istore 7, 2) := by decide +kernel
theorem dX8_has_79 : decode cX8_has 79 = .ok (.iload 7, 2) := by decide +kernel
theorem dX8_has_81 : decode cX8_has 81 = .ok (.ifCond .le 44, 3) := by decide +kernel
theorem dX8_has_84 : decode cX8_has 84 = .ok (.aload_n 0, 1) := by decide +kernel
theorem dX8_has_85 : decode cX8_has 85 = .ok (.getfield 69, 3) := by decide +kernel
theorem dX8_has_88 : decode cX8_has 88 = .ok (.iload_n 3, 1) := by decide +kernel
theorem dX8_has_89 : decode cX8_has 89 = .ok (.iload 7, 2) := by decide +kernel
theorem dX8_has_91 : decode cX8_has 91 = .ok (.iload 6, 2) := by decide +kernel
theorem dX8_has_93 : decode cX8_has 93 = .ok (.if_icmp .ne 20, 3) := by decide +kernel
theorem dX8_has_96 : decode cX8_has 96 = .ok (.aload_n 0, 1) := by decide +kernel
theorem dX8_has_97 : decode cX8_has 97 = .ok (.getfield 56, 3) := by decide +kernel
theorem dX8_has_100 : decode cX8_has 100 = .ok (.iload_n 2, 1) := by decide +kernel
theorem dX8_has_101 : decode cX8_has 101 = .ok (.iaload, 1) := by decide +kernel
theorem dX8_has_102 : decode cX8_has 102 = .ok (.iconst 5, 1) := by decide +kernel
theorem dX8_has_103 : decode cX8_has 103 = .ok (.if_icmp .eq 10, 3) := by decide +kernel
theorem dX8_has_106 : decode cX8_has 106 = .ok (.iload 5, 2) := by decide +kernel
theorem dX8_has_108 : decode cX8_has 108 = .ok (.iconst 1, 1) := by decide +kernel
theorem dX8_has_109 : decode cX8_has 109 = .ok (.iadd, 1) := by decide +kernel
theorem dX8_has_110 : decode cX8_has 110 = .ok (.goto 5, 3) := by decide +kernel
theorem dX8_has_113 : decode cX8_has 113 = .ok (.iload 5, 2) := by decide +kernel
theorem dX8_has_115 : decode cX8_has 115 = .ok (.iastore, 1) := by decide +kernel
theorem dX8_has_116 : decode cX8_has 116 = .ok (.iinc 3 1, 3) := by decide +kernel
theorem dX8_has_119 : decode cX8_has 119 = .ok (.iinc 7 (-1), 3) := by decide +kernel
theorem dX8_has_122 : decode cX8_has 122 = .ok (.goto (-43), 3) := by decide +kernel
theorem dX8_has_125 : decode cX8_has 125 = .ok (.aload_n 0, 1) := by decide +kernel
theorem dX8_has_126 : decode cX8_has 126 = .ok (.getfield 56, 3) := by decide +kernel
theorem dX8_has_129 : decode cX8_has 129 = .ok (.iload_n 2, 1) := by decide +kernel
theorem dX8_has_130 : decode cX8_has 130 = .ok (.invokestatic 152, 3) := by decide +kernel
theorem dX8_has_133 : decode cX8_has 133 = .ok (.istore_n 2, 1) := by decide +kernel
theorem dX8_has_134 : decode cX8_has 134 = .ok (.goto (-120), 3) := by decide +kernel
theorem dX8_has_137 : decode cX8_has 137 = .ok (.iload 4, 2) := by decide +kernel
theorem dX8_has_139 : decode cX8_has 139 = .ok (.ireturn, 1) := by decide +kernel
theorem dy_X8_has : DY yX8_has 1 := by decide +kernel
theorem dX8_shorten_0 : decode cX8_shorten 0 = .ok (.iconst 0, 1) := by decide +kernel
theorem dX8_shorten_1 : decode cX8_shorten 1 = .ok (.istore_n 1, 1) := by decide +kernel
theorem dX8_shorten_2 : decode cX8_shorten 2 = .ok (.iconst 0, 1) := by decide +kernel
theorem dX8_shorten_3 : decode cX8_shorten 3 = .ok (.istore_n 2, 1) := by decide +kernel
theorem dX8_shorten_4 : decode cX8_shorten 4 = .ok (.iload_n 2, 1) := by decide +kernel
theorem dX8_shorten_5 : decode cX8_shorten 5 = .ok (.aload_n 0, 1) := by decide +kernel
theorem dX8_shorten_6 : decode cX8_shorten 6 = .ok (.getfield 186, 3) := by decide +kernel
theorem dX8_shorten_9 : decode cX8_shorten 9 = .ok (.if_icmp .ge 25, 3) := by decide +kernel
theorem dX8_shorten_12 : decode cX8_shorten 12 = .ok (.aload_n 0, 1) := by decide +kernel
theorem dX8_shorten_13 : decode cX8_shorten 13 = .ok (.getfield 82, 3) := by decide +kernel
theorem dX8_shorten_16 : decode cX8_shorten 16 = .ok (.iload_n 1, 1) := by decide +kernel
theorem dX8_shorten_17 : decode cX8_shorten 17 = .ok (.iload_n 2, 1) := by decide +kernel
theorem dX8_shorten_18 : decode cX8_shorten 18 = .ok (.iastore, 1) := by decide +kernel
theorem dX8_shorten_19 : decode cX8_shorten 19 = .ok (.iinc 1 1, 3) := by decide +kernel
theorem dX8_shorten_22 : decode cX8_shorten 22 = .ok (.aload_n 0, 1) := by decide +kernel
theorem dX8_shorten_23 : decode cX8_shorten 23 = .ok (.getfield 56, 3) := by decide +kernel
theorem dX8_shorten_26 : decode cX8_shorten 26 = .ok (.iload_n 2, 1) := by decide +kernel
theorem dX8_shorten_27 : decode cX8_shorten 27 = .ok (.invokestatic 152, 3) := by decide +kernel
theorem dX8_shorten_30 : decode cX8_shorten 30 = .ok (.istore_n 2, 1) := by decide +kernel
theorem dX8_shorten_31 : decode cX8_shorten 31 = .ok (.goto (-27), 3) := by decide +kernel
theorem dX8_shorten_34 : decode cX8_shorten 34 = .ok (.iload_n 1, 1) := by decide +kernel
theorem dX8_shorten_35 : decode cX8_shorten 35 = .ok (.iconst 1, 1) := by decide +kernel
theorem dX8_shorten_36 : decode cX8_shorten 36 = .ok (.isub, 1) := by decide +kernel
theorem dX8_shorten_37 : decode cX8_shorten 37 = .ok (.istore_n 2, 1) := by decide +kernel
theorem dX8_shorten_38 : decode cX8_shorten 38 = .ok (.iload_n 2, 1) := by decide +kernel
theorem dX8_shorten_39 : decode cX8_shorten 39 = .ok (.ifCond .lt 158, 3) := by decide +kernel
theorem dX8_shorten_42 : decode cX8_shorten 42 = .ok (.aload_n 0, 1) := by decide +kernel
theorem dX8_shorten_43 : decode cX8_shorten 43 = .ok (.getfield 82, 3) := by decide +kernel
theorem dX8_shorten_46 : decode cX8_shorten 46 = .ok (.iload_n 2, 1) := by decide +kernel
theorem dX8_shorten_47 : decode cX8_shorten 47 = .ok (.iaload, 1) := by decide +kernel
theorem dX8_shorten_48 : decode cX8_shorten 48 = .ok (.istore_n 3, 1) := by decide +kernel
theorem dX8_shorten_49 : decode cX8_shorten 49 = .ok (.aload_n 0, 1) := by decide +kernel
theorem dX8_shorten_50 : decode cX8_shorten 50 = .ok (.getfield 56, 3) := by decide +kernel
theorem dX8_shorten_53 : decode cX8_shorten 53 = .ok (.iload_n 3, 1) := by decide +kernel
theorem dX8_shorten_54 : decode cX8_shorten 54 = .ok (.iaload, 1) := by decide +kernel
theorem dX8_shorten_55 : decode cX8_shorten 55 = .ok (.iconst 4, 1) := by decide +kernel
theorem dX8_shorten_56 : decode cX8_shorten 56 = .ok (.if_icmp .ne 16, 3) := by decide +kernel
theorem dX8_shorten_59 : decode cX8_shorten 59 = .ok (.aload_n 0, 1) := by decide +kernel
theorem dX8_shorten_60 : decode cX8_shorten 60 = .ok (.getfield 56, 3) := by decide +kernel
theorem dX8_shorten_63 : decode cX8_shorten 63 = .ok (.iload_n 3, 1) := by decide +kernel
theorem dX8_shorten_64 : decode cX8_shorten 64 = .ok (.iconst 1, 1) := by decide +kernel
theorem dX8_shorten_65 : decode cX8_shorten 65 = .ok (.iadd, 1) := by decide +kernel
theorem dX8_shorten_66 : decode cX8_shorten 66 = .ok (.invokestatic 197, 3) := by decide +kernel
theorem dX8_shorten_69 : decode cX8_shorten 69 = .ok (.goto 4, 3) := by decide +kernel
theorem dX8_shorten_72 : decode cX8_shorten 72 = .ok (.iconst (-1), 1) := by decide +kernel
theorem dX8_shorten_73 : decode cX8_shorten 73 = .ok (.istore 4, 2) := by decide +kernel
theorem dX8_shorten_75 : decode cX8_shorten 75 = .ok (.iload 4, 2) := by decide +kernel
theorem dX8_shorten_77 : decode cX8_shorten 77 = .ok (.ifCond .lt 114, 3) := by decide +kernel
theorem dX8_shorten_80 : decode cX8_shorten 80 = .ok (.aload_n 0, 1) := by decide +kernel
theorem dX8_shorten_81 : decode cX8_shorten 81 = .ok (.getfield 56, 3) := by decide +kernel
theorem dX8_shorten_84 : decode cX8_shorten 84 = .ok (.iload 4, 2) := by decide +kernel
theorem dX8_shorten_86 : decode cX8_shorten 86 = .ok (.iaload, 1) := by decide +kernel
theorem dX8_shorten_87 : decode cX8_shorten 87 = .ok (.iconst 5, 1) := by decide +kernel
theorem dX8_shorten_88 : decode cX8_shorten 88 = .ok (.if_icmp .ne 103, 3) := by decide +kernel
theorem dX8_shorten_91 : decode cX8_shorten 91 = .ok (.aload_n 0, 1) := by decide +kernel
theorem dX8_shorten_92 : decode cX8_shorten 92 = .ok (.getfield 56, 3) := by decide +kernel
theorem dX8_shorten_95 : decode cX8_shorten 95 = .ok (.iload 4, 2) := by decide +kernel
theorem dX8_shorten_97 : decode cX8_shorten 97 = .ok (.iconst 1, 1) := by decide +kernel
theorem dX8_shorten_98 : decode cX8_shorten 98 = .ok (.iadd, 1) := by decide +kernel
theorem dX8_shorten_99 : decode cX8_shorten 99 = .ok (.invokestatic 197, 3) := by decide +kernel
theorem dX8_shorten_102 : decode cX8_shorten 102 = .ok (.istore 5, 2) := by decide +kernel
theorem dX8_shorten_104 : decode cX8_shorten 104 = .ok (.aload_n 0, 1) := by decide +kernel
theorem dX8_shorten_105 : decode cX8_shorten 105 = .ok (.getfield 56, 3) := by decide +kernel
theorem dX8_shorten_108 : decode cX8_shorten 108 = .ok (.iload 5, 2) := by decide +kernel
theorem dX8_shorten_110 : decode cX8_shorten 110 = .ok (.iaload, 1) := by decide +kernel
theorem dX8_shorten_111 : decode cX8_shorten 111 = .ok (.iconst 1, 1) := by decide +kernel
theorem dX8_shorten_112 : decode cX8_shorten 112 = .ok (.if_icmp .ne 79, 3) := by decide +kernel
theorem dX8_shorten_115 : decode cX8_shorten 115 = .ok (.aload_n 0, 1) := by decide +kernel
theorem dX8_shorten_116 : decode cX8_shorten 116 = .ok (.getfield 56, 3) := by decide +kernel
theorem dX8_shorten_119 : decode cX8_shorten 119 = .ok (.iload 5, 2) := by decide +kernel
theorem dX8_shorten_121 : decode cX8_shorten 121 = .ok (.iconst 1, 1) := by decide +kernel
theorem dX8_shorten_122 : decode cX8_shorten 122 = .ok (.iadd, 1) := by decide +kernel
theorem dX8_shorten_123 : decode cX8_shorten 123 = .ok (.iaload, 1) := by decide +kernel
theorem dX8_shorten_124 : decode cX8_shorten 124 = .ok (.ifCond .ne 67, 3) := by decide +kernel
theorem dX8_shorten_127 : decode cX8_shorten 127 = .ok (.aload_n 0, 1) := by decide +kernel
theorem dX8_shorten_128 : decode cX8_shorten 128 = .ok (.iload 4, 2) := by decide +kernel
theorem dX8_shorten_130 : decode cX8_shorten 130 = .ok (.iconst 1, 1) := by decide +kernel
theorem dX8_shorten_131 : decode cX8_shorten 131 = .ok (.iadd, 1) := by decide +kernel
theorem dX8_shorten_132 : decode cX8_shorten 132 = .ok (.invokevirtual 214, 3) := by decide +kernel
theorem dX8_shorten_135 : decode cX8_shorten 135 = .ok (.ifCond .ne 56, 3) := by decide +kernel
theorem dX8_shorten_138 : decode cX8_shorten 138 = .ok (.aload_n 0, 1) := by decide +kernel
theorem dX8_shorten_139 : decode cX8_shorten 139 = .ok (.iconst 0, 1) := by decide +kernel
theorem dX8_shorten_140 : decode cX8_shorten 140 = .ok (.putfield 159, 3) := by decide +kernel
theorem dX8_shorten_143 : decode cX8_shorten 143 = .ok (.aload_n 0, 1) := by decide +kernel
theorem dX8_shorten_144 : decode cX8_shorten 144 = .ok (.iconst 0, 1) := by decide +kernel
theorem dX8_shorten_145 : decode cX8_shorten 145 = .ok (.putfield 162, 3) := by decide +kernel
theorem dX8_shorten_148 : decode cX8_shorten 148 = .ok (.aload_n 0, 1) := by decide +kernel
theorem dX8_shorten_149 : decode cX8_shorten 149 = .ok (.aload_n 0, 1) := by decide +kernel
theorem dX8_shorten_150 : decode cX8_shorten 150 = .ok (.getfield 56, 3) := by decide +kernel
theorem dX8_shorten_153 : decode cX8_shorten 153 = .ok (.iconst 0, 1) := by decide +kernel
theorem dX8_shorten_154 : decode cX8_shorten 154 = .ok (.iload_n 3, 1) := by decide +kernel
theorem dX8_shorten_155 : decode cX8_shorten 155 = .ok (.invokevirtual 169, 3) := by decide +kernel
theorem dX8_shorten_158 : decode cX8_shorten 158 = .ok (.aload_n 0, 1) := by decide +kernel
theorem dX8_shorten_159 : decode cX8_shorten 159 = .ok (.aload_n 0, 1) := by decide +kernel
theorem dX8_shorten_160 : decode cX8_shorten 160 = .ok (.getfield 56, 3) := by decide +kernel
theorem dX8_shorten_163 : decode cX8_shorten 163 = .ok (.iload 4, 2) := by decide +kernel
theorem dX8_shorten_165 : decode cX8_shorten 165 = .ok (.iconst 1, 1) := by decide +kernel
theorem dX8_shorten_166 : decode cX8_shorten 166 = .ok (.iadd, 1) := by decide +kernel
theorem dX8_shorten_167 : decode cX8_shorten 167 = .ok (.iconst (-1), 1) := by decide +kernel
theorem dX8_shorten_168 : decode cX8_shorten 168 = .ok (.invokevirtual 173, 3) := by decide +kernel
theorem dX8_shorten_171 : decode cX8_shorten 171 = .ok (.aload_n 0, 1) := by decide +kernel
theorem dX8_shorten_172 : decode cX8_shorten 172 = .ok (.aload_n 0, 1) := by decide +kernel
theorem dX8_shorten_173 : decode cX8_shorten 173 = .ok (.getfield 56, 3) := by decide +kernel
theorem dX8_shorten_176 : decode cX8_shorten 176 = .ok (.iload 5, 2) := by decide +kernel
theorem dX8_shorten_178 : decode cX8_shorten 178 = .ok (.iconst 2, 1) := by decide +kernel
theorem dX8_shorten_179 : decode cX8_shorten 179 = .ok (.iadd, 1) := by decide +kernel
theorem dX8_shorten_180 : decode cX8_shorten 180 = .ok (.aload_n 0, 1) := by decide +kernel
theorem dX8_shorten_181 : decode cX8_shorten 181 = .ok (.getfield 186, 3) := by decide +kernel
theorem dX8_shorten_184 : decode cX8_shorten 184 = .ok (.invokevirtual 169, 3) := by decide +kernel
theorem dX8_shorten_187 : decode cX8_shorten 187 = .ok (.aload_n 0, 1) := by decide +kernel
theorem dX8_shorten_188 : decode cX8_shorten 188 = .ok (.invokevirtual 208, 3) := by decide +kernel
theorem dX8_shorten_191 : decode cX8_shorten 191 = .ok (.iinc 2 (-1), 3) := by decide +kernel
theorem dX8_shorten_194 : decode cX8_shorten 194 = .ok (.goto (-156), 3) := by decide +kernel
theorem dX8_shorten_197 : decode cX8_shorten 197 = .ok (.return_, 1) := by decide +kernel
theorem dy_X8_shorten : DY yX8_shorten 0 := by decide +kernel
theorem dX8_normalize_0 : decode cX8_normalize 0 = .ok (.iconst 0, 1) := by decide +kernel
theorem dX8_normalize_1 : decode cX8_normalize 1 = .ok (.istore_n 1, 1) := by decide +kernel
theorem dX8_normalize_2 : decode cX8_normalize 2 = .ok (.aload_n 0, 1) := by decide +kernel
theorem dX8_normalize_3 : decode cX8_normalize 3 = .ok (.invokevirtual 189, 3) := by decide +kernel
theorem dX8_normalize_6 : decode cX8_normalize 6 = .ok (.istore_n 2, 1) := by decide +kernel
theorem dX8_normalize_7 : decode cX8_normalize 7 = .ok (.iload_n 2, 1) := by decide +kernel
theorem dX8_normalize_8 : decode cX8_normalize 8 = .ok (.ifCond .lt 230, 3) := by decide +kernel
theorem dX8_normalize_11 : decode cX8_normalize 11 = .ok (.iload_n 1, 1) := by decide +kernel
theorem dX8_normalize_12 : decode cX8_normalize 12 = .ok (.bipush 30, 2) := by decide +kernel
theorem dX8_normalize_14 : decode cX8_normalize 14 = .ok (.if_icmp .eq 18, 3) := by decide +kernel
theorem dX8_normalize_17 : decode cX8_normalize 17 = .ok (.aload_n 0, 1) := by decide +kernel
theorem dX8_normalize_18 : decode cX8_normalize 18 = .ok (.getfield 56, 3) := by decide +kernel
theorem dX8_normalize_21 : decode cX8_normalize 21 = .ok (.iconst 0, 1) := by decide +kernel
theorem dX8_normalize_22 : decode cX8_normalize 22 = .ok (.aload_n 0, 1) := by decide +kernel
theorem dX8_normalize_23 : decode cX8_normalize 23 = .ok (.getfield 186, 3) := by decide +kernel
theorem dX8_normalize_26 : decode cX8_normalize 26 = .ok (.invokestatic 193, 3) := by decide +kernel
theorem dX8_normalize_29 : decode cX8_normalize 29 = .ok (.ifCond .ne 6, 3) := by decide +kernel
theorem dX8_normalize_32 : decode cX8_normalize 32 = .ok (.bipush (-6), 2) := by decide +kernel
theorem dX8_normalize_34 : decode cX8_normalize 34 = .ok (.ireturn, 1) := by decide +kernel
theorem dX8_normalize_35 : decode cX8_normalize 35 = .ok (.aload_n 0, 1) := by decide +kernel
theorem dX8_normalize_36 : decode cX8_normalize 36 = .ok (.getfield 56, 3) := by decide +kernel
theorem dX8_normalize_39 : decode cX8_normalize 39 = .ok (.iload_n 2, 1) := by decide +kernel
theorem dX8_normalize_40 : decode cX8_normalize 40 = .ok (.invokestatic 197, 3) := by decide +kernel
theorem dX8_normalize_43 : decode cX8_normalize 43 = .ok (.istore_n 3, 1) := by decide +kernel
theorem dX8_normalize_44 : decode cX8_normalize 44 = .ok (.aload_n 0, 1) := by decide +kernel
theorem dX8_normalize_45 : decode cX8_normalize 45 = .ok (.iconst 0, 1) := by decide +kernel
theorem dX8_normalize_46 : decode cX8_normalize 46 = .ok (.putfield 159, 3) := by decide +kernel
theorem dX8_normalize_49 : decode cX8_normalize 49 = .ok (.aload_n 0, 1) := by decide +kernel
theorem dX8_normalize_50 : decode cX8_normalize 50 = .ok (.iconst 0, 1) := by decide +kernel
theorem dX8_normalize_51 : decode cX8_normalize 51 = .ok (.putfield 162, 3) := by decide +kernel
theorem dX8_normalize_54 : decode cX8_normalize 54 = .ok (.aload_n 0, 1) := by decide +kernel
theorem dX8_normalize_55 : decode cX8_normalize 55 = .ok (.aload_n 0, 1) := by decide +kernel
theorem dX8_normalize_56 : decode cX8_normalize 56 = .ok (.getfield 56, 3) := by decide +kernel
theorem dX8_normalize_59 : decode cX8_normalize 59 = .ok (.iconst 0, 1) := by decide +kernel
theorem dX8_normalize_60 : decode cX8_normalize 60 = .ok (.iload_n 2, 1) := by decide +kernel
theorem dX8_normalize_61 : decode cX8_normalize 61 = .ok (.invokevirtual 169, 3) := by decide +kernel
theorem dX8_normalize_64 : decode cX8_normalize 64 = .ok (.aload_n 0, 1) := by decide +kernel
theorem dX8_normalize_65 : decode cX8_normalize 65 = .ok (.getfield 56, 3) := by decide +kernel
theorem dX8_normalize_68 : decode cX8_normalize 68 = .ok (.iload_n 2, 1) := by decide +kernel
theorem dX8_normalize_69 : decode cX8_normalize 69 = .ok (.iaload, 1) := by decide +kernel
theorem dX8_normalize_70 : decode cX8_normalize 70 = .ok (.iconst 2, 1) := by decide +kernel
theorem dX8_normalize_71 : decode cX8_normalize 71 = .ok (.if_icmp .ne 30, 3) := by decide +kernel
theorem dX8_normalize_74 : decode cX8_normalize 74 = .ok (.aload_n 0, 1) := by decide +kernel
theorem dX8_normalize_75 : decode cX8_normalize 75 = .ok (.aload_n 0, 1) := by decide +kernel
theorem dX8_normalize_76 : decode cX8_normalize 76 = .ok (.getfield 50, 3) := by decide +kernel
theorem dX8_normalize_79 : decode cX8_normalize 79 = .ok (.aload_n 0, 1) := by decide +kernel
theorem dX8_normalize_80 : decode cX8_normalize 80 = .ok (.getfield 56, 3) := by decide +kernel
theorem dX8_normalize_83 : decode cX8_normalize 83 = .ok (.iload_n 2, 1) := by decide +kernel
theorem dX8_normalize_84 : decode cX8_normalize 84 = .ok (.iconst 1, 1) := by decide +kernel
theorem dX8_normalize_85 : decode cX8_normalize 85 = .ok (.iadd, 1) := by decide +kernel
theorem dX8_normalize_86 : decode cX8_normalize 86 = .ok (.iaload, 1) := by decide +kernel
theorem dX8_normalize_87 : decode cX8_normalize 87 = .ok (.iaload, 1) := by decide +kernel
theorem dX8_normalize_88 : decode cX8_normalize 88 = .ok (.aload_n 0, 1) := by decide +kernel
theorem dX8_normalize_89 : decode cX8_normalize 89 = .ok (.getfield 56, 3) := by decide +kernel
theorem dX8_normalize_92 : decode cX8_normalize 92 = .ok (.iload_n 2, 1) := by decide +kernel
theorem dX8_normalize_93 : decode cX8_normalize 93 = .ok (.iconst 2, 1) := by decide +kernel
theorem dX8_normalize_94 : decode cX8_normalize 94 = .ok (.iadd, 1) := by decide +kernel
theorem dX8_normalize_95 : decode cX8_normalize 95 = .ok (.invokevirtual 200, 3) := by decide +kernel
theorem dX8_normalize_98 : decode cX8_normalize 98 = .ok (.goto 87, 3) := by decide +kernel
theorem dX8_normalize_101 : decode cX8_normalize 101 = .ok (.aload_n 0, 1) := by decide +kernel
theorem dX8_normalize_102 : decode cX8_normalize 102 = .ok (.getfield 56, 3) := by decide +kernel
theorem dX8_normalize_105 : decode cX8_normalize 105 = .ok (.iload_n 2, 1) := by decide +kernel
theorem dX8_normalize_106 : decode cX8_normalize 106 = .ok (.iaload, 1) := by decide +kernel
theorem dX8_normalize_107 : decode cX8_normalize 107 = .ok (.bipush 6, 2) := by decide +kernel
theorem dX8_normalize_109 : decode cX8_normalize 109 = .ok (.if_icmp .ne 41, 3) := by decide +kernel
theorem dX8_normalize_112 : decode cX8_normalize 112 = .ok (.aload_n 0, 1) := by decide +kernel
theorem dX8_normalize_113 : decode cX8_normalize 113 = .ok (.getfield 56, 3) := by decide +kernel
theorem dX8_normalize_116 : decode cX8_normalize 116 = .ok (.iload_n 2, 1) := by decide +kernel
theorem dX8_normalize_117 : decode cX8_normalize 117 = .ok (.iconst 1, 1) := by decide +kernel
theorem dX8_normalize_118 : decode cX8_normalize 118 = .ok (.iadd, 1) := by decide +kernel
theorem dX8_normalize_119 : decode cX8_normalize 119 = .ok (.invokestatic 197, 3) := by decide +kernel
theorem dX8_normalize_122 : decode cX8_normalize 122 = .ok (.istore 4, 2) := by decide +kernel
theorem dX8_normalize_124 : decode cX8_normalize 124 = .ok (.aload_n 0, 1) := by decide +kernel
theorem dX8_normalize_125 : decode cX8_normalize 125 = .ok (.aload_n 0, 1) := by decide +kernel
theorem dX8_normalize_126 : decode cX8_normalize 126 = .ok (.getfield 56, 3) := by decide +kernel
theorem dX8_normalize_129 : decode cX8_normalize 129 = .ok (.aload_n 0, 1) := by decide +kernel
theorem dX8_normalize_130 : decode cX8_normalize 130 = .ok (.getfield 56, 3) := by decide +kernel
theorem dX8_normalize_133 : decode cX8_normalize 133 = .ok (.iload 4, 2) := by decide +kernel
theorem dX8_normalize_135 : decode cX8_normalize 135 = .ok (.invokestatic 197, 3) := by decide +kernel
theorem dX8_normalize_138 : decode cX8_normalize 138 = .ok (.aload_n 0, 1) := by decide +kernel
theorem dX8_normalize_139 : decode cX8_normalize 139 = .ok (.getfield 56, 3) := by decide +kernel
theorem dX8_normalize_142 : decode cX8_normalize 142 = .ok (.iload 4, 2) := by decide +kernel
theorem dX8_normalize_144 : decode cX8_normalize 144 = .ok (.invokevirtual 204, 3) := by decide +kernel
theorem dX8_normalize_147 : decode cX8_normalize 147 = .ok (.goto 38, 3) := by decide +kernel
theorem dX8_normalize_150 : decode cX8_normalize 150 = .ok (.aload_n 0, 1) := by decide +kernel
theorem dX8_normalize_151 : decode cX8_normalize 151 = .ok (.getfield 56, 3) := by decide +kernel
theorem dX8_normalize_154 : decode cX8_normalize 154 = .ok (.iload_n 2, 1) := by decide +kernel
theorem dX8_normalize_155 : decode cX8_normalize 155 = .ok (.iconst 2, 1) := by decide +kernel
theorem dX8_normalize_156 : decode cX8_normalize 156 = .ok (.iadd, 1) := by decide +kernel
theorem dX8_normalize_157 : decode cX8_normalize 157 = .ok (.invokestatic 197, 3) := by decide +kernel
theorem dX8_normalize_160 : decode cX8_normalize 160 = .ok (.istore 4, 2) := by decide +kernel
theorem dX8_normalize_162 : decode cX8_normalize 162 = .ok (.aload_n 0, 1) := by decide +kernel
theorem dX8_normalize_163 : decode cX8_normalize 163 = .ok (.aload_n 0, 1) := by decide +kernel
theorem dX8_normalize_164 : decode cX8_normalize 164 = .ok (.getfield 56, 3) := by decide +kernel
theorem dX8_normalize_167 : decode cX8_normalize 167 = .ok (.iload 4, 2) := by decide +kernel
theorem dX8_normalize_169 : decode cX8_normalize 169 = .ok (.aload_n 0, 1) := by decide +kernel
theorem dX8_normalize_170 : decode cX8_normalize 170 = .ok (.getfield 56, 3) := by decide +kernel
theorem dX8_normalize_173 : decode cX8_normalize 173 = .ok (.aload_n 0, 1) := by decide +kernel
theorem dX8_normalize_174 : decode cX8_normalize 174 = .ok (.getfield 56, 3) := by decide +kernel
theorem dX8_normalize_177 : decode cX8_normalize 177 = .ok (.iload 4, 2) := by decide +kernel
theorem dX8_normalize_179 : decode cX8_normalize 179 = .ok (.invokestatic 197, 3) := by decide +kernel
theorem dX8_normalize_182 : decode cX8_normalize 182 = .ok (.invokevirtual 204, 3) := by decide +kernel
theorem dX8_normalize_185 : decode cX8_normalize 185 = .ok (.aload_n 0, 1) := by decide +kernel
theorem dX8_normalize_186 : decode cX8_normalize 186 = .ok (.aload_n 0, 1) := by decide +kernel
theorem dX8_normalize_187 : decode cX8_normalize 187 = .ok (.getfield 56, 3) := by decide +kernel
theorem dX8_normalize_190 : decode cX8_normalize 190 = .ok (.iload_n 3, 1) := by decide +kernel
theorem dX8_normalize_191 : decode cX8_normalize 191 = .ok (.aload_n 0, 1) := by decide +kernel
theorem dX8_normalize_192 : decode cX8_normalize 192 = .ok (.getfield 186, 3) := by decide +kernel
theorem dX8_normalize_195 : decode cX8_normalize 195 = .ok (.invokevirtual 169, 3) := by decide +kernel
theorem dX8_normalize_198 : decode cX8_normalize 198 = .ok (.aload_n 0, 1) := by decide +kernel
theorem dX8_normalize_199 : decode cX8_normalize 199 = .ok (.getfield 162, 3) := by decide +kernel
theorem dX8_normalize_202 : decode cX8_normalize 202 = .ok (.ifCond .ne 18, 3) := by decide +kernel
theorem dX8_normalize_205 : decode cX8_normalize 205 = .ok (.aload_n 0, 1) := by decide +kernel
theorem dX8_normalize_206 : decode cX8_normalize 206 = .ok (.getfield 59, 3) := by decide +kernel
theorem dX8_normalize_209 : decode cX8_normalize 209 = .ok (.iconst 0, 1) := by decide +kernel
theorem dX8_normalize_210 : decode cX8_normalize 210 = .ok (.aload_n 0, 1) := by decide +kernel
theorem dX8_normalize_211 : decode cX8_normalize 211 = .ok (.getfield 159, 3) := by decide +kernel
theorem dX8_normalize_214 : decode cX8_normalize 214 = .ok (.invokestatic 193, 3) := by decide +kernel
theorem dX8_normalize_217 : decode cX8_normalize 217 = .ok (.ifCond .ne 6, 3) := by decide +kernel
theorem dX8_normalize_220 : decode cX8_normalize 220 = .ok (.bipush (-6), 2) := by decide +kernel
theorem dX8_normalize_222 : decode cX8_normalize 222 = .ok (.ireturn, 1) := by decide +kernel
theorem dX8_normalize_223 : decode cX8_normalize 223 = .ok (.aload_n 0, 1) := by decide +kernel
theorem dX8_normalize_224 : decode cX8_normalize 224 = .ok (.invokevirtual 208, 3) := by decide +kernel
theorem dX8_normalize_227 : decode cX8_normalize 227 = .ok (.iinc 1 1, 3) := by decide +kernel
theorem dX8_normalize_230 : decode cX8_normalize 230 = .ok (.aload_n 0, 1) := by decide +kernel
theorem dX8_normalize_231 : decode cX8_normalize 231 = .ok (.invokevirtual 189, 3) := by decide +kernel
theorem dX8_normalize_234 : decode cX8_normalize 234 = .ok (.istore_n 2, 1) := by decide +kernel
theorem dX8_normalize_235 : decode cX8_normalize 235 = .ok (.goto (-228), 3) := by decide +kernel
theorem dX8_normalize_238 : decode cX8_normalize 238 = .ok (.aload_n 0, 1) := by decide +kernel
theorem dX8_normalize_239 : decode cX8_normalize 239 = .ok (.invokevirtual 211, 3) := by decide +kernel
theorem dX8_normalize_242 : decode cX8_normalize 242 = .ok (.iload_n 1, 1) := by decide +kernel
theorem dX8_normalize_243 : decode cX8_normalize 243 = .ok (.ireturn, 1) := by decide +kernel
theorem dy_X8_normalize : DY yX8_normalize 0 := by decide +kernel
theorem dX8_load_0 : decode cX8_load 0 = .ok (.iload_n 2, 1) := by decide +kernel
theorem dX8_load_1 : decode cX8_load 1 = .ok (.istore 4, 2) := by decide +kernel
theorem dX8_load_3 : decode cX8_load 3 = .ok (.iload 4, 2) := by decide +kernel
theorem dX8_load_5 : decode cX8_load 5 = .ok (.iload_n 3, 1) := by decide +kernel
theorem dX8_load_6 : decode cX8_load 6 = .ok (.if_icmp .ge 22, 3) := by decide +kernel
theorem dX8_load_9 : decode cX8_load 9 = .ok (.aload_n 0, 1) := by decide +kernel
theorem dX8_load_10 : decode cX8_load 10 = .ok (.getfield 56, 3) := by decide +kernel
theorem dX8_load_13 : decode cX8_load 13 = .ok (.iload 4, 2) := by decide +kernel
theorem dX8_load_15 : decode cX8_load 15 = .ok (.iload_n 2, 1) := by decide +kernel
theorem dX8_load_16 : decode cX8_load 16 = .ok (.isub, 1) := by decide +kernel
theorem dX8_load_17 : decode cX8_load 17 = .ok (.aload_n 1, 1) := by decide +kernel
theorem dX8_load_18 : decode cX8_load 18 = .ok (.iload 4, 2) := by decide +kernel
theorem dX8_load_20 : decode cX8_load 20 = .ok (.iaload, 1) := by decide +kernel
theorem dX8_load_21 : decode cX8_load 21 = .ok (.iastore, 1) := by decide +kernel
theorem dX8_load_22 : decode cX8_load 22 = .ok (.iinc 4 1, 3) := by decide +kernel
theorem dX8_load_25 : decode cX8_load 25 = .ok (.goto (-22), 3) := by decide +kernel
theorem dX8_load_28 : decode cX8_load 28 = .ok (.aload_n 0, 1) := by decide +kernel
theorem dX8_load_29 : decode cX8_load 29 = .ok (.iload_n 3, 1) := by decide +kernel
theorem dX8_load_30 : decode cX8_load 30 = .ok (.iload_n 2, 1) := by decide +kernel
theorem dX8_load_31 : decode cX8_load 31 = .ok (.isub, 1) := by decide +kernel
theorem dX8_load_32 : decode cX8_load 32 = .ok (.putfield 186, 3) := by decide +kernel
theorem dX8_load_35 : decode cX8_load 35 = .ok (.return_, 1) := by decide +kernel
theorem dy_X8_load : DY yX8_load 3 := by decide +kernel
theorem dX8_valueOf_0 : decode cX8_valueOf 0 = .ok (.iconst 0, 1) := by decide +kernel
theorem dX8_valueOf_1 : decode cX8_valueOf 1 = .ok (.istore 6, 2) := by decide +kernel
theorem dX8_valueOf_3 : decode cX8_valueOf 3 = .ok (.aload_n 1, 1) := by decide +kernel
theorem dX8_valueOf_4 : decode cX8_valueOf 4 = .ok (.iload_n 2, 1) := by decide +kernel
theorem dX8_valueOf_5 : decode cX8_valueOf 5 = .ok (.invokestatic 144, 3) := by decide +kernel
theorem dX8_valueOf_8 : decode cX8_valueOf 8 = .ok (.iconst 1, 1) := by decide +kernel
theorem dX8_valueOf_9 : decode cX8_valueOf 9 = .ok (.isub, 1) := by decide +kernel
theorem dX8_valueOf_10 : decode cX8_valueOf 10 = .ok (.istore 7, 2) := by decide +kernel
theorem dX8_valueOf_12 : decode cX8_valueOf 12 = .ok (.iload 7, 2) := by decide +kernel
theorem dX8_valueOf_14 : decode cX8_valueOf 14 = .ok (.iload_n 2, 1) := by decide +kernel
theorem dX8_valueOf_15 : decode cX8_valueOf 15 = .ok (.if_icmp .lt 157, 3) := by decide +kernel
theorem dX8_valueOf_18 : decode cX8_valueOf 18 = .ok (.aload_n 1, 1) := by decide +kernel
theorem dX8_valueOf_19 : decode cX8_valueOf 19 = .ok (.iload 7, 2) := by decide +kernel
theorem dX8_valueOf_21 : decode cX8_valueOf 21 = .ok (.iaload, 1) := by decide +kernel
theorem dX8_valueOf_22 : decode cX8_valueOf 22 = .ok (.istore 8, 2) := by decide +kernel
theorem dX8_valueOf_24 : decode cX8_valueOf 24 = .ok (.iload 8, 2) := by decide +kernel
theorem dX8_valueOf_26 : decode cX8_valueOf 26 = .ok (.iconst 1, 1) := by decide +kernel
theorem dX8_valueOf_27 : decode cX8_valueOf 27 = .ok (.if_icmp .ne 19, 3) := by decide +kernel
theorem dX8_valueOf_30 : decode cX8_valueOf 30 = .ok (.aload_n 0, 1) := by decide +kernel
theorem dX8_valueOf_31 : decode cX8_valueOf 31 = .ok (.getfield 75, 3) := by decide +kernel
theorem dX8_valueOf_34 : decode cX8_valueOf 34 = .ok (.iload 6, 2) := by decide +kernel
theorem dX8_valueOf_36 : decode cX8_valueOf 36 = .ok (.iconst 1, 1) := by decide +kernel
theorem dX8_valueOf_37 : decode cX8_valueOf 37 = .ok (.isub, 1) := by decide +kernel
theorem dX8_valueOf_38 : decode cX8_valueOf 38 = .ok (.dup2, 1) := by decide +kernel
theorem dX8_valueOf_39 : decode cX8_valueOf 39 = .ok (.iaload, 1) := by decide +kernel
theorem dX8_valueOf_40 : decode cX8_valueOf 40 = .ok (.iconst 1, 1) := by decide +kernel
theorem dX8_valueOf_41 : decode cX8_valueOf 41 = .ok (.iadd, 1) := by decide +kernel
theorem dX8_valueOf_42 : decode cX8_valueOf 42 = .ok (.iastore, 1) := by decide +kernel
theorem dX8_valueOf_43 : decode cX8_valueOf 43 = .ok (.goto 123, 3) := by decide +kernel
theorem dX8_valueOf_46 : decode cX8_valueOf 46 = .ok (.iload 8, 2) := by decide +kernel
theorem dX8_valueOf_48 : decode cX8_valueOf 48 = .ok (.iconst 2, 1) := by decide +kernel
theorem dX8_valueOf_49 : decode cX8_valueOf 49 = .ok (.if_icmp .eq 9, 3) := by decide +kernel
theorem dX8_valueOf_52 : decode cX8_valueOf 52 = .ok (.iload 8, 2) := by decide +kernel
theorem dX8_valueOf_54 : decode cX8_valueOf 54 = .ok (.iconst 3, 1) := by decide +kernel
theorem dX8_valueOf_55 : decode cX8_valueOf 55 = .ok (.if_icmp .ne 69, 3) := by decide +kernel
theorem dX8_valueOf_58 : decode cX8_valueOf 58 = .ok (.aload_n 0, 1) := by decide +kernel
theorem dX8_valueOf_59 : decode cX8_valueOf 59 = .ok (.getfield 75, 3) := by decide +kernel
theorem dX8_valueOf_62 : decode cX8_valueOf 62 = .ok (.iload 6, 2) := by decide +kernel
theorem dX8_valueOf_64 : decode cX8_valueOf 64 = .ok (.iconst 1, 1) := by decide +kernel
theorem dX8_valueOf_65 : decode cX8_valueOf 65 = .ok (.isub, 1) := by decide +kernel
theorem dX8_valueOf_66 : decode cX8_valueOf 66 = .ok (.iaload, 1) := by decide +kernel
theorem dX8_valueOf_67 : decode cX8_valueOf 67 = .ok (.istore 9, 2) := by decide +kernel
theorem dX8_valueOf_69 : decode cX8_valueOf 69 = .ok (.aload_n 0, 1) := by decide +kernel
theorem dX8_valueOf_70 : decode cX8_valueOf 70 = .ok (.getfield 75, 3) := by decide +kernel
theorem dX8_valueOf_73 : decode cX8_valueOf 73 = .ok (.iload 6, 2) := by decide +kernel
theorem dX8_valueOf_75 : decode cX8_valueOf 75 = .ok (.iconst 2, 1) := by decide +kernel
theorem dX8_valueOf_76 : decode cX8_valueOf 76 = .ok (.isub, 1) := by decide +kernel
theorem dX8_valueOf_77 : decode cX8_valueOf 77 = .ok (.iaload, 1) := by decide +kernel
theorem dX8_valueOf_78 : decode cX8_valueOf 78 = .ok (.istore 10, 2) := by decide +kernel
theorem dX8_valueOf_80 : decode cX8_valueOf 80 = .ok (.iinc 6 (-1), 3) := by decide +kernel
theorem dX8_valueOf_83 : decode cX8_valueOf 83 = .ok (.aload_n 0, 1) := by decide +kernel
theorem dX8_valueOf_84 : decode cX8_valueOf 84 = .ok (.getfield 75, 3) := by decide +kernel
theorem dX8_valueOf_87 : decode cX8_valueOf 87 = .ok (.iload 6, 2) := by decide +kernel
theorem dX8_valueOf_89 : decode cX8_valueOf 89 = .ok (.iconst 1, 1) := by decide +kernel
theorem dX8_valueOf_90 : decode cX8_valueOf 90 = .ok (.isub, 1) := by decide +kernel
theorem dX8_valueOf_91 : decode cX8_valueOf 91 = .ok (.iload 8, 2) := by decide +kernel
theorem dX8_valueOf_93 : decode cX8_valueOf 93 = .ok (.iconst 3, 1) := by decide +kernel
theorem dX8_valueOf_94 : decode cX8_valueOf 94 = .ok (.if_icmp .ne 12, 3) := by decide +kernel
theorem dX8_valueOf_97 : decode cX8_valueOf 97 = .ok (.iload 10, 2) := by decide +kernel
theorem dX8_valueOf_99 : decode cX8_valueOf 99 = .ok (.ifCond .ne 7, 3) := by decide +kernel
theorem dX8_valueOf_102 : decode cX8_valueOf 102 = .ok (.iconst 0, 1) := by decide +kernel
theorem dX8_valueOf_103 : decode cX8_valueOf 103 = .ok (.goto 17, 3) := by decide +kernel
theorem dX8_valueOf_106 : decode cX8_valueOf 106 = .ok (.iload 9, 2) := by decide +kernel
theorem dX8_valueOf_108 : decode cX8_valueOf 108 = .ok (.iload 10, 2) := by decide +kernel
theorem dX8_valueOf_110 : decode cX8_valueOf 110 = .ok (.if_icmp .le 8, 3) := by decide +kernel
theorem dX8_valueOf_113 : decode cX8_valueOf 113 = .ok (.iload 9, 2) := by decide +kernel
theorem dX8_valueOf_115 : decode cX8_valueOf 115 = .ok (.goto 5, 3) := by decide +kernel
theorem dX8_valueOf_118 : decode cX8_valueOf 118 = .ok (.iload 10, 2) := by decide +kernel
theorem dX8_valueOf_120 : decode cX8_valueOf 120 = .ok (.iastore, 1) := by decide +kernel
theorem dX8_valueOf_121 : decode cX8_valueOf 121 = .ok (.goto 45, 3) := by decide +kernel
theorem dX8_valueOf_124 : decode cX8_valueOf 124 = .ok (.aload_n 0, 1) := by decide +kernel
theorem dX8_valueOf_125 : decode cX8_valueOf 125 = .ok (.getfield 75, 3) := by decide +kernel
theorem dX8_valueOf_128 : decode cX8_valueOf 128 = .ok (.iload 6, 2) := by decide +kernel
theorem dX8_valueOf_130 : decode cX8_valueOf 130 = .ok (.iload 8, 2) := by decide +kernel
theorem dX8_valueOf_132 : decode cX8_valueOf 132 = .ok (.ifCond .ne 7, 3) := by decide +kernel
theorem dX8_valueOf_135 : decode cX8_valueOf 135 = .ok (.iconst 0, 1) := by decide +kernel
theorem dX8_valueOf_136 : decode cX8_valueOf 136 = .ok (.goto 26, 3) := by decide +kernel
theorem dX8_valueOf_139 : decode cX8_valueOf 139 = .ok (.iload 8, 2) := by decide +kernel
theorem dX8_valueOf_141 : decode cX8_valueOf 141 = .ok (.iconst 4, 1) := by decide +kernel
theorem dX8_valueOf_142 : decode cX8_valueOf 142 = .ok (.if_icmp .ne 7, 3) := by decide +kernel
theorem dX8_valueOf_145 : decode cX8_valueOf 145 = .ok (.iload_n 3, 1) := by decide +kernel
theorem dX8_valueOf_146 : decode cX8_valueOf 146 = .ok (.goto 16, 3) := by decide +kernel
theorem dX8_valueOf_149 : decode cX8_valueOf 149 = .ok (.iload 8, 2) := by decide +kernel
theorem dX8_valueOf_151 : decode cX8_valueOf 151 = .ok (.iconst 5, 1) := by decide +kernel
theorem dX8_valueOf_152 : decode cX8_valueOf 152 = .ok (.if_icmp .ne 8, 3) := by decide +kernel
theorem dX8_valueOf_155 : decode cX8_valueOf 155 = .ok (.iload 4, 2) := by decide +kernel
theorem dX8_valueOf_157 : decode cX8_valueOf 157 = .ok (.goto 5, 3) := by decide +kernel
theorem dX8_valueOf_160 : decode cX8_valueOf 160 = .ok (.iload 5, 2) := by decide +kernel
theorem dX8_valueOf_162 : decode cX8_valueOf 162 = .ok (.iastore, 1) := by decide +kernel
theorem dX8_valueOf_163 : decode cX8_valueOf 163 = .ok (.iinc 6 1, 3) := by decide +kernel
theorem dX8_valueOf_166 : decode cX8_valueOf 166 = .ok (.iinc 7 (-1), 3) := by decide +kernel
theorem dX8_valueOf_169 : decode cX8_valueOf 169 = .ok (.goto (-157), 3) := by decide +kernel
theorem dX8_valueOf_172 : decode cX8_valueOf 172 = .ok (.aload_n 0, 1) := by decide +kernel
theorem dX8_valueOf_173 : decode cX8_valueOf 173 = .ok (.getfield 75, 3) := by decide +kernel
theorem dX8_valueOf_176 : decode cX8_valueOf 176 = .ok (.iconst 0, 1) := by decide +kernel
theorem dX8_valueOf_177 : decode cX8_valueOf 177 = .ok (.iaload, 1) := by decide +kernel
theorem dX8_valueOf_178 : decode cX8_valueOf 178 = .ok (.ireturn, 1) := by decide +kernel
theorem dy_X8_valueOf : DY yX8_valueOf 5 := by decide +kernel
theorem dX8_isAtMost_0 : decode cX8_isAtMost 0 = .ok (.iconst 1, 1) := by decide +kernel
theorem dX8_isAtMost_1 : decode cX8_isAtMost 1 = .ok (.istore 5, 2) := by decide +kernel
theorem dX8_isAtMost_3 : decode cX8_isAtMost 3 = .ok (.iconst 0, 1) := by decide +kernel
theorem dX8_isAtMost_4 : decode cX8_isAtMost 4 = .ok (.istore 6, 2) := by decide +kernel
theorem dX8_isAtMost_6 : decode cX8_isAtMost 6 = .ok (.iload 6, 2) := by decide +kernel
theorem dX8_isAtMost_8 : decode cX8_isAtMost 8 = .ok (.bipush 27, 2) := by decide +kernel
theorem dX8_isAtMost_10 : decode cX8_isAtMost 10 = .ok (.if_icmp .ge 115, 3) := by decide +kernel
theorem dX8_isAtMost_13 : decode cX8_isAtMost 13 = .ok (.iload 5, 2) := by decide +kernel
theorem dX8_isAtMost_15 : decode cX8_isAtMost 15 = .ok (.ifCond .eq 110, 3) := by decide +kernel
theorem dX8_isAtMost_18 : decode cX8_isAtMost 18 = .ok (.iload 6, 2) := by decide +kernel
theorem dX8_isAtMost_20 : decode cX8_isAtMost 20 = .ok (.iconst 3, 1) := by decide +kernel
theorem dX8_isAtMost_21 : decode cX8_isAtMost 21 = .ok (.irem, 1) := by decide +kernel
theorem dX8_isAtMost_22 : decode cX8_isAtMost 22 = .ok (.iconst 2, 1) := by decide +kernel
theorem dX8_isAtMost_23 : decode cX8_isAtMost 23 = .ok (.if_icmp .ne 9, 3) := by decide +kernel
theorem dX8_isAtMost_26 : decode cX8_isAtMost 26 = .ok (.sipush 1000, 3) := by decide +kernel
theorem dX8_isAtMost_29 : decode cX8_isAtMost 29 = .ok (.goto 7, 3) := by decide +kernel
theorem dX8_isAtMost_32 : decode cX8_isAtMost 32 = .ok (.iload 6, 2) := by decide +kernel
theorem dX8_isAtMost_34 : decode cX8_isAtMost 34 = .ok (.iconst 3, 1) := by decide +kernel
theorem dX8_isAtMost_35 : decode cX8_isAtMost 35 = .ok (.irem, 1) := by decide +kernel
theorem dX8_isAtMost_36 : decode cX8_isAtMost 36 = .ok (.istore 7, 2) := by decide +kernel
theorem dX8_isAtMost_38 : decode cX8_isAtMost 38 = .ok (.iload 6, 2) := by decide +kernel
theorem dX8_isAtMost_40 : decode cX8_isAtMost 40 = .ok (.iconst 3, 1) := by decide +kernel
theorem dX8_isAtMost_41 : decode cX8_isAtMost 41 = .ok (.idiv, 1) := by decide +kernel
theorem dX8_isAtMost_42 : decode cX8_isAtMost 42 = .ok (.iconst 3, 1) := by decide +kernel
theorem dX8_isAtMost_43 : decode cX8_isAtMost 43 = .ok (.irem, 1) := by decide +kernel
theorem dX8_isAtMost_44 : decode cX8_isAtMost 44 = .ok (.iconst 2, 1) := by decide +kernel
theorem dX8_isAtMost_45 : decode cX8_isAtMost 45 = .ok (.if_icmp .ne 9, 3) := by decide +kernel
theorem dX8_isAtMost_48 : decode cX8_isAtMost 48 = .ok (.sipush 1000, 3) := by decide +kernel
theorem dX8_isAtMost_51 : decode cX8_isAtMost 51 = .ok (.goto 9, 3) := by decide +kernel
theorem dX8_isAtMost_54 : decode cX8_isAtMost 54 = .ok (.iload 6, 2) := by decide +kernel
theorem dX8_isAtMost_56 : decode cX8_isAtMost 56 = .ok (.iconst 3, 1) := by decide +kernel
theorem dX8_isAtMost_57 : decode cX8_isAtMost 57 = .ok (.idiv, 1) := by decide +kernel
theorem dX8_isAtMost_58 : decode cX8_isAtMost 58 = .ok (.iconst 3, 1) := by decide +kernel
theorem dX8_isAtMost_59 : decode cX8_isAtMost 59 = .ok (.irem, 1) := by decide +kernel
theorem dX8_isAtMost_60 : decode cX8_isAtMost 60 = .ok (.istore 8, 2) := by decide +kernel
theorem dX8_isAtMost_62 : decode cX8_isAtMost 62 = .ok (.iload 6, 2) := by decide +kernel
theorem dX8_isAtMost_64 : decode cX8_isAtMost 64 = .ok (.bipush 9, 2) := by decide +kernel
theorem dX8_isAtMost_66 : decode cX8_isAtMost 66 = .ok (.idiv, 1) := by decide +kernel
theorem dX8_isAtMost_67 : decode cX8_isAtMost 67 = .ok (.iconst 2, 1) := by decide +kernel
theorem dX8_isAtMost_68 : decode cX8_isAtMost 68 = .ok (.if_icmp .ne 9, 3) := by decide +kernel
theorem dX8_isAtMost_71 : decode cX8_isAtMost 71 = .ok (.sipush 1000, 3) := by decide +kernel
theorem dX8_isAtMost_74 : decode cX8_isAtMost 74 = .ok (.goto 8, 3) := by decide +kernel
theorem dX8_isAtMost_77 : decode cX8_isAtMost 77 = .ok (.iload 6, 2) := by decide +kernel
theorem dX8_isAtMost_79 : decode cX8_isAtMost 79 = .ok (.bipush 9, 2) := by decide +kernel
theorem dX8_isAtMost_81 : decode cX8_isAtMost 81 = .ok (.idiv, 1) := by decide +kernel
theorem dX8_isAtMost_82 : decode cX8_isAtMost 82 = .ok (.istore 9, 2) := by decide +kernel
theorem dX8_isAtMost_84 : decode cX8_isAtMost 84 = .ok (.aload_n 0, 1) := by decide +kernel
theorem dX8_isAtMost_85 : decode cX8_isAtMost 85 = .ok (.aload_n 1, 1) := by decide +kernel
theorem dX8_isAtMost_86 : decode cX8_isAtMost 86 = .ok (.iload_n 2, 1) := by decide +kernel
theorem dX8_isAtMost_87 : decode cX8_isAtMost 87 = .ok (.iload 7, 2) := by decide +kernel
theorem dX8_isAtMost_89 : decode cX8_isAtMost 89 = .ok (.iload 8, 2) := by decide +kernel
theorem dX8_isAtMost_91 : decode cX8_isAtMost 91 = .ok (.iload 9, 2) := by decide +kernel
theorem dX8_isAtMost_93 : decode cX8_isAtMost 93 = .ok (.invokevirtual 217, 3) := by decide +kernel
theorem dX8_isAtMost_96 : decode cX8_isAtMost 96 = .ok (.aload_n 0, 1) := by decide +kernel
theorem dX8_isAtMost_97 : decode cX8_isAtMost 97 = .ok (.aload_n 3, 1) := by decide +kernel
theorem dX8_isAtMost_98 : decode cX8_isAtMost 98 = .ok (.iload 4, 2) := by decide +kernel
theorem dX8_isAtMost_100 : decode cX8_isAtMost 100 = .ok (.iload 7, 2) := by decide +kernel
theorem dX8_isAtMost_102 : decode cX8_isAtMost 102 = .ok (.iload 8, 2) := by decide +kernel
theorem dX8_isAtMost_104 : decode cX8_isAtMost 104 = .ok (.iload 9, 2) := by decide +kernel
theorem dX8_isAtMost_106 : decode cX8_isAtMost 106 = .ok (.invokevirtual 217, 3) := by decide +kernel
theorem dX8_isAtMost_109 : decode cX8_isAtMost 109 = .ok (.if_icmp .gt 7, 3) := by decide +kernel
theorem dX8_isAtMost_112 : decode cX8_isAtMost 112 = .ok (.iconst 1, 1) := by decide +kernel
theorem dX8_isAtMost_113 : decode cX8_isAtMost 113 = .ok (.goto 4, 3) := by decide +kernel
theorem dX8_isAtMost_116 : decode cX8_isAtMost 116 = .ok (.iconst 0, 1) := by decide +kernel
theorem dX8_isAtMost_117 : decode cX8_isAtMost 117 = .ok (.istore 5, 2) := by decide +kernel
theorem dX8_isAtMost_119 : decode cX8_isAtMost 119 = .ok (.iinc 6 1, 3) := by decide +kernel
theorem dX8_isAtMost_122 : decode cX8_isAtMost 122 = .ok (.goto (-116), 3) := by decide +kernel
theorem dX8_isAtMost_125 : decode cX8_isAtMost 125 = .ok (.iload 5, 2) := by decide +kernel
theorem dX8_isAtMost_127 : decode cX8_isAtMost 127 = .ok (.ireturn, 1) := by decide +kernel
theorem dy_X8_isAtMost : DY yX8_isAtMost 4 := by decide +kernel
theorem dX8_isSameLevel_0 : decode cX8_isSameLevel 0 = .ok (.aload_n 0, 1) := by decide +kernel
theorem dX8_isSameLevel_1 : decode cX8_isSameLevel 1 = .ok (.aload_n 1, 1) := by decide +kernel
theorem dX8_isSameLevel_2 : decode cX8_isSameLevel 2 = .ok (.iload_n 2, 1) := by decide +kernel
theorem dX8_isSameLevel_3 : decode cX8_isSameLevel 3 = .ok (.aload_n 3, 1) := by decide +kernel
theorem dX8_isSameLevel_4 : decode cX8_isSameLevel 4 = .ok (.iload 4, 2) := by decide +kernel
theorem dX8_isSameLevel_6 : decode cX8_isSameLevel 6 = .ok (.invokevirtual 221, 3) := by decide +kernel
theorem dX8_isSameLevel_9 : decode cX8_isSameLevel 9 = .ok (.ifCond .eq 19, 3) := by decide +kernel
theorem dX8_isSameLevel_12 : decode cX8_isSameLevel 12 = .ok (.aload_n 0, 1) := by decide +kernel
theorem dX8_isSameLevel_13 : decode cX8_isSameLevel 13 = .ok (.aload_n 3, 1) := by decide +kernel
theorem dX8_isSameLevel_14 : decode cX8_isSameLevel 14 = .ok (.iload 4, 2) := by decide +kernel
theorem dX8_isSameLevel_16 : decode cX8_isSameLevel 16 = .ok (.aload_n 1, 1) := by decide +kernel
theorem dX8_isSameLevel_17 : decode cX8_isSameLevel 17 = .ok (.iload_n 2, 1) := by decide +kernel
theorem dX8_isSameLevel_18 : decode cX8_isSameLevel 18 = .ok (.invokevirtual 221, 3) := by decide +kernel
theorem dX8_isSameLevel_21 : decode cX8_isSameLevel 21 = .ok (.ifCond .eq 7, 3) := by decide +kernel
theorem dX8_isSameLevel_24 : decode cX8_isSameLevel 24 = .ok (.iconst 1, 1) := by decide +kernel
theorem dX8_isSameLevel_25 : decode cX8_isSameLevel 25 = .ok (.goto 4, 3) := by decide +kernel
theorem dX8_isSameLevel_28 : decode cX8_isSameLevel 28 = .ok (.iconst 0, 1) := by decide +kernel
theorem dX8_isSameLevel_29 : decode cX8_isSameLevel 29 = .ok (.ireturn, 1) := by decide +kernel
theorem dy_X8_isSameLevel : DY yX8_isSameLevel 4 := by decide +kernel
theorem dX8_isSame_0 : decode cX8_isSame 0 = .ok (.iload_n 2, 1) := by decide +kernel
theorem dX8_isSame_1 : decode cX8_isSame 1 = .ok (.istore 5, 2) := by decide +kernel
theorem dX8_isSame_3 : decode cX8_isSame 3 = .ok (.iload 4, 2) := by decide +kernel
theorem dX8_isSame_5 : decode cX8_isSame 5 = .ok (.istore 6, 2) := by decide +kernel
theorem dX8_isSame_7 : decode cX8_isSame 7 = .ok (.iconst 1, 1) := by decide +kernel
theorem dX8_isSame_8 : decode cX8_isSame 8 = .ok (.istore 7, 2) := by decide +kernel
theorem dX8_isSame_10 : decode cX8_isSame 10 = .ok (.iconst 1, 1) := by decide +kernel
theorem dX8_isSame_11 : decode cX8_isSame 11 = .ok (.istore 8, 2) := by decide +kernel
theorem dX8_isSame_13 : decode cX8_isSame 13 = .ok (.iload 7, 2) := by decide +kernel
theorem dX8_isSame_15 : decode cX8_isSame 15 = .ok (.ifCond .le 183, 3) := by decide +kernel
theorem dX8_isSame_18 : decode cX8_isSame 18 = .ok (.iload 8, 2) := by decide +kernel
theorem dX8_isSame_20 : decode cX8_isSame 20 = .ok (.ifCond .eq 178, 3) := by decide +kernel
theorem dX8_isSame_23 : decode cX8_isSame 23 = .ok (.aload_n 1, 1) := by decide +kernel
theorem dX8_isSame_24 : decode cX8_isSame 24 = .ok (.iload 5, 2) := by decide +kernel
theorem dX8_isSame_26 : decode cX8_isSame 26 = .ok (.iaload, 1) := by decide +kernel
theorem dX8_isSame_27 : decode cX8_isSame 27 = .ok (.aload_n 3, 1) := by decide +kernel
theorem dX8_isSame_28 : decode cX8_isSame 28 = .ok (.iload 6, 2) := by decide +kernel
theorem dX8_isSame_30 : decode cX8_isSame 30 = .ok (.iaload, 1) := by decide +kernel
theorem dX8_isSame_31 : decode cX8_isSame 31 = .ok (.if_icmp .ne 38, 3) := by decide +kernel
theorem dX8_isSame_34 : decode cX8_isSame 34 = .ok (.aload_n 1, 1) := by decide +kernel
theorem dX8_isSame_35 : decode cX8_isSame 35 = .ok (.iload 5, 2) := by decide +kernel
theorem dX8_isSame_37 : decode cX8_isSame 37 = .ok (.iaload, 1) := by decide +kernel
theorem dX8_isSame_38 : decode cX8_isSame 38 = .ok (.iconst 1, 1) := by decide +kernel
theorem dX8_isSame_39 : decode cX8_isSame 39 = .ok (.if_icmp .eq 11, 3) := by decide +kernel
theorem dX8_isSame_42 : decode cX8_isSame 42 = .ok (.aload_n 1, 1) := by decide +kernel
theorem dX8_isSame_43 : decode cX8_isSame 43 = .ok (.iload 5, 2) := by decide +kernel
theorem dX8_isSame_45 : decode cX8_isSame 45 = .ok (.iaload, 1) := by decide +kernel
theorem dX8_isSame_46 : decode cX8_isSame 46 = .ok (.iconst 2, 1) := by decide +kernel
theorem dX8_isSame_47 : decode cX8_isSame 47 = .ok (.if_icmp .ne 18, 3) := by decide +kernel
theorem dX8_isSame_50 : decode cX8_isSame 50 = .ok (.aload_n 1, 1) := by decide +kernel
theorem dX8_isSame_51 : decode cX8_isSame 51 = .ok (.iload 5, 2) := by decide +kernel
theorem dX8_isSame_53 : decode cX8_isSame 53 = .ok (.iconst 1, 1) := by decide +kernel
theorem dX8_isSame_54 : decode cX8_isSame 54 = .ok (.iadd, 1) := by decide +kernel
theorem dX8_isSame_55 : decode cX8_isSame 55 = .ok (.iaload, 1) := by decide +kernel
theorem dX8_isSame_56 : decode cX8_isSame 56 = .ok (.aload_n 3, 1) := by decide +kernel
theorem dX8_isSame_57 : decode cX8_isSame 57 = .ok (.iload 6, 2) := by decide +kernel
theorem dX8_isSame_59 : decode cX8_isSame 59 = .ok (.iconst 1, 1) := by decide +kernel
theorem dX8_isSame_60 : decode cX8_isSame 60 = .ok (.iadd, 1) := by decide +kernel
theorem dX8_isSame_61 : decode cX8_isSame 61 = .ok (.iaload, 1) := by decide +kernel
theorem dX8_isSame_62 : decode cX8_isSame 62 = .ok (.if_icmp .ne 7, 3) := by decide +kernel
theorem dX8_isSame_65 : decode cX8_isSame 65 = .ok (.iconst 1, 1) := by decide +kernel
theorem dX8_isSame_66 : decode cX8_isSame 66 = .ok (.goto 4, 3) := by decide +kernel
theorem dX8_isSame_69 : decode cX8_isSame 69 = .ok (.iconst 0, 1) := by decide +kernel
theorem dX8_isSame_70 : decode cX8_isSame 70 = .ok (.istore 8, 2) := by decide +kernel
theorem dX8_isSame_72 : decode cX8_isSame 72 = .ok (.iload 8, 2) := by decide +kernel
theorem dX8_isSame_74 : decode cX8_isSame 74 = .ok (.ifCond .eq 29, 3) := by decide +kernel
theorem dX8_isSame_77 : decode cX8_isSame 77 = .ok (.aload_n 1, 1) := by decide +kernel
theorem dX8_isSame_78 : decode cX8_isSame 78 = .ok (.iload 5, 2) := by decide +kernel
theorem dX8_isSame_80 : decode cX8_isSame 80 = .ok (.iaload, 1) := by decide +kernel
theorem dX8_isSame_81 : decode cX8_isSame 81 = .ok (.ifCond .ne 22, 3) := by decide +kernel
theorem dX8_isSame_84 : decode cX8_isSame 84 = .ok (.aload_n 0, 1) := by decide +kernel
theorem dX8_isSame_85 : decode cX8_isSame 85 = .ok (.aload_n 1, 1) := by decide +kernel
theorem dX8_isSame_86 : decode cX8_isSame 86 = .ok (.iload 5, 2) := by decide +kernel
theorem dX8_isSame_88 : decode cX8_isSame 88 = .ok (.iconst 1, 1) := by decide +kernel
theorem dX8_isSame_89 : decode cX8_isSame 89 = .ok (.iadd, 1) := by decide +kernel
theorem dX8_isSame_90 : decode cX8_isSame 90 = .ok (.aload_n 3, 1) := by decide +kernel
theorem dX8_isSame_91 : decode cX8_isSame 91 = .ok (.iload 6, 2) := by decide +kernel
theorem dX8_isSame_93 : decode cX8_isSame 93 = .ok (.iconst 1, 1) := by decide +kernel
theorem dX8_isSame_94 : decode cX8_isSame 94 = .ok (.iadd, 1) := by decide +kernel
theorem dX8_isSame_95 : decode cX8_isSame 95 = .ok (.invokevirtual 225, 3) := by decide +kernel
theorem dX8_isSame_98 : decode cX8_isSame 98 = .ok (.istore 8, 2) := by decide +kernel
theorem dX8_isSame_100 : decode cX8_isSame 100 = .ok (.goto 65, 3) := by decide +kernel
theorem dX8_isSame_103 : decode cX8_isSame 103 = .ok (.iload 8, 2) := by decide +kernel
theorem dX8_isSame_105 : decode cX8_isSame 105 = .ok (.ifCond .eq 60, 3) := by decide +kernel
theorem dX8_isSame_108 : decode cX8_isSame 108 = .ok (.aload_n 1, 1) := by decide +kernel
theorem dX8_isSame_109 : decode cX8_isSame 109 = .ok (.iload 5, 2) := by decide +kernel
theorem dX8_isSame_111 : decode cX8_isSame 111 = .ok (.iaload, 1) := by decide +kernel
theorem dX8_isSame_112 : decode cX8_isSame 112 = .ok (.iconst 2, 1) := by decide +kernel
theorem dX8_isSame_113 : decode cX8_isSame 113 = .ok (.if_icmp .ne 52, 3) := by decide +kernel
theorem dX8_isSame_116 : decode cX8_isSame 116 = .ok (.aload_n 0, 1) := by decide +kernel
theorem dX8_isSame_117 : decode cX8_isSame 117 = .ok (.aload_n 1, 1) := by decide +kernel
theorem dX8_isSame_118 : decode cX8_isSame 118 = .ok (.iload 5, 2) := by decide +kernel
theorem dX8_isSame_120 : decode cX8_isSame 120 = .ok (.iconst 2, 1) := by decide +kernel
theorem dX8_isSame_121 : decode cX8_isSame 121 = .ok (.iadd, 1) := by decide +kernel
theorem dX8_isSame_122 : decode cX8_isSame 122 = .ok (.aload_n 3, 1) := by decide +kernel
theorem dX8_isSame_123 : decode cX8_isSame 123 = .ok (.iload 6, 2) := by decide +kernel
theorem dX8_isSame_125 : decode cX8_isSame 125 = .ok (.iconst 2, 1) := by decide +kernel
theorem dX8_isSame_126 : decode cX8_isSame 126 = .ok (.iadd, 1) := by decide +kernel
theorem dX8_isSame_127 : decode cX8_isSame 127 = .ok (.invokevirtual 225, 3) := by decide +kernel
theorem dX8_isSame_130 : decode cX8_isSame 130 = .ok (.ifCond .eq 32, 3) := by decide +kernel
theorem dX8_isSame_133 : decode cX8_isSame 133 = .ok (.aload_n 0, 1) := by decide +kernel
theorem dX8_isSame_134 : decode cX8_isSame 134 = .ok (.aload_n 1, 1) := by decide +kernel
theorem dX8_isSame_135 : decode cX8_isSame 135 = .ok (.aload_n 1, 1) := by decide +kernel
theorem dX8_isSame_136 : decode cX8_isSame 136 = .ok (.iload 5, 2) := by decide +kernel
theorem dX8_isSame_138 : decode cX8_isSame 138 = .ok (.iconst 2, 1) := by decide +kernel
theorem dX8_isSame_139 : decode cX8_isSame 139 = .ok (.iadd, 1) := by decide +kernel
theorem dX8_isSame_140 : decode cX8_isSame 140 = .ok (.invokestatic 144, 3) := by decide +kernel
theorem dX8_isSame_143 : decode cX8_isSame 143 = .ok (.aload_n 3, 1) := by decide +kernel
theorem dX8_isSame_144 : decode cX8_isSame 144 = .ok (.aload_n 3, 1) := by decide +kernel
theorem dX8_isSame_145 : decode cX8_isSame 145 = .ok (.iload 6, 2) := by decide +kernel
theorem dX8_isSame_147 : decode cX8_isSame 147 = .ok (.iconst 2, 1) := by decide +kernel
theorem dX8_isSame_148 : decode cX8_isSame 148 = .ok (.iadd, 1) := by decide +kernel
theorem dX8_isSame_149 : decode cX8_isSame 149 = .ok (.invokestatic 144, 3) := by decide +kernel
theorem dX8_isSame_152 : decode cX8_isSame 152 = .ok (.invokevirtual 225, 3) := by decide +kernel
theorem dX8_isSame_155 : decode cX8_isSame 155 = .ok (.ifCond .eq 7, 3) := by decide +kernel
theorem dX8_isSame_158 : decode cX8_isSame 158 = .ok (.iconst 1, 1) := by decide +kernel
theorem dX8_isSame_159 : decode cX8_isSame 159 = .ok (.goto 4, 3) := by decide +kernel
theorem dX8_isSame_162 : decode cX8_isSame 162 = .ok (.iconst 0, 1) := by decide +kernel
theorem dX8_isSame_163 : decode cX8_isSame 163 = .ok (.istore 8, 2) := by decide +kernel
theorem dX8_isSame_165 : decode cX8_isSame 165 = .ok (.iload 7, 2) := by decide +kernel
theorem dX8_isSame_167 : decode cX8_isSame 167 = .ok (.aload_n 1, 1) := by decide +kernel
theorem dX8_isSame_168 : decode cX8_isSame 168 = .ok (.iload 5, 2) := by decide +kernel
theorem dX8_isSame_170 : decode cX8_isSame 170 = .ok (.iaload, 1) := by decide +kernel
theorem dX8_isSame_171 : decode cX8_isSame 171 = .ok (.invokestatic 148, 3) := by decide +kernel
theorem dX8_isSame_174 : decode cX8_isSame 174 = .ok (.iconst 1, 1) := by decide +kernel
theorem dX8_isSame_175 : decode cX8_isSame 175 = .ok (.isub, 1) := by decide +kernel
theorem dX8_isSame_176 : decode cX8_isSame 176 = .ok (.iadd, 1) := by decide +kernel
theorem dX8_isSame_177 : decode cX8_isSame 177 = .ok (.istore 7, 2) := by decide +kernel
theorem dX8_isSame_179 : decode cX8_isSame 179 = .ok (.aload_n 1, 1) := by decide +kernel
theorem dX8_isSame_180 : decode cX8_isSame 180 = .ok (.iload 5, 2) := by decide +kernel
theorem dX8_isSame_182 : decode cX8_isSame 182 = .ok (.invokestatic 152, 3) := by decide +kernel
theorem dX8_isSame_185 : decode cX8_isSame 185 = .ok (.istore 5, 2) := by decide +kernel
theorem dX8_isSame_187 : decode cX8_isSame 187 = .ok (.aload_n 3, 1) := by decide +kernel
theorem dX8_isSame_188 : decode cX8_isSame 188 = .ok (.iload 6, 2) := by decide +kernel
theorem dX8_isSame_190 : decode cX8_isSame 190 = .ok (.invokestatic 152, 3) := by decide +kernel
theorem dX8_isSame_193 : decode cX8_isSame 193 = .ok (.istore 6, 2) := by decide +kernel
theorem dX8_isSame_195 : decode cX8_isSame 195 = .ok (.goto (-182), 3) := by decide +kernel
theorem dX8_isSame_198 : decode cX8_isSame 198 = .ok (.iload 8, 2) := by decide +kernel
theorem dX8_isSame_200 : decode cX8_isSame 200 = .ok (.ireturn, 1) := by decide +kernel
theorem dy_X8_isSame : DY yX8_isSame 4 := by decide +kernel
theorem dX8_push_0 : decode cX8_push 0 = .ok (.iload_n 2, 1) := by decide +kernel
theorem dX8_push_1 : decode cX8_push 1 = .ok (.istore 4, 2) := by decide +kernel
theorem dX8_push_3 : decode cX8_push 3 = .ok (.iload 4, 2) := by decide +kernel
theorem dX8_push_5 : decode cX8_push 5 = .ok (.iload_n 3, 1) := by decide +kernel
theorem dX8_push_6 : decode cX8_push 6 = .ok (.if_icmp .ge 32, 3) := by decide +kernel
theorem dX8_push_9 : decode cX8_push 9 = .ok (.aload_n 0, 1) := by decide +kernel
theorem dX8_push_10 : decode cX8_push 10 = .ok (.getfield 66, 3) := by decide +kernel
theorem dX8_push_13 : decode cX8_push 13 = .ok (.aload_n 0, 1) := by decide +kernel
theorem dX8_push_14 : decode cX8_push 14 = .ok (.getfield 228, 3) := by decide +kernel
theorem dX8_push_17 : decode cX8_push 17 = .ok (.aload_n 1, 1) := by decide +kernel
theorem dX8_push_18 : decode cX8_push 18 = .ok (.iload 4, 2) := by decide +kernel
theorem dX8_push_20 : decode cX8_push 20 = .ok (.iaload, 1) := by decide +kernel
theorem dX8_push_21 : decode cX8_push 21 = .ok (.iastore, 1) := by decide +kernel
theorem dX8_push_22 : decode cX8_push 22 = .ok (.aload_n 0, 1) := by decide +kernel
theorem dX8_push_23 : decode cX8_push 23 = .ok (.dup, 1) := by decide +kernel
theorem dX8_push_24 : decode cX8_push 24 = .ok (.getfield 228, 3) := by decide +kernel
theorem dX8_push_27 : decode cX8_push 27 = .ok (.iconst 1, 1) := by decide +kernel
theorem dX8_push_28 : decode cX8_push 28 = .ok (.iadd, 1) := by decide +kernel
theorem dX8_push_29 : decode cX8_push 29 = .ok (.putfield 228, 3) := by decide +kernel
theorem dX8_push_32 : decode cX8_push 32 = .ok (.iinc 4 1, 3) := by decide +kernel
theorem dX8_push_35 : decode cX8_push 35 = .ok (.goto (-32), 3) := by decide +kernel
theorem dX8_push_38 : decode cX8_push 38 = .ok (.return_, 1) := by decide +kernel
theorem dy_X8_push : DY yX8_push 3 := by decide +kernel
theorem dX8_settle_0 : decode cX8_settle 0 = .ok (.aload_n 0, 1) := by decide +kernel
theorem dX8_settle_1 : decode cX8_settle 1 = .ok (.getfield 162, 3) := by decide +kernel
theorem dX8_settle_4 : decode cX8_settle 4 = .ok (.ifCond .ne 18, 3) := by decide +kernel
theorem dX8_settle_7 : decode cX8_settle 7 = .ok (.aload_n 0, 1) := by decide +kernel
theorem dX8_settle_8 : decode cX8_settle 8 = .ok (.getfield 59, 3) := by decide +kernel
theorem dX8_settle_11 : decode cX8_settle 11 = .ok (.iconst 0, 1) := by decide +kernel
theorem dX8_settle_12 : decode cX8_settle 12 = .ok (.aload_n 0, 1) := by decide +kernel
theorem dX8_settle_13 : decode cX8_settle 13 = .ok (.getfield 159, 3) := by decide +kernel
theorem dX8_settle_16 : decode cX8_settle 16 = .ok (.invokestatic 193, 3) := by decide +kernel
theorem dX8_settle_19 : decode cX8_settle 19 = .ok (.ifCond .ne 5, 3) := by decide +kernel
theorem dX8_settle_22 : decode cX8_settle 22 = .ok (.iconst 5, 1) := by decide +kernel
theorem dX8_settle_23 : decode cX8_settle 23 = .ok (.ireturn, 1) := by decide +kernel
theorem dX8_settle_24 : decode cX8_settle 24 = .ok (.aload_n 0, 1) := by decide +kernel
theorem dX8_settle_25 : decode cX8_settle 25 = .ok (.iload_n 1, 1) := by decide +kernel
theorem dX8_settle_26 : decode cX8_settle 26 = .ok (.putfield 228, 3) := by decide +kernel
theorem dX8_settle_29 : decode cX8_settle 29 = .ok (.aload_n 0, 1) := by decide +kernel
theorem dX8_settle_30 : decode cX8_settle 30 = .ok (.aload_n 0, 1) := by decide +kernel
theorem dX8_settle_31 : decode cX8_settle 31 = .ok (.getfield 59, 3) := by decide +kernel
theorem dX8_settle_34 : decode cX8_settle 34 = .ok (.iconst 0, 1) := by decide +kernel
theorem dX8_settle_35 : decode cX8_settle 35 = .ok (.aload_n 0, 1) := by decide +kernel
theorem dX8_settle_36 : decode cX8_settle 36 = .ok (.getfield 159, 3) := by decide +kernel
theorem dX8_settle_39 : decode cX8_settle 39 = .ok (.invokevirtual 231, 3) := by decide +kernel
theorem dX8_settle_42 : decode cX8_settle 42 = .ok (.iconst 0, 1) := by decide +kernel
theorem dX8_settle_43 : decode cX8_settle 43 = .ok (.ireturn, 1) := by decide +kernel
theorem dy_X8_settle : DY yX8_settle 1 := by decide +kernel
theorem dX8_normalAt_0 : decode cX8_normalAt 0 = .ok (.aload_n 0, 1) := by decide +kernel
theorem dX8_normalAt_1 : decode cX8_normalAt 1 = .ok (.aload_n 0, 1) := by decide +kernel
theorem dX8_normalAt_2 : decode cX8_normalAt 2 = .ok (.getfield 66, 3) := by decide +kernel
theorem dX8_normalAt_5 : decode cX8_normalAt 5 = .ok (.iload_n 1, 1) := by decide +kernel
theorem dX8_normalAt_6 : decode cX8_normalAt 6 = .ok (.aload_n 0, 1) := by decide +kernel
theorem dX8_normalAt_7 : decode cX8_normalAt 7 = .ok (.getfield 228, 3) := by decide +kernel
theorem dX8_normalAt_10 : decode cX8_normalAt 10 = .ok (.invokevirtual 234, 3) := by decide +kernel
theorem dX8_normalAt_13 : decode cX8_normalAt 13 = .ok (.aload_n 0, 1) := by decide +kernel
theorem dX8_normalAt_14 : decode cX8_normalAt 14 = .ok (.invokevirtual 237, 3) := by decide +kernel
theorem dX8_normalAt_17 : decode cX8_normalAt 17 = .ok (.ifCond .ge 5, 3) := by decide +kernel
theorem dX8_normalAt_20 : decode cX8_normalAt 20 = .ok (.iconst 5, 1) := by decide +kernel
theorem dX8_normalAt_21 : decode cX8_normalAt 21 = .ok (.ireturn, 1) := by decide +kernel
theorem dX8_normalAt_22 : decode cX8_normalAt 22 = .ok (.aload_n 0, 1) := by decide +kernel
theorem dX8_normalAt_23 : decode cX8_normalAt 23 = .ok (.iload_n 1, 1) := by decide +kernel
theorem dX8_normalAt_24 : decode cX8_normalAt 24 = .ok (.putfield 228, 3) := by decide +kernel
theorem dX8_normalAt_27 : decode cX8_normalAt 27 = .ok (.aload_n 0, 1) := by decide +kernel
theorem dX8_normalAt_28 : decode cX8_normalAt 28 = .ok (.aload_n 0, 1) := by decide +kernel
theorem dX8_normalAt_29 : decode cX8_normalAt 29 = .ok (.getfield 56, 3) := by decide +kernel
theorem dX8_normalAt_32 : decode cX8_normalAt 32 = .ok (.iconst 0, 1) := by decide +kernel
theorem dX8_normalAt_33 : decode cX8_normalAt 33 = .ok (.aload_n 0, 1) := by decide +kernel
theorem dX8_normalAt_34 : decode cX8_normalAt 34 = .ok (.getfield 186, 3) := by decide +kernel
theorem dX8_normalAt_37 : decode cX8_normalAt 37 = .ok (.invokevirtual 231, 3) := by decide +kernel
theorem dX8_normalAt_40 : decode cX8_normalAt 40 = .ok (.iconst 0, 1) := by decide +kernel
theorem dX8_normalAt_41 : decode cX8_normalAt 41 = .ok (.ireturn, 1) := by decide +kernel
theorem dy_X8_normalAt : DY yX8_normalAt 1 := by decide +kernel
abbrev rm_X8_lift : Room := { frames := 2, cells := 0, slots := 0, locals := 45 }
abbrev rm_X8_with : Room := { frames := 3, cells := 0, slots := 0, locals := 74 }
abbrev rm_X8_withLevels : Room := { frames := 2, cells := 0, slots := 0, locals := 45 }
abbrev rm_X8_named : Room := { frames := 3, cells := 0, slots := 0, locals := 72 }
abbrev rm_X8_stepAt : Room := { frames := 2, cells := 0, slots := 0, locals := 44 }
abbrev rm_X8_take : Room := { frames := 0, cells := 0, slots := 0, locals := 0 }
abbrev rm_X8_has : Room := { frames := 2, cells := 0, slots := 0, locals := 44 }
abbrev rm_X8_shorten : Room := { frames := 3, cells := 0, slots := 0, locals := 74 }
abbrev rm_X8_normalize : Room := { frames := 4, cells := 0, slots := 0, locals := 104 }
abbrev rm_X8_load : Room := { frames := 0, cells := 0, slots := 0, locals := 0 }
abbrev rm_X8_valueOf : Room := { frames := 1, cells := 0, slots := 0, locals := 23 }
abbrev rm_X8_isAtMost : Room := { frames := 2, cells := 0, slots := 0, locals := 53 }
abbrev rm_X8_isSameLevel : Room := { frames := 3, cells := 0, slots := 0, locals := 82 }
abbrev rm_X8_isSame : Room := { frames := 4, cells := 0, slots := 0, locals := 106 }
abbrev rm_X8_push : Room := { frames := 0, cells := 0, slots := 0, locals := 0 }
abbrev rm_X8_settle : Room := { frames := 3, cells := 0, slots := 0, locals := 71 }
abbrev rm_X8_normalAt : Room := { frames := 5, cells := 0, slots := 0, locals := 128 }
def j_X8_lift_150 (n : Nat) (K13 : St → Nat → Int32 → Int32 → Int32 → Option (St)) (K115 : St → Nat → Int32 → Int32 → Int32 → Int32 → Int32 → Int32 → Int32 → Option (St)) (S : St) (a1 : Nat) (l3 : Int32) (l4 : Int32) (l5 : Int32) (l6 : Int32) (l7 : Int32) (l8 : Int32) (l9 : Int32) (s0 : Int32) (s1 : Int32) : Option (St) :=
  pI S 376 0 s1 1000 s0 fun S1 =>
  bV (l5 + 1) fun v4 =>
  bV (l9 + (-1)) fun v6 =>
  K115 S1 a1 l3 l4 v4 l6 l7 l8 v6
def j_X8_lift_148 (n : Nat) (K13 : St → Nat → Int32 → Int32 → Int32 → Option (St)) (K115 : St → Nat → Int32 → Int32 → Int32 → Int32 → Int32 → Int32 → Int32 → Option (St)) (S : St) (a1 : Nat) (l3 : Int32) (l4 : Int32) (l5 : Int32) (l6 : Int32) (l7 : Int32) (l8 : Int32) (l9 : Int32) (s0 : Int32) : Option (St) :=
  j_X8_lift_150 n K13 K115 S a1 l3 l4 l5 l6 l7 l8 l9 l6 s0
def l_X8_lift_115 (n : Nat) (K13 : St → Nat → Int32 → Int32 → Int32 → Option (St)) : Nat → St → Nat → Int32 → Int32 → Int32 → Int32 → Int32 → Int32 → Int32 → Option (St)
  | 0, _, _, _, _, _, _, _, _, _ => none
  | m + 1, S, a1, l3, l4, l5, l6, l7, l8, l9 =>
    if l9 ≤ 0 then
      K13 S a1 l3 l7 l5
    else
      if l9 = l8 then
        gI S a1 0 l4 (ln a1) fun v3 =>
        if v3 = 5 then
          j_X8_lift_148 n K13 (fun S a1 l3 l4 l5 l6 l7 l8 l9 => l_X8_lift_115 n K13 m S a1 l3 l4 l5 l6 l7 l8 l9) S a1 l3 l4 l5 l6 l7 l8 l9 l5
        else
          j_X8_lift_150 n K13 (fun S a1 l3 l4 l5 l6 l7 l8 l9 => l_X8_lift_115 n K13 m S a1 l3 l4 l5 l6 l7 l8 l9) S a1 l3 l4 l5 l6 l7 l8 l9 (l6 + 1) l5
      else
        j_X8_lift_148 n K13 (fun S a1 l3 l4 l5 l6 l7 l8 l9 => l_X8_lift_115 n K13 m S a1 l3 l4 l5 l6 l7 l8 l9) S a1 l3 l4 l5 l6 l7 l8 l9 l5
def j_X8_lift_102 (n : Nat) (K13 : St → Nat → Int32 → Int32 → Int32 → Option (St)) (S : St) (a1 : Nat) (l3 : Int32) (l4 : Int32) (l5 : Int32) (l6 : Int32) (l7 : Int32) : Option (St) :=
  gI S a1 0 l4 (ln a1) fun v1 =>
  bI (f_X8_partsOf n S v1) fun S4 v6 =>
  l_X8_lift_115 n K13 n S4 a1 l3 l4 l5 l6 l7 v6 v6
def j_X8_lift_87 (n : Nat) (K13 : St → Nat → Int32 → Int32 → Int32 → Option (St)) (S : St) (a1 : Nat) (l3 : Int32) (l4 : Int32) (l5 : Int32) (l6 : Int32) (l7 : Int32) (s0 : Int32) : Option (St) :=
  bU (f_X8_put n S s0) fun S1 =>
  j_X8_lift_102 n K13 S1 a1 l3 l4 l5 l6 l7
def l_X8_lift_13 (n : Nat) : Nat → St → Nat → Int32 → Int32 → Int32 → Option (St)
  | 0, _, _, _, _, _ => none
  | m + 1, S, a1, l3, l4, l5 =>
    if l5 ≤ 0 then
      some S
    else
      if (S.1 380 0) = 0 then
        bV (l5 + (-1)) fun v3 =>
        gI S 376 0 v3 1000 fun v5 =>
        bI (f_X8_behindToken n S a1 l4) fun S8 v10 =>
        gI S8 a1 0 l4 (ln a1) fun v11 =>
        if v11 = 1 then
          bU (f_X8_put n S8 1) fun S17 =>
          gI S17 a1 0 (l4 + 1) (ln a1) fun v19 =>
          if v19 < v5 then
            gI S17 a1 0 (l4 + 1) (ln a1) fun v23 =>
            j_X8_lift_87 n (fun S a1 l3 l4 l5 => l_X8_lift_13 n m S a1 l3 l4 l5) S17 a1 l3 l4 v3 v5 v10 v23
          else
            gI S17 a1 0 (l4 + 1) (ln a1) fun v26 =>
            j_X8_lift_87 n (fun S a1 l3 l4 l5 => l_X8_lift_13 n m S a1 l3 l4 l5) S17 a1 l3 l4 v3 v5 v10 (v26 + l3)
        else
          bU (f_X8_copy n S8 a1 l4 v10) fun S15 =>
          j_X8_lift_102 n (fun S a1 l3 l4 l5 => l_X8_lift_13 n m S a1 l3 l4 l5) S15 a1 l3 l4 v3 v5 v10
      else
        some S
def f_X8_lift (n : Nat) (S : St) (a1 : Nat) (a2 : Int32) (a3 : Int32) : Option (St) :=
  pI S 376 0 0 1000 0 fun S1 =>
  l_X8_lift_13 n n S1 a1 a3 a2 1
set_option maxRecDepth 100000 in
set_option maxHeartbeats 4000000 in
theorem t_X8_lift_150 {n : Nat} {K13 : St → Nat → Int32 → Int32 → Int32 → Option (St)} {K115 : St → Nat → Int32 → Int32 → Int32 → Int32 → Int32 → Int32 → Int32 → Option (St)} {x : XC} (hx : CX x cX8_lift 10 RX8) (hR : x_R x = rm_X8_lift) (hKS : ∀ k ∈ KM, k ∈ x_K x) {out : St} (hE : EV x cX8_lift out) (hK13 : ∀ {S : St} {a1 : Nat} {l3 : Int32} {l4 : Int32} {l5 : Int32} (_ : (1, a1, 0) ∈ KM), K13 S a1 l3 l4 l5 = some out → WX x 10 0 0 S 13 [(0, .ref (x_ad x 0 7 0)), (1, .ref (x_ad x 1 a1 0)), (3, .int l3), (4, .int l4), (5, .int l5)] []) (hK115 : ∀ {S : St} {a1 : Nat} {l3 : Int32} {l4 : Int32} {l5 : Int32} {l6 : Int32} {l7 : Int32} {l8 : Int32} {l9 : Int32} (_ : (1, a1, 0) ∈ KM), K115 S a1 l3 l4 l5 l6 l7 l8 l9 = some out → WX x 10 0 0 S 115 [(0, .ref (x_ad x 0 7 0)), (1, .ref (x_ad x 1 a1 0)), (3, .int l3), (4, .int l4), (5, .int l5), (6, .int l6), (7, .int l7), (8, .int l8), (9, .int l9)] []) {S : St} {a1 : Nat} {l3 : Int32} {l4 : Int32} {l5 : Int32} {l6 : Int32} {l7 : Int32} {l8 : Int32} {l9 : Int32} {s0 : Int32} {s1 : Int32} (h_a1 : (1, a1, 0) ∈ KM) (h : j_X8_lift_150 n K13 K115 S a1 l3 l4 l5 l6 l7 l8 l9 s0 s1 = some out) : WX x 10 0 0 S 150 [(0, .ref (x_ad x 0 7 0)), (1, .ref (x_ad x 1 a1 0)), (3, .int l3), (4, .int l4), (5, .int l5), (6, .int l6), (7, .int l7), (8, .int l8), (9, .int l9)] [.int s0, .int s1, .ref (x_ad x 1 376 0)] := by
  unfold j_X8_lift_150 at h
  obtain ⟨S1, e2, i3, h⟩ := pI_some h
  refine r_iast hx (k_1_376 hKS) rfl i3 e2 dX8_lift_150 ?_
  obtain ⟨v4, e5, h⟩ := bV_some h
  refine r_iinc (k := 4) (v := v4) (lv' := [(5, .int v4), (0, .ref (x_ad x 0 7 0)), (1, .ref (x_ad x 1 a1 0)), (3, .int l3), (4, .int l4), (6, .int l6), (7, .int l7), (8, .int l8), (9, .int l9)]) hx dX8_lift_151 rfl (by rw [e5]; rfl) (by decide) rfl ?_
  obtain ⟨v6, e7, h⟩ := bV_some h
  refine r_iinc (k := 8) (v := v6) (lv' := [(9, .int v6), (5, .int v4), (0, .ref (x_ad x 0 7 0)), (1, .ref (x_ad x 1 a1 0)), (3, .int l3), (4, .int l4), (6, .int l6), (7, .int l7), (8, .int l8)]) hx dX8_lift_154 rfl (by rw [e7]; rfl) (by decide) rfl ?_
  refine r_goto (tgt := 115) hx dX8_lift_157 (by decide) ?_
  refine WX.sub (lv' := [(0, .ref (x_ad x 0 7 0)), (1, .ref (x_ad x 1 a1 0)), (3, .int l3), (4, .int l4), (5, .int v4), (6, .int l6), (7, .int l7), (8, .int l8), (9, .int v6)]) ?_ [2, 3, 4, 5, 1, 6, 7, 8, 0] rfl
  exact hK115 h_a1 h
set_option maxRecDepth 100000 in
set_option maxHeartbeats 4000000 in
theorem t_X8_lift_148 {n : Nat} {K13 : St → Nat → Int32 → Int32 → Int32 → Option (St)} {K115 : St → Nat → Int32 → Int32 → Int32 → Int32 → Int32 → Int32 → Int32 → Option (St)} {x : XC} (hx : CX x cX8_lift 10 RX8) (hR : x_R x = rm_X8_lift) (hKS : ∀ k ∈ KM, k ∈ x_K x) {out : St} (hE : EV x cX8_lift out) (hK13 : ∀ {S : St} {a1 : Nat} {l3 : Int32} {l4 : Int32} {l5 : Int32} (_ : (1, a1, 0) ∈ KM), K13 S a1 l3 l4 l5 = some out → WX x 10 0 0 S 13 [(0, .ref (x_ad x 0 7 0)), (1, .ref (x_ad x 1 a1 0)), (3, .int l3), (4, .int l4), (5, .int l5)] []) (hK115 : ∀ {S : St} {a1 : Nat} {l3 : Int32} {l4 : Int32} {l5 : Int32} {l6 : Int32} {l7 : Int32} {l8 : Int32} {l9 : Int32} (_ : (1, a1, 0) ∈ KM), K115 S a1 l3 l4 l5 l6 l7 l8 l9 = some out → WX x 10 0 0 S 115 [(0, .ref (x_ad x 0 7 0)), (1, .ref (x_ad x 1 a1 0)), (3, .int l3), (4, .int l4), (5, .int l5), (6, .int l6), (7, .int l7), (8, .int l8), (9, .int l9)] []) {S : St} {a1 : Nat} {l3 : Int32} {l4 : Int32} {l5 : Int32} {l6 : Int32} {l7 : Int32} {l8 : Int32} {l9 : Int32} {s0 : Int32} (h_a1 : (1, a1, 0) ∈ KM) (h : j_X8_lift_148 n K13 K115 S a1 l3 l4 l5 l6 l7 l8 l9 s0 = some out) : WX x 10 0 0 S 148 [(0, .ref (x_ad x 0 7 0)), (1, .ref (x_ad x 1 a1 0)), (3, .int l3), (4, .int l4), (5, .int l5), (6, .int l6), (7, .int l7), (8, .int l8), (9, .int l9)] [.int s0, .ref (x_ad x 1 376 0)] := by
  unfold j_X8_lift_148 at h
  refine r_iload (k0 := 5) hx dX8_lift_148 rfl ?_
  exact t_X8_lift_150 hx hR hKS hE hK13 hK115 h_a1 h
set_option maxRecDepth 100000 in
set_option maxHeartbeats 4000000 in
theorem t_X8_lift_115 {n : Nat} {K13 : St → Nat → Int32 → Int32 → Int32 → Option (St)} {x : XC} (hx : CX x cX8_lift 10 RX8) (hR : x_R x = rm_X8_lift) (hKS : ∀ k ∈ KM, k ∈ x_K x) {out : St} (hE : EV x cX8_lift out) (hK13 : ∀ {S : St} {a1 : Nat} {l3 : Int32} {l4 : Int32} {l5 : Int32} (_ : (1, a1, 0) ∈ KM), K13 S a1 l3 l4 l5 = some out → WX x 10 0 0 S 13 [(0, .ref (x_ad x 0 7 0)), (1, .ref (x_ad x 1 a1 0)), (3, .int l3), (4, .int l4), (5, .int l5)] []) : ∀ {m : Nat} {S : St} {a1 : Nat} {l3 : Int32} {l4 : Int32} {l5 : Int32} {l6 : Int32} {l7 : Int32} {l8 : Int32} {l9 : Int32} (h_a1 : (1, a1, 0) ∈ KM) (h : l_X8_lift_115 n K13 m S a1 l3 l4 l5 l6 l7 l8 l9 = some out), WX x 10 0 0 S 115 [(0, .ref (x_ad x 0 7 0)), (1, .ref (x_ad x 1 a1 0)), (3, .int l3), (4, .int l4), (5, .int l5), (6, .int l6), (7, .int l7), (8, .int l8), (9, .int l9)] [] := by
  intro m
  induction m with
  | zero => intro S a1 l3 l4 l5 l6 l7 l8 l9 h_a1 h; cases h
  | succ m ih =>
    intro S a1 l3 l4 l5 l6 l7 l8 l9 h_a1 h
    unfold l_X8_lift_115 at h
    refine r_iload (k0 := 8) hx dX8_lift_115 rfl ?_
    refine r_if_le (tgt := 160) hx dX8_lift_117 (by decide) (fun c1 => ?_) (fun c1 => ?_)
    · have h := ite_t h c1
      refine r_iload (k0 := 6) hx dX8_lift_160 rfl ?_
      refine r_istore (lv' := [(4, .int l7), (0, .ref (x_ad x 0 7 0)), (1, .ref (x_ad x 1 a1 0)), (3, .int l3), (5, .int l5), (6, .int l6), (7, .int l7), (8, .int l8), (9, .int l9)]) hx dX8_lift_162 (by decide) rfl ?_
      refine r_goto (tgt := 13) hx dX8_lift_164 (by decide) ?_
      refine WX.sub (lv' := [(0, .ref (x_ad x 0 7 0)), (1, .ref (x_ad x 1 a1 0)), (3, .int l3), (4, .int l7), (5, .int l5)]) ?_ [1, 2, 3, 0, 4] rfl
      exact hK13 h_a1 h
    · have h := ite_f h c1
      refine r_aload_n (k0 := 0) hx dX8_lift_120 rfl rfl ?_
      refine g_376 hx (k_0_7 hKS) wf_X8_69 dX8_lift_121 ?_
      refine r_iload (k0 := 4) hx dX8_lift_124 rfl ?_
      refine r_iload (k0 := 8) hx dX8_lift_126 rfl ?_
      refine r_iload (k0 := 7) hx dX8_lift_128 rfl ?_
      refine r_icmp_ne (tgt := 148) hx dX8_lift_130 (by decide) (fun c2 => ?_) (fun c2 => ?_)
      · have h := ite_f h c2
        exact t_X8_lift_148 hx hR hKS hE hK13 ih h_a1 h
      · have h := ite_t h c2
        refine r_aload_n (k0 := 1) hx dX8_lift_133 rfl rfl ?_
        refine r_iload (k0 := 3) hx dX8_lift_134 rfl ?_
        obtain ⟨v3, e4, i5, h⟩ := gI_some h
        refine r_iald hx (hKS _ h_a1) rfl i5 e4 dX8_lift_136 ?_
        refine r_iconst (v := 5) hx dX8_lift_137 (by decide) ?_
        refine r_icmp_eq (tgt := 148) hx dX8_lift_138 (by decide) (fun c6 => ?_) (fun c6 => ?_)
        · have h := ite_t h c6
          exact t_X8_lift_148 hx hR hKS hE hK13 ih h_a1 h
        · have h := ite_f h c6
          refine r_iload (k0 := 5) hx dX8_lift_141 rfl ?_
          refine r_iconst (v := 1) hx dX8_lift_143 (by decide) ?_
          refine r_iadd hx dX8_lift_144 ?_
          refine r_goto (tgt := 150) hx dX8_lift_145 (by decide) ?_
          exact t_X8_lift_150 hx hR hKS hE hK13 ih h_a1 h
set_option maxRecDepth 100000 in
set_option maxHeartbeats 4000000 in
theorem t_X8_lift_102 {n : Nat} {K13 : St → Nat → Int32 → Int32 → Int32 → Option (St)} {x : XC} (hx : CX x cX8_lift 10 RX8) (hR : x_R x = rm_X8_lift) (hKS : ∀ k ∈ KM, k ∈ x_K x) {out : St} (hE : EV x cX8_lift out) (hK13 : ∀ {S : St} {a1 : Nat} {l3 : Int32} {l4 : Int32} {l5 : Int32} (_ : (1, a1, 0) ∈ KM), K13 S a1 l3 l4 l5 = some out → WX x 10 0 0 S 13 [(0, .ref (x_ad x 0 7 0)), (1, .ref (x_ad x 1 a1 0)), (3, .int l3), (4, .int l4), (5, .int l5)] []) {S : St} {a1 : Nat} {l3 : Int32} {l4 : Int32} {l5 : Int32} {l6 : Int32} {l7 : Int32} (h_a1 : (1, a1, 0) ∈ KM) (h : j_X8_lift_102 n K13 S a1 l3 l4 l5 l6 l7 = some out) : WX x 10 0 0 S 102 [(0, .ref (x_ad x 0 7 0)), (1, .ref (x_ad x 1 a1 0)), (3, .int l3), (4, .int l4), (5, .int l5), (6, .int l6), (7, .int l7)] [] := by
  unfold j_X8_lift_102 at h
  refine r_aload_n (k0 := 1) hx dX8_lift_102 rfl rfl ?_
  refine r_iload (k0 := 3) hx dX8_lift_103 rfl ?_
  obtain ⟨v1, e2, i3, h⟩ := gI_some h
  refine r_iald hx (hKS _ h_a1) rfl i3 e2 dX8_lift_105 ?_
  obtain ⟨S4, v6, c5, h⟩ := bI_some h
  refine r_Si (As := [.int v1]) (rest := []) hx (C_X8_partsOf (c := x_y x) hKS c5) wl_X8_148 wt_X8_partsOf wn_X8 wc_X8_partsOf dy_X8_partsOf rfl (by rw [hR]; decide +kernel) rfl (Nat.le_of_ble_eq_true rfl) dX8_lift_106 ?_
  refine r_istore (lv' := [(8, .int v6), (0, .ref (x_ad x 0 7 0)), (1, .ref (x_ad x 1 a1 0)), (3, .int l3), (4, .int l4), (5, .int l5), (6, .int l6), (7, .int l7)]) hx dX8_lift_109 (by decide) rfl ?_
  refine r_iload (k0 := 0) hx dX8_lift_111 rfl ?_
  refine r_istore (lv' := [(9, .int v6), (8, .int v6), (0, .ref (x_ad x 0 7 0)), (1, .ref (x_ad x 1 a1 0)), (3, .int l3), (4, .int l4), (5, .int l5), (6, .int l6), (7, .int l7)]) hx dX8_lift_113 (by decide) rfl ?_
  refine WX.sub (lv' := [(0, .ref (x_ad x 0 7 0)), (1, .ref (x_ad x 1 a1 0)), (3, .int l3), (4, .int l4), (5, .int l5), (6, .int l6), (7, .int l7), (8, .int v6), (9, .int v6)]) ?_ [2, 3, 4, 5, 6, 7, 8, 1, 0] rfl
  exact t_X8_lift_115 hx hR hKS hE hK13 h_a1 h
set_option maxRecDepth 100000 in
set_option maxHeartbeats 4000000 in
theorem t_X8_lift_87 {n : Nat} {K13 : St → Nat → Int32 → Int32 → Int32 → Option (St)} {x : XC} (hx : CX x cX8_lift 10 RX8) (hR : x_R x = rm_X8_lift) (hKS : ∀ k ∈ KM, k ∈ x_K x) {out : St} (hE : EV x cX8_lift out) (hK13 : ∀ {S : St} {a1 : Nat} {l3 : Int32} {l4 : Int32} {l5 : Int32} (_ : (1, a1, 0) ∈ KM), K13 S a1 l3 l4 l5 = some out → WX x 10 0 0 S 13 [(0, .ref (x_ad x 0 7 0)), (1, .ref (x_ad x 1 a1 0)), (3, .int l3), (4, .int l4), (5, .int l5)] []) {S : St} {a1 : Nat} {l3 : Int32} {l4 : Int32} {l5 : Int32} {l6 : Int32} {l7 : Int32} {s0 : Int32} (h_a1 : (1, a1, 0) ∈ KM) (h : j_X8_lift_87 n K13 S a1 l3 l4 l5 l6 l7 s0 = some out) : WX x 10 0 0 S 87 [(0, .ref (x_ad x 0 7 0)), (1, .ref (x_ad x 1 a1 0)), (3, .int l3), (4, .int l4), (5, .int l5), (6, .int l6), (7, .int l7)] [.int s0, .ref (x_ad x 0 7 0)] := by
  unfold j_X8_lift_87 at h
  obtain ⟨S1, c2, h⟩ := bU_some h
  refine r_Vv (ci := 7) (As := [.int s0]) (rest := []) hx (C_X8_put (c := x_y x) hKS c2) (k_0_7 hKS) rfl wl_X8_165 wi_X8_put we_X8_put wn_X8 wc_X8_put dy_X8_put rfl (by rw [hR]; decide +kernel) rfl (Nat.le_of_ble_eq_true rfl) dX8_lift_87 ?_
  refine r_goto (tgt := 102) hx dX8_lift_90 (by decide) ?_
  exact t_X8_lift_102 hx hR hKS hE hK13 h_a1 h
set_option maxRecDepth 100000 in
set_option maxHeartbeats 4000000 in
theorem t_X8_lift_13 {n : Nat} {x : XC} (hx : CX x cX8_lift 10 RX8) (hR : x_R x = rm_X8_lift) (hKS : ∀ k ∈ KM, k ∈ x_K x) {out : St} (hE : EV x cX8_lift out) : ∀ {m : Nat} {S : St} {a1 : Nat} {l3 : Int32} {l4 : Int32} {l5 : Int32} (h_a1 : (1, a1, 0) ∈ KM) (h : l_X8_lift_13 n m S a1 l3 l4 l5 = some out), WX x 10 0 0 S 13 [(0, .ref (x_ad x 0 7 0)), (1, .ref (x_ad x 1 a1 0)), (3, .int l3), (4, .int l4), (5, .int l5)] [] := by
  intro m
  induction m with
  | zero => intro S a1 l3 l4 l5 h_a1 h; cases h
  | succ m ih =>
    intro S a1 l3 l4 l5 h_a1 h
    unfold l_X8_lift_13 at h
    refine r_iload (k0 := 4) hx dX8_lift_13 rfl ?_
    refine r_if_le (tgt := 167) hx dX8_lift_15 (by decide) (fun c1 => ?_) (fun c1 => ?_)
    · have h := ite_t h c1
      exact r_vret hE h dX8_lift_167
    · have h := ite_f h c1
      refine r_aload_n (k0 := 0) hx dX8_lift_18 rfl rfl ?_
      refine g_380 hx (k_0_7 hKS) wf_X8_162 dX8_lift_19 ?_
      refine r_if_ne (tgt := 167) hx dX8_lift_22 (by decide) (fun c2 => ?_) (fun c2 => ?_)
      · have h := ite_f h c2
        exact r_vret hE h dX8_lift_167
      · have h := ite_t h c2
        obtain ⟨v3, e4, h⟩ := bV_some h
        refine r_iinc (k := 4) (v := v3) (lv' := [(5, .int v3), (0, .ref (x_ad x 0 7 0)), (1, .ref (x_ad x 1 a1 0)), (3, .int l3), (4, .int l4)]) hx dX8_lift_25 rfl (by rw [e4]; rfl) (by decide) rfl ?_
        refine r_aload_n (k0 := 1) hx dX8_lift_28 rfl rfl ?_
        refine g_376 hx (k_0_7 hKS) wf_X8_69 dX8_lift_29 ?_
        refine r_iload (k0 := 0) hx dX8_lift_32 rfl ?_
        obtain ⟨v5, e6, i7, h⟩ := gI_some h
        refine r_iald hx (k_1_376 hKS) rfl i7 e6 dX8_lift_34 ?_
        refine r_istore (lv' := [(6, .int v5), (5, .int v3), (0, .ref (x_ad x 0 7 0)), (1, .ref (x_ad x 1 a1 0)), (3, .int l3), (4, .int l4)]) hx dX8_lift_35 (by decide) rfl ?_
        refine r_aload_n (k0 := 3) hx dX8_lift_37 rfl rfl ?_
        refine r_iload (k0 := 5) hx dX8_lift_38 rfl ?_
        obtain ⟨S8, v10, c9, h⟩ := bI_some h
        refine r_Si (As := [.ref (x_ad x 1 a1 0), .int l4]) (rest := []) hx (C_X8_behindToken (c := x_y x) hKS h_a1 c9) wl_X8_152 wt_X8_behindToken wn_X8 wc_X8_behindToken dy_X8_behindToken rfl (by rw [hR]; decide +kernel) rfl (Nat.le_of_ble_eq_true rfl) dX8_lift_40 ?_
        refine r_istore (lv' := [(7, .int v10), (6, .int v5), (5, .int v3), (0, .ref (x_ad x 0 7 0)), (1, .ref (x_ad x 1 a1 0)), (3, .int l3), (4, .int l4)]) hx dX8_lift_43 (by decide) rfl ?_
        refine r_aload_n (k0 := 4) hx dX8_lift_45 rfl rfl ?_
        refine r_iload (k0 := 6) hx dX8_lift_46 rfl ?_
        obtain ⟨v11, e12, i13, h⟩ := gI_some h
        refine r_iald hx (hKS _ h_a1) rfl i13 e12 dX8_lift_48 ?_
        refine r_iconst (v := 1) hx dX8_lift_49 (by decide) ?_
        refine r_icmp_ne (tgt := 93) hx dX8_lift_50 (by decide) (fun c14 => ?_) (fun c14 => ?_)
        · have h := ite_f h c14
          refine r_aload_n (k0 := 3) hx dX8_lift_93 rfl rfl ?_
          refine r_aload_n (k0 := 4) hx dX8_lift_94 rfl rfl ?_
          refine r_iload (k0 := 6) hx dX8_lift_95 rfl ?_
          refine r_iload (k0 := 0) hx dX8_lift_97 rfl ?_
          obtain ⟨S15, c16, h⟩ := bU_some h
          refine r_Vv (ci := 7) (As := [.ref (x_ad x 1 a1 0), .int l4, .int v10]) (rest := []) hx (C_X8_copy (c := x_y x) hKS h_a1 c16) (k_0_7 hKS) rfl wl_X8_169 wi_X8_copy we_X8_copy wn_X8 wc_X8_copy dy_X8_copy rfl (by rw [hR]; decide +kernel) rfl (Nat.le_of_ble_eq_true rfl) dX8_lift_99 ?_
          refine WX.sub (lv' := [(0, .ref (x_ad x 0 7 0)), (1, .ref (x_ad x 1 a1 0)), (3, .int l3), (4, .int l4), (5, .int v3), (6, .int v5), (7, .int v10)]) ?_ [3, 4, 5, 6, 2, 1, 0] rfl
          exact t_X8_lift_102 hx hR hKS hE ih h_a1 h
        · have h := ite_t h c14
          refine r_aload_n (k0 := 3) hx dX8_lift_53 rfl rfl ?_
          refine r_iconst (v := 1) hx dX8_lift_54 (by decide) ?_
          obtain ⟨S17, c18, h⟩ := bU_some h
          refine r_Vv (ci := 7) (As := [.int 1]) (rest := []) hx (C_X8_put (c := x_y x) hKS c18) (k_0_7 hKS) rfl wl_X8_165 wi_X8_put we_X8_put wn_X8 wc_X8_put dy_X8_put rfl (by rw [hR]; decide +kernel) rfl (Nat.le_of_ble_eq_true rfl) dX8_lift_55 ?_
          refine r_aload_n (k0 := 3) hx dX8_lift_58 rfl rfl ?_
          refine r_aload_n (k0 := 4) hx dX8_lift_59 rfl rfl ?_
          refine r_iload (k0 := 6) hx dX8_lift_60 rfl ?_
          refine r_iconst (v := 1) hx dX8_lift_62 (by decide) ?_
          refine r_iadd hx dX8_lift_63 ?_
          obtain ⟨v19, e20, i21, h⟩ := gI_some h
          refine r_iald hx (hKS _ h_a1) rfl i21 e20 dX8_lift_64 ?_
          refine r_iload (k0 := 1) hx dX8_lift_65 rfl ?_
          refine r_icmp_lt (tgt := 81) hx dX8_lift_67 (by decide) (fun c22 => ?_) (fun c22 => ?_)
          · have h := ite_t h c22
            refine r_aload_n (k0 := 4) hx dX8_lift_81 rfl rfl ?_
            refine r_iload (k0 := 6) hx dX8_lift_82 rfl ?_
            refine r_iconst (v := 1) hx dX8_lift_84 (by decide) ?_
            refine r_iadd hx dX8_lift_85 ?_
            obtain ⟨v23, e24, i25, h⟩ := gI_some h
            refine r_iald hx (hKS _ h_a1) rfl i25 e24 dX8_lift_86 ?_
            refine WX.sub (lv' := [(0, .ref (x_ad x 0 7 0)), (1, .ref (x_ad x 1 a1 0)), (3, .int l3), (4, .int l4), (5, .int v3), (6, .int v5), (7, .int v10)]) ?_ [3, 4, 5, 6, 2, 1, 0] rfl
            exact t_X8_lift_87 hx hR hKS hE ih h_a1 h
          · have h := ite_f h c22
            refine r_aload_n (k0 := 4) hx dX8_lift_70 rfl rfl ?_
            refine r_iload (k0 := 6) hx dX8_lift_71 rfl ?_
            refine r_iconst (v := 1) hx dX8_lift_73 (by decide) ?_
            refine r_iadd hx dX8_lift_74 ?_
            obtain ⟨v26, e27, i28, h⟩ := gI_some h
            refine r_iald hx (hKS _ h_a1) rfl i28 e27 dX8_lift_75 ?_
            refine r_iload_n (k0 := 5) hx dX8_lift_76 rfl rfl ?_
            refine r_iadd hx dX8_lift_77 ?_
            refine r_goto (tgt := 87) hx dX8_lift_78 (by decide) ?_
            refine WX.sub (lv' := [(0, .ref (x_ad x 0 7 0)), (1, .ref (x_ad x 1 a1 0)), (3, .int l3), (4, .int l4), (5, .int v3), (6, .int v5), (7, .int v10)]) ?_ [3, 4, 5, 6, 2, 1, 0] rfl
            exact t_X8_lift_87 hx hR hKS hE ih h_a1 h
set_option maxRecDepth 100000 in
set_option maxHeartbeats 4000000 in
theorem t_X8_lift_0 {n : Nat} {x : XC} (hx : CX x cX8_lift 10 RX8) (hR : x_R x = rm_X8_lift) (hKS : ∀ k ∈ KM, k ∈ x_K x) {out : St} (hE : EV x cX8_lift out) {S : St} {a1 : Nat} {a2 : Int32} {a3 : Int32} (h_a1 : (1, a1, 0) ∈ KM) (h : f_X8_lift n S a1 a2 a3 = some out) : WX x 10 0 0 S 0 [(0, .ref (x_ad x 0 7 0)), (1, .ref (x_ad x 1 a1 0)), (2, .int a2), (3, .int a3)] [] := by
  unfold f_X8_lift at h
  refine r_iload_n (k0 := 2) hx dX8_lift_0 rfl rfl ?_
  refine r_istore (lv' := [(4, .int a2), (0, .ref (x_ad x 0 7 0)), (1, .ref (x_ad x 1 a1 0)), (2, .int a2), (3, .int a3)]) hx dX8_lift_1 (by decide) rfl ?_
  refine r_iconst (v := 1) hx dX8_lift_3 (by decide) ?_
  refine r_istore (lv' := [(5, .int 1), (4, .int a2), (0, .ref (x_ad x 0 7 0)), (1, .ref (x_ad x 1 a1 0)), (2, .int a2), (3, .int a3)]) hx dX8_lift_4 (by decide) rfl ?_
  refine r_aload_n (k0 := 2) hx dX8_lift_6 rfl rfl ?_
  refine g_376 hx (k_0_7 hKS) wf_X8_69 dX8_lift_7 ?_
  refine r_iconst (v := 0) hx dX8_lift_10 (by decide) ?_
  refine r_iconst (v := 0) hx dX8_lift_11 (by decide) ?_
  obtain ⟨S1, e2, i3, h⟩ := pI_some h
  refine r_iast hx (k_1_376 hKS) rfl i3 e2 dX8_lift_12 ?_
  refine WX.sub (lv' := [(0, .ref (x_ad x 0 7 0)), (1, .ref (x_ad x 1 a1 0)), (3, .int a3), (4, .int a2), (5, .int 1)]) ?_ [2, 3, 5, 1, 0] rfl
  exact t_X8_lift_13 hx hR hKS hE h_a1 h
set_option maxHeartbeats 4000000 in
theorem C_X8_lift {n : Nat} {c : YC} (hKS : ∀ k ∈ KM, k ∈ c.2.2.2.2) {S : St} {a1 : Nat} {a2 : Int32} {a3 : Int32} {out : St} (h_a1 : (1, a1, 0) ∈ KM) (h : f_X8_lift n S a1 a2 a3 = some out) : MV c yX8_lift cX8_lift 10 none rm_X8_lift S [.ref (c.2.2.1 0 7 0), .ref (c.2.2.1 1 a1 0), .int a2, .int a3] out := mk_V (own := RX8) (by decide +kernel) rfl (Nat.le_of_ble_eq_true rfl) (fun x hx hR hy hE => by subst hy; exact t_X8_lift_0 hx hR hKS hE h_a1 h)
def j_X8_with_181 (n : Nat) (K13 : St → Nat → Nat → Int32 → Int32 → Int32 → Option (St)) (K146 : St → Nat → Nat → Int32 → Int32 → Int32 → Int32 → Int32 → Int32 → Int32 → Option (St)) (S : St) (a1 : Nat) (a3 : Nat) (l4 : Int32) (l5 : Int32) (l6 : Int32) (l7 : Int32) (l8 : Int32) (l9 : Int32) (l10 : Int32) (s0 : Int32) (s1 : Int32) : Option (St) :=
  pI S 377 0 s1 1000 s0 fun S1 =>
  bV (l6 + 1) fun v4 =>
  bV (l10 + (-1)) fun v6 =>
  K146 S1 a1 a3 l4 l5 v4 l7 l8 l9 v6
def j_X8_with_179 (n : Nat) (K13 : St → Nat → Nat → Int32 → Int32 → Int32 → Option (St)) (K146 : St → Nat → Nat → Int32 → Int32 → Int32 → Int32 → Int32 → Int32 → Int32 → Option (St)) (S : St) (a1 : Nat) (a3 : Nat) (l4 : Int32) (l5 : Int32) (l6 : Int32) (l7 : Int32) (l8 : Int32) (l9 : Int32) (l10 : Int32) (s0 : Int32) : Option (St) :=
  j_X8_with_181 n K13 K146 S a1 a3 l4 l5 l6 l7 l8 l9 l10 l7 s0
def l_X8_with_146 (n : Nat) (K13 : St → Nat → Nat → Int32 → Int32 → Int32 → Option (St)) : Nat → St → Nat → Nat → Int32 → Int32 → Int32 → Int32 → Int32 → Int32 → Int32 → Option (St)
  | 0, _, _, _, _, _, _, _, _, _, _ => none
  | m + 1, S, a1, a3, l4, l5, l6, l7, l8, l9, l10 =>
    if l10 ≤ 0 then
      K13 S a1 a3 l4 l8 l6
    else
      if l10 = l9 then
        gI S a1 0 l5 (ln a1) fun v3 =>
        if v3 = 5 then
          j_X8_with_179 n K13 (fun S a1 a3 l4 l5 l6 l7 l8 l9 l10 => l_X8_with_146 n K13 m S a1 a3 l4 l5 l6 l7 l8 l9 l10) S a1 a3 l4 l5 l6 l7 l8 l9 l10 l6
        else
          j_X8_with_181 n K13 (fun S a1 a3 l4 l5 l6 l7 l8 l9 l10 => l_X8_with_146 n K13 m S a1 a3 l4 l5 l6 l7 l8 l9 l10) S a1 a3 l4 l5 l6 l7 l8 l9 l10 (l7 + 1) l6
      else
        j_X8_with_179 n K13 (fun S a1 a3 l4 l5 l6 l7 l8 l9 l10 => l_X8_with_146 n K13 m S a1 a3 l4 l5 l6 l7 l8 l9 l10) S a1 a3 l4 l5 l6 l7 l8 l9 l10 l6
def j_X8_with_133 (n : Nat) (K13 : St → Nat → Nat → Int32 → Int32 → Int32 → Option (St)) (S : St) (a1 : Nat) (a3 : Nat) (l4 : Int32) (l5 : Int32) (l6 : Int32) (l7 : Int32) (l8 : Int32) : Option (St) :=
  gI S a1 0 l5 (ln a1) fun v1 =>
  bI (f_X8_partsOf n S v1) fun S4 v6 =>
  l_X8_with_146 n K13 n S4 a1 a3 l4 l5 l6 l7 l8 v6 v6
def j_X8_with_118 (n : Nat) (K13 : St → Nat → Nat → Int32 → Int32 → Int32 → Option (St)) (S : St) (a1 : Nat) (a3 : Nat) (l4 : Int32) (l5 : Int32) (l6 : Int32) (l7 : Int32) (l8 : Int32) (s0 : Int32) : Option (St) :=
  bU (f_X8_put n S s0) fun S1 =>
  j_X8_with_133 n K13 S1 a1 a3 l4 l5 l6 l7 l8
def j_X8_with_76 (n : Nat) (K13 : St → Nat → Nat → Int32 → Int32 → Int32 → Option (St)) (S : St) (a1 : Nat) (a3 : Nat) (l4 : Int32) (l5 : Int32) (l6 : Int32) (l7 : Int32) (l8 : Int32) : Option (St) :=
  gI S a1 0 l5 (ln a1) fun v1 =>
  if v1 = 1 then
    bU (f_X8_put n S 1) fun S7 =>
    gI S7 a1 0 (l5 + 1) (ln a1) fun v9 =>
    if v9 ≤ l7 then
      gI S7 a1 0 (l5 + 1) (ln a1) fun v13 =>
      j_X8_with_118 n K13 S7 a1 a3 l4 l5 l6 l7 l8 v13
    else
      gI S7 a1 0 (l5 + 1) (ln a1) fun v16 =>
      j_X8_with_118 n K13 S7 a1 a3 l4 l5 l6 l7 l8 (v16 - 1)
  else
    bU (f_X8_copy n S a1 l5 l8) fun S5 =>
    j_X8_with_133 n K13 S5 a1 a3 l4 l5 l6 l7 l8
def l_X8_with_13 (n : Nat) : Nat → St → Nat → Nat → Int32 → Int32 → Int32 → Option (St)
  | 0, _, _, _, _, _, _ => none
  | m + 1, S, a1, a3, l4, l5, l6 =>
    if l6 ≤ 0 then
      some S
    else
      if (S.1 380 0) = 0 then
        bV (l6 + (-1)) fun v3 =>
        gI S 377 0 v3 1000 fun v5 =>
        bI (f_X8_behindToken n S a1 l5) fun S8 v10 =>
        gI S8 a1 0 l5 (ln a1) fun v11 =>
        if v11 = 1 then
          gI S8 a1 0 (l5 + 1) (ln a1) fun v15 =>
          if v15 = v5 then
            bU (f_X8_lift n S8 a3 l4 v5) fun S19 =>
            j_X8_with_133 n (fun S a1 a3 l4 l5 l6 => l_X8_with_13 n m S a1 a3 l4 l5 l6) S19 a1 a3 l4 l5 v3 v5 v10
          else
            j_X8_with_76 n (fun S a1 a3 l4 l5 l6 => l_X8_with_13 n m S a1 a3 l4 l5 l6) S8 a1 a3 l4 l5 v3 v5 v10
        else
          j_X8_with_76 n (fun S a1 a3 l4 l5 l6 => l_X8_with_13 n m S a1 a3 l4 l5 l6) S8 a1 a3 l4 l5 v3 v5 v10
      else
        some S
def f_X8_with (n : Nat) (S : St) (a1 : Nat) (a2 : Int32) (a3 : Nat) (a4 : Int32) : Option (St) :=
  pI S 377 0 0 1000 0 fun S1 =>
  l_X8_with_13 n n S1 a1 a3 a4 a2 1
set_option maxRecDepth 100000 in
set_option maxHeartbeats 4000000 in
theorem t_X8_with_181 {n : Nat} {K13 : St → Nat → Nat → Int32 → Int32 → Int32 → Option (St)} {K146 : St → Nat → Nat → Int32 → Int32 → Int32 → Int32 → Int32 → Int32 → Int32 → Option (St)} {x : XC} (hx : CX x cX8_with 11 RX8) (hR : x_R x = rm_X8_with) (hKS : ∀ k ∈ KM, k ∈ x_K x) {out : St} (hE : EV x cX8_with out) (hK13 : ∀ {S : St} {a1 : Nat} {a3 : Nat} {l4 : Int32} {l5 : Int32} {l6 : Int32} (_ : (1, a1, 0) ∈ KM) (_ : (1, a3, 0) ∈ KM), K13 S a1 a3 l4 l5 l6 = some out → WX x 11 0 0 S 13 [(0, .ref (x_ad x 0 7 0)), (1, .ref (x_ad x 1 a1 0)), (3, .ref (x_ad x 1 a3 0)), (4, .int l4), (5, .int l5), (6, .int l6)] []) (hK146 : ∀ {S : St} {a1 : Nat} {a3 : Nat} {l4 : Int32} {l5 : Int32} {l6 : Int32} {l7 : Int32} {l8 : Int32} {l9 : Int32} {l10 : Int32} (_ : (1, a1, 0) ∈ KM) (_ : (1, a3, 0) ∈ KM), K146 S a1 a3 l4 l5 l6 l7 l8 l9 l10 = some out → WX x 11 0 0 S 146 [(0, .ref (x_ad x 0 7 0)), (1, .ref (x_ad x 1 a1 0)), (3, .ref (x_ad x 1 a3 0)), (4, .int l4), (5, .int l5), (6, .int l6), (7, .int l7), (8, .int l8), (9, .int l9), (10, .int l10)] []) {S : St} {a1 : Nat} {a3 : Nat} {l4 : Int32} {l5 : Int32} {l6 : Int32} {l7 : Int32} {l8 : Int32} {l9 : Int32} {l10 : Int32} {s0 : Int32} {s1 : Int32} (h_a1 : (1, a1, 0) ∈ KM) (h_a3 : (1, a3, 0) ∈ KM) (h : j_X8_with_181 n K13 K146 S a1 a3 l4 l5 l6 l7 l8 l9 l10 s0 s1 = some out) : WX x 11 0 0 S 181 [(0, .ref (x_ad x 0 7 0)), (1, .ref (x_ad x 1 a1 0)), (3, .ref (x_ad x 1 a3 0)), (4, .int l4), (5, .int l5), (6, .int l6), (7, .int l7), (8, .int l8), (9, .int l9), (10, .int l10)] [.int s0, .int s1, .ref (x_ad x 1 377 0)] := by
  unfold j_X8_with_181 at h
  obtain ⟨S1, e2, i3, h⟩ := pI_some h
  refine r_iast hx (k_1_377 hKS) rfl i3 e2 dX8_with_181 ?_
  obtain ⟨v4, e5, h⟩ := bV_some h
  refine r_iinc (k := 5) (v := v4) (lv' := [(6, .int v4), (0, .ref (x_ad x 0 7 0)), (1, .ref (x_ad x 1 a1 0)), (3, .ref (x_ad x 1 a3 0)), (4, .int l4), (5, .int l5), (7, .int l7), (8, .int l8), (9, .int l9), (10, .int l10)]) hx dX8_with_182 rfl (by rw [e5]; rfl) (by decide) rfl ?_
  obtain ⟨v6, e7, h⟩ := bV_some h
  refine r_iinc (k := 9) (v := v6) (lv' := [(10, .int v6), (6, .int v4), (0, .ref (x_ad x 0 7 0)), (1, .ref (x_ad x 1 a1 0)), (3, .ref (x_ad x 1 a3 0)), (4, .int l4), (5, .int l5), (7, .int l7), (8, .int l8), (9, .int l9)]) hx dX8_with_185 rfl (by rw [e7]; rfl) (by decide) rfl ?_
  refine r_goto (tgt := 146) hx dX8_with_188 (by decide) ?_
  refine WX.sub (lv' := [(0, .ref (x_ad x 0 7 0)), (1, .ref (x_ad x 1 a1 0)), (3, .ref (x_ad x 1 a3 0)), (4, .int l4), (5, .int l5), (6, .int v4), (7, .int l7), (8, .int l8), (9, .int l9), (10, .int v6)]) ?_ [2, 3, 4, 5, 6, 1, 7, 8, 9, 0] rfl
  exact hK146 h_a1 h_a3 h
set_option maxRecDepth 100000 in
set_option maxHeartbeats 4000000 in
theorem t_X8_with_179 {n : Nat} {K13 : St → Nat → Nat → Int32 → Int32 → Int32 → Option (St)} {K146 : St → Nat → Nat → Int32 → Int32 → Int32 → Int32 → Int32 → Int32 → Int32 → Option (St)} {x : XC} (hx : CX x cX8_with 11 RX8) (hR : x_R x = rm_X8_with) (hKS : ∀ k ∈ KM, k ∈ x_K x) {out : St} (hE : EV x cX8_with out) (hK13 : ∀ {S : St} {a1 : Nat} {a3 : Nat} {l4 : Int32} {l5 : Int32} {l6 : Int32} (_ : (1, a1, 0) ∈ KM) (_ : (1, a3, 0) ∈ KM), K13 S a1 a3 l4 l5 l6 = some out → WX x 11 0 0 S 13 [(0, .ref (x_ad x 0 7 0)), (1, .ref (x_ad x 1 a1 0)), (3, .ref (x_ad x 1 a3 0)), (4, .int l4), (5, .int l5), (6, .int l6)] []) (hK146 : ∀ {S : St} {a1 : Nat} {a3 : Nat} {l4 : Int32} {l5 : Int32} {l6 : Int32} {l7 : Int32} {l8 : Int32} {l9 : Int32} {l10 : Int32} (_ : (1, a1, 0) ∈ KM) (_ : (1, a3, 0) ∈ KM), K146 S a1 a3 l4 l5 l6 l7 l8 l9 l10 = some out → WX x 11 0 0 S 146 [(0, .ref (x_ad x 0 7 0)), (1, .ref (x_ad x 1 a1 0)), (3, .ref (x_ad x 1 a3 0)), (4, .int l4), (5, .int l5), (6, .int l6), (7, .int l7), (8, .int l8), (9, .int l9), (10, .int l10)] []) {S : St} {a1 : Nat} {a3 : Nat} {l4 : Int32} {l5 : Int32} {l6 : Int32} {l7 : Int32} {l8 : Int32} {l9 : Int32} {l10 : Int32} {s0 : Int32} (h_a1 : (1, a1, 0) ∈ KM) (h_a3 : (1, a3, 0) ∈ KM) (h : j_X8_with_179 n K13 K146 S a1 a3 l4 l5 l6 l7 l8 l9 l10 s0 = some out) : WX x 11 0 0 S 179 [(0, .ref (x_ad x 0 7 0)), (1, .ref (x_ad x 1 a1 0)), (3, .ref (x_ad x 1 a3 0)), (4, .int l4), (5, .int l5), (6, .int l6), (7, .int l7), (8, .int l8), (9, .int l9), (10, .int l10)] [.int s0, .ref (x_ad x 1 377 0)] := by
  unfold j_X8_with_179 at h
  refine r_iload (k0 := 6) hx dX8_with_179 rfl ?_
  exact t_X8_with_181 hx hR hKS hE hK13 hK146 h_a1 h_a3 h
set_option maxRecDepth 100000 in
set_option maxHeartbeats 4000000 in
theorem t_X8_with_146 {n : Nat} {K13 : St → Nat → Nat → Int32 → Int32 → Int32 → Option (St)} {x : XC} (hx : CX x cX8_with 11 RX8) (hR : x_R x = rm_X8_with) (hKS : ∀ k ∈ KM, k ∈ x_K x) {out : St} (hE : EV x cX8_with out) (hK13 : ∀ {S : St} {a1 : Nat} {a3 : Nat} {l4 : Int32} {l5 : Int32} {l6 : Int32} (_ : (1, a1, 0) ∈ KM) (_ : (1, a3, 0) ∈ KM), K13 S a1 a3 l4 l5 l6 = some out → WX x 11 0 0 S 13 [(0, .ref (x_ad x 0 7 0)), (1, .ref (x_ad x 1 a1 0)), (3, .ref (x_ad x 1 a3 0)), (4, .int l4), (5, .int l5), (6, .int l6)] []) : ∀ {m : Nat} {S : St} {a1 : Nat} {a3 : Nat} {l4 : Int32} {l5 : Int32} {l6 : Int32} {l7 : Int32} {l8 : Int32} {l9 : Int32} {l10 : Int32} (h_a1 : (1, a1, 0) ∈ KM) (h_a3 : (1, a3, 0) ∈ KM) (h : l_X8_with_146 n K13 m S a1 a3 l4 l5 l6 l7 l8 l9 l10 = some out), WX x 11 0 0 S 146 [(0, .ref (x_ad x 0 7 0)), (1, .ref (x_ad x 1 a1 0)), (3, .ref (x_ad x 1 a3 0)), (4, .int l4), (5, .int l5), (6, .int l6), (7, .int l7), (8, .int l8), (9, .int l9), (10, .int l10)] [] := by
  intro m
  induction m with
  | zero => intro S a1 a3 l4 l5 l6 l7 l8 l9 l10 h_a1 h_a3 h; cases h
  | succ m ih =>
    intro S a1 a3 l4 l5 l6 l7 l8 l9 l10 h_a1 h_a3 h
    unfold l_X8_with_146 at h
    refine r_iload (k0 := 9) hx dX8_with_146 rfl ?_
    refine r_if_le (tgt := 191) hx dX8_with_148 (by decide) (fun c1 => ?_) (fun c1 => ?_)
    · have h := ite_t h c1
      refine r_iload (k0 := 7) hx dX8_with_191 rfl ?_
      refine r_istore (lv' := [(5, .int l8), (0, .ref (x_ad x 0 7 0)), (1, .ref (x_ad x 1 a1 0)), (3, .ref (x_ad x 1 a3 0)), (4, .int l4), (6, .int l6), (7, .int l7), (8, .int l8), (9, .int l9), (10, .int l10)]) hx dX8_with_193 (by decide) rfl ?_
      refine r_goto (tgt := 13) hx dX8_with_195 (by decide) ?_
      refine WX.sub (lv' := [(0, .ref (x_ad x 0 7 0)), (1, .ref (x_ad x 1 a1 0)), (3, .ref (x_ad x 1 a3 0)), (4, .int l4), (5, .int l8), (6, .int l6)]) ?_ [1, 2, 3, 4, 0, 5] rfl
      exact hK13 h_a1 h_a3 h
    · have h := ite_f h c1
      refine r_aload_n (k0 := 0) hx dX8_with_151 rfl rfl ?_
      refine g_377 hx (k_0_7 hKS) wf_X8_72 dX8_with_152 ?_
      refine r_iload (k0 := 5) hx dX8_with_155 rfl ?_
      refine r_iload (k0 := 9) hx dX8_with_157 rfl ?_
      refine r_iload (k0 := 8) hx dX8_with_159 rfl ?_
      refine r_icmp_ne (tgt := 179) hx dX8_with_161 (by decide) (fun c2 => ?_) (fun c2 => ?_)
      · have h := ite_f h c2
        exact t_X8_with_179 hx hR hKS hE hK13 ih h_a1 h_a3 h
      · have h := ite_t h c2
        refine r_aload_n (k0 := 1) hx dX8_with_164 rfl rfl ?_
        refine r_iload (k0 := 4) hx dX8_with_165 rfl ?_
        obtain ⟨v3, e4, i5, h⟩ := gI_some h
        refine r_iald hx (hKS _ h_a1) rfl i5 e4 dX8_with_167 ?_
        refine r_iconst (v := 5) hx dX8_with_168 (by decide) ?_
        refine r_icmp_eq (tgt := 179) hx dX8_with_169 (by decide) (fun c6 => ?_) (fun c6 => ?_)
        · have h := ite_t h c6
          exact t_X8_with_179 hx hR hKS hE hK13 ih h_a1 h_a3 h
        · have h := ite_f h c6
          refine r_iload (k0 := 6) hx dX8_with_172 rfl ?_
          refine r_iconst (v := 1) hx dX8_with_174 (by decide) ?_
          refine r_iadd hx dX8_with_175 ?_
          refine r_goto (tgt := 181) hx dX8_with_176 (by decide) ?_
          exact t_X8_with_181 hx hR hKS hE hK13 ih h_a1 h_a3 h
set_option maxRecDepth 100000 in
set_option maxHeartbeats 4000000 in
theorem t_X8_with_133 {n : Nat} {K13 : St → Nat → Nat → Int32 → Int32 → Int32 → Option (St)} {x : XC} (hx : CX x cX8_with 11 RX8) (hR : x_R x = rm_X8_with) (hKS : ∀ k ∈ KM, k ∈ x_K x) {out : St} (hE : EV x cX8_with out) (hK13 : ∀ {S : St} {a1 : Nat} {a3 : Nat} {l4 : Int32} {l5 : Int32} {l6 : Int32} (_ : (1, a1, 0) ∈ KM) (_ : (1, a3, 0) ∈ KM), K13 S a1 a3 l4 l5 l6 = some out → WX x 11 0 0 S 13 [(0, .ref (x_ad x 0 7 0)), (1, .ref (x_ad x 1 a1 0)), (3, .ref (x_ad x 1 a3 0)), (4, .int l4), (5, .int l5), (6, .int l6)] []) {S : St} {a1 : Nat} {a3 : Nat} {l4 : Int32} {l5 : Int32} {l6 : Int32} {l7 : Int32} {l8 : Int32} (h_a1 : (1, a1, 0) ∈ KM) (h_a3 : (1, a3, 0) ∈ KM) (h : j_X8_with_133 n K13 S a1 a3 l4 l5 l6 l7 l8 = some out) : WX x 11 0 0 S 133 [(0, .ref (x_ad x 0 7 0)), (1, .ref (x_ad x 1 a1 0)), (3, .ref (x_ad x 1 a3 0)), (4, .int l4), (5, .int l5), (6, .int l6), (7, .int l7), (8, .int l8)] [] := by
  unfold j_X8_with_133 at h
  refine r_aload_n (k0 := 1) hx dX8_with_133 rfl rfl ?_
  refine r_iload (k0 := 4) hx dX8_with_134 rfl ?_
  obtain ⟨v1, e2, i3, h⟩ := gI_some h
  refine r_iald hx (hKS _ h_a1) rfl i3 e2 dX8_with_136 ?_
  obtain ⟨S4, v6, c5, h⟩ := bI_some h
  refine r_Si (As := [.int v1]) (rest := []) hx (C_X8_partsOf (c := x_y x) hKS c5) wl_X8_148 wt_X8_partsOf wn_X8 wc_X8_partsOf dy_X8_partsOf rfl (by rw [hR]; decide +kernel) rfl (Nat.le_of_ble_eq_true rfl) dX8_with_137 ?_
  refine r_istore (lv' := [(9, .int v6), (0, .ref (x_ad x 0 7 0)), (1, .ref (x_ad x 1 a1 0)), (3, .ref (x_ad x 1 a3 0)), (4, .int l4), (5, .int l5), (6, .int l6), (7, .int l7), (8, .int l8)]) hx dX8_with_140 (by decide) rfl ?_
  refine r_iload (k0 := 0) hx dX8_with_142 rfl ?_
  refine r_istore (lv' := [(10, .int v6), (9, .int v6), (0, .ref (x_ad x 0 7 0)), (1, .ref (x_ad x 1 a1 0)), (3, .ref (x_ad x 1 a3 0)), (4, .int l4), (5, .int l5), (6, .int l6), (7, .int l7), (8, .int l8)]) hx dX8_with_144 (by decide) rfl ?_
  refine WX.sub (lv' := [(0, .ref (x_ad x 0 7 0)), (1, .ref (x_ad x 1 a1 0)), (3, .ref (x_ad x 1 a3 0)), (4, .int l4), (5, .int l5), (6, .int l6), (7, .int l7), (8, .int l8), (9, .int v6), (10, .int v6)]) ?_ [2, 3, 4, 5, 6, 7, 8, 9, 1, 0] rfl
  exact t_X8_with_146 hx hR hKS hE hK13 h_a1 h_a3 h
set_option maxRecDepth 100000 in
set_option maxHeartbeats 4000000 in
theorem t_X8_with_118 {n : Nat} {K13 : St → Nat → Nat → Int32 → Int32 → Int32 → Option (St)} {x : XC} (hx : CX x cX8_with 11 RX8) (hR : x_R x = rm_X8_with) (hKS : ∀ k ∈ KM, k ∈ x_K x) {out : St} (hE : EV x cX8_with out) (hK13 : ∀ {S : St} {a1 : Nat} {a3 : Nat} {l4 : Int32} {l5 : Int32} {l6 : Int32} (_ : (1, a1, 0) ∈ KM) (_ : (1, a3, 0) ∈ KM), K13 S a1 a3 l4 l5 l6 = some out → WX x 11 0 0 S 13 [(0, .ref (x_ad x 0 7 0)), (1, .ref (x_ad x 1 a1 0)), (3, .ref (x_ad x 1 a3 0)), (4, .int l4), (5, .int l5), (6, .int l6)] []) {S : St} {a1 : Nat} {a3 : Nat} {l4 : Int32} {l5 : Int32} {l6 : Int32} {l7 : Int32} {l8 : Int32} {s0 : Int32} (h_a1 : (1, a1, 0) ∈ KM) (h_a3 : (1, a3, 0) ∈ KM) (h : j_X8_with_118 n K13 S a1 a3 l4 l5 l6 l7 l8 s0 = some out) : WX x 11 0 0 S 118 [(0, .ref (x_ad x 0 7 0)), (1, .ref (x_ad x 1 a1 0)), (3, .ref (x_ad x 1 a3 0)), (4, .int l4), (5, .int l5), (6, .int l6), (7, .int l7), (8, .int l8)] [.int s0, .ref (x_ad x 0 7 0)] := by
  unfold j_X8_with_118 at h
  obtain ⟨S1, c2, h⟩ := bU_some h
  refine r_Vv (ci := 7) (As := [.int s0]) (rest := []) hx (C_X8_put (c := x_y x) hKS c2) (k_0_7 hKS) rfl wl_X8_165 wi_X8_put we_X8_put wn_X8 wc_X8_put dy_X8_put rfl (by rw [hR]; decide +kernel) rfl (Nat.le_of_ble_eq_true rfl) dX8_with_118 ?_
  refine r_goto (tgt := 133) hx dX8_with_121 (by decide) ?_
  exact t_X8_with_133 hx hR hKS hE hK13 h_a1 h_a3 h
set_option maxRecDepth 100000 in
set_option maxHeartbeats 4000000 in
theorem t_X8_with_76 {n : Nat} {K13 : St → Nat → Nat → Int32 → Int32 → Int32 → Option (St)} {x : XC} (hx : CX x cX8_with 11 RX8) (hR : x_R x = rm_X8_with) (hKS : ∀ k ∈ KM, k ∈ x_K x) {out : St} (hE : EV x cX8_with out) (hK13 : ∀ {S : St} {a1 : Nat} {a3 : Nat} {l4 : Int32} {l5 : Int32} {l6 : Int32} (_ : (1, a1, 0) ∈ KM) (_ : (1, a3, 0) ∈ KM), K13 S a1 a3 l4 l5 l6 = some out → WX x 11 0 0 S 13 [(0, .ref (x_ad x 0 7 0)), (1, .ref (x_ad x 1 a1 0)), (3, .ref (x_ad x 1 a3 0)), (4, .int l4), (5, .int l5), (6, .int l6)] []) {S : St} {a1 : Nat} {a3 : Nat} {l4 : Int32} {l5 : Int32} {l6 : Int32} {l7 : Int32} {l8 : Int32} (h_a1 : (1, a1, 0) ∈ KM) (h_a3 : (1, a3, 0) ∈ KM) (h : j_X8_with_76 n K13 S a1 a3 l4 l5 l6 l7 l8 = some out) : WX x 11 0 0 S 76 [(0, .ref (x_ad x 0 7 0)), (1, .ref (x_ad x 1 a1 0)), (3, .ref (x_ad x 1 a3 0)), (4, .int l4), (5, .int l5), (6, .int l6), (7, .int l7), (8, .int l8)] [] := by
  unfold j_X8_with_76 at h
  refine r_aload_n (k0 := 1) hx dX8_with_76 rfl rfl ?_
  refine r_iload (k0 := 4) hx dX8_with_77 rfl ?_
  obtain ⟨v1, e2, i3, h⟩ := gI_some h
  refine r_iald hx (hKS _ h_a1) rfl i3 e2 dX8_with_79 ?_
  refine r_iconst (v := 1) hx dX8_with_80 (by decide) ?_
  refine r_icmp_ne (tgt := 124) hx dX8_with_81 (by decide) (fun c4 => ?_) (fun c4 => ?_)
  · have h := ite_f h c4
    refine r_aload_n (k0 := 0) hx dX8_with_124 rfl rfl ?_
    refine r_aload_n (k0 := 1) hx dX8_with_125 rfl rfl ?_
    refine r_iload (k0 := 4) hx dX8_with_126 rfl ?_
    refine r_iload (k0 := 7) hx dX8_with_128 rfl ?_
    obtain ⟨S5, c6, h⟩ := bU_some h
    refine r_Vv (ci := 7) (As := [.ref (x_ad x 1 a1 0), .int l5, .int l8]) (rest := []) hx (C_X8_copy (c := x_y x) hKS h_a1 c6) (k_0_7 hKS) rfl wl_X8_169 wi_X8_copy we_X8_copy wn_X8 wc_X8_copy dy_X8_copy rfl (by rw [hR]; decide +kernel) rfl (Nat.le_of_ble_eq_true rfl) dX8_with_130 ?_
    exact t_X8_with_133 hx hR hKS hE hK13 h_a1 h_a3 h
  · have h := ite_t h c4
    refine r_aload_n (k0 := 0) hx dX8_with_84 rfl rfl ?_
    refine r_iconst (v := 1) hx dX8_with_85 (by decide) ?_
    obtain ⟨S7, c8, h⟩ := bU_some h
    refine r_Vv (ci := 7) (As := [.int 1]) (rest := []) hx (C_X8_put (c := x_y x) hKS c8) (k_0_7 hKS) rfl wl_X8_165 wi_X8_put we_X8_put wn_X8 wc_X8_put dy_X8_put rfl (by rw [hR]; decide +kernel) rfl (Nat.le_of_ble_eq_true rfl) dX8_with_86 ?_
    refine r_aload_n (k0 := 0) hx dX8_with_89 rfl rfl ?_
    refine r_aload_n (k0 := 1) hx dX8_with_90 rfl rfl ?_
    refine r_iload (k0 := 4) hx dX8_with_91 rfl ?_
    refine r_iconst (v := 1) hx dX8_with_93 (by decide) ?_
    refine r_iadd hx dX8_with_94 ?_
    obtain ⟨v9, e10, i11, h⟩ := gI_some h
    refine r_iald hx (hKS _ h_a1) rfl i11 e10 dX8_with_95 ?_
    refine r_iload (k0 := 6) hx dX8_with_96 rfl ?_
    refine r_icmp_le (tgt := 112) hx dX8_with_98 (by decide) (fun c12 => ?_) (fun c12 => ?_)
    · have h := ite_t h c12
      refine r_aload_n (k0 := 1) hx dX8_with_112 rfl rfl ?_
      refine r_iload (k0 := 4) hx dX8_with_113 rfl ?_
      refine r_iconst (v := 1) hx dX8_with_115 (by decide) ?_
      refine r_iadd hx dX8_with_116 ?_
      obtain ⟨v13, e14, i15, h⟩ := gI_some h
      refine r_iald hx (hKS _ h_a1) rfl i15 e14 dX8_with_117 ?_
      exact t_X8_with_118 hx hR hKS hE hK13 h_a1 h_a3 h
    · have h := ite_f h c12
      refine r_aload_n (k0 := 1) hx dX8_with_101 rfl rfl ?_
      refine r_iload (k0 := 4) hx dX8_with_102 rfl ?_
      refine r_iconst (v := 1) hx dX8_with_104 (by decide) ?_
      refine r_iadd hx dX8_with_105 ?_
      obtain ⟨v16, e17, i18, h⟩ := gI_some h
      refine r_iald hx (hKS _ h_a1) rfl i18 e17 dX8_with_106 ?_
      refine r_iconst (v := 1) hx dX8_with_107 (by decide) ?_
      refine r_isub hx dX8_with_108 ?_
      refine r_goto (tgt := 118) hx dX8_with_109 (by decide) ?_
      exact t_X8_with_118 hx hR hKS hE hK13 h_a1 h_a3 h
set_option maxRecDepth 100000 in
set_option maxHeartbeats 4000000 in
theorem t_X8_with_13 {n : Nat} {x : XC} (hx : CX x cX8_with 11 RX8) (hR : x_R x = rm_X8_with) (hKS : ∀ k ∈ KM, k ∈ x_K x) {out : St} (hE : EV x cX8_with out) : ∀ {m : Nat} {S : St} {a1 : Nat} {a3 : Nat} {l4 : Int32} {l5 : Int32} {l6 : Int32} (h_a1 : (1, a1, 0) ∈ KM) (h_a3 : (1, a3, 0) ∈ KM) (h : l_X8_with_13 n m S a1 a3 l4 l5 l6 = some out), WX x 11 0 0 S 13 [(0, .ref (x_ad x 0 7 0)), (1, .ref (x_ad x 1 a1 0)), (3, .ref (x_ad x 1 a3 0)), (4, .int l4), (5, .int l5), (6, .int l6)] [] := by
  intro m
  induction m with
  | zero => intro S a1 a3 l4 l5 l6 h_a1 h_a3 h; cases h
  | succ m ih =>
    intro S a1 a3 l4 l5 l6 h_a1 h_a3 h
    unfold l_X8_with_13 at h
    refine r_iload (k0 := 5) hx dX8_with_13 rfl ?_
    refine r_if_le (tgt := 198) hx dX8_with_15 (by decide) (fun c1 => ?_) (fun c1 => ?_)
    · have h := ite_t h c1
      exact r_vret hE h dX8_with_198
    · have h := ite_f h c1
      refine r_aload_n (k0 := 0) hx dX8_with_18 rfl rfl ?_
      refine g_380 hx (k_0_7 hKS) wf_X8_162 dX8_with_19 ?_
      refine r_if_ne (tgt := 198) hx dX8_with_22 (by decide) (fun c2 => ?_) (fun c2 => ?_)
      · have h := ite_f h c2
        exact r_vret hE h dX8_with_198
      · have h := ite_t h c2
        obtain ⟨v3, e4, h⟩ := bV_some h
        refine r_iinc (k := 5) (v := v3) (lv' := [(6, .int v3), (0, .ref (x_ad x 0 7 0)), (1, .ref (x_ad x 1 a1 0)), (3, .ref (x_ad x 1 a3 0)), (4, .int l4), (5, .int l5)]) hx dX8_with_25 rfl (by rw [e4]; rfl) (by decide) rfl ?_
        refine r_aload_n (k0 := 1) hx dX8_with_28 rfl rfl ?_
        refine g_377 hx (k_0_7 hKS) wf_X8_72 dX8_with_29 ?_
        refine r_iload (k0 := 0) hx dX8_with_32 rfl ?_
        obtain ⟨v5, e6, i7, h⟩ := gI_some h
        refine r_iald hx (k_1_377 hKS) rfl i7 e6 dX8_with_34 ?_
        refine r_istore (lv' := [(7, .int v5), (6, .int v3), (0, .ref (x_ad x 0 7 0)), (1, .ref (x_ad x 1 a1 0)), (3, .ref (x_ad x 1 a3 0)), (4, .int l4), (5, .int l5)]) hx dX8_with_35 (by decide) rfl ?_
        refine r_aload_n (k0 := 3) hx dX8_with_37 rfl rfl ?_
        refine r_iload (k0 := 6) hx dX8_with_38 rfl ?_
        obtain ⟨S8, v10, c9, h⟩ := bI_some h
        refine r_Si (As := [.ref (x_ad x 1 a1 0), .int l5]) (rest := []) hx (C_X8_behindToken (c := x_y x) hKS h_a1 c9) wl_X8_152 wt_X8_behindToken wn_X8 wc_X8_behindToken dy_X8_behindToken rfl (by rw [hR]; decide +kernel) rfl (Nat.le_of_ble_eq_true rfl) dX8_with_40 ?_
        refine r_istore (lv' := [(8, .int v10), (7, .int v5), (6, .int v3), (0, .ref (x_ad x 0 7 0)), (1, .ref (x_ad x 1 a1 0)), (3, .ref (x_ad x 1 a3 0)), (4, .int l4), (5, .int l5)]) hx dX8_with_43 (by decide) rfl ?_
        refine r_aload_n (k0 := 4) hx dX8_with_45 rfl rfl ?_
        refine r_iload (k0 := 7) hx dX8_with_46 rfl ?_
        obtain ⟨v11, e12, i13, h⟩ := gI_some h
        refine r_iald hx (hKS _ h_a1) rfl i13 e12 dX8_with_48 ?_
        refine r_iconst (v := 1) hx dX8_with_49 (by decide) ?_
        refine r_icmp_ne (tgt := 76) hx dX8_with_50 (by decide) (fun c14 => ?_) (fun c14 => ?_)
        · have h := ite_f h c14
          refine WX.sub (lv' := [(0, .ref (x_ad x 0 7 0)), (1, .ref (x_ad x 1 a1 0)), (3, .ref (x_ad x 1 a3 0)), (4, .int l4), (5, .int l5), (6, .int v3), (7, .int v5), (8, .int v10)]) ?_ [3, 4, 5, 6, 7, 2, 1, 0] rfl
          exact t_X8_with_76 hx hR hKS hE ih h_a1 h_a3 h
        · have h := ite_t h c14
          refine r_aload_n (k0 := 4) hx dX8_with_53 rfl rfl ?_
          refine r_iload (k0 := 7) hx dX8_with_54 rfl ?_
          refine r_iconst (v := 1) hx dX8_with_56 (by decide) ?_
          refine r_iadd hx dX8_with_57 ?_
          obtain ⟨v15, e16, i17, h⟩ := gI_some h
          refine r_iald hx (hKS _ h_a1) rfl i17 e16 dX8_with_58 ?_
          refine r_iload (k0 := 1) hx dX8_with_59 rfl ?_
          refine r_icmp_ne (tgt := 76) hx dX8_with_61 (by decide) (fun c18 => ?_) (fun c18 => ?_)
          · have h := ite_f h c18
            refine WX.sub (lv' := [(0, .ref (x_ad x 0 7 0)), (1, .ref (x_ad x 1 a1 0)), (3, .ref (x_ad x 1 a3 0)), (4, .int l4), (5, .int l5), (6, .int v3), (7, .int v5), (8, .int v10)]) ?_ [3, 4, 5, 6, 7, 2, 1, 0] rfl
            exact t_X8_with_76 hx hR hKS hE ih h_a1 h_a3 h
          · have h := ite_t h c18
            refine r_aload_n (k0 := 3) hx dX8_with_64 rfl rfl ?_
            refine r_aload_n (k0 := 5) hx dX8_with_65 rfl rfl ?_
            refine r_iload (k0 := 6) hx dX8_with_66 rfl ?_
            refine r_iload (k0 := 1) hx dX8_with_68 rfl ?_
            obtain ⟨S19, c20, h⟩ := bU_some h
            refine r_Vv (ci := 7) (As := [.ref (x_ad x 1 a3 0), .int l4, .int v5]) (rest := []) hx (C_X8_lift (c := x_y x) hKS h_a3 c20) (k_0_7 hKS) rfl wl_X8_173 wi_X8_lift we_X8_lift wn_X8 wc_X8_lift dy_X8_lift rfl (by rw [hR]; decide +kernel) rfl (Nat.le_of_ble_eq_true rfl) dX8_with_70 ?_
            refine r_goto (tgt := 133) hx dX8_with_73 (by decide) ?_
            refine WX.sub (lv' := [(0, .ref (x_ad x 0 7 0)), (1, .ref (x_ad x 1 a1 0)), (3, .ref (x_ad x 1 a3 0)), (4, .int l4), (5, .int l5), (6, .int v3), (7, .int v5), (8, .int v10)]) ?_ [3, 4, 5, 6, 7, 2, 1, 0] rfl
            exact t_X8_with_133 hx hR hKS hE ih h_a1 h_a3 h
set_option maxRecDepth 100000 in
set_option maxHeartbeats 4000000 in
theorem t_X8_with_0 {n : Nat} {x : XC} (hx : CX x cX8_with 11 RX8) (hR : x_R x = rm_X8_with) (hKS : ∀ k ∈ KM, k ∈ x_K x) {out : St} (hE : EV x cX8_with out) {S : St} {a1 : Nat} {a2 : Int32} {a3 : Nat} {a4 : Int32} (h_a1 : (1, a1, 0) ∈ KM) (h_a3 : (1, a3, 0) ∈ KM) (h : f_X8_with n S a1 a2 a3 a4 = some out) : WX x 11 0 0 S 0 [(0, .ref (x_ad x 0 7 0)), (1, .ref (x_ad x 1 a1 0)), (2, .int a2), (3, .ref (x_ad x 1 a3 0)), (4, .int a4)] [] := by
  unfold f_X8_with at h
  refine r_iload_n (k0 := 2) hx dX8_with_0 rfl rfl ?_
  refine r_istore (lv' := [(5, .int a2), (0, .ref (x_ad x 0 7 0)), (1, .ref (x_ad x 1 a1 0)), (2, .int a2), (3, .ref (x_ad x 1 a3 0)), (4, .int a4)]) hx dX8_with_1 (by decide) rfl ?_
  refine r_iconst (v := 1) hx dX8_with_3 (by decide) ?_
  refine r_istore (lv' := [(6, .int 1), (5, .int a2), (0, .ref (x_ad x 0 7 0)), (1, .ref (x_ad x 1 a1 0)), (2, .int a2), (3, .ref (x_ad x 1 a3 0)), (4, .int a4)]) hx dX8_with_4 (by decide) rfl ?_
  refine r_aload_n (k0 := 2) hx dX8_with_6 rfl rfl ?_
  refine g_377 hx (k_0_7 hKS) wf_X8_72 dX8_with_7 ?_
  refine r_iconst (v := 0) hx dX8_with_10 (by decide) ?_
  refine r_iconst (v := 0) hx dX8_with_11 (by decide) ?_
  obtain ⟨S1, e2, i3, h⟩ := pI_some h
  refine r_iast hx (k_1_377 hKS) rfl i3 e2 dX8_with_12 ?_
  refine WX.sub (lv' := [(0, .ref (x_ad x 0 7 0)), (1, .ref (x_ad x 1 a1 0)), (3, .ref (x_ad x 1 a3 0)), (4, .int a4), (5, .int a2), (6, .int 1)]) ?_ [2, 3, 5, 6, 1, 0] rfl
  exact t_X8_with_13 hx hR hKS hE h_a1 h_a3 h
set_option maxHeartbeats 4000000 in
theorem C_X8_with {n : Nat} {c : YC} (hKS : ∀ k ∈ KM, k ∈ c.2.2.2.2) {S : St} {a1 : Nat} {a2 : Int32} {a3 : Nat} {a4 : Int32} {out : St} (h_a1 : (1, a1, 0) ∈ KM) (h_a3 : (1, a3, 0) ∈ KM) (h : f_X8_with n S a1 a2 a3 a4 = some out) : MV c yX8_with cX8_with 11 none rm_X8_with S [.ref (c.2.2.1 0 7 0), .ref (c.2.2.1 1 a1 0), .int a2, .ref (c.2.2.1 1 a3 0), .int a4] out := mk_V (own := RX8) (by decide +kernel) rfl (Nat.le_of_ble_eq_true rfl) (fun x hx hR hy hE => by subst hy; exact t_X8_with_0 hx hR hKS hE h_a1 h_a3 h)
def j_X8_withLevels_89 (n : Nat) (K19 : St → Int32 → Nat → Int32 → Int32 → Int32 → Int32 → Option (St)) (S : St) (l2 : Int32) (a3 : Nat) (l4 : Int32) (l5 : Int32) (l6 : Int32) (l7 : Int32) : Option (St) :=
  bV (l7 + 1) fun v1 =>
  K19 S l2 a3 l4 l5 l6 v1
def l_X8_withLevels_19 (n : Nat) : Nat → St → Int32 → Nat → Int32 → Int32 → Int32 → Int32 → Option (St)
  | 0, _, _, _, _, _, _, _ => none
  | m + 1, S, l2, a3, l4, l5, l6, l7 =>
    if l2 ≤ l7 then
      some S
    else
      if (S.1 380 0) = 0 then
        gI S 370 0 l7 8000 fun v3 =>
        if v3 = 4 then
          bU (f_X8_copy n S a3 l4 l5) fun S18 =>
          j_X8_withLevels_89 n (fun S l2 a3 l4 l5 l6 l7 => l_X8_withLevels_19 n m S l2 a3 l4 l5 l6 l7) S18 l2 a3 l4 l5 l6 l7
        else
          gI S 370 0 l7 8000 fun v7 =>
          if v7 = 5 then
            bU (f_X8_copy n S a3 l5 l6) fun S16 =>
            j_X8_withLevels_89 n (fun S l2 a3 l4 l5 l6 l7 => l_X8_withLevels_19 n m S l2 a3 l4 l5 l6 l7) S16 l2 a3 l4 l5 l6 l7
          else
            gI S 370 0 l7 8000 fun v11 =>
            bU (f_X8_put n S v11) fun S14 =>
            j_X8_withLevels_89 n (fun S l2 a3 l4 l5 l6 l7 => l_X8_withLevels_19 n m S l2 a3 l4 l5 l6 l7) S14 l2 a3 l4 l5 l6 l7
      else
        some S
def f_X8_withLevels (n : Nat) (S : St) (a1 : Int32) (a2 : Int32) (a3 : Nat) (a4 : Int32) : Option (St) :=
  bI (f_X8_behindLevel n S a3 a4) fun S1 v3 =>
  bI (f_X8_behindLevel n S1 a3 v3) fun S4 v6 =>
  l_X8_withLevels_19 n n S4 a2 a3 a4 v3 v6 a1
set_option maxRecDepth 100000 in
set_option maxHeartbeats 4000000 in
theorem t_X8_withLevels_89 {n : Nat} {K19 : St → Int32 → Nat → Int32 → Int32 → Int32 → Int32 → Option (St)} {x : XC} (hx : CX x cX8_withLevels 8 RX8) (hR : x_R x = rm_X8_withLevels) (hKS : ∀ k ∈ KM, k ∈ x_K x) {out : St} (hE : EV x cX8_withLevels out) (hK19 : ∀ {S : St} {l2 : Int32} {a3 : Nat} {l4 : Int32} {l5 : Int32} {l6 : Int32} {l7 : Int32} (_ : (1, a3, 0) ∈ KM), K19 S l2 a3 l4 l5 l6 l7 = some out → WX x 8 0 0 S 19 [(0, .ref (x_ad x 0 7 0)), (2, .int l2), (3, .ref (x_ad x 1 a3 0)), (4, .int l4), (5, .int l5), (6, .int l6), (7, .int l7)] []) {S : St} {l2 : Int32} {a3 : Nat} {l4 : Int32} {l5 : Int32} {l6 : Int32} {l7 : Int32} (h_a3 : (1, a3, 0) ∈ KM) (h : j_X8_withLevels_89 n K19 S l2 a3 l4 l5 l6 l7 = some out) : WX x 8 0 0 S 89 [(0, .ref (x_ad x 0 7 0)), (2, .int l2), (3, .ref (x_ad x 1 a3 0)), (4, .int l4), (5, .int l5), (6, .int l6), (7, .int l7)] [] := by
  unfold j_X8_withLevels_89 at h
  obtain ⟨v1, e2, h⟩ := bV_some h
  refine r_iinc (k := 6) (v := v1) (lv' := [(7, .int v1), (0, .ref (x_ad x 0 7 0)), (2, .int l2), (3, .ref (x_ad x 1 a3 0)), (4, .int l4), (5, .int l5), (6, .int l6)]) hx dX8_withLevels_89 rfl (by rw [e2]; rfl) (by decide) rfl ?_
  refine r_goto (tgt := 19) hx dX8_withLevels_92 (by decide) ?_
  refine WX.sub (lv' := [(0, .ref (x_ad x 0 7 0)), (2, .int l2), (3, .ref (x_ad x 1 a3 0)), (4, .int l4), (5, .int l5), (6, .int l6), (7, .int v1)]) ?_ [1, 2, 3, 4, 5, 6, 0] rfl
  exact hK19 h_a3 h
set_option maxRecDepth 100000 in
set_option maxHeartbeats 4000000 in
theorem t_X8_withLevels_19 {n : Nat} {x : XC} (hx : CX x cX8_withLevels 8 RX8) (hR : x_R x = rm_X8_withLevels) (hKS : ∀ k ∈ KM, k ∈ x_K x) {out : St} (hE : EV x cX8_withLevels out) : ∀ {m : Nat} {S : St} {l2 : Int32} {a3 : Nat} {l4 : Int32} {l5 : Int32} {l6 : Int32} {l7 : Int32} (h_a3 : (1, a3, 0) ∈ KM) (h : l_X8_withLevels_19 n m S l2 a3 l4 l5 l6 l7 = some out), WX x 8 0 0 S 19 [(0, .ref (x_ad x 0 7 0)), (2, .int l2), (3, .ref (x_ad x 1 a3 0)), (4, .int l4), (5, .int l5), (6, .int l6), (7, .int l7)] [] := by
  intro m
  induction m with
  | zero => intro S l2 a3 l4 l5 l6 l7 h_a3 h; cases h
  | succ m ih =>
    intro S l2 a3 l4 l5 l6 l7 h_a3 h
    unfold l_X8_withLevels_19 at h
    refine r_iload (k0 := 6) hx dX8_withLevels_19 rfl ?_
    refine r_iload_n (k0 := 1) hx dX8_withLevels_21 rfl rfl ?_
    refine r_icmp_ge (tgt := 95) hx dX8_withLevels_22 (by decide) (fun c1 => ?_) (fun c1 => ?_)
    · have h := ite_t h c1
      exact r_vret hE h dX8_withLevels_95
    · have h := ite_f h c1
      refine r_aload_n (k0 := 0) hx dX8_withLevels_25 rfl rfl ?_
      refine g_380 hx (k_0_7 hKS) wf_X8_162 dX8_withLevels_26 ?_
      refine r_if_ne (tgt := 95) hx dX8_withLevels_29 (by decide) (fun c2 => ?_) (fun c2 => ?_)
      · have h := ite_f h c2
        exact r_vret hE h dX8_withLevels_95
      · have h := ite_t h c2
        refine r_aload_n (k0 := 0) hx dX8_withLevels_32 rfl rfl ?_
        refine g_370 hx (k_0_7 hKS) wf_X8_62 dX8_withLevels_33 ?_
        refine r_iload (k0 := 6) hx dX8_withLevels_36 rfl ?_
        obtain ⟨v3, e4, i5, h⟩ := gI_some h
        refine r_iald hx (k_1_370 hKS) rfl i5 e4 dX8_withLevels_38 ?_
        refine r_iconst (v := 4) hx dX8_withLevels_39 (by decide) ?_
        refine r_icmp_ne (tgt := 55) hx dX8_withLevels_40 (by decide) (fun c6 => ?_) (fun c6 => ?_)
        · have h := ite_f h c6
          refine r_aload_n (k0 := 0) hx dX8_withLevels_55 rfl rfl ?_
          refine g_370 hx (k_0_7 hKS) wf_X8_62 dX8_withLevels_56 ?_
          refine r_iload (k0 := 6) hx dX8_withLevels_59 rfl ?_
          obtain ⟨v7, e8, i9, h⟩ := gI_some h
          refine r_iald hx (k_1_370 hKS) rfl i9 e8 dX8_withLevels_61 ?_
          refine r_iconst (v := 5) hx dX8_withLevels_62 (by decide) ?_
          refine r_icmp_ne (tgt := 78) hx dX8_withLevels_63 (by decide) (fun c10 => ?_) (fun c10 => ?_)
          · have h := ite_f h c10
            refine r_aload_n (k0 := 0) hx dX8_withLevels_78 rfl rfl ?_
            refine r_aload_n (k0 := 0) hx dX8_withLevels_79 rfl rfl ?_
            refine g_370 hx (k_0_7 hKS) wf_X8_62 dX8_withLevels_80 ?_
            refine r_iload (k0 := 6) hx dX8_withLevels_83 rfl ?_
            obtain ⟨v11, e12, i13, h⟩ := gI_some h
            refine r_iald hx (k_1_370 hKS) rfl i13 e12 dX8_withLevels_85 ?_
            obtain ⟨S14, c15, h⟩ := bU_some h
            refine r_Vv (ci := 7) (As := [.int v11]) (rest := []) hx (C_X8_put (c := x_y x) hKS c15) (k_0_7 hKS) rfl wl_X8_165 wi_X8_put we_X8_put wn_X8 wc_X8_put dy_X8_put rfl (by rw [hR]; decide +kernel) rfl (Nat.le_of_ble_eq_true rfl) dX8_withLevels_86 ?_
            exact t_X8_withLevels_89 hx hR hKS hE ih h_a3 h
          · have h := ite_t h c10
            refine r_aload_n (k0 := 0) hx dX8_withLevels_66 rfl rfl ?_
            refine r_aload_n (k0 := 2) hx dX8_withLevels_67 rfl rfl ?_
            refine r_iload (k0 := 4) hx dX8_withLevels_68 rfl ?_
            refine r_iload (k0 := 5) hx dX8_withLevels_70 rfl ?_
            obtain ⟨S16, c17, h⟩ := bU_some h
            refine r_Vv (ci := 7) (As := [.ref (x_ad x 1 a3 0), .int l5, .int l6]) (rest := []) hx (C_X8_copy (c := x_y x) hKS h_a3 c17) (k_0_7 hKS) rfl wl_X8_169 wi_X8_copy we_X8_copy wn_X8 wc_X8_copy dy_X8_copy rfl (by rw [hR]; decide +kernel) rfl (Nat.le_of_ble_eq_true rfl) dX8_withLevels_72 ?_
            refine r_goto (tgt := 89) hx dX8_withLevels_75 (by decide) ?_
            exact t_X8_withLevels_89 hx hR hKS hE ih h_a3 h
        · have h := ite_t h c6
          refine r_aload_n (k0 := 0) hx dX8_withLevels_43 rfl rfl ?_
          refine r_aload_n (k0 := 2) hx dX8_withLevels_44 rfl rfl ?_
          refine r_iload (k0 := 3) hx dX8_withLevels_45 rfl ?_
          refine r_iload (k0 := 4) hx dX8_withLevels_47 rfl ?_
          obtain ⟨S18, c19, h⟩ := bU_some h
          refine r_Vv (ci := 7) (As := [.ref (x_ad x 1 a3 0), .int l4, .int l5]) (rest := []) hx (C_X8_copy (c := x_y x) hKS h_a3 c19) (k_0_7 hKS) rfl wl_X8_169 wi_X8_copy we_X8_copy wn_X8 wc_X8_copy dy_X8_copy rfl (by rw [hR]; decide +kernel) rfl (Nat.le_of_ble_eq_true rfl) dX8_withLevels_49 ?_
          refine r_goto (tgt := 89) hx dX8_withLevels_52 (by decide) ?_
          exact t_X8_withLevels_89 hx hR hKS hE ih h_a3 h
set_option maxRecDepth 100000 in
set_option maxHeartbeats 4000000 in
theorem t_X8_withLevels_0 {n : Nat} {x : XC} (hx : CX x cX8_withLevels 8 RX8) (hR : x_R x = rm_X8_withLevels) (hKS : ∀ k ∈ KM, k ∈ x_K x) {out : St} (hE : EV x cX8_withLevels out) {S : St} {a1 : Int32} {a2 : Int32} {a3 : Nat} {a4 : Int32} (h_a3 : (1, a3, 0) ∈ KM) (h : f_X8_withLevels n S a1 a2 a3 a4 = some out) : WX x 8 0 0 S 0 [(0, .ref (x_ad x 0 7 0)), (1, .int a1), (2, .int a2), (3, .ref (x_ad x 1 a3 0)), (4, .int a4)] [] := by
  unfold f_X8_withLevels at h
  refine r_aload_n (k0 := 3) hx dX8_withLevels_0 rfl rfl ?_
  refine r_iload (k0 := 4) hx dX8_withLevels_1 rfl ?_
  obtain ⟨S1, v3, c2, h⟩ := bI_some h
  refine r_Si (As := [.ref (x_ad x 1 a3 0), .int a4]) (rest := []) hx (C_X8_behindLevel (c := x_y x) hKS h_a3 c2) wl_X8_144 wt_X8_behindLevel wn_X8 wc_X8_behindLevel dy_X8_behindLevel rfl (by rw [hR]; decide +kernel) rfl (Nat.le_of_ble_eq_true rfl) dX8_withLevels_3 ?_
  refine r_istore (lv' := [(5, .int v3), (0, .ref (x_ad x 0 7 0)), (1, .int a1), (2, .int a2), (3, .ref (x_ad x 1 a3 0)), (4, .int a4)]) hx dX8_withLevels_6 (by decide) rfl ?_
  refine r_aload_n (k0 := 4) hx dX8_withLevels_8 rfl rfl ?_
  refine r_iload (k0 := 0) hx dX8_withLevels_9 rfl ?_
  obtain ⟨S4, v6, c5, h⟩ := bI_some h
  refine r_Si (As := [.ref (x_ad x 1 a3 0), .int v3]) (rest := []) hx (C_X8_behindLevel (c := x_y x) hKS h_a3 c5) wl_X8_144 wt_X8_behindLevel wn_X8 wc_X8_behindLevel dy_X8_behindLevel rfl (by rw [hR]; decide +kernel) rfl (Nat.le_of_ble_eq_true rfl) dX8_withLevels_11 ?_
  refine r_istore (lv' := [(6, .int v6), (5, .int v3), (0, .ref (x_ad x 0 7 0)), (1, .int a1), (2, .int a2), (3, .ref (x_ad x 1 a3 0)), (4, .int a4)]) hx dX8_withLevels_14 (by decide) rfl ?_
  refine r_iload_n (k0 := 3) hx dX8_withLevels_16 rfl rfl ?_
  refine r_istore (lv' := [(7, .int a1), (6, .int v6), (5, .int v3), (0, .ref (x_ad x 0 7 0)), (1, .int a1), (2, .int a2), (3, .ref (x_ad x 1 a3 0)), (4, .int a4)]) hx dX8_withLevels_17 (by decide) rfl ?_
  refine WX.sub (lv' := [(0, .ref (x_ad x 0 7 0)), (2, .int a2), (3, .ref (x_ad x 1 a3 0)), (4, .int a4), (5, .int v3), (6, .int v6), (7, .int a1)]) ?_ [3, 5, 6, 7, 2, 1, 0] rfl
  exact t_X8_withLevels_19 hx hR hKS hE h_a3 h
set_option maxHeartbeats 4000000 in
theorem C_X8_withLevels {n : Nat} {c : YC} (hKS : ∀ k ∈ KM, k ∈ c.2.2.2.2) {S : St} {a1 : Int32} {a2 : Int32} {a3 : Nat} {a4 : Int32} {out : St} (h_a3 : (1, a3, 0) ∈ KM) (h : f_X8_withLevels n S a1 a2 a3 a4 = some out) : MV c yX8_withLevels cX8_withLevels 8 none rm_X8_withLevels S [.ref (c.2.2.1 0 7 0), .int a1, .int a2, .ref (c.2.2.1 1 a3 0), .int a4] out := mk_V (own := RX8) (by decide +kernel) rfl (Nat.le_of_ble_eq_true rfl) (fun x hx hR hy hE => by subst hy; exact t_X8_withLevels_0 hx hR hKS hE h_a3 h)
def j_X8_named_143 (n : Nat) (K17 : St → Nat → Int32 → Int32 → Option (St)) (S : St) (a2 : Nat) (l3 : Int32) (l4 : Int32) : Option (St) :=
  bI (f_X8_behindToken n S 370 l4) fun S1 v3 =>
  K17 S1 a2 l3 v3
def l_X8_named_17 (n : Nat) : Nat → St → Nat → Int32 → Int32 → Option (St)
  | 0, _, _, _, _ => none
  | m + 1, S, a2, l3, l4 =>
    if (S.1 374 0) ≤ l4 then
      some S
    else
      if (S.1 380 0) = 0 then
        bI (f_X8_behindToken n S 370 l4) fun S3 v5 =>
        gI S3 370 0 l4 8000 fun v6 =>
        bU (f_X8_put n S3 v6) fun S9 =>
        gI S9 370 0 l4 8000 fun v11 =>
        if v11 = 2 then
          gI S9 370 0 (l4 + 1) 8000 fun v30 =>
          bU (f_X8_put n S9 v30) fun S33 =>
          bU (f_X8_withLevels n S33 (l4 + 2) v5 a2 l3) fun S35 =>
          j_X8_named_143 n (fun S a2 l3 l4 => l_X8_named_17 n m S a2 l3 l4) S35 a2 l3 l4
        else
          gI S9 370 0 l4 8000 fun v15 =>
          if v15 = 0 then
            bU (f_X8_withLevels n S9 (l4 + 1) v5 a2 l3) fun S28 =>
            j_X8_named_143 n (fun S a2 l3 l4 => l_X8_named_17 n m S a2 l3 l4) S28 a2 l3 l4
          else
            gI S9 370 0 l4 8000 fun v19 =>
            if v19 = 1 then
              gI S9 370 0 (l4 + 1) 8000 fun v23 =>
              bU (f_X8_put n S9 v23) fun S26 =>
              j_X8_named_143 n (fun S a2 l3 l4 => l_X8_named_17 n m S a2 l3 l4) S26 a2 l3 l4
            else
              j_X8_named_143 n (fun S a2 l3 l4 => l_X8_named_17 n m S a2 l3 l4) S9 a2 l3 l4
      else
        some S
def f_X8_named (n : Nat) (S : St) (a1 : Int32) (a2 : Nat) (a3 : Int32) : Option (St) :=
  bI (f_X8_layTerm n S a1 370 0) fun S1 v3 =>
  pS S1 374 0 v3 fun S4 =>
  l_X8_named_17 n n S4 a2 a3 0
set_option maxRecDepth 100000 in
set_option maxHeartbeats 4000000 in
theorem t_X8_named_143 {n : Nat} {K17 : St → Nat → Int32 → Int32 → Option (St)} {x : XC} (hx : CX x cX8_named 6 RX8) (hR : x_R x = rm_X8_named) (hKS : ∀ k ∈ KM, k ∈ x_K x) {out : St} (hE : EV x cX8_named out) (hK17 : ∀ {S : St} {a2 : Nat} {l3 : Int32} {l4 : Int32} (_ : (1, a2, 0) ∈ KM), K17 S a2 l3 l4 = some out → WX x 6 0 0 S 17 [(0, .ref (x_ad x 0 7 0)), (2, .ref (x_ad x 1 a2 0)), (3, .int l3), (4, .int l4)] []) {S : St} {a2 : Nat} {l3 : Int32} {l4 : Int32} (h_a2 : (1, a2, 0) ∈ KM) (h : j_X8_named_143 n K17 S a2 l3 l4 = some out) : WX x 6 0 0 S 143 [(0, .ref (x_ad x 0 7 0)), (2, .ref (x_ad x 1 a2 0)), (3, .int l3), (4, .int l4)] [] := by
  unfold j_X8_named_143 at h
  refine r_aload_n (k0 := 0) hx dX8_named_143 rfl rfl ?_
  refine g_370 hx (k_0_7 hKS) wf_X8_62 dX8_named_144 ?_
  refine r_iload (k0 := 3) hx dX8_named_147 rfl ?_
  obtain ⟨S1, v3, c2, h⟩ := bI_some h
  refine r_Si (As := [.ref (x_ad x 1 370 0), .int l4]) (rest := []) hx (C_X8_behindToken (c := x_y x) hKS km_370 c2) wl_X8_152 wt_X8_behindToken wn_X8 wc_X8_behindToken dy_X8_behindToken rfl (by rw [hR]; decide +kernel) rfl (Nat.le_of_ble_eq_true rfl) dX8_named_149 ?_
  refine r_istore (lv' := [(4, .int v3), (0, .ref (x_ad x 0 7 0)), (2, .ref (x_ad x 1 a2 0)), (3, .int l3)]) hx dX8_named_152 (by decide) rfl ?_
  refine r_goto (tgt := 17) hx dX8_named_154 (by decide) ?_
  refine WX.sub (lv' := [(0, .ref (x_ad x 0 7 0)), (2, .ref (x_ad x 1 a2 0)), (3, .int l3), (4, .int v3)]) ?_ [1, 2, 3, 0] rfl
  exact hK17 h_a2 h
set_option maxRecDepth 100000 in
set_option maxHeartbeats 4000000 in
theorem t_X8_named_17 {n : Nat} {x : XC} (hx : CX x cX8_named 6 RX8) (hR : x_R x = rm_X8_named) (hKS : ∀ k ∈ KM, k ∈ x_K x) {out : St} (hE : EV x cX8_named out) : ∀ {m : Nat} {S : St} {a2 : Nat} {l3 : Int32} {l4 : Int32} (h_a2 : (1, a2, 0) ∈ KM) (h : l_X8_named_17 n m S a2 l3 l4 = some out), WX x 6 0 0 S 17 [(0, .ref (x_ad x 0 7 0)), (2, .ref (x_ad x 1 a2 0)), (3, .int l3), (4, .int l4)] [] := by
  intro m
  induction m with
  | zero => intro S a2 l3 l4 h_a2 h; cases h
  | succ m ih =>
    intro S a2 l3 l4 h_a2 h
    unfold l_X8_named_17 at h
    refine r_iload (k0 := 3) hx dX8_named_17 rfl ?_
    refine r_aload_n (k0 := 0) hx dX8_named_19 rfl rfl ?_
    refine g_374 hx (k_0_7 hKS) wf_X8_179 dX8_named_20 ?_
    refine r_icmp_ge (tgt := 157) hx dX8_named_23 (by decide) (fun c1 => ?_) (fun c1 => ?_)
    · have h := ite_t h c1
      exact r_vret hE h dX8_named_157
    · have h := ite_f h c1
      refine r_aload_n (k0 := 0) hx dX8_named_26 rfl rfl ?_
      refine g_380 hx (k_0_7 hKS) wf_X8_162 dX8_named_27 ?_
      refine r_if_ne (tgt := 157) hx dX8_named_30 (by decide) (fun c2 => ?_) (fun c2 => ?_)
      · have h := ite_f h c2
        exact r_vret hE h dX8_named_157
      · have h := ite_t h c2
        refine r_aload_n (k0 := 0) hx dX8_named_33 rfl rfl ?_
        refine g_370 hx (k_0_7 hKS) wf_X8_62 dX8_named_34 ?_
        refine r_iload (k0 := 3) hx dX8_named_37 rfl ?_
        obtain ⟨S3, v5, c4, h⟩ := bI_some h
        refine r_Si (As := [.ref (x_ad x 1 370 0), .int l4]) (rest := []) hx (C_X8_behindToken (c := x_y x) hKS km_370 c4) wl_X8_152 wt_X8_behindToken wn_X8 wc_X8_behindToken dy_X8_behindToken rfl (by rw [hR]; decide +kernel) rfl (Nat.le_of_ble_eq_true rfl) dX8_named_39 ?_
        refine r_istore (lv' := [(5, .int v5), (0, .ref (x_ad x 0 7 0)), (2, .ref (x_ad x 1 a2 0)), (3, .int l3), (4, .int l4)]) hx dX8_named_42 (by decide) rfl ?_
        refine r_aload_n (k0 := 1) hx dX8_named_44 rfl rfl ?_
        refine r_aload_n (k0 := 1) hx dX8_named_45 rfl rfl ?_
        refine g_370 hx (k_0_7 hKS) wf_X8_62 dX8_named_46 ?_
        refine r_iload (k0 := 4) hx dX8_named_49 rfl ?_
        obtain ⟨v6, e7, i8, h⟩ := gI_some h
        refine r_iald hx (k_1_370 hKS) rfl i8 e7 dX8_named_51 ?_
        obtain ⟨S9, c10, h⟩ := bU_some h
        refine r_Vv (ci := 7) (As := [.int v6]) (rest := []) hx (C_X8_put (c := x_y x) hKS c10) (k_0_7 hKS) rfl wl_X8_165 wi_X8_put we_X8_put wn_X8 wc_X8_put dy_X8_put rfl (by rw [hR]; decide +kernel) rfl (Nat.le_of_ble_eq_true rfl) dX8_named_52 ?_
        refine r_aload_n (k0 := 1) hx dX8_named_55 rfl rfl ?_
        refine g_370 hx (k_0_7 hKS) wf_X8_62 dX8_named_56 ?_
        refine r_iload (k0 := 4) hx dX8_named_59 rfl ?_
        obtain ⟨v11, e12, i13, h⟩ := gI_some h
        refine r_iald hx (k_1_370 hKS) rfl i13 e12 dX8_named_61 ?_
        refine r_iconst (v := 2) hx dX8_named_62 (by decide) ?_
        refine r_icmp_ne (tgt := 94) hx dX8_named_63 (by decide) (fun c14 => ?_) (fun c14 => ?_)
        · have h := ite_f h c14
          refine r_aload_n (k0 := 1) hx dX8_named_94 rfl rfl ?_
          refine g_370 hx (k_0_7 hKS) wf_X8_62 dX8_named_95 ?_
          refine r_iload (k0 := 4) hx dX8_named_98 rfl ?_
          obtain ⟨v15, e16, i17, h⟩ := gI_some h
          refine r_iald hx (k_1_370 hKS) rfl i17 e16 dX8_named_100 ?_
          refine r_if_ne (tgt := 119) hx dX8_named_101 (by decide) (fun c18 => ?_) (fun c18 => ?_)
          · have h := ite_f h c18
            refine r_aload_n (k0 := 1) hx dX8_named_119 rfl rfl ?_
            refine g_370 hx (k_0_7 hKS) wf_X8_62 dX8_named_120 ?_
            refine r_iload (k0 := 4) hx dX8_named_123 rfl ?_
            obtain ⟨v19, e20, i21, h⟩ := gI_some h
            refine r_iald hx (k_1_370 hKS) rfl i21 e20 dX8_named_125 ?_
            refine r_iconst (v := 1) hx dX8_named_126 (by decide) ?_
            refine r_icmp_ne (tgt := 143) hx dX8_named_127 (by decide) (fun c22 => ?_) (fun c22 => ?_)
            · have h := ite_f h c22
              refine WX.sub (lv' := [(0, .ref (x_ad x 0 7 0)), (2, .ref (x_ad x 1 a2 0)), (3, .int l3), (4, .int l4)]) ?_ [1, 2, 3, 4] rfl
              exact t_X8_named_143 hx hR hKS hE ih h_a2 h
            · have h := ite_t h c22
              refine r_aload_n (k0 := 1) hx dX8_named_130 rfl rfl ?_
              refine r_aload_n (k0 := 1) hx dX8_named_131 rfl rfl ?_
              refine g_370 hx (k_0_7 hKS) wf_X8_62 dX8_named_132 ?_
              refine r_iload (k0 := 4) hx dX8_named_135 rfl ?_
              refine r_iconst (v := 1) hx dX8_named_137 (by decide) ?_
              refine r_iadd hx dX8_named_138 ?_
              obtain ⟨v23, e24, i25, h⟩ := gI_some h
              refine r_iald hx (k_1_370 hKS) rfl i25 e24 dX8_named_139 ?_
              obtain ⟨S26, c27, h⟩ := bU_some h
              refine r_Vv (ci := 7) (As := [.int v23]) (rest := []) hx (C_X8_put (c := x_y x) hKS c27) (k_0_7 hKS) rfl wl_X8_165 wi_X8_put we_X8_put wn_X8 wc_X8_put dy_X8_put rfl (by rw [hR]; decide +kernel) rfl (Nat.le_of_ble_eq_true rfl) dX8_named_140 ?_
              refine WX.sub (lv' := [(0, .ref (x_ad x 0 7 0)), (2, .ref (x_ad x 1 a2 0)), (3, .int l3), (4, .int l4)]) ?_ [1, 2, 3, 4] rfl
              exact t_X8_named_143 hx hR hKS hE ih h_a2 h
          · have h := ite_t h c18
            refine r_aload_n (k0 := 1) hx dX8_named_104 rfl rfl ?_
            refine r_iload (k0 := 4) hx dX8_named_105 rfl ?_
            refine r_iconst (v := 1) hx dX8_named_107 (by decide) ?_
            refine r_iadd hx dX8_named_108 ?_
            refine r_iload (k0 := 0) hx dX8_named_109 rfl ?_
            refine r_aload_n (k0 := 2) hx dX8_named_111 rfl rfl ?_
            refine r_iload_n (k0 := 3) hx dX8_named_112 rfl rfl ?_
            obtain ⟨S28, c29, h⟩ := bU_some h
            refine r_Vv (ci := 7) (As := [.int (l4 + 1), .int v5, .ref (x_ad x 1 a2 0), .int l3]) (rest := []) hx (C_X8_withLevels (c := x_y x) hKS h_a2 c29) (k_0_7 hKS) rfl wl_X8_182 wi_X8_withLevels we_X8_withLevels wn_X8 wc_X8_withLevels dy_X8_withLevels rfl (by rw [hR]; decide +kernel) rfl (Nat.le_of_ble_eq_true rfl) dX8_named_113 ?_
            refine r_goto (tgt := 143) hx dX8_named_116 (by decide) ?_
            refine WX.sub (lv' := [(0, .ref (x_ad x 0 7 0)), (2, .ref (x_ad x 1 a2 0)), (3, .int l3), (4, .int l4)]) ?_ [1, 2, 3, 4] rfl
            exact t_X8_named_143 hx hR hKS hE ih h_a2 h
        · have h := ite_t h c14
          refine r_aload_n (k0 := 1) hx dX8_named_66 rfl rfl ?_
          refine r_aload_n (k0 := 1) hx dX8_named_67 rfl rfl ?_
          refine g_370 hx (k_0_7 hKS) wf_X8_62 dX8_named_68 ?_
          refine r_iload (k0 := 4) hx dX8_named_71 rfl ?_
          refine r_iconst (v := 1) hx dX8_named_73 (by decide) ?_
          refine r_iadd hx dX8_named_74 ?_
          obtain ⟨v30, e31, i32, h⟩ := gI_some h
          refine r_iald hx (k_1_370 hKS) rfl i32 e31 dX8_named_75 ?_
          obtain ⟨S33, c34, h⟩ := bU_some h
          refine r_Vv (ci := 7) (As := [.int v30]) (rest := []) hx (C_X8_put (c := x_y x) hKS c34) (k_0_7 hKS) rfl wl_X8_165 wi_X8_put we_X8_put wn_X8 wc_X8_put dy_X8_put rfl (by rw [hR]; decide +kernel) rfl (Nat.le_of_ble_eq_true rfl) dX8_named_76 ?_
          refine r_aload_n (k0 := 1) hx dX8_named_79 rfl rfl ?_
          refine r_iload (k0 := 4) hx dX8_named_80 rfl ?_
          refine r_iconst (v := 2) hx dX8_named_82 (by decide) ?_
          refine r_iadd hx dX8_named_83 ?_
          refine r_iload (k0 := 0) hx dX8_named_84 rfl ?_
          refine r_aload_n (k0 := 2) hx dX8_named_86 rfl rfl ?_
          refine r_iload_n (k0 := 3) hx dX8_named_87 rfl rfl ?_
          obtain ⟨S35, c36, h⟩ := bU_some h
          refine r_Vv (ci := 7) (As := [.int (l4 + 2), .int v5, .ref (x_ad x 1 a2 0), .int l3]) (rest := []) hx (C_X8_withLevels (c := x_y x) hKS h_a2 c36) (k_0_7 hKS) rfl wl_X8_182 wi_X8_withLevels we_X8_withLevels wn_X8 wc_X8_withLevels dy_X8_withLevels rfl (by rw [hR]; decide +kernel) rfl (Nat.le_of_ble_eq_true rfl) dX8_named_88 ?_
          refine r_goto (tgt := 143) hx dX8_named_91 (by decide) ?_
          refine WX.sub (lv' := [(0, .ref (x_ad x 0 7 0)), (2, .ref (x_ad x 1 a2 0)), (3, .int l3), (4, .int l4)]) ?_ [1, 2, 3, 4] rfl
          exact t_X8_named_143 hx hR hKS hE ih h_a2 h
set_option maxRecDepth 100000 in
set_option maxHeartbeats 4000000 in
theorem t_X8_named_0 {n : Nat} {x : XC} (hx : CX x cX8_named 6 RX8) (hR : x_R x = rm_X8_named) (hKS : ∀ k ∈ KM, k ∈ x_K x) {out : St} (hE : EV x cX8_named out) {S : St} {a1 : Int32} {a2 : Nat} {a3 : Int32} (h_a2 : (1, a2, 0) ∈ KM) (h : f_X8_named n S a1 a2 a3 = some out) : WX x 6 0 0 S 0 [(0, .ref (x_ad x 0 7 0)), (1, .int a1), (2, .ref (x_ad x 1 a2 0)), (3, .int a3)] [] := by
  unfold f_X8_named at h
  refine r_aload_n (k0 := 0) hx dX8_named_0 rfl rfl ?_
  refine r_aload_n (k0 := 0) hx dX8_named_1 rfl rfl ?_
  refine r_iload_n (k0 := 1) hx dX8_named_2 rfl rfl ?_
  refine r_aload_n (k0 := 0) hx dX8_named_3 rfl rfl ?_
  refine g_370 hx (k_0_7 hKS) wf_X8_62 dX8_named_4 ?_
  refine r_iconst (v := 0) hx dX8_named_7 (by decide) ?_
  obtain ⟨S1, v3, c2, h⟩ := bI_some h
  refine r_Vi (ci := 7) (As := [.int a1, .ref (x_ad x 1 370 0), .int 0]) (rest := [.ref (x_ad x 0 7 0)]) hx (C_X8_layTerm (c := x_y x) hKS km_370 c2) (k_0_7 hKS) rfl wl_X8_176 wi_X8_layTerm we_X8_layTerm wn_X8 wc_X8_layTerm dy_X8_layTerm rfl (by rw [hR]; decide +kernel) rfl (Nat.le_of_ble_eq_true rfl) dX8_named_8 ?_
  obtain ⟨S4, e5, h⟩ := pS_some h
  refine p_374 hx (k_0_7 hKS) wf_X8_179 dX8_named_11 e5 ?_
  refine r_iconst (v := 0) hx dX8_named_14 (by decide) ?_
  refine r_istore (lv' := [(4, .int 0), (0, .ref (x_ad x 0 7 0)), (1, .int a1), (2, .ref (x_ad x 1 a2 0)), (3, .int a3)]) hx dX8_named_15 (by decide) rfl ?_
  refine WX.sub (lv' := [(0, .ref (x_ad x 0 7 0)), (2, .ref (x_ad x 1 a2 0)), (3, .int a3), (4, .int 0)]) ?_ [1, 3, 4, 0] rfl
  exact t_X8_named_17 hx hR hKS hE h_a2 h
set_option maxHeartbeats 4000000 in
theorem C_X8_named {n : Nat} {c : YC} (hKS : ∀ k ∈ KM, k ∈ c.2.2.2.2) {S : St} {a1 : Int32} {a2 : Nat} {a3 : Int32} {out : St} (h_a2 : (1, a2, 0) ∈ KM) (h : f_X8_named n S a1 a2 a3 = some out) : MV c yX8_named cX8_named 6 none rm_X8_named S [.ref (c.2.2.1 0 7 0), .int a1, .ref (c.2.2.1 1 a2 0), .int a3] out := mk_V (own := RX8) (by decide +kernel) rfl (Nat.le_of_ble_eq_true rfl) (fun x hx hR hy hE => by subst hy; exact t_X8_named_0 hx hR hKS hE h_a2 h)
def j_X8_stepAt_74 (n : Nat) (K2 : St → Int32 → Option (St × Int32)) (S : St) (l1 : Int32) (s0 : Int32) : Option (St × Int32) :=
  if s0 = 0 then
    bI (f_X8_behindToken n S 368 l1) fun S2 v4 =>
    K2 S2 v4
  else
    some (S, l1)
def j_X8_stepAt_69 (n : Nat) (K2 : St → Int32 → Option (St × Int32)) (S : St) (l1 : Int32) : Option (St × Int32) :=
  j_X8_stepAt_74 n K2 S l1 1
def j_X8_stepAt_73 (n : Nat) (K2 : St → Int32 → Option (St × Int32)) (S : St) (l1 : Int32) : Option (St × Int32) :=
  j_X8_stepAt_74 n K2 S l1 0
def j_X8_stepAt_43 (n : Nat) (K2 : St → Int32 → Option (St × Int32)) (S : St) (l1 : Int32) : Option (St × Int32) :=
  gI S 368 0 l1 8000 fun v1 =>
  if v1 = 2 then
    gI S 368 0 (l1 + 1) 8000 fun v5 =>
    gI S 365 0 v5 40 fun v8 =>
    if v8 < 0 then
      j_X8_stepAt_73 n K2 S l1
    else
      j_X8_stepAt_69 n K2 S l1
  else
    j_X8_stepAt_73 n K2 S l1
def l_X8_stepAt_2 (n : Nat) : Nat → St → Int32 → Option (St × Int32)
  | 0, _, _ => none
  | m + 1, S, l1 =>
    if (S.1 372 0) ≤ l1 then
      some (S, (-1))
    else
      gI S 368 0 l1 8000 fun v2 =>
      if v2 = 6 then
        j_X8_stepAt_69 n (fun S l1 => l_X8_stepAt_2 n m S l1) S l1
      else
        gI S 368 0 l1 8000 fun v6 =>
        if v6 = 5 then
          gI S 368 0 (l1 + 1) 8000 fun v10 =>
          if v10 = 4 then
            j_X8_stepAt_69 n (fun S l1 => l_X8_stepAt_2 n m S l1) S l1
          else
            j_X8_stepAt_43 n (fun S l1 => l_X8_stepAt_2 n m S l1) S l1
        else
          j_X8_stepAt_43 n (fun S l1 => l_X8_stepAt_2 n m S l1) S l1
def f_X8_stepAt (n : Nat) (S : St) : Option (St × Int32) :=
  l_X8_stepAt_2 n n S 0
set_option maxRecDepth 100000 in
set_option maxHeartbeats 4000000 in
theorem t_X8_stepAt_74 {n : Nat} {K2 : St → Int32 → Option (St × Int32)} {x : XC} (hx : CX x cX8_stepAt 3 RX8) (hR : x_R x = rm_X8_stepAt) (hKS : ∀ k ∈ KM, k ∈ x_K x) {out : St × Int32} (hE : EI x cX8_stepAt out) (hK2 : ∀ {S : St} {l1 : Int32}, K2 S l1 = some out → WX x 3 0 0 S 2 [(0, .ref (x_ad x 0 7 0)), (1, .int l1)] []) {S : St} {l1 : Int32} {s0 : Int32} (h : j_X8_stepAt_74 n K2 S l1 s0 = some out) : WX x 3 0 0 S 74 [(0, .ref (x_ad x 0 7 0)), (1, .int l1)] [.int s0] := by
  unfold j_X8_stepAt_74 at h
  refine r_istore_n (lv' := [(2, .int s0), (0, .ref (x_ad x 0 7 0)), (1, .int l1)]) hx dX8_stepAt_74 rfl (by decide) rfl ?_
  refine r_iload_n (k0 := 0) hx dX8_stepAt_75 rfl rfl ?_
  refine r_if_eq (tgt := 81) hx dX8_stepAt_76 (by decide) (fun c1 => ?_) (fun c1 => ?_)
  · have h := ite_t h c1
    refine r_aload_n (k0 := 1) hx dX8_stepAt_81 rfl rfl ?_
    refine g_368 hx (k_0_7 hKS) wf_X8_56 dX8_stepAt_82 ?_
    refine r_iload_n (k0 := 2) hx dX8_stepAt_85 rfl rfl ?_
    obtain ⟨S2, v4, c3, h⟩ := bI_some h
    refine r_Si (As := [.ref (x_ad x 1 368 0), .int l1]) (rest := []) hx (C_X8_behindToken (c := x_y x) hKS km_368 c3) wl_X8_152 wt_X8_behindToken wn_X8 wc_X8_behindToken dy_X8_behindToken rfl (by rw [hR]; decide +kernel) rfl (Nat.le_of_ble_eq_true rfl) dX8_stepAt_86 ?_
    refine r_istore_n (lv' := [(1, .int v4), (2, .int s0), (0, .ref (x_ad x 0 7 0))]) hx dX8_stepAt_89 rfl (by decide) rfl ?_
    refine r_goto (tgt := 2) hx dX8_stepAt_90 (by decide) ?_
    refine WX.sub (lv' := [(0, .ref (x_ad x 0 7 0)), (1, .int v4)]) ?_ [2, 0] rfl
    exact hK2  h
  · have h := ite_f h c1
    refine r_iload_n (k0 := 2) hx dX8_stepAt_79 rfl rfl ?_
    exact r_iret hE h dX8_stepAt_80
set_option maxRecDepth 100000 in
set_option maxHeartbeats 4000000 in
theorem t_X8_stepAt_69 {n : Nat} {K2 : St → Int32 → Option (St × Int32)} {x : XC} (hx : CX x cX8_stepAt 3 RX8) (hR : x_R x = rm_X8_stepAt) (hKS : ∀ k ∈ KM, k ∈ x_K x) {out : St × Int32} (hE : EI x cX8_stepAt out) (hK2 : ∀ {S : St} {l1 : Int32}, K2 S l1 = some out → WX x 3 0 0 S 2 [(0, .ref (x_ad x 0 7 0)), (1, .int l1)] []) {S : St} {l1 : Int32} (h : j_X8_stepAt_69 n K2 S l1 = some out) : WX x 3 0 0 S 69 [(0, .ref (x_ad x 0 7 0)), (1, .int l1)] [] := by
  unfold j_X8_stepAt_69 at h
  refine r_iconst (v := 1) hx dX8_stepAt_69 (by decide) ?_
  refine r_goto (tgt := 74) hx dX8_stepAt_70 (by decide) ?_
  exact t_X8_stepAt_74 hx hR hKS hE hK2 h
set_option maxRecDepth 100000 in
set_option maxHeartbeats 4000000 in
theorem t_X8_stepAt_73 {n : Nat} {K2 : St → Int32 → Option (St × Int32)} {x : XC} (hx : CX x cX8_stepAt 3 RX8) (hR : x_R x = rm_X8_stepAt) (hKS : ∀ k ∈ KM, k ∈ x_K x) {out : St × Int32} (hE : EI x cX8_stepAt out) (hK2 : ∀ {S : St} {l1 : Int32}, K2 S l1 = some out → WX x 3 0 0 S 2 [(0, .ref (x_ad x 0 7 0)), (1, .int l1)] []) {S : St} {l1 : Int32} (h : j_X8_stepAt_73 n K2 S l1 = some out) : WX x 3 0 0 S 73 [(0, .ref (x_ad x 0 7 0)), (1, .int l1)] [] := by
  unfold j_X8_stepAt_73 at h
  refine r_iconst (v := 0) hx dX8_stepAt_73 (by decide) ?_
  exact t_X8_stepAt_74 hx hR hKS hE hK2 h
set_option maxRecDepth 100000 in
set_option maxHeartbeats 4000000 in
theorem t_X8_stepAt_43 {n : Nat} {K2 : St → Int32 → Option (St × Int32)} {x : XC} (hx : CX x cX8_stepAt 3 RX8) (hR : x_R x = rm_X8_stepAt) (hKS : ∀ k ∈ KM, k ∈ x_K x) {out : St × Int32} (hE : EI x cX8_stepAt out) (hK2 : ∀ {S : St} {l1 : Int32}, K2 S l1 = some out → WX x 3 0 0 S 2 [(0, .ref (x_ad x 0 7 0)), (1, .int l1)] []) {S : St} {l1 : Int32} (h : j_X8_stepAt_43 n K2 S l1 = some out) : WX x 3 0 0 S 43 [(0, .ref (x_ad x 0 7 0)), (1, .int l1)] [] := by
  unfold j_X8_stepAt_43 at h
  refine r_aload_n (k0 := 0) hx dX8_stepAt_43 rfl rfl ?_
  refine g_368 hx (k_0_7 hKS) wf_X8_56 dX8_stepAt_44 ?_
  refine r_iload_n (k0 := 1) hx dX8_stepAt_47 rfl rfl ?_
  obtain ⟨v1, e2, i3, h⟩ := gI_some h
  refine r_iald hx (k_1_368 hKS) rfl i3 e2 dX8_stepAt_48 ?_
  refine r_iconst (v := 2) hx dX8_stepAt_49 (by decide) ?_
  refine r_icmp_ne (tgt := 73) hx dX8_stepAt_50 (by decide) (fun c4 => ?_) (fun c4 => ?_)
  · have h := ite_f h c4
    exact t_X8_stepAt_73 hx hR hKS hE hK2 h
  · have h := ite_t h c4
    refine r_aload_n (k0 := 0) hx dX8_stepAt_53 rfl rfl ?_
    refine g_365 hx (k_0_7 hKS) wf_X8_50 dX8_stepAt_54 ?_
    refine r_aload_n (k0 := 0) hx dX8_stepAt_57 rfl rfl ?_
    refine g_368 hx (k_0_7 hKS) wf_X8_56 dX8_stepAt_58 ?_
    refine r_iload_n (k0 := 1) hx dX8_stepAt_61 rfl rfl ?_
    refine r_iconst (v := 1) hx dX8_stepAt_62 (by decide) ?_
    refine r_iadd hx dX8_stepAt_63 ?_
    obtain ⟨v5, e6, i7, h⟩ := gI_some h
    refine r_iald hx (k_1_368 hKS) rfl i7 e6 dX8_stepAt_64 ?_
    obtain ⟨v8, e9, i10, h⟩ := gI_some h
    refine r_iald hx (k_1_365 hKS) rfl i10 e9 dX8_stepAt_65 ?_
    refine r_if_lt (tgt := 73) hx dX8_stepAt_66 (by decide) (fun c11 => ?_) (fun c11 => ?_)
    · have h := ite_t h c11
      exact t_X8_stepAt_73 hx hR hKS hE hK2 h
    · have h := ite_f h c11
      exact t_X8_stepAt_69 hx hR hKS hE hK2 h
set_option maxRecDepth 100000 in
set_option maxHeartbeats 4000000 in
theorem t_X8_stepAt_2 {n : Nat} {x : XC} (hx : CX x cX8_stepAt 3 RX8) (hR : x_R x = rm_X8_stepAt) (hKS : ∀ k ∈ KM, k ∈ x_K x) {out : St × Int32} (hE : EI x cX8_stepAt out) : ∀ {m : Nat} {S : St} {l1 : Int32} (h : l_X8_stepAt_2 n m S l1 = some out), WX x 3 0 0 S 2 [(0, .ref (x_ad x 0 7 0)), (1, .int l1)] [] := by
  intro m
  induction m with
  | zero => intro S l1 h; cases h
  | succ m ih =>
    intro S l1 h
    unfold l_X8_stepAt_2 at h
    refine r_iload_n (k0 := 1) hx dX8_stepAt_2 rfl rfl ?_
    refine r_aload_n (k0 := 0) hx dX8_stepAt_3 rfl rfl ?_
    refine g_372 hx (k_0_7 hKS) wf_X8_186 dX8_stepAt_4 ?_
    refine r_icmp_ge (tgt := 93) hx dX8_stepAt_7 (by decide) (fun c1 => ?_) (fun c1 => ?_)
    · have h := ite_t h c1
      refine r_iconst (v := -1) hx dX8_stepAt_93 (by decide) ?_
      exact r_iret hE h dX8_stepAt_94
    · have h := ite_f h c1
      refine r_aload_n (k0 := 0) hx dX8_stepAt_10 rfl rfl ?_
      refine g_368 hx (k_0_7 hKS) wf_X8_56 dX8_stepAt_11 ?_
      refine r_iload_n (k0 := 1) hx dX8_stepAt_14 rfl rfl ?_
      obtain ⟨v2, e3, i4, h⟩ := gI_some h
      refine r_iald hx (k_1_368 hKS) rfl i4 e3 dX8_stepAt_15 ?_
      refine r_bipush (v := 6) hx dX8_stepAt_16 (by decide) ?_
      refine r_icmp_eq (tgt := 69) hx dX8_stepAt_18 (by decide) (fun c5 => ?_) (fun c5 => ?_)
      · have h := ite_t h c5
        exact t_X8_stepAt_69 hx hR hKS hE ih h
      · have h := ite_f h c5
        refine r_aload_n (k0 := 0) hx dX8_stepAt_21 rfl rfl ?_
        refine g_368 hx (k_0_7 hKS) wf_X8_56 dX8_stepAt_22 ?_
        refine r_iload_n (k0 := 1) hx dX8_stepAt_25 rfl rfl ?_
        obtain ⟨v6, e7, i8, h⟩ := gI_some h
        refine r_iald hx (k_1_368 hKS) rfl i8 e7 dX8_stepAt_26 ?_
        refine r_iconst (v := 5) hx dX8_stepAt_27 (by decide) ?_
        refine r_icmp_ne (tgt := 43) hx dX8_stepAt_28 (by decide) (fun c9 => ?_) (fun c9 => ?_)
        · have h := ite_f h c9
          exact t_X8_stepAt_43 hx hR hKS hE ih h
        · have h := ite_t h c9
          refine r_aload_n (k0 := 0) hx dX8_stepAt_31 rfl rfl ?_
          refine g_368 hx (k_0_7 hKS) wf_X8_56 dX8_stepAt_32 ?_
          refine r_iload_n (k0 := 1) hx dX8_stepAt_35 rfl rfl ?_
          refine r_iconst (v := 1) hx dX8_stepAt_36 (by decide) ?_
          refine r_iadd hx dX8_stepAt_37 ?_
          obtain ⟨v10, e11, i12, h⟩ := gI_some h
          refine r_iald hx (k_1_368 hKS) rfl i12 e11 dX8_stepAt_38 ?_
          refine r_iconst (v := 4) hx dX8_stepAt_39 (by decide) ?_
          refine r_icmp_eq (tgt := 69) hx dX8_stepAt_40 (by decide) (fun c13 => ?_) (fun c13 => ?_)
          · have h := ite_t h c13
            exact t_X8_stepAt_69 hx hR hKS hE ih h
          · have h := ite_f h c13
            exact t_X8_stepAt_43 hx hR hKS hE ih h
set_option maxRecDepth 100000 in
set_option maxHeartbeats 4000000 in
theorem t_X8_stepAt_0 {n : Nat} {x : XC} (hx : CX x cX8_stepAt 3 RX8) (hR : x_R x = rm_X8_stepAt) (hKS : ∀ k ∈ KM, k ∈ x_K x) {out : St × Int32} (hE : EI x cX8_stepAt out) {S : St} (h : f_X8_stepAt n S  = some out) : WX x 3 0 0 S 0 [(0, .ref (x_ad x 0 7 0))] [] := by
  unfold f_X8_stepAt at h
  refine r_iconst (v := 0) hx dX8_stepAt_0 (by decide) ?_
  refine r_istore_n (lv' := [(1, .int 0), (0, .ref (x_ad x 0 7 0))]) hx dX8_stepAt_1 rfl (by decide) rfl ?_
  refine WX.sub (lv' := [(0, .ref (x_ad x 0 7 0)), (1, .int 0)]) ?_ [1, 0] rfl
  exact t_X8_stepAt_2 hx hR hKS hE h
set_option maxHeartbeats 4000000 in
theorem C_X8_stepAt {n : Nat} {c : YC} (hKS : ∀ k ∈ KM, k ∈ c.2.2.2.2) {S : St} {out : St × Int32} (h : f_X8_stepAt n S  = some out) : MI c yX8_stepAt cX8_stepAt 3 (some .int) rm_X8_stepAt S [.ref (c.2.2.1 0 7 0)] out := mk_I (own := RX8) (by decide +kernel) rfl (Nat.le_of_ble_eq_true rfl) (fun x hx hR hy hE => by subst hy; exact t_X8_stepAt_0 hx hR hKS hE h)
def l_X8_take_2 (n : Nat) : Nat → St → Int32 → Option (St)
  | 0, _, _ => none
  | m + 1, S, l1 =>
    if (S.1 373 0) ≤ l1 then
      pS S 372 0 (S.1 373 0) fun S2 =>
      some S2
    else
      gI S 369 0 l1 8000 fun v4 =>
      pI S 368 0 l1 8000 v4 fun S7 =>
      bV (l1 + 1) fun v10 =>
      l_X8_take_2 n m S7 v10
def f_X8_take (n : Nat) (S : St) : Option (St) :=
  l_X8_take_2 n n S 0
set_option maxRecDepth 100000 in
set_option maxHeartbeats 4000000 in
theorem t_X8_take_2 {n : Nat} {x : XC} (hx : CX x cX8_take 2 RX8) (hR : x_R x = rm_X8_take) (hKS : ∀ k ∈ KM, k ∈ x_K x) {out : St} (hE : EV x cX8_take out) : ∀ {m : Nat} {S : St} {l1 : Int32} (h : l_X8_take_2 n m S l1 = some out), WX x 2 0 0 S 2 [(0, .ref (x_ad x 0 7 0)), (1, .int l1)] [] := by
  intro m
  induction m with
  | zero => intro S l1 h; cases h
  | succ m ih =>
    intro S l1 h
    unfold l_X8_take_2 at h
    refine r_iload_n (k0 := 1) hx dX8_take_2 rfl rfl ?_
    refine r_aload_n (k0 := 0) hx dX8_take_3 rfl rfl ?_
    refine g_373 hx (k_0_7 hKS) wf_X8_159 dX8_take_4 ?_
    refine r_icmp_ge (tgt := 28) hx dX8_take_7 (by decide) (fun c1 => ?_) (fun c1 => ?_)
    · have h := ite_t h c1
      refine r_aload_n (k0 := 0) hx dX8_take_28 rfl rfl ?_
      refine r_aload_n (k0 := 0) hx dX8_take_29 rfl rfl ?_
      refine g_373 hx (k_0_7 hKS) wf_X8_159 dX8_take_30 ?_
      obtain ⟨S2, e3, h⟩ := pS_some h
      refine p_372 hx (k_0_7 hKS) wf_X8_186 dX8_take_33 e3 ?_
      exact r_vret hE h dX8_take_36
    · have h := ite_f h c1
      refine r_aload_n (k0 := 0) hx dX8_take_10 rfl rfl ?_
      refine g_368 hx (k_0_7 hKS) wf_X8_56 dX8_take_11 ?_
      refine r_iload_n (k0 := 1) hx dX8_take_14 rfl rfl ?_
      refine r_aload_n (k0 := 0) hx dX8_take_15 rfl rfl ?_
      refine g_369 hx (k_0_7 hKS) wf_X8_59 dX8_take_16 ?_
      refine r_iload_n (k0 := 1) hx dX8_take_19 rfl rfl ?_
      obtain ⟨v4, e5, i6, h⟩ := gI_some h
      refine r_iald hx (k_1_369 hKS) rfl i6 e5 dX8_take_20 ?_
      obtain ⟨S7, e8, i9, h⟩ := pI_some h
      refine r_iast hx (k_1_368 hKS) rfl i9 e8 dX8_take_21 ?_
      obtain ⟨v10, e11, h⟩ := bV_some h
      refine r_iinc (k := 1) (v := v10) (lv' := [(1, .int v10), (0, .ref (x_ad x 0 7 0))]) hx dX8_take_22 rfl (by rw [e11]; rfl) (by decide) rfl ?_
      refine r_goto (tgt := 2) hx dX8_take_25 (by decide) ?_
      refine WX.sub (lv' := [(0, .ref (x_ad x 0 7 0)), (1, .int v10)]) ?_ [1, 0] rfl
      exact ih  h
set_option maxRecDepth 100000 in
set_option maxHeartbeats 4000000 in
theorem t_X8_take_0 {n : Nat} {x : XC} (hx : CX x cX8_take 2 RX8) (hR : x_R x = rm_X8_take) (hKS : ∀ k ∈ KM, k ∈ x_K x) {out : St} (hE : EV x cX8_take out) {S : St} (h : f_X8_take n S  = some out) : WX x 2 0 0 S 0 [(0, .ref (x_ad x 0 7 0))] [] := by
  unfold f_X8_take at h
  refine r_iconst (v := 0) hx dX8_take_0 (by decide) ?_
  refine r_istore_n (lv' := [(1, .int 0), (0, .ref (x_ad x 0 7 0))]) hx dX8_take_1 rfl (by decide) rfl ?_
  refine WX.sub (lv' := [(0, .ref (x_ad x 0 7 0)), (1, .int 0)]) ?_ [1, 0] rfl
  exact t_X8_take_2 hx hR hKS hE h
set_option maxHeartbeats 4000000 in
theorem C_X8_take {n : Nat} {c : YC} (hKS : ∀ k ∈ KM, k ∈ c.2.2.2.2) {S : St} {out : St} (h : f_X8_take n S  = some out) : MV c yX8_take cX8_take 2 none rm_X8_take S [.ref (c.2.2.1 0 7 0)] out := mk_V (own := RX8) (by decide +kernel) rfl (Nat.le_of_ble_eq_true rfl) (fun x hx hR hy hE => by subst hy; exact t_X8_take_0 hx hR hKS hE h)
def j_X8_has_115 (n : Nat) (K14 : St → Int32 → Int32 → Int32 → Option (St × Int32)) (K79 : St → Int32 → Int32 → Int32 → Int32 → Int32 → Int32 → Option (St × Int32)) (S : St) (l2 : Int32) (l3 : Int32) (l4 : Int32) (l5 : Int32) (l6 : Int32) (l7 : Int32) (s0 : Int32) (s1 : Int32) : Option (St × Int32) :=
  pI S 376 0 s1 1000 s0 fun S1 =>
  bV (l3 + 1) fun v4 =>
  bV (l7 + (-1)) fun v6 =>
  K79 S1 l2 v4 l4 l5 l6 v6
def j_X8_has_113 (n : Nat) (K14 : St → Int32 → Int32 → Int32 → Option (St × Int32)) (K79 : St → Int32 → Int32 → Int32 → Int32 → Int32 → Int32 → Option (St × Int32)) (S : St) (l2 : Int32) (l3 : Int32) (l4 : Int32) (l5 : Int32) (l6 : Int32) (l7 : Int32) (s0 : Int32) : Option (St × Int32) :=
  j_X8_has_115 n K14 K79 S l2 l3 l4 l5 l6 l7 l5 s0
def l_X8_has_79 (n : Nat) (K14 : St → Int32 → Int32 → Int32 → Option (St × Int32)) : Nat → St → Int32 → Int32 → Int32 → Int32 → Int32 → Int32 → Option (St × Int32)
  | 0, _, _, _, _, _, _, _ => none
  | m + 1, S, l2, l3, l4, l5, l6, l7 =>
    if l7 ≤ 0 then
      bI (f_X8_behindToken n S 368 l2) fun S2 v4 =>
      K14 S2 v4 l3 l4
    else
      if l7 = l6 then
        gI S 368 0 l2 8000 fun v6 =>
        if v6 = 5 then
          j_X8_has_113 n K14 (fun S l2 l3 l4 l5 l6 l7 => l_X8_has_79 n K14 m S l2 l3 l4 l5 l6 l7) S l2 l3 l4 l5 l6 l7 l3
        else
          j_X8_has_115 n K14 (fun S l2 l3 l4 l5 l6 l7 => l_X8_has_79 n K14 m S l2 l3 l4 l5 l6 l7) S l2 l3 l4 l5 l6 l7 (l5 + 1) l3
      else
        j_X8_has_113 n K14 (fun S l2 l3 l4 l5 l6 l7 => l_X8_has_79 n K14 m S l2 l3 l4 l5 l6 l7) S l2 l3 l4 l5 l6 l7 l3
def j_X8_has_62 (n : Nat) (K14 : St → Int32 → Int32 → Int32 → Option (St × Int32)) (S : St) (l2 : Int32) (l3 : Int32) (l5 : Int32) (s0 : Int32) : Option (St × Int32) :=
  gI S 368 0 l2 8000 fun v1 =>
  bI (f_X8_partsOf n S v1) fun S4 v6 =>
  l_X8_has_79 n K14 n S4 l2 l3 s0 l5 v6 v6
def j_X8_has_57 (n : Nat) (K14 : St → Int32 → Int32 → Int32 → Option (St × Int32)) (S : St) (l2 : Int32) (l3 : Int32) (l5 : Int32) : Option (St × Int32) :=
  j_X8_has_62 n K14 S l2 l3 l5 1
def j_X8_has_61 (n : Nat) (K14 : St → Int32 → Int32 → Int32 → Option (St × Int32)) (S : St) (l2 : Int32) (l3 : Int32) (l5 : Int32) : Option (St × Int32) :=
  j_X8_has_62 n K14 S l2 l3 l5 0
def l_X8_has_14 (n : Nat) : Nat → St → Int32 → Int32 → Int32 → Option (St × Int32)
  | 0, _, _, _, _ => none
  | m + 1, S, l2, l3, l4 =>
    if l3 ≤ 0 then
      some (S, l4)
    else
      bV (l3 + (-1)) fun v2 =>
      gI S 376 0 v2 1000 fun v4 =>
      if l4 = 0 then
        gI S 368 0 l2 8000 fun v8 =>
        if v8 = 1 then
          gI S 368 0 (l2 + 1) 8000 fun v12 =>
          if v12 = v4 then
            j_X8_has_57 n (fun S l2 l3 l4 => l_X8_has_14 n m S l2 l3 l4) S l2 v2 v4
          else
            j_X8_has_61 n (fun S l2 l3 l4 => l_X8_has_14 n m S l2 l3 l4) S l2 v2 v4
        else
          j_X8_has_61 n (fun S l2 l3 l4 => l_X8_has_14 n m S l2 l3 l4) S l2 v2 v4
      else
        j_X8_has_57 n (fun S l2 l3 l4 => l_X8_has_14 n m S l2 l3 l4) S l2 v2 v4
def g_X8_has (n : Nat) (S : St) (a1 : Int32) : Option (St × Int32) :=
  pI S 376 0 0 1000 0 fun S1 =>
  l_X8_has_14 n n S1 a1 1 0
set_option maxRecDepth 100000 in
set_option maxHeartbeats 4000000 in
theorem t_X8_has_115 {n : Nat} {K14 : St → Int32 → Int32 → Int32 → Option (St × Int32)} {K79 : St → Int32 → Int32 → Int32 → Int32 → Int32 → Int32 → Option (St × Int32)} {x : XC} (hx : CX x cX8_has 8 RX8) (hR : x_R x = rm_X8_has) (hKS : ∀ k ∈ KM, k ∈ x_K x) {out : St × Int32} (hE : EI x cX8_has out) (hK14 : ∀ {S : St} {l2 : Int32} {l3 : Int32} {l4 : Int32}, K14 S l2 l3 l4 = some out → WX x 8 0 0 S 14 [(0, .ref (x_ad x 0 7 0)), (2, .int l2), (3, .int l3), (4, .int l4)] []) (hK79 : ∀ {S : St} {l2 : Int32} {l3 : Int32} {l4 : Int32} {l5 : Int32} {l6 : Int32} {l7 : Int32}, K79 S l2 l3 l4 l5 l6 l7 = some out → WX x 8 0 0 S 79 [(0, .ref (x_ad x 0 7 0)), (2, .int l2), (3, .int l3), (4, .int l4), (5, .int l5), (6, .int l6), (7, .int l7)] []) {S : St} {l2 : Int32} {l3 : Int32} {l4 : Int32} {l5 : Int32} {l6 : Int32} {l7 : Int32} {s0 : Int32} {s1 : Int32} (h : j_X8_has_115 n K14 K79 S l2 l3 l4 l5 l6 l7 s0 s1 = some out) : WX x 8 0 0 S 115 [(0, .ref (x_ad x 0 7 0)), (2, .int l2), (3, .int l3), (4, .int l4), (5, .int l5), (6, .int l6), (7, .int l7)] [.int s0, .int s1, .ref (x_ad x 1 376 0)] := by
  unfold j_X8_has_115 at h
  obtain ⟨S1, e2, i3, h⟩ := pI_some h
  refine r_iast hx (k_1_376 hKS) rfl i3 e2 dX8_has_115 ?_
  obtain ⟨v4, e5, h⟩ := bV_some h
  refine r_iinc (k := 2) (v := v4) (lv' := [(3, .int v4), (0, .ref (x_ad x 0 7 0)), (2, .int l2), (4, .int l4), (5, .int l5), (6, .int l6), (7, .int l7)]) hx dX8_has_116 rfl (by rw [e5]; rfl) (by decide) rfl ?_
  obtain ⟨v6, e7, h⟩ := bV_some h
  refine r_iinc (k := 6) (v := v6) (lv' := [(7, .int v6), (3, .int v4), (0, .ref (x_ad x 0 7 0)), (2, .int l2), (4, .int l4), (5, .int l5), (6, .int l6)]) hx dX8_has_119 rfl (by rw [e7]; rfl) (by decide) rfl ?_
  refine r_goto (tgt := 79) hx dX8_has_122 (by decide) ?_
  refine WX.sub (lv' := [(0, .ref (x_ad x 0 7 0)), (2, .int l2), (3, .int v4), (4, .int l4), (5, .int l5), (6, .int l6), (7, .int v6)]) ?_ [2, 3, 1, 4, 5, 6, 0] rfl
  exact hK79  h
set_option maxRecDepth 100000 in
set_option maxHeartbeats 4000000 in
theorem t_X8_has_113 {n : Nat} {K14 : St → Int32 → Int32 → Int32 → Option (St × Int32)} {K79 : St → Int32 → Int32 → Int32 → Int32 → Int32 → Int32 → Option (St × Int32)} {x : XC} (hx : CX x cX8_has 8 RX8) (hR : x_R x = rm_X8_has) (hKS : ∀ k ∈ KM, k ∈ x_K x) {out : St × Int32} (hE : EI x cX8_has out) (hK14 : ∀ {S : St} {l2 : Int32} {l3 : Int32} {l4 : Int32}, K14 S l2 l3 l4 = some out → WX x 8 0 0 S 14 [(0, .ref (x_ad x 0 7 0)), (2, .int l2), (3, .int l3), (4, .int l4)] []) (hK79 : ∀ {S : St} {l2 : Int32} {l3 : Int32} {l4 : Int32} {l5 : Int32} {l6 : Int32} {l7 : Int32}, K79 S l2 l3 l4 l5 l6 l7 = some out → WX x 8 0 0 S 79 [(0, .ref (x_ad x 0 7 0)), (2, .int l2), (3, .int l3), (4, .int l4), (5, .int l5), (6, .int l6), (7, .int l7)] []) {S : St} {l2 : Int32} {l3 : Int32} {l4 : Int32} {l5 : Int32} {l6 : Int32} {l7 : Int32} {s0 : Int32} (h : j_X8_has_113 n K14 K79 S l2 l3 l4 l5 l6 l7 s0 = some out) : WX x 8 0 0 S 113 [(0, .ref (x_ad x 0 7 0)), (2, .int l2), (3, .int l3), (4, .int l4), (5, .int l5), (6, .int l6), (7, .int l7)] [.int s0, .ref (x_ad x 1 376 0)] := by
  unfold j_X8_has_113 at h
  refine r_iload (k0 := 4) hx dX8_has_113 rfl ?_
  exact t_X8_has_115 hx hR hKS hE hK14 hK79 h
set_option maxRecDepth 100000 in
set_option maxHeartbeats 4000000 in
theorem t_X8_has_79 {n : Nat} {K14 : St → Int32 → Int32 → Int32 → Option (St × Int32)} {x : XC} (hx : CX x cX8_has 8 RX8) (hR : x_R x = rm_X8_has) (hKS : ∀ k ∈ KM, k ∈ x_K x) {out : St × Int32} (hE : EI x cX8_has out) (hK14 : ∀ {S : St} {l2 : Int32} {l3 : Int32} {l4 : Int32}, K14 S l2 l3 l4 = some out → WX x 8 0 0 S 14 [(0, .ref (x_ad x 0 7 0)), (2, .int l2), (3, .int l3), (4, .int l4)] []) : ∀ {m : Nat} {S : St} {l2 : Int32} {l3 : Int32} {l4 : Int32} {l5 : Int32} {l6 : Int32} {l7 : Int32} (h : l_X8_has_79 n K14 m S l2 l3 l4 l5 l6 l7 = some out), WX x 8 0 0 S 79 [(0, .ref (x_ad x 0 7 0)), (2, .int l2), (3, .int l3), (4, .int l4), (5, .int l5), (6, .int l6), (7, .int l7)] [] := by
  intro m
  induction m with
  | zero => intro S l2 l3 l4 l5 l6 l7 h; cases h
  | succ m ih =>
    intro S l2 l3 l4 l5 l6 l7 h
    unfold l_X8_has_79 at h
    refine r_iload (k0 := 6) hx dX8_has_79 rfl ?_
    refine r_if_le (tgt := 125) hx dX8_has_81 (by decide) (fun c1 => ?_) (fun c1 => ?_)
    · have h := ite_t h c1
      refine r_aload_n (k0 := 0) hx dX8_has_125 rfl rfl ?_
      refine g_368 hx (k_0_7 hKS) wf_X8_56 dX8_has_126 ?_
      refine r_iload_n (k0 := 1) hx dX8_has_129 rfl rfl ?_
      obtain ⟨S2, v4, c3, h⟩ := bI_some h
      refine r_Si (As := [.ref (x_ad x 1 368 0), .int l2]) (rest := []) hx (C_X8_behindToken (c := x_y x) hKS km_368 c3) wl_X8_152 wt_X8_behindToken wn_X8 wc_X8_behindToken dy_X8_behindToken rfl (by rw [hR]; decide +kernel) rfl (Nat.le_of_ble_eq_true rfl) dX8_has_130 ?_
      refine r_istore_n (lv' := [(2, .int v4), (0, .ref (x_ad x 0 7 0)), (3, .int l3), (4, .int l4), (5, .int l5), (6, .int l6), (7, .int l7)]) hx dX8_has_133 rfl (by decide) rfl ?_
      refine r_goto (tgt := 14) hx dX8_has_134 (by decide) ?_
      refine WX.sub (lv' := [(0, .ref (x_ad x 0 7 0)), (2, .int v4), (3, .int l3), (4, .int l4)]) ?_ [1, 0, 2, 3] rfl
      exact hK14  h
    · have h := ite_f h c1
      refine r_aload_n (k0 := 0) hx dX8_has_84 rfl rfl ?_
      refine g_376 hx (k_0_7 hKS) wf_X8_69 dX8_has_85 ?_
      refine r_iload_n (k0 := 2) hx dX8_has_88 rfl rfl ?_
      refine r_iload (k0 := 6) hx dX8_has_89 rfl ?_
      refine r_iload (k0 := 5) hx dX8_has_91 rfl ?_
      refine r_icmp_ne (tgt := 113) hx dX8_has_93 (by decide) (fun c5 => ?_) (fun c5 => ?_)
      · have h := ite_f h c5
        exact t_X8_has_113 hx hR hKS hE hK14 ih h
      · have h := ite_t h c5
        refine r_aload_n (k0 := 0) hx dX8_has_96 rfl rfl ?_
        refine g_368 hx (k_0_7 hKS) wf_X8_56 dX8_has_97 ?_
        refine r_iload_n (k0 := 1) hx dX8_has_100 rfl rfl ?_
        obtain ⟨v6, e7, i8, h⟩ := gI_some h
        refine r_iald hx (k_1_368 hKS) rfl i8 e7 dX8_has_101 ?_
        refine r_iconst (v := 5) hx dX8_has_102 (by decide) ?_
        refine r_icmp_eq (tgt := 113) hx dX8_has_103 (by decide) (fun c9 => ?_) (fun c9 => ?_)
        · have h := ite_t h c9
          exact t_X8_has_113 hx hR hKS hE hK14 ih h
        · have h := ite_f h c9
          refine r_iload (k0 := 4) hx dX8_has_106 rfl ?_
          refine r_iconst (v := 1) hx dX8_has_108 (by decide) ?_
          refine r_iadd hx dX8_has_109 ?_
          refine r_goto (tgt := 115) hx dX8_has_110 (by decide) ?_
          exact t_X8_has_115 hx hR hKS hE hK14 ih h
set_option maxRecDepth 100000 in
set_option maxHeartbeats 4000000 in
theorem t_X8_has_62 {n : Nat} {K14 : St → Int32 → Int32 → Int32 → Option (St × Int32)} {x : XC} (hx : CX x cX8_has 8 RX8) (hR : x_R x = rm_X8_has) (hKS : ∀ k ∈ KM, k ∈ x_K x) {out : St × Int32} (hE : EI x cX8_has out) (hK14 : ∀ {S : St} {l2 : Int32} {l3 : Int32} {l4 : Int32}, K14 S l2 l3 l4 = some out → WX x 8 0 0 S 14 [(0, .ref (x_ad x 0 7 0)), (2, .int l2), (3, .int l3), (4, .int l4)] []) {S : St} {l2 : Int32} {l3 : Int32} {l5 : Int32} {s0 : Int32} (h : j_X8_has_62 n K14 S l2 l3 l5 s0 = some out) : WX x 8 0 0 S 62 [(0, .ref (x_ad x 0 7 0)), (2, .int l2), (3, .int l3), (5, .int l5)] [.int s0] := by
  unfold j_X8_has_62 at h
  refine r_istore (lv' := [(4, .int s0), (0, .ref (x_ad x 0 7 0)), (2, .int l2), (3, .int l3), (5, .int l5)]) hx dX8_has_62 (by decide) rfl ?_
  refine r_aload_n (k0 := 1) hx dX8_has_64 rfl rfl ?_
  refine g_368 hx (k_0_7 hKS) wf_X8_56 dX8_has_65 ?_
  refine r_iload_n (k0 := 2) hx dX8_has_68 rfl rfl ?_
  obtain ⟨v1, e2, i3, h⟩ := gI_some h
  refine r_iald hx (k_1_368 hKS) rfl i3 e2 dX8_has_69 ?_
  obtain ⟨S4, v6, c5, h⟩ := bI_some h
  refine r_Si (As := [.int v1]) (rest := []) hx (C_X8_partsOf (c := x_y x) hKS c5) wl_X8_148 wt_X8_partsOf wn_X8 wc_X8_partsOf dy_X8_partsOf rfl (by rw [hR]; decide +kernel) rfl (Nat.le_of_ble_eq_true rfl) dX8_has_70 ?_
  refine r_istore (lv' := [(6, .int v6), (4, .int s0), (0, .ref (x_ad x 0 7 0)), (2, .int l2), (3, .int l3), (5, .int l5)]) hx dX8_has_73 (by decide) rfl ?_
  refine r_iload (k0 := 0) hx dX8_has_75 rfl ?_
  refine r_istore (lv' := [(7, .int v6), (6, .int v6), (4, .int s0), (0, .ref (x_ad x 0 7 0)), (2, .int l2), (3, .int l3), (5, .int l5)]) hx dX8_has_77 (by decide) rfl ?_
  refine WX.sub (lv' := [(0, .ref (x_ad x 0 7 0)), (2, .int l2), (3, .int l3), (4, .int s0), (5, .int l5), (6, .int v6), (7, .int v6)]) ?_ [3, 4, 5, 2, 6, 1, 0] rfl
  exact t_X8_has_79 hx hR hKS hE hK14 h
set_option maxRecDepth 100000 in
set_option maxHeartbeats 4000000 in
theorem t_X8_has_57 {n : Nat} {K14 : St → Int32 → Int32 → Int32 → Option (St × Int32)} {x : XC} (hx : CX x cX8_has 8 RX8) (hR : x_R x = rm_X8_has) (hKS : ∀ k ∈ KM, k ∈ x_K x) {out : St × Int32} (hE : EI x cX8_has out) (hK14 : ∀ {S : St} {l2 : Int32} {l3 : Int32} {l4 : Int32}, K14 S l2 l3 l4 = some out → WX x 8 0 0 S 14 [(0, .ref (x_ad x 0 7 0)), (2, .int l2), (3, .int l3), (4, .int l4)] []) {S : St} {l2 : Int32} {l3 : Int32} {l5 : Int32} (h : j_X8_has_57 n K14 S l2 l3 l5 = some out) : WX x 8 0 0 S 57 [(0, .ref (x_ad x 0 7 0)), (2, .int l2), (3, .int l3), (5, .int l5)] [] := by
  unfold j_X8_has_57 at h
  refine r_iconst (v := 1) hx dX8_has_57 (by decide) ?_
  refine r_goto (tgt := 62) hx dX8_has_58 (by decide) ?_
  exact t_X8_has_62 hx hR hKS hE hK14 h
set_option maxRecDepth 100000 in
set_option maxHeartbeats 4000000 in
theorem t_X8_has_61 {n : Nat} {K14 : St → Int32 → Int32 → Int32 → Option (St × Int32)} {x : XC} (hx : CX x cX8_has 8 RX8) (hR : x_R x = rm_X8_has) (hKS : ∀ k ∈ KM, k ∈ x_K x) {out : St × Int32} (hE : EI x cX8_has out) (hK14 : ∀ {S : St} {l2 : Int32} {l3 : Int32} {l4 : Int32}, K14 S l2 l3 l4 = some out → WX x 8 0 0 S 14 [(0, .ref (x_ad x 0 7 0)), (2, .int l2), (3, .int l3), (4, .int l4)] []) {S : St} {l2 : Int32} {l3 : Int32} {l5 : Int32} (h : j_X8_has_61 n K14 S l2 l3 l5 = some out) : WX x 8 0 0 S 61 [(0, .ref (x_ad x 0 7 0)), (2, .int l2), (3, .int l3), (5, .int l5)] [] := by
  unfold j_X8_has_61 at h
  refine r_iconst (v := 0) hx dX8_has_61 (by decide) ?_
  exact t_X8_has_62 hx hR hKS hE hK14 h
set_option maxRecDepth 100000 in
set_option maxHeartbeats 4000000 in
theorem t_X8_has_14 {n : Nat} {x : XC} (hx : CX x cX8_has 8 RX8) (hR : x_R x = rm_X8_has) (hKS : ∀ k ∈ KM, k ∈ x_K x) {out : St × Int32} (hE : EI x cX8_has out) : ∀ {m : Nat} {S : St} {l2 : Int32} {l3 : Int32} {l4 : Int32} (h : l_X8_has_14 n m S l2 l3 l4 = some out), WX x 8 0 0 S 14 [(0, .ref (x_ad x 0 7 0)), (2, .int l2), (3, .int l3), (4, .int l4)] [] := by
  intro m
  induction m with
  | zero => intro S l2 l3 l4 h; cases h
  | succ m ih =>
    intro S l2 l3 l4 h
    unfold l_X8_has_14 at h
    refine r_iload_n (k0 := 2) hx dX8_has_14 rfl rfl ?_
    refine r_if_le (tgt := 137) hx dX8_has_15 (by decide) (fun c1 => ?_) (fun c1 => ?_)
    · have h := ite_t h c1
      refine r_iload (k0 := 3) hx dX8_has_137 rfl ?_
      exact r_iret hE h dX8_has_139
    · have h := ite_f h c1
      obtain ⟨v2, e3, h⟩ := bV_some h
      refine r_iinc (k := 2) (v := v2) (lv' := [(3, .int v2), (0, .ref (x_ad x 0 7 0)), (2, .int l2), (4, .int l4)]) hx dX8_has_18 rfl (by rw [e3]; rfl) (by decide) rfl ?_
      refine r_aload_n (k0 := 1) hx dX8_has_21 rfl rfl ?_
      refine g_376 hx (k_0_7 hKS) wf_X8_69 dX8_has_22 ?_
      refine r_iload_n (k0 := 0) hx dX8_has_25 rfl rfl ?_
      obtain ⟨v4, e5, i6, h⟩ := gI_some h
      refine r_iald hx (k_1_376 hKS) rfl i6 e5 dX8_has_26 ?_
      refine r_istore (lv' := [(5, .int v4), (3, .int v2), (0, .ref (x_ad x 0 7 0)), (2, .int l2), (4, .int l4)]) hx dX8_has_27 (by decide) rfl ?_
      refine r_iload (k0 := 4) hx dX8_has_29 rfl ?_
      refine r_if_ne (tgt := 57) hx dX8_has_31 (by decide) (fun c7 => ?_) (fun c7 => ?_)
      · have h := ite_f h c7
        refine WX.sub (lv' := [(0, .ref (x_ad x 0 7 0)), (2, .int l2), (3, .int v2), (5, .int v4)]) ?_ [2, 3, 1, 0] rfl
        exact t_X8_has_57 hx hR hKS hE ih h
      · have h := ite_t h c7
        refine r_aload_n (k0 := 2) hx dX8_has_34 rfl rfl ?_
        refine g_368 hx (k_0_7 hKS) wf_X8_56 dX8_has_35 ?_
        refine r_iload_n (k0 := 3) hx dX8_has_38 rfl rfl ?_
        obtain ⟨v8, e9, i10, h⟩ := gI_some h
        refine r_iald hx (k_1_368 hKS) rfl i10 e9 dX8_has_39 ?_
        refine r_iconst (v := 1) hx dX8_has_40 (by decide) ?_
        refine r_icmp_ne (tgt := 61) hx dX8_has_41 (by decide) (fun c11 => ?_) (fun c11 => ?_)
        · have h := ite_f h c11
          refine WX.sub (lv' := [(0, .ref (x_ad x 0 7 0)), (2, .int l2), (3, .int v2), (5, .int v4)]) ?_ [2, 3, 1, 0] rfl
          exact t_X8_has_61 hx hR hKS hE ih h
        · have h := ite_t h c11
          refine r_aload_n (k0 := 2) hx dX8_has_44 rfl rfl ?_
          refine g_368 hx (k_0_7 hKS) wf_X8_56 dX8_has_45 ?_
          refine r_iload_n (k0 := 3) hx dX8_has_48 rfl rfl ?_
          refine r_iconst (v := 1) hx dX8_has_49 (by decide) ?_
          refine r_iadd hx dX8_has_50 ?_
          obtain ⟨v12, e13, i14, h⟩ := gI_some h
          refine r_iald hx (k_1_368 hKS) rfl i14 e13 dX8_has_51 ?_
          refine r_iload (k0 := 0) hx dX8_has_52 rfl ?_
          refine r_icmp_ne (tgt := 61) hx dX8_has_54 (by decide) (fun c15 => ?_) (fun c15 => ?_)
          · have h := ite_f h c15
            refine WX.sub (lv' := [(0, .ref (x_ad x 0 7 0)), (2, .int l2), (3, .int v2), (5, .int v4)]) ?_ [2, 3, 1, 0] rfl
            exact t_X8_has_61 hx hR hKS hE ih h
          · have h := ite_t h c15
            refine WX.sub (lv' := [(0, .ref (x_ad x 0 7 0)), (2, .int l2), (3, .int v2), (5, .int v4)]) ?_ [2, 3, 1, 0] rfl
            exact t_X8_has_57 hx hR hKS hE ih h
set_option maxRecDepth 100000 in
set_option maxHeartbeats 4000000 in
theorem t_X8_has_0 {n : Nat} {x : XC} (hx : CX x cX8_has 8 RX8) (hR : x_R x = rm_X8_has) (hKS : ∀ k ∈ KM, k ∈ x_K x) {out : St × Int32} (hE : EI x cX8_has out) {S : St} {a1 : Int32} (h : g_X8_has n S a1 = some out) : WX x 8 0 0 S 0 [(0, .ref (x_ad x 0 7 0)), (1, .int a1)] [] := by
  unfold g_X8_has at h
  refine r_iload_n (k0 := 1) hx dX8_has_0 rfl rfl ?_
  refine r_istore_n (lv' := [(2, .int a1), (0, .ref (x_ad x 0 7 0)), (1, .int a1)]) hx dX8_has_1 rfl (by decide) rfl ?_
  refine r_iconst (v := 1) hx dX8_has_2 (by decide) ?_
  refine r_istore_n (lv' := [(3, .int 1), (2, .int a1), (0, .ref (x_ad x 0 7 0)), (1, .int a1)]) hx dX8_has_3 rfl (by decide) rfl ?_
  refine r_iconst (v := 0) hx dX8_has_4 (by decide) ?_
  refine r_istore (lv' := [(4, .int 0), (3, .int 1), (2, .int a1), (0, .ref (x_ad x 0 7 0)), (1, .int a1)]) hx dX8_has_5 (by decide) rfl ?_
  refine r_aload_n (k0 := 3) hx dX8_has_7 rfl rfl ?_
  refine g_376 hx (k_0_7 hKS) wf_X8_69 dX8_has_8 ?_
  refine r_iconst (v := 0) hx dX8_has_11 (by decide) ?_
  refine r_iconst (v := 0) hx dX8_has_12 (by decide) ?_
  obtain ⟨S1, e2, i3, h⟩ := pI_some h
  refine r_iast hx (k_1_376 hKS) rfl i3 e2 dX8_has_13 ?_
  refine WX.sub (lv' := [(0, .ref (x_ad x 0 7 0)), (2, .int a1), (3, .int 1), (4, .int 0)]) ?_ [3, 2, 1, 0] rfl
  exact t_X8_has_14 hx hR hKS hE h
def f_X8_has (n : Nat) (S : St) (a1 : Int32) : Option (St × Int32) := zW (g_X8_has n S a1)
set_option maxHeartbeats 4000000 in
theorem C_X8_has {n : Nat} {c : YC} (hKS : ∀ k ∈ KM, k ∈ c.2.2.2.2) {S : St} {a1 : Int32} {out : St × Int32} (h : f_X8_has n S a1 = some out) : MI c yX8_has cX8_has 8 (some .boolean) rm_X8_has S [.ref (c.2.2.1 0 7 0), .int a1] out := mk_Z (own := RX8) (by decide +kernel) rfl (Nat.le_of_ble_eq_true rfl) (zW_some h).2 (fun x hx hR hy hE => by subst hy; exact t_X8_has_0 hx hR hKS hE (zW_some h).1)
def j_X8_shorten_191 (n : Nat) (K38 : St → Int32 → Option (St)) (S : St) (l2 : Int32) : Option (St) :=
  bV (l2 + (-1)) fun v1 =>
  K38 S v1
def j_X8_shorten_73 (n : Nat) (K38 : St → Int32 → Option (St)) (S : St) (l2 : Int32) (l3 : Int32) (s0 : Int32) : Option (St) :=
  if s0 < 0 then
    j_X8_shorten_191 n K38 S l2
  else
    gI S 368 0 s0 8000 fun v2 =>
    if v2 = 5 then
      bI (f_X8_behindTerm n S 368 (s0 + 1)) fun S6 v8 =>
      gI S6 368 0 v8 8000 fun v9 =>
      if v9 = 1 then
        gI S6 368 0 (v8 + 1) 8000 fun v13 =>
        if v13 = 0 then
          bI (f_X8_has n S6 (s0 + 1)) fun S17 v19 =>
          if v19 = 0 then
            pS S17 373 0 0 fun S21 =>
            pS S21 380 0 0 fun S23 =>
            bU (f_X8_copy n S23 368 0 l3) fun S25 =>
            bU (f_X8_lift n S25 368 (s0 + 1) (-1)) fun S27 =>
            bU (f_X8_copy n S27 368 (v8 + 2) (S27.1 372 0)) fun S29 =>
            bU (f_X8_take n S29) fun S31 =>
            j_X8_shorten_191 n K38 S31 l2
          else
            j_X8_shorten_191 n K38 S17 l2
        else
          j_X8_shorten_191 n K38 S6 l2
      else
        j_X8_shorten_191 n K38 S6 l2
    else
      j_X8_shorten_191 n K38 S l2
def l_X8_shorten_38 (n : Nat) : Nat → St → Int32 → Option (St)
  | 0, _, _ => none
  | m + 1, S, l2 =>
    if l2 < 0 then
      some S
    else
      gI S 381 0 l2 8000 fun v2 =>
      gI S 368 0 v2 8000 fun v5 =>
      if v5 = 4 then
        bI (f_X8_behindTerm n S 368 (v2 + 1)) fun S9 v11 =>
        j_X8_shorten_73 n (fun S l2 => l_X8_shorten_38 n m S l2) S9 l2 v2 v11
      else
        j_X8_shorten_73 n (fun S l2 => l_X8_shorten_38 n m S l2) S l2 v2 (-1)
def l_X8_shorten_4 (n : Nat) : Nat → St → Int32 → Int32 → Option (St)
  | 0, _, _, _ => none
  | m + 1, S, l1, l2 =>
    if (S.1 372 0) ≤ l2 then
      bV (l1 - 1) fun v2 =>
      l_X8_shorten_38 n n S v2
    else
      pI S 381 0 l1 8000 l2 fun S4 =>
      bV (l1 + 1) fun v7 =>
      bI (f_X8_behindToken n S4 368 l2) fun S9 v11 =>
      l_X8_shorten_4 n m S9 v7 v11
def f_X8_shorten (n : Nat) (S : St) : Option (St) :=
  l_X8_shorten_4 n n S 0 0
set_option maxRecDepth 100000 in
set_option maxHeartbeats 4000000 in
theorem t_X8_shorten_191 {n : Nat} {K38 : St → Int32 → Option (St)} {x : XC} (hx : CX x cX8_shorten 6 RX8) (hR : x_R x = rm_X8_shorten) (hKS : ∀ k ∈ KM, k ∈ x_K x) {out : St} (hE : EV x cX8_shorten out) (hK38 : ∀ {S : St} {l2 : Int32}, K38 S l2 = some out → WX x 6 0 0 S 38 [(0, .ref (x_ad x 0 7 0)), (2, .int l2)] []) {S : St} {l2 : Int32} (h : j_X8_shorten_191 n K38 S l2 = some out) : WX x 6 0 0 S 191 [(0, .ref (x_ad x 0 7 0)), (2, .int l2)] [] := by
  unfold j_X8_shorten_191 at h
  obtain ⟨v1, e2, h⟩ := bV_some h
  refine r_iinc (k := 1) (v := v1) (lv' := [(2, .int v1), (0, .ref (x_ad x 0 7 0))]) hx dX8_shorten_191 rfl (by rw [e2]; rfl) (by decide) rfl ?_
  refine r_goto (tgt := 38) hx dX8_shorten_194 (by decide) ?_
  refine WX.sub (lv' := [(0, .ref (x_ad x 0 7 0)), (2, .int v1)]) ?_ [1, 0] rfl
  exact hK38  h
set_option maxRecDepth 100000 in
set_option maxHeartbeats 4000000 in
theorem t_X8_shorten_73 {n : Nat} {K38 : St → Int32 → Option (St)} {x : XC} (hx : CX x cX8_shorten 6 RX8) (hR : x_R x = rm_X8_shorten) (hKS : ∀ k ∈ KM, k ∈ x_K x) {out : St} (hE : EV x cX8_shorten out) (hK38 : ∀ {S : St} {l2 : Int32}, K38 S l2 = some out → WX x 6 0 0 S 38 [(0, .ref (x_ad x 0 7 0)), (2, .int l2)] []) {S : St} {l2 : Int32} {l3 : Int32} {s0 : Int32} (h : j_X8_shorten_73 n K38 S l2 l3 s0 = some out) : WX x 6 0 0 S 73 [(0, .ref (x_ad x 0 7 0)), (2, .int l2), (3, .int l3)] [.int s0] := by
  unfold j_X8_shorten_73 at h
  refine r_istore (lv' := [(4, .int s0), (0, .ref (x_ad x 0 7 0)), (2, .int l2), (3, .int l3)]) hx dX8_shorten_73 (by decide) rfl ?_
  refine r_iload (k0 := 0) hx dX8_shorten_75 rfl ?_
  refine r_if_lt (tgt := 191) hx dX8_shorten_77 (by decide) (fun c1 => ?_) (fun c1 => ?_)
  · have h := ite_t h c1
    refine WX.sub (lv' := [(0, .ref (x_ad x 0 7 0)), (2, .int l2)]) ?_ [1, 2] rfl
    exact t_X8_shorten_191 hx hR hKS hE hK38 h
  · have h := ite_f h c1
    refine r_aload_n (k0 := 1) hx dX8_shorten_80 rfl rfl ?_
    refine g_368 hx (k_0_7 hKS) wf_X8_56 dX8_shorten_81 ?_
    refine r_iload (k0 := 0) hx dX8_shorten_84 rfl ?_
    obtain ⟨v2, e3, i4, h⟩ := gI_some h
    refine r_iald hx (k_1_368 hKS) rfl i4 e3 dX8_shorten_86 ?_
    refine r_iconst (v := 5) hx dX8_shorten_87 (by decide) ?_
    refine r_icmp_ne (tgt := 191) hx dX8_shorten_88 (by decide) (fun c5 => ?_) (fun c5 => ?_)
    · have h := ite_f h c5
      refine WX.sub (lv' := [(0, .ref (x_ad x 0 7 0)), (2, .int l2)]) ?_ [1, 2] rfl
      exact t_X8_shorten_191 hx hR hKS hE hK38 h
    · have h := ite_t h c5
      refine r_aload_n (k0 := 1) hx dX8_shorten_91 rfl rfl ?_
      refine g_368 hx (k_0_7 hKS) wf_X8_56 dX8_shorten_92 ?_
      refine r_iload (k0 := 0) hx dX8_shorten_95 rfl ?_
      refine r_iconst (v := 1) hx dX8_shorten_97 (by decide) ?_
      refine r_iadd hx dX8_shorten_98 ?_
      obtain ⟨S6, v8, c7, h⟩ := bI_some h
      refine r_Si (As := [.ref (x_ad x 1 368 0), .int (s0 + 1)]) (rest := []) hx (C_X8_behindTerm (c := x_y x) hKS km_368 c7) wl_X8_197 wt_X8_behindTerm wn_X8 wc_X8_behindTerm dy_X8_behindTerm rfl (by rw [hR]; decide +kernel) rfl (Nat.le_of_ble_eq_true rfl) dX8_shorten_99 ?_
      refine r_istore (lv' := [(5, .int v8), (4, .int s0), (0, .ref (x_ad x 0 7 0)), (2, .int l2), (3, .int l3)]) hx dX8_shorten_102 (by decide) rfl ?_
      refine r_aload_n (k0 := 2) hx dX8_shorten_104 rfl rfl ?_
      refine g_368 hx (k_0_7 hKS) wf_X8_56 dX8_shorten_105 ?_
      refine r_iload (k0 := 0) hx dX8_shorten_108 rfl ?_
      obtain ⟨v9, e10, i11, h⟩ := gI_some h
      refine r_iald hx (k_1_368 hKS) rfl i11 e10 dX8_shorten_110 ?_
      refine r_iconst (v := 1) hx dX8_shorten_111 (by decide) ?_
      refine r_icmp_ne (tgt := 191) hx dX8_shorten_112 (by decide) (fun c12 => ?_) (fun c12 => ?_)
      · have h := ite_f h c12
        refine WX.sub (lv' := [(0, .ref (x_ad x 0 7 0)), (2, .int l2)]) ?_ [2, 3] rfl
        exact t_X8_shorten_191 hx hR hKS hE hK38 h
      · have h := ite_t h c12
        refine r_aload_n (k0 := 2) hx dX8_shorten_115 rfl rfl ?_
        refine g_368 hx (k_0_7 hKS) wf_X8_56 dX8_shorten_116 ?_
        refine r_iload (k0 := 0) hx dX8_shorten_119 rfl ?_
        refine r_iconst (v := 1) hx dX8_shorten_121 (by decide) ?_
        refine r_iadd hx dX8_shorten_122 ?_
        obtain ⟨v13, e14, i15, h⟩ := gI_some h
        refine r_iald hx (k_1_368 hKS) rfl i15 e14 dX8_shorten_123 ?_
        refine r_if_ne (tgt := 191) hx dX8_shorten_124 (by decide) (fun c16 => ?_) (fun c16 => ?_)
        · have h := ite_f h c16
          refine WX.sub (lv' := [(0, .ref (x_ad x 0 7 0)), (2, .int l2)]) ?_ [2, 3] rfl
          exact t_X8_shorten_191 hx hR hKS hE hK38 h
        · have h := ite_t h c16
          refine r_aload_n (k0 := 2) hx dX8_shorten_127 rfl rfl ?_
          refine r_iload (k0 := 1) hx dX8_shorten_128 rfl ?_
          refine r_iconst (v := 1) hx dX8_shorten_130 (by decide) ?_
          refine r_iadd hx dX8_shorten_131 ?_
          obtain ⟨S17, v19, c18, h⟩ := bI_some h
          refine r_Vi (ci := 7) (As := [.int (s0 + 1)]) (rest := []) hx (C_X8_has (c := x_y x) hKS c18) (k_0_7 hKS) rfl wl_X8_214 wi_X8_has we_X8_has wn_X8 wc_X8_has dy_X8_has rfl (by rw [hR]; decide +kernel) rfl (Nat.le_of_ble_eq_true rfl) dX8_shorten_132 ?_
          refine r_if_ne (tgt := 191) hx dX8_shorten_135 (by decide) (fun c20 => ?_) (fun c20 => ?_)
          · have h := ite_f h c20
            refine WX.sub (lv' := [(0, .ref (x_ad x 0 7 0)), (2, .int l2)]) ?_ [2, 3] rfl
            exact t_X8_shorten_191 hx hR hKS hE hK38 h
          · have h := ite_t h c20
            refine r_aload_n (k0 := 2) hx dX8_shorten_138 rfl rfl ?_
            refine r_iconst (v := 0) hx dX8_shorten_139 (by decide) ?_
            obtain ⟨S21, e22, h⟩ := pS_some h
            refine p_373 hx (k_0_7 hKS) wf_X8_159 dX8_shorten_140 e22 ?_
            refine r_aload_n (k0 := 2) hx dX8_shorten_143 rfl rfl ?_
            refine r_iconst (v := 0) hx dX8_shorten_144 (by decide) ?_
            obtain ⟨S23, e24, h⟩ := pS_some h
            refine p_380 hx (k_0_7 hKS) wf_X8_162 (by decide) dX8_shorten_145 e24 ?_
            refine r_aload_n (k0 := 2) hx dX8_shorten_148 rfl rfl ?_
            refine r_aload_n (k0 := 2) hx dX8_shorten_149 rfl rfl ?_
            refine g_368 hx (k_0_7 hKS) wf_X8_56 dX8_shorten_150 ?_
            refine r_iconst (v := 0) hx dX8_shorten_153 (by decide) ?_
            refine r_iload_n (k0 := 4) hx dX8_shorten_154 rfl rfl ?_
            obtain ⟨S25, c26, h⟩ := bU_some h
            refine r_Vv (ci := 7) (As := [.ref (x_ad x 1 368 0), .int 0, .int l3]) (rest := []) hx (C_X8_copy (c := x_y x) hKS km_368 c26) (k_0_7 hKS) rfl wl_X8_169 wi_X8_copy we_X8_copy wn_X8 wc_X8_copy dy_X8_copy rfl (by rw [hR]; decide +kernel) rfl (Nat.le_of_ble_eq_true rfl) dX8_shorten_155 ?_
            refine r_aload_n (k0 := 2) hx dX8_shorten_158 rfl rfl ?_
            refine r_aload_n (k0 := 2) hx dX8_shorten_159 rfl rfl ?_
            refine g_368 hx (k_0_7 hKS) wf_X8_56 dX8_shorten_160 ?_
            refine r_iload (k0 := 1) hx dX8_shorten_163 rfl ?_
            refine r_iconst (v := 1) hx dX8_shorten_165 (by decide) ?_
            refine r_iadd hx dX8_shorten_166 ?_
            refine r_iconst (v := -1) hx dX8_shorten_167 (by decide) ?_
            obtain ⟨S27, c28, h⟩ := bU_some h
            refine r_Vv (ci := 7) (As := [.ref (x_ad x 1 368 0), .int (s0 + 1), .int (-1)]) (rest := []) hx (C_X8_lift (c := x_y x) hKS km_368 c28) (k_0_7 hKS) rfl wl_X8_173 wi_X8_lift we_X8_lift wn_X8 wc_X8_lift dy_X8_lift rfl (by rw [hR]; decide +kernel) rfl (Nat.le_of_ble_eq_true rfl) dX8_shorten_168 ?_
            refine r_aload_n (k0 := 2) hx dX8_shorten_171 rfl rfl ?_
            refine r_aload_n (k0 := 2) hx dX8_shorten_172 rfl rfl ?_
            refine g_368 hx (k_0_7 hKS) wf_X8_56 dX8_shorten_173 ?_
            refine r_iload (k0 := 0) hx dX8_shorten_176 rfl ?_
            refine r_iconst (v := 2) hx dX8_shorten_178 (by decide) ?_
            refine r_iadd hx dX8_shorten_179 ?_
            refine r_aload_n (k0 := 2) hx dX8_shorten_180 rfl rfl ?_
            refine g_372 hx (k_0_7 hKS) wf_X8_186 dX8_shorten_181 ?_
            obtain ⟨S29, c30, h⟩ := bU_some h
            refine r_Vv (ci := 7) (As := [.ref (x_ad x 1 368 0), .int (v8 + 2), .int (S27.1 372 0)]) (rest := []) hx (C_X8_copy (c := x_y x) hKS km_368 c30) (k_0_7 hKS) rfl wl_X8_169 wi_X8_copy we_X8_copy wn_X8 wc_X8_copy dy_X8_copy rfl (by rw [hR]; decide +kernel) rfl (Nat.le_of_ble_eq_true rfl) dX8_shorten_184 ?_
            refine r_aload_n (k0 := 2) hx dX8_shorten_187 rfl rfl ?_
            obtain ⟨S31, c32, h⟩ := bU_some h
            refine r_Vv (ci := 7) (As := []) (rest := []) hx (C_X8_take (c := x_y x) hKS c32) (k_0_7 hKS) rfl wl_X8_208 wi_X8_take we_X8_take wn_X8 wc_X8_take dy_X8_take rfl (by rw [hR]; decide +kernel) rfl (Nat.le_of_ble_eq_true rfl) dX8_shorten_188 ?_
            refine WX.sub (lv' := [(0, .ref (x_ad x 0 7 0)), (2, .int l2)]) ?_ [2, 3] rfl
            exact t_X8_shorten_191 hx hR hKS hE hK38 h
set_option maxRecDepth 100000 in
set_option maxHeartbeats 4000000 in
theorem t_X8_shorten_38 {n : Nat} {x : XC} (hx : CX x cX8_shorten 6 RX8) (hR : x_R x = rm_X8_shorten) (hKS : ∀ k ∈ KM, k ∈ x_K x) {out : St} (hE : EV x cX8_shorten out) : ∀ {m : Nat} {S : St} {l2 : Int32} (h : l_X8_shorten_38 n m S l2 = some out), WX x 6 0 0 S 38 [(0, .ref (x_ad x 0 7 0)), (2, .int l2)] [] := by
  intro m
  induction m with
  | zero => intro S l2 h; cases h
  | succ m ih =>
    intro S l2 h
    unfold l_X8_shorten_38 at h
    refine r_iload_n (k0 := 1) hx dX8_shorten_38 rfl rfl ?_
    refine r_if_lt (tgt := 197) hx dX8_shorten_39 (by decide) (fun c1 => ?_) (fun c1 => ?_)
    · have h := ite_t h c1
      exact r_vret hE h dX8_shorten_197
    · have h := ite_f h c1
      refine r_aload_n (k0 := 0) hx dX8_shorten_42 rfl rfl ?_
      refine g_381 hx (k_0_7 hKS) wf_X8_82 dX8_shorten_43 ?_
      refine r_iload_n (k0 := 1) hx dX8_shorten_46 rfl rfl ?_
      obtain ⟨v2, e3, i4, h⟩ := gI_some h
      refine r_iald hx (k_1_381 hKS) rfl i4 e3 dX8_shorten_47 ?_
      refine r_istore_n (lv' := [(3, .int v2), (0, .ref (x_ad x 0 7 0)), (2, .int l2)]) hx dX8_shorten_48 rfl (by decide) rfl ?_
      refine r_aload_n (k0 := 1) hx dX8_shorten_49 rfl rfl ?_
      refine g_368 hx (k_0_7 hKS) wf_X8_56 dX8_shorten_50 ?_
      refine r_iload_n (k0 := 0) hx dX8_shorten_53 rfl rfl ?_
      obtain ⟨v5, e6, i7, h⟩ := gI_some h
      refine r_iald hx (k_1_368 hKS) rfl i7 e6 dX8_shorten_54 ?_
      refine r_iconst (v := 4) hx dX8_shorten_55 (by decide) ?_
      refine r_icmp_ne (tgt := 72) hx dX8_shorten_56 (by decide) (fun c8 => ?_) (fun c8 => ?_)
      · have h := ite_f h c8
        refine r_iconst (v := -1) hx dX8_shorten_72 (by decide) ?_
        refine WX.sub (lv' := [(0, .ref (x_ad x 0 7 0)), (2, .int l2), (3, .int v2)]) ?_ [1, 2, 0] rfl
        exact t_X8_shorten_73 hx hR hKS hE ih h
      · have h := ite_t h c8
        refine r_aload_n (k0 := 1) hx dX8_shorten_59 rfl rfl ?_
        refine g_368 hx (k_0_7 hKS) wf_X8_56 dX8_shorten_60 ?_
        refine r_iload_n (k0 := 0) hx dX8_shorten_63 rfl rfl ?_
        refine r_iconst (v := 1) hx dX8_shorten_64 (by decide) ?_
        refine r_iadd hx dX8_shorten_65 ?_
        obtain ⟨S9, v11, c10, h⟩ := bI_some h
        refine r_Si (As := [.ref (x_ad x 1 368 0), .int (v2 + 1)]) (rest := []) hx (C_X8_behindTerm (c := x_y x) hKS km_368 c10) wl_X8_197 wt_X8_behindTerm wn_X8 wc_X8_behindTerm dy_X8_behindTerm rfl (by rw [hR]; decide +kernel) rfl (Nat.le_of_ble_eq_true rfl) dX8_shorten_66 ?_
        refine r_goto (tgt := 73) hx dX8_shorten_69 (by decide) ?_
        refine WX.sub (lv' := [(0, .ref (x_ad x 0 7 0)), (2, .int l2), (3, .int v2)]) ?_ [1, 2, 0] rfl
        exact t_X8_shorten_73 hx hR hKS hE ih h
set_option maxRecDepth 100000 in
set_option maxHeartbeats 4000000 in
theorem t_X8_shorten_4 {n : Nat} {x : XC} (hx : CX x cX8_shorten 6 RX8) (hR : x_R x = rm_X8_shorten) (hKS : ∀ k ∈ KM, k ∈ x_K x) {out : St} (hE : EV x cX8_shorten out) : ∀ {m : Nat} {S : St} {l1 : Int32} {l2 : Int32} (h : l_X8_shorten_4 n m S l1 l2 = some out), WX x 6 0 0 S 4 [(0, .ref (x_ad x 0 7 0)), (1, .int l1), (2, .int l2)] [] := by
  intro m
  induction m with
  | zero => intro S l1 l2 h; cases h
  | succ m ih =>
    intro S l1 l2 h
    unfold l_X8_shorten_4 at h
    refine r_iload_n (k0 := 2) hx dX8_shorten_4 rfl rfl ?_
    refine r_aload_n (k0 := 0) hx dX8_shorten_5 rfl rfl ?_
    refine g_372 hx (k_0_7 hKS) wf_X8_186 dX8_shorten_6 ?_
    refine r_icmp_ge (tgt := 34) hx dX8_shorten_9 (by decide) (fun c1 => ?_) (fun c1 => ?_)
    · have h := ite_t h c1
      refine r_iload_n (k0 := 1) hx dX8_shorten_34 rfl rfl ?_
      refine r_iconst (v := 1) hx dX8_shorten_35 (by decide) ?_
      refine r_isub hx dX8_shorten_36 ?_
      obtain ⟨v2, e3, h⟩ := bV_some h
      rw [← e3]
      refine r_istore_n (lv' := [(2, .int v2), (0, .ref (x_ad x 0 7 0)), (1, .int l1)]) hx dX8_shorten_37 rfl (by decide) rfl ?_
      refine WX.sub (lv' := [(0, .ref (x_ad x 0 7 0)), (2, .int v2)]) ?_ [1, 0] rfl
      exact t_X8_shorten_38 hx hR hKS hE h
    · have h := ite_f h c1
      refine r_aload_n (k0 := 0) hx dX8_shorten_12 rfl rfl ?_
      refine g_381 hx (k_0_7 hKS) wf_X8_82 dX8_shorten_13 ?_
      refine r_iload_n (k0 := 1) hx dX8_shorten_16 rfl rfl ?_
      refine r_iload_n (k0 := 2) hx dX8_shorten_17 rfl rfl ?_
      obtain ⟨S4, e5, i6, h⟩ := pI_some h
      refine r_iast hx (k_1_381 hKS) rfl i6 e5 dX8_shorten_18 ?_
      obtain ⟨v7, e8, h⟩ := bV_some h
      refine r_iinc (k := 1) (v := v7) (lv' := [(1, .int v7), (0, .ref (x_ad x 0 7 0)), (2, .int l2)]) hx dX8_shorten_19 rfl (by rw [e8]; rfl) (by decide) rfl ?_
      refine r_aload_n (k0 := 1) hx dX8_shorten_22 rfl rfl ?_
      refine g_368 hx (k_0_7 hKS) wf_X8_56 dX8_shorten_23 ?_
      refine r_iload_n (k0 := 2) hx dX8_shorten_26 rfl rfl ?_
      obtain ⟨S9, v11, c10, h⟩ := bI_some h
      refine r_Si (As := [.ref (x_ad x 1 368 0), .int l2]) (rest := []) hx (C_X8_behindToken (c := x_y x) hKS km_368 c10) wl_X8_152 wt_X8_behindToken wn_X8 wc_X8_behindToken dy_X8_behindToken rfl (by rw [hR]; decide +kernel) rfl (Nat.le_of_ble_eq_true rfl) dX8_shorten_27 ?_
      refine r_istore_n (lv' := [(2, .int v11), (1, .int v7), (0, .ref (x_ad x 0 7 0))]) hx dX8_shorten_30 rfl (by decide) rfl ?_
      refine r_goto (tgt := 4) hx dX8_shorten_31 (by decide) ?_
      refine WX.sub (lv' := [(0, .ref (x_ad x 0 7 0)), (1, .int v7), (2, .int v11)]) ?_ [2, 1, 0] rfl
      exact ih  h
set_option maxRecDepth 100000 in
set_option maxHeartbeats 4000000 in
theorem t_X8_shorten_0 {n : Nat} {x : XC} (hx : CX x cX8_shorten 6 RX8) (hR : x_R x = rm_X8_shorten) (hKS : ∀ k ∈ KM, k ∈ x_K x) {out : St} (hE : EV x cX8_shorten out) {S : St} (h : f_X8_shorten n S  = some out) : WX x 6 0 0 S 0 [(0, .ref (x_ad x 0 7 0))] [] := by
  unfold f_X8_shorten at h
  refine r_iconst (v := 0) hx dX8_shorten_0 (by decide) ?_
  refine r_istore_n (lv' := [(1, .int 0), (0, .ref (x_ad x 0 7 0))]) hx dX8_shorten_1 rfl (by decide) rfl ?_
  refine r_iconst (v := 0) hx dX8_shorten_2 (by decide) ?_
  refine r_istore_n (lv' := [(2, .int 0), (1, .int 0), (0, .ref (x_ad x 0 7 0))]) hx dX8_shorten_3 rfl (by decide) rfl ?_
  refine WX.sub (lv' := [(0, .ref (x_ad x 0 7 0)), (1, .int 0), (2, .int 0)]) ?_ [2, 1, 0] rfl
  exact t_X8_shorten_4 hx hR hKS hE h
set_option maxHeartbeats 4000000 in
theorem C_X8_shorten {n : Nat} {c : YC} (hKS : ∀ k ∈ KM, k ∈ c.2.2.2.2) {S : St} {out : St} (h : f_X8_shorten n S  = some out) : MV c yX8_shorten cX8_shorten 6 none rm_X8_shorten S [.ref (c.2.2.1 0 7 0)] out := mk_V (own := RX8) (by decide +kernel) rfl (Nat.le_of_ble_eq_true rfl) (fun x hx hR hy hE => by subst hy; exact t_X8_shorten_0 hx hR hKS hE h)
def j_X8_normalize_185 (n : Nat) (K7 : St → Int32 → Int32 → Option (St × Int32)) (S : St) (l1 : Int32) (l3 : Int32) : Option (St × Int32) :=
  bU (f_X8_copy n S 368 l3 (S.1 372 0)) fun S1 =>
  if (S1.1 380 0) = 0 then
    bI (f_X8_fits n S1 369 0 (S1.1 373 0)) fun S4 v6 =>
    if v6 = 0 then
      some (S4, (-6))
    else
      bU (f_X8_take n S4) fun S8 =>
      bV (l1 + 1) fun v10 =>
      bI (f_X8_stepAt n S8) fun S12 v14 =>
      K7 S12 v10 v14
  else
    some (S1, (-6))
def l_X8_normalize_7 (n : Nat) : Nat → St → Int32 → Int32 → Option (St × Int32)
  | 0, _, _, _ => none
  | m + 1, S, l1, l2 =>
    if l2 < 0 then
      bU (f_X8_shorten n S) fun S2 =>
      some (S2, l1)
    else
      if l1 = 30 then
        some (S, (-6))
      else
        bI (f_X8_fits n S 368 0 (S.1 372 0)) fun S5 v7 =>
        if v7 = 0 then
          some (S5, (-6))
        else
          bI (f_X8_behindTerm n S5 368 l2) fun S9 v11 =>
          pS S9 373 0 0 fun S12 =>
          pS S12 380 0 0 fun S14 =>
          bU (f_X8_copy n S14 368 0 l2) fun S16 =>
          gI S16 368 0 l2 8000 fun v18 =>
          if v18 = 2 then
            gI S16 368 0 (l2 + 1) 8000 fun v42 =>
            gI S16 365 0 v42 40 fun v45 =>
            bU (f_X8_named n S16 v45 368 (l2 + 2)) fun S48 =>
            j_X8_normalize_185 n (fun S l1 l2 => l_X8_normalize_7 n m S l1 l2) S48 l1 v11
          else
            gI S16 368 0 l2 8000 fun v22 =>
            if v22 = 6 then
              bI (f_X8_behindTerm n S16 368 (l2 + 1)) fun S34 v36 =>
              bI (f_X8_behindTerm n S34 368 v36) fun S37 v39 =>
              bU (f_X8_with n S37 368 v39 368 v36) fun S40 =>
              j_X8_normalize_185 n (fun S l1 l2 => l_X8_normalize_7 n m S l1 l2) S40 l1 v11
            else
              bI (f_X8_behindTerm n S16 368 (l2 + 2)) fun S26 v28 =>
              bI (f_X8_behindTerm n S26 368 v28) fun S29 v31 =>
              bU (f_X8_with n S29 368 v28 368 v31) fun S32 =>
              j_X8_normalize_185 n (fun S l1 l2 => l_X8_normalize_7 n m S l1 l2) S32 l1 v11
def f_X8_normalize (n : Nat) (S : St) : Option (St × Int32) :=
  bI (f_X8_stepAt n S) fun S1 v3 =>
  l_X8_normalize_7 n n S1 0 v3
set_option maxRecDepth 100000 in
set_option maxHeartbeats 4000000 in
theorem t_X8_normalize_185 {n : Nat} {K7 : St → Int32 → Int32 → Option (St × Int32)} {x : XC} (hx : CX x cX8_normalize 5 RX8) (hR : x_R x = rm_X8_normalize) (hKS : ∀ k ∈ KM, k ∈ x_K x) {out : St × Int32} (hE : EI x cX8_normalize out) (hK7 : ∀ {S : St} {l1 : Int32} {l2 : Int32}, K7 S l1 l2 = some out → WX x 5 0 0 S 7 [(0, .ref (x_ad x 0 7 0)), (1, .int l1), (2, .int l2)] []) {S : St} {l1 : Int32} {l3 : Int32} (h : j_X8_normalize_185 n K7 S l1 l3 = some out) : WX x 5 0 0 S 185 [(0, .ref (x_ad x 0 7 0)), (1, .int l1), (3, .int l3)] [] := by
  unfold j_X8_normalize_185 at h
  refine r_aload_n (k0 := 0) hx dX8_normalize_185 rfl rfl ?_
  refine r_aload_n (k0 := 0) hx dX8_normalize_186 rfl rfl ?_
  refine g_368 hx (k_0_7 hKS) wf_X8_56 dX8_normalize_187 ?_
  refine r_iload_n (k0 := 2) hx dX8_normalize_190 rfl rfl ?_
  refine r_aload_n (k0 := 0) hx dX8_normalize_191 rfl rfl ?_
  refine g_372 hx (k_0_7 hKS) wf_X8_186 dX8_normalize_192 ?_
  obtain ⟨S1, c2, h⟩ := bU_some h
  refine r_Vv (ci := 7) (As := [.ref (x_ad x 1 368 0), .int l3, .int (S.1 372 0)]) (rest := []) hx (C_X8_copy (c := x_y x) hKS km_368 c2) (k_0_7 hKS) rfl wl_X8_169 wi_X8_copy we_X8_copy wn_X8 wc_X8_copy dy_X8_copy rfl (by rw [hR]; decide +kernel) rfl (Nat.le_of_ble_eq_true rfl) dX8_normalize_195 ?_
  refine r_aload_n (k0 := 0) hx dX8_normalize_198 rfl rfl ?_
  refine g_380 hx (k_0_7 hKS) wf_X8_162 dX8_normalize_199 ?_
  refine r_if_ne (tgt := 220) hx dX8_normalize_202 (by decide) (fun c3 => ?_) (fun c3 => ?_)
  · have h := ite_f h c3
    refine r_bipush (v := -6) hx dX8_normalize_220 (by decide) ?_
    exact r_iret hE h dX8_normalize_222
  · have h := ite_t h c3
    refine r_aload_n (k0 := 0) hx dX8_normalize_205 rfl rfl ?_
    refine g_369 hx (k_0_7 hKS) wf_X8_59 dX8_normalize_206 ?_
    refine r_iconst (v := 0) hx dX8_normalize_209 (by decide) ?_
    refine r_aload_n (k0 := 0) hx dX8_normalize_210 rfl rfl ?_
    refine g_373 hx (k_0_7 hKS) wf_X8_159 dX8_normalize_211 ?_
    obtain ⟨S4, v6, c5, h⟩ := bI_some h
    refine r_Si (As := [.ref (x_ad x 1 369 0), .int 0, .int (S1.1 373 0)]) (rest := []) hx (C_X8_fits (c := x_y x) hKS km_369 c5) wl_X8_193 wt_X8_fits wn_X8 wc_X8_fits dy_X8_fits rfl (by rw [hR]; decide +kernel) rfl (Nat.le_of_ble_eq_true rfl) dX8_normalize_214 ?_
    refine r_if_ne (tgt := 223) hx dX8_normalize_217 (by decide) (fun c7 => ?_) (fun c7 => ?_)
    · have h := ite_f h c7
      refine r_aload_n (k0 := 0) hx dX8_normalize_223 rfl rfl ?_
      obtain ⟨S8, c9, h⟩ := bU_some h
      refine r_Vv (ci := 7) (As := []) (rest := []) hx (C_X8_take (c := x_y x) hKS c9) (k_0_7 hKS) rfl wl_X8_208 wi_X8_take we_X8_take wn_X8 wc_X8_take dy_X8_take rfl (by rw [hR]; decide +kernel) rfl (Nat.le_of_ble_eq_true rfl) dX8_normalize_224 ?_
      obtain ⟨v10, e11, h⟩ := bV_some h
      refine r_iinc (k := 1) (v := v10) (lv' := [(1, .int v10), (0, .ref (x_ad x 0 7 0)), (3, .int l3)]) hx dX8_normalize_227 rfl (by rw [e11]; rfl) (by decide) rfl ?_
      refine r_aload_n (k0 := 1) hx dX8_normalize_230 rfl rfl ?_
      obtain ⟨S12, v14, c13, h⟩ := bI_some h
      refine r_Vi (ci := 7) (As := []) (rest := []) hx (C_X8_stepAt (c := x_y x) hKS c13) (k_0_7 hKS) rfl wl_X8_189 wi_X8_stepAt we_X8_stepAt wn_X8 wc_X8_stepAt dy_X8_stepAt rfl (by rw [hR]; decide +kernel) rfl (Nat.le_of_ble_eq_true rfl) dX8_normalize_231 ?_
      refine r_istore_n (lv' := [(2, .int v14), (1, .int v10), (0, .ref (x_ad x 0 7 0)), (3, .int l3)]) hx dX8_normalize_234 rfl (by decide) rfl ?_
      refine r_goto (tgt := 7) hx dX8_normalize_235 (by decide) ?_
      refine WX.sub (lv' := [(0, .ref (x_ad x 0 7 0)), (1, .int v10), (2, .int v14)]) ?_ [2, 1, 0] rfl
      exact hK7  h
    · have h := ite_t h c7
      refine r_bipush (v := -6) hx dX8_normalize_220 (by decide) ?_
      exact r_iret hE h dX8_normalize_222
set_option maxRecDepth 100000 in
set_option maxHeartbeats 4000000 in
theorem t_X8_normalize_7 {n : Nat} {x : XC} (hx : CX x cX8_normalize 5 RX8) (hR : x_R x = rm_X8_normalize) (hKS : ∀ k ∈ KM, k ∈ x_K x) {out : St × Int32} (hE : EI x cX8_normalize out) : ∀ {m : Nat} {S : St} {l1 : Int32} {l2 : Int32} (h : l_X8_normalize_7 n m S l1 l2 = some out), WX x 5 0 0 S 7 [(0, .ref (x_ad x 0 7 0)), (1, .int l1), (2, .int l2)] [] := by
  intro m
  induction m with
  | zero => intro S l1 l2 h; cases h
  | succ m ih =>
    intro S l1 l2 h
    unfold l_X8_normalize_7 at h
    refine r_iload_n (k0 := 2) hx dX8_normalize_7 rfl rfl ?_
    refine r_if_lt (tgt := 238) hx dX8_normalize_8 (by decide) (fun c1 => ?_) (fun c1 => ?_)
    · have h := ite_t h c1
      refine r_aload_n (k0 := 0) hx dX8_normalize_238 rfl rfl ?_
      obtain ⟨S2, c3, h⟩ := bU_some h
      refine r_Vv (ci := 7) (As := []) (rest := []) hx (C_X8_shorten (c := x_y x) hKS c3) (k_0_7 hKS) rfl wl_X8_211 wi_X8_shorten we_X8_shorten wn_X8 wc_X8_shorten dy_X8_shorten rfl (by rw [hR]; decide +kernel) rfl (Nat.le_of_ble_eq_true rfl) dX8_normalize_239 ?_
      refine r_iload_n (k0 := 1) hx dX8_normalize_242 rfl rfl ?_
      exact r_iret hE h dX8_normalize_243
    · have h := ite_f h c1
      refine r_iload_n (k0 := 1) hx dX8_normalize_11 rfl rfl ?_
      refine r_bipush (v := 30) hx dX8_normalize_12 (by decide) ?_
      refine r_icmp_eq (tgt := 32) hx dX8_normalize_14 (by decide) (fun c4 => ?_) (fun c4 => ?_)
      · have h := ite_t h c4
        refine r_bipush (v := -6) hx dX8_normalize_32 (by decide) ?_
        exact r_iret hE h dX8_normalize_34
      · have h := ite_f h c4
        refine r_aload_n (k0 := 0) hx dX8_normalize_17 rfl rfl ?_
        refine g_368 hx (k_0_7 hKS) wf_X8_56 dX8_normalize_18 ?_
        refine r_iconst (v := 0) hx dX8_normalize_21 (by decide) ?_
        refine r_aload_n (k0 := 0) hx dX8_normalize_22 rfl rfl ?_
        refine g_372 hx (k_0_7 hKS) wf_X8_186 dX8_normalize_23 ?_
        obtain ⟨S5, v7, c6, h⟩ := bI_some h
        refine r_Si (As := [.ref (x_ad x 1 368 0), .int 0, .int (S.1 372 0)]) (rest := []) hx (C_X8_fits (c := x_y x) hKS km_368 c6) wl_X8_193 wt_X8_fits wn_X8 wc_X8_fits dy_X8_fits rfl (by rw [hR]; decide +kernel) rfl (Nat.le_of_ble_eq_true rfl) dX8_normalize_26 ?_
        refine r_if_ne (tgt := 35) hx dX8_normalize_29 (by decide) (fun c8 => ?_) (fun c8 => ?_)
        · have h := ite_f h c8
          refine r_aload_n (k0 := 0) hx dX8_normalize_35 rfl rfl ?_
          refine g_368 hx (k_0_7 hKS) wf_X8_56 dX8_normalize_36 ?_
          refine r_iload_n (k0 := 2) hx dX8_normalize_39 rfl rfl ?_
          obtain ⟨S9, v11, c10, h⟩ := bI_some h
          refine r_Si (As := [.ref (x_ad x 1 368 0), .int l2]) (rest := []) hx (C_X8_behindTerm (c := x_y x) hKS km_368 c10) wl_X8_197 wt_X8_behindTerm wn_X8 wc_X8_behindTerm dy_X8_behindTerm rfl (by rw [hR]; decide +kernel) rfl (Nat.le_of_ble_eq_true rfl) dX8_normalize_40 ?_
          refine r_istore_n (lv' := [(3, .int v11), (0, .ref (x_ad x 0 7 0)), (1, .int l1), (2, .int l2)]) hx dX8_normalize_43 rfl (by decide) rfl ?_
          refine r_aload_n (k0 := 1) hx dX8_normalize_44 rfl rfl ?_
          refine r_iconst (v := 0) hx dX8_normalize_45 (by decide) ?_
          obtain ⟨S12, e13, h⟩ := pS_some h
          refine p_373 hx (k_0_7 hKS) wf_X8_159 dX8_normalize_46 e13 ?_
          refine r_aload_n (k0 := 1) hx dX8_normalize_49 rfl rfl ?_
          refine r_iconst (v := 0) hx dX8_normalize_50 (by decide) ?_
          obtain ⟨S14, e15, h⟩ := pS_some h
          refine p_380 hx (k_0_7 hKS) wf_X8_162 (by decide) dX8_normalize_51 e15 ?_
          refine r_aload_n (k0 := 1) hx dX8_normalize_54 rfl rfl ?_
          refine r_aload_n (k0 := 1) hx dX8_normalize_55 rfl rfl ?_
          refine g_368 hx (k_0_7 hKS) wf_X8_56 dX8_normalize_56 ?_
          refine r_iconst (v := 0) hx dX8_normalize_59 (by decide) ?_
          refine r_iload_n (k0 := 3) hx dX8_normalize_60 rfl rfl ?_
          obtain ⟨S16, c17, h⟩ := bU_some h
          refine r_Vv (ci := 7) (As := [.ref (x_ad x 1 368 0), .int 0, .int l2]) (rest := []) hx (C_X8_copy (c := x_y x) hKS km_368 c17) (k_0_7 hKS) rfl wl_X8_169 wi_X8_copy we_X8_copy wn_X8 wc_X8_copy dy_X8_copy rfl (by rw [hR]; decide +kernel) rfl (Nat.le_of_ble_eq_true rfl) dX8_normalize_61 ?_
          refine r_aload_n (k0 := 1) hx dX8_normalize_64 rfl rfl ?_
          refine g_368 hx (k_0_7 hKS) wf_X8_56 dX8_normalize_65 ?_
          refine r_iload_n (k0 := 3) hx dX8_normalize_68 rfl rfl ?_
          obtain ⟨v18, e19, i20, h⟩ := gI_some h
          refine r_iald hx (k_1_368 hKS) rfl i20 e19 dX8_normalize_69 ?_
          refine r_iconst (v := 2) hx dX8_normalize_70 (by decide) ?_
          refine r_icmp_ne (tgt := 101) hx dX8_normalize_71 (by decide) (fun c21 => ?_) (fun c21 => ?_)
          · have h := ite_f h c21
            refine r_aload_n (k0 := 1) hx dX8_normalize_101 rfl rfl ?_
            refine g_368 hx (k_0_7 hKS) wf_X8_56 dX8_normalize_102 ?_
            refine r_iload_n (k0 := 3) hx dX8_normalize_105 rfl rfl ?_
            obtain ⟨v22, e23, i24, h⟩ := gI_some h
            refine r_iald hx (k_1_368 hKS) rfl i24 e23 dX8_normalize_106 ?_
            refine r_bipush (v := 6) hx dX8_normalize_107 (by decide) ?_
            refine r_icmp_ne (tgt := 150) hx dX8_normalize_109 (by decide) (fun c25 => ?_) (fun c25 => ?_)
            · have h := ite_f h c25
              refine r_aload_n (k0 := 1) hx dX8_normalize_150 rfl rfl ?_
              refine g_368 hx (k_0_7 hKS) wf_X8_56 dX8_normalize_151 ?_
              refine r_iload_n (k0 := 3) hx dX8_normalize_154 rfl rfl ?_
              refine r_iconst (v := 2) hx dX8_normalize_155 (by decide) ?_
              refine r_iadd hx dX8_normalize_156 ?_
              obtain ⟨S26, v28, c27, h⟩ := bI_some h
              refine r_Si (As := [.ref (x_ad x 1 368 0), .int (l2 + 2)]) (rest := []) hx (C_X8_behindTerm (c := x_y x) hKS km_368 c27) wl_X8_197 wt_X8_behindTerm wn_X8 wc_X8_behindTerm dy_X8_behindTerm rfl (by rw [hR]; decide +kernel) rfl (Nat.le_of_ble_eq_true rfl) dX8_normalize_157 ?_
              refine r_istore (lv' := [(4, .int v28), (3, .int v11), (0, .ref (x_ad x 0 7 0)), (1, .int l1), (2, .int l2)]) hx dX8_normalize_160 (by decide) rfl ?_
              refine r_aload_n (k0 := 2) hx dX8_normalize_162 rfl rfl ?_
              refine r_aload_n (k0 := 2) hx dX8_normalize_163 rfl rfl ?_
              refine g_368 hx (k_0_7 hKS) wf_X8_56 dX8_normalize_164 ?_
              refine r_iload (k0 := 0) hx dX8_normalize_167 rfl ?_
              refine r_aload_n (k0 := 2) hx dX8_normalize_169 rfl rfl ?_
              refine g_368 hx (k_0_7 hKS) wf_X8_56 dX8_normalize_170 ?_
              refine r_aload_n (k0 := 2) hx dX8_normalize_173 rfl rfl ?_
              refine g_368 hx (k_0_7 hKS) wf_X8_56 dX8_normalize_174 ?_
              refine r_iload (k0 := 0) hx dX8_normalize_177 rfl ?_
              obtain ⟨S29, v31, c30, h⟩ := bI_some h
              refine r_Si (As := [.ref (x_ad x 1 368 0), .int v28]) (rest := [.ref (x_ad x 1 368 0), .int v28, .ref (x_ad x 1 368 0), .ref (x_ad x 0 7 0)]) hx (C_X8_behindTerm (c := x_y x) hKS km_368 c30) wl_X8_197 wt_X8_behindTerm wn_X8 wc_X8_behindTerm dy_X8_behindTerm rfl (by rw [hR]; decide +kernel) rfl (Nat.le_of_ble_eq_true rfl) dX8_normalize_179 ?_
              obtain ⟨S32, c33, h⟩ := bU_some h
              refine r_Vv (ci := 7) (As := [.ref (x_ad x 1 368 0), .int v28, .ref (x_ad x 1 368 0), .int v31]) (rest := []) hx (C_X8_with (c := x_y x) hKS km_368 km_368 c33) (k_0_7 hKS) rfl wl_X8_204 wi_X8_with we_X8_with wn_X8 wc_X8_with dy_X8_with rfl (by rw [hR]; decide +kernel) rfl (Nat.le_of_ble_eq_true rfl) dX8_normalize_182 ?_
              refine WX.sub (lv' := [(0, .ref (x_ad x 0 7 0)), (1, .int l1), (3, .int v11)]) ?_ [2, 3, 1] rfl
              exact t_X8_normalize_185 hx hR hKS hE ih h
            · have h := ite_t h c25
              refine r_aload_n (k0 := 1) hx dX8_normalize_112 rfl rfl ?_
              refine g_368 hx (k_0_7 hKS) wf_X8_56 dX8_normalize_113 ?_
              refine r_iload_n (k0 := 3) hx dX8_normalize_116 rfl rfl ?_
              refine r_iconst (v := 1) hx dX8_normalize_117 (by decide) ?_
              refine r_iadd hx dX8_normalize_118 ?_
              obtain ⟨S34, v36, c35, h⟩ := bI_some h
              refine r_Si (As := [.ref (x_ad x 1 368 0), .int (l2 + 1)]) (rest := []) hx (C_X8_behindTerm (c := x_y x) hKS km_368 c35) wl_X8_197 wt_X8_behindTerm wn_X8 wc_X8_behindTerm dy_X8_behindTerm rfl (by rw [hR]; decide +kernel) rfl (Nat.le_of_ble_eq_true rfl) dX8_normalize_119 ?_
              refine r_istore (lv' := [(4, .int v36), (3, .int v11), (0, .ref (x_ad x 0 7 0)), (1, .int l1), (2, .int l2)]) hx dX8_normalize_122 (by decide) rfl ?_
              refine r_aload_n (k0 := 2) hx dX8_normalize_124 rfl rfl ?_
              refine r_aload_n (k0 := 2) hx dX8_normalize_125 rfl rfl ?_
              refine g_368 hx (k_0_7 hKS) wf_X8_56 dX8_normalize_126 ?_
              refine r_aload_n (k0 := 2) hx dX8_normalize_129 rfl rfl ?_
              refine g_368 hx (k_0_7 hKS) wf_X8_56 dX8_normalize_130 ?_
              refine r_iload (k0 := 0) hx dX8_normalize_133 rfl ?_
              obtain ⟨S37, v39, c38, h⟩ := bI_some h
              refine r_Si (As := [.ref (x_ad x 1 368 0), .int v36]) (rest := [.ref (x_ad x 1 368 0), .ref (x_ad x 0 7 0)]) hx (C_X8_behindTerm (c := x_y x) hKS km_368 c38) wl_X8_197 wt_X8_behindTerm wn_X8 wc_X8_behindTerm dy_X8_behindTerm rfl (by rw [hR]; decide +kernel) rfl (Nat.le_of_ble_eq_true rfl) dX8_normalize_135 ?_
              refine r_aload_n (k0 := 2) hx dX8_normalize_138 rfl rfl ?_
              refine g_368 hx (k_0_7 hKS) wf_X8_56 dX8_normalize_139 ?_
              refine r_iload (k0 := 0) hx dX8_normalize_142 rfl ?_
              obtain ⟨S40, c41, h⟩ := bU_some h
              refine r_Vv (ci := 7) (As := [.ref (x_ad x 1 368 0), .int v39, .ref (x_ad x 1 368 0), .int v36]) (rest := []) hx (C_X8_with (c := x_y x) hKS km_368 km_368 c41) (k_0_7 hKS) rfl wl_X8_204 wi_X8_with we_X8_with wn_X8 wc_X8_with dy_X8_with rfl (by rw [hR]; decide +kernel) rfl (Nat.le_of_ble_eq_true rfl) dX8_normalize_144 ?_
              refine r_goto (tgt := 185) hx dX8_normalize_147 (by decide) ?_
              refine WX.sub (lv' := [(0, .ref (x_ad x 0 7 0)), (1, .int l1), (3, .int v11)]) ?_ [2, 3, 1] rfl
              exact t_X8_normalize_185 hx hR hKS hE ih h
          · have h := ite_t h c21
            refine r_aload_n (k0 := 1) hx dX8_normalize_74 rfl rfl ?_
            refine r_aload_n (k0 := 1) hx dX8_normalize_75 rfl rfl ?_
            refine g_365 hx (k_0_7 hKS) wf_X8_50 dX8_normalize_76 ?_
            refine r_aload_n (k0 := 1) hx dX8_normalize_79 rfl rfl ?_
            refine g_368 hx (k_0_7 hKS) wf_X8_56 dX8_normalize_80 ?_
            refine r_iload_n (k0 := 3) hx dX8_normalize_83 rfl rfl ?_
            refine r_iconst (v := 1) hx dX8_normalize_84 (by decide) ?_
            refine r_iadd hx dX8_normalize_85 ?_
            obtain ⟨v42, e43, i44, h⟩ := gI_some h
            refine r_iald hx (k_1_368 hKS) rfl i44 e43 dX8_normalize_86 ?_
            obtain ⟨v45, e46, i47, h⟩ := gI_some h
            refine r_iald hx (k_1_365 hKS) rfl i47 e46 dX8_normalize_87 ?_
            refine r_aload_n (k0 := 1) hx dX8_normalize_88 rfl rfl ?_
            refine g_368 hx (k_0_7 hKS) wf_X8_56 dX8_normalize_89 ?_
            refine r_iload_n (k0 := 3) hx dX8_normalize_92 rfl rfl ?_
            refine r_iconst (v := 2) hx dX8_normalize_93 (by decide) ?_
            refine r_iadd hx dX8_normalize_94 ?_
            obtain ⟨S48, c49, h⟩ := bU_some h
            refine r_Vv (ci := 7) (As := [.int v45, .ref (x_ad x 1 368 0), .int (l2 + 2)]) (rest := []) hx (C_X8_named (c := x_y x) hKS km_368 c49) (k_0_7 hKS) rfl wl_X8_200 wi_X8_named we_X8_named wn_X8 wc_X8_named dy_X8_named rfl (by rw [hR]; decide +kernel) rfl (Nat.le_of_ble_eq_true rfl) dX8_normalize_95 ?_
            refine r_goto (tgt := 185) hx dX8_normalize_98 (by decide) ?_
            refine WX.sub (lv' := [(0, .ref (x_ad x 0 7 0)), (1, .int l1), (3, .int v11)]) ?_ [1, 2, 0] rfl
            exact t_X8_normalize_185 hx hR hKS hE ih h
        · have h := ite_t h c8
          refine r_bipush (v := -6) hx dX8_normalize_32 (by decide) ?_
          exact r_iret hE h dX8_normalize_34
set_option maxRecDepth 100000 in
set_option maxHeartbeats 4000000 in
theorem t_X8_normalize_0 {n : Nat} {x : XC} (hx : CX x cX8_normalize 5 RX8) (hR : x_R x = rm_X8_normalize) (hKS : ∀ k ∈ KM, k ∈ x_K x) {out : St × Int32} (hE : EI x cX8_normalize out) {S : St} (h : f_X8_normalize n S  = some out) : WX x 5 0 0 S 0 [(0, .ref (x_ad x 0 7 0))] [] := by
  unfold f_X8_normalize at h
  refine r_iconst (v := 0) hx dX8_normalize_0 (by decide) ?_
  refine r_istore_n (lv' := [(1, .int 0), (0, .ref (x_ad x 0 7 0))]) hx dX8_normalize_1 rfl (by decide) rfl ?_
  refine r_aload_n (k0 := 1) hx dX8_normalize_2 rfl rfl ?_
  obtain ⟨S1, v3, c2, h⟩ := bI_some h
  refine r_Vi (ci := 7) (As := []) (rest := []) hx (C_X8_stepAt (c := x_y x) hKS c2) (k_0_7 hKS) rfl wl_X8_189 wi_X8_stepAt we_X8_stepAt wn_X8 wc_X8_stepAt dy_X8_stepAt rfl (by rw [hR]; decide +kernel) rfl (Nat.le_of_ble_eq_true rfl) dX8_normalize_3 ?_
  refine r_istore_n (lv' := [(2, .int v3), (1, .int 0), (0, .ref (x_ad x 0 7 0))]) hx dX8_normalize_6 rfl (by decide) rfl ?_
  refine WX.sub (lv' := [(0, .ref (x_ad x 0 7 0)), (1, .int 0), (2, .int v3)]) ?_ [2, 1, 0] rfl
  exact t_X8_normalize_7 hx hR hKS hE h
set_option maxHeartbeats 4000000 in
theorem C_X8_normalize {n : Nat} {c : YC} (hKS : ∀ k ∈ KM, k ∈ c.2.2.2.2) {S : St} {out : St × Int32} (h : f_X8_normalize n S  = some out) : MI c yX8_normalize cX8_normalize 5 (some .int) rm_X8_normalize S [.ref (c.2.2.1 0 7 0)] out := mk_I (own := RX8) (by decide +kernel) rfl (Nat.le_of_ble_eq_true rfl) (fun x hx hR hy hE => by subst hy; exact t_X8_normalize_0 hx hR hKS hE h)
def l_X8_load_3 (n : Nat) : Nat → St → Nat → Int32 → Int32 → Int32 → Option (St)
  | 0, _, _, _, _, _ => none
  | m + 1, S, a1, l2, l3, l4 =>
    if l3 ≤ l4 then
      pS S 372 0 (l3 - l2) fun S2 =>
      some S2
    else
      gI S a1 0 l4 (ln a1) fun v4 =>
      pI S 368 0 (l4 - l2) 8000 v4 fun S7 =>
      bV (l4 + 1) fun v10 =>
      l_X8_load_3 n m S7 a1 l2 l3 v10
def f_X8_load (n : Nat) (S : St) (a1 : Nat) (a2 : Int32) (a3 : Int32) : Option (St) :=
  l_X8_load_3 n n S a1 a2 a3 a2
set_option maxRecDepth 100000 in
set_option maxHeartbeats 4000000 in
theorem t_X8_load_3 {n : Nat} {x : XC} (hx : CX x cX8_load 5 RX8) (hR : x_R x = rm_X8_load) (hKS : ∀ k ∈ KM, k ∈ x_K x) {out : St} (hE : EV x cX8_load out) : ∀ {m : Nat} {S : St} {a1 : Nat} {l2 : Int32} {l3 : Int32} {l4 : Int32} (h_a1 : (1, a1, 0) ∈ KM) (h : l_X8_load_3 n m S a1 l2 l3 l4 = some out), WX x 5 0 0 S 3 [(0, .ref (x_ad x 0 7 0)), (1, .ref (x_ad x 1 a1 0)), (2, .int l2), (3, .int l3), (4, .int l4)] [] := by
  intro m
  induction m with
  | zero => intro S a1 l2 l3 l4 h_a1 h; cases h
  | succ m ih =>
    intro S a1 l2 l3 l4 h_a1 h
    unfold l_X8_load_3 at h
    refine r_iload (k0 := 4) hx dX8_load_3 rfl ?_
    refine r_iload_n (k0 := 3) hx dX8_load_5 rfl rfl ?_
    refine r_icmp_ge (tgt := 28) hx dX8_load_6 (by decide) (fun c1 => ?_) (fun c1 => ?_)
    · have h := ite_t h c1
      refine r_aload_n (k0 := 0) hx dX8_load_28 rfl rfl ?_
      refine r_iload_n (k0 := 3) hx dX8_load_29 rfl rfl ?_
      refine r_iload_n (k0 := 2) hx dX8_load_30 rfl rfl ?_
      refine r_isub hx dX8_load_31 ?_
      obtain ⟨S2, e3, h⟩ := pS_some h
      refine p_372 hx (k_0_7 hKS) wf_X8_186 dX8_load_32 e3 ?_
      exact r_vret hE h dX8_load_35
    · have h := ite_f h c1
      refine r_aload_n (k0 := 0) hx dX8_load_9 rfl rfl ?_
      refine g_368 hx (k_0_7 hKS) wf_X8_56 dX8_load_10 ?_
      refine r_iload (k0 := 4) hx dX8_load_13 rfl ?_
      refine r_iload_n (k0 := 2) hx dX8_load_15 rfl rfl ?_
      refine r_isub hx dX8_load_16 ?_
      refine r_aload_n (k0 := 1) hx dX8_load_17 rfl rfl ?_
      refine r_iload (k0 := 4) hx dX8_load_18 rfl ?_
      obtain ⟨v4, e5, i6, h⟩ := gI_some h
      refine r_iald hx (hKS _ h_a1) rfl i6 e5 dX8_load_20 ?_
      obtain ⟨S7, e8, i9, h⟩ := pI_some h
      refine r_iast hx (k_1_368 hKS) rfl i9 e8 dX8_load_21 ?_
      obtain ⟨v10, e11, h⟩ := bV_some h
      refine r_iinc (k := 4) (v := v10) (lv' := [(4, .int v10), (0, .ref (x_ad x 0 7 0)), (1, .ref (x_ad x 1 a1 0)), (2, .int l2), (3, .int l3)]) hx dX8_load_22 rfl (by rw [e11]; rfl) (by decide) rfl ?_
      refine r_goto (tgt := 3) hx dX8_load_25 (by decide) ?_
      refine WX.sub (lv' := [(0, .ref (x_ad x 0 7 0)), (1, .ref (x_ad x 1 a1 0)), (2, .int l2), (3, .int l3), (4, .int v10)]) ?_ [1, 2, 3, 4, 0] rfl
      exact ih h_a1 h
set_option maxRecDepth 100000 in
set_option maxHeartbeats 4000000 in
theorem t_X8_load_0 {n : Nat} {x : XC} (hx : CX x cX8_load 5 RX8) (hR : x_R x = rm_X8_load) (hKS : ∀ k ∈ KM, k ∈ x_K x) {out : St} (hE : EV x cX8_load out) {S : St} {a1 : Nat} {a2 : Int32} {a3 : Int32} (h_a1 : (1, a1, 0) ∈ KM) (h : f_X8_load n S a1 a2 a3 = some out) : WX x 5 0 0 S 0 [(0, .ref (x_ad x 0 7 0)), (1, .ref (x_ad x 1 a1 0)), (2, .int a2), (3, .int a3)] [] := by
  unfold f_X8_load at h
  refine r_iload_n (k0 := 2) hx dX8_load_0 rfl rfl ?_
  refine r_istore (lv' := [(4, .int a2), (0, .ref (x_ad x 0 7 0)), (1, .ref (x_ad x 1 a1 0)), (2, .int a2), (3, .int a3)]) hx dX8_load_1 (by decide) rfl ?_
  refine WX.sub (lv' := [(0, .ref (x_ad x 0 7 0)), (1, .ref (x_ad x 1 a1 0)), (2, .int a2), (3, .int a3), (4, .int a2)]) ?_ [1, 2, 3, 4, 0] rfl
  exact t_X8_load_3 hx hR hKS hE h_a1 h
set_option maxHeartbeats 4000000 in
theorem C_X8_load {n : Nat} {c : YC} (hKS : ∀ k ∈ KM, k ∈ c.2.2.2.2) {S : St} {a1 : Nat} {a2 : Int32} {a3 : Int32} {out : St} (h_a1 : (1, a1, 0) ∈ KM) (h : f_X8_load n S a1 a2 a3 = some out) : MV c yX8_load cX8_load 5 none rm_X8_load S [.ref (c.2.2.1 0 7 0), .ref (c.2.2.1 1 a1 0), .int a2, .int a3] out := mk_V (own := RX8) (by decide +kernel) rfl (Nat.le_of_ble_eq_true rfl) (fun x hx hR hy hE => by subst hy; exact t_X8_load_0 hx hR hKS hE h_a1 h)
def j_X8_valueOf_166 (n : Nat) (K12 : St → Nat → Int32 → Int32 → Int32 → Int32 → Int32 → Int32 → Option (St × Int32)) (S : St) (a1 : Nat) (l2 : Int32) (l3 : Int32) (l4 : Int32) (l5 : Int32) (l6 : Int32) (l7 : Int32) : Option (St × Int32) :=
  bV (l7 + (-1)) fun v1 =>
  K12 S a1 l2 l3 l4 l5 l6 v1
def j_X8_valueOf_120 (n : Nat) (K12 : St → Nat → Int32 → Int32 → Int32 → Int32 → Int32 → Int32 → Option (St × Int32)) (S : St) (a1 : Nat) (l2 : Int32) (l3 : Int32) (l4 : Int32) (l5 : Int32) (l6 : Int32) (l7 : Int32) (s0 : Int32) (s1 : Int32) : Option (St × Int32) :=
  pI S 378 0 s1 100 s0 fun S1 =>
  j_X8_valueOf_166 n K12 S1 a1 l2 l3 l4 l5 l6 l7
def j_X8_valueOf_106 (n : Nat) (K12 : St → Nat → Int32 → Int32 → Int32 → Int32 → Int32 → Int32 → Option (St × Int32)) (S : St) (a1 : Nat) (l2 : Int32) (l3 : Int32) (l4 : Int32) (l5 : Int32) (l6 : Int32) (l7 : Int32) (l9 : Int32) (l10 : Int32) (s0 : Int32) : Option (St × Int32) :=
  if l9 ≤ l10 then
    j_X8_valueOf_120 n K12 S a1 l2 l3 l4 l5 l6 l7 l10 s0
  else
    j_X8_valueOf_120 n K12 S a1 l2 l3 l4 l5 l6 l7 l9 s0
def j_X8_valueOf_58 (n : Nat) (K12 : St → Nat → Int32 → Int32 → Int32 → Int32 → Int32 → Int32 → Option (St × Int32)) (S : St) (a1 : Nat) (l2 : Int32) (l3 : Int32) (l4 : Int32) (l5 : Int32) (l6 : Int32) (l7 : Int32) (l8 : Int32) : Option (St × Int32) :=
  gI S 378 0 (l6 - 1) 100 fun v1 =>
  gI S 378 0 (l6 - 2) 100 fun v4 =>
  bV (l6 + (-1)) fun v7 =>
  if l8 = 3 then
    if v4 = 0 then
      j_X8_valueOf_120 n K12 S a1 l2 l3 l4 l5 v7 l7 0 (v7 - 1)
    else
      j_X8_valueOf_106 n K12 S a1 l2 l3 l4 l5 v7 l7 v1 v4 (v7 - 1)
  else
    j_X8_valueOf_106 n K12 S a1 l2 l3 l4 l5 v7 l7 v1 v4 (v7 - 1)
def j_X8_valueOf_162 (n : Nat) (K12 : St → Nat → Int32 → Int32 → Int32 → Int32 → Int32 → Int32 → Option (St × Int32)) (S : St) (a1 : Nat) (l2 : Int32) (l3 : Int32) (l4 : Int32) (l5 : Int32) (l6 : Int32) (l7 : Int32) (s0 : Int32) (s1 : Int32) : Option (St × Int32) :=
  pI S 378 0 s1 100 s0 fun S1 =>
  bV (l6 + 1) fun v4 =>
  j_X8_valueOf_166 n K12 S1 a1 l2 l3 l4 l5 v4 l7
def l_X8_valueOf_12 (n : Nat) : Nat → St → Nat → Int32 → Int32 → Int32 → Int32 → Int32 → Int32 → Option (St × Int32)
  | 0, _, _, _, _, _, _, _, _ => none
  | m + 1, S, a1, l2, l3, l4, l5, l6, l7 =>
    if l7 < l2 then
      gI S 378 0 0 100 fun v2 =>
      some (S, v2)
    else
      gI S a1 0 l7 (ln a1) fun v5 =>
      if v5 = 1 then
        gI S 378 0 (l6 - 1) 100 fun v14 =>
        pI S 378 0 (l6 - 1) 100 (v14 + 1) fun S17 =>
        j_X8_valueOf_166 n (fun S a1 l2 l3 l4 l5 l6 l7 => l_X8_valueOf_12 n m S a1 l2 l3 l4 l5 l6 l7) S17 a1 l2 l3 l4 l5 l6 l7
      else
        if v5 = 2 then
          j_X8_valueOf_58 n (fun S a1 l2 l3 l4 l5 l6 l7 => l_X8_valueOf_12 n m S a1 l2 l3 l4 l5 l6 l7) S a1 l2 l3 l4 l5 l6 l7 v5
        else
          if v5 = 3 then
            j_X8_valueOf_58 n (fun S a1 l2 l3 l4 l5 l6 l7 => l_X8_valueOf_12 n m S a1 l2 l3 l4 l5 l6 l7) S a1 l2 l3 l4 l5 l6 l7 v5
          else
            if v5 = 0 then
              j_X8_valueOf_162 n (fun S a1 l2 l3 l4 l5 l6 l7 => l_X8_valueOf_12 n m S a1 l2 l3 l4 l5 l6 l7) S a1 l2 l3 l4 l5 l6 l7 0 l6
            else
              if v5 = 4 then
                j_X8_valueOf_162 n (fun S a1 l2 l3 l4 l5 l6 l7 => l_X8_valueOf_12 n m S a1 l2 l3 l4 l5 l6 l7) S a1 l2 l3 l4 l5 l6 l7 l3 l6
              else
                if v5 = 5 then
                  j_X8_valueOf_162 n (fun S a1 l2 l3 l4 l5 l6 l7 => l_X8_valueOf_12 n m S a1 l2 l3 l4 l5 l6 l7) S a1 l2 l3 l4 l5 l6 l7 l4 l6
                else
                  j_X8_valueOf_162 n (fun S a1 l2 l3 l4 l5 l6 l7 => l_X8_valueOf_12 n m S a1 l2 l3 l4 l5 l6 l7) S a1 l2 l3 l4 l5 l6 l7 l5 l6
def f_X8_valueOf (n : Nat) (S : St) (a1 : Nat) (a2 : Int32) (a3 : Int32) (a4 : Int32) (a5 : Int32) : Option (St × Int32) :=
  bI (f_X8_behindLevel n S a1 a2) fun S1 v3 =>
  bV (v3 - 1) fun v4 =>
  l_X8_valueOf_12 n n S1 a1 a2 a3 a4 a5 0 v4
set_option maxRecDepth 100000 in
set_option maxHeartbeats 4000000 in
theorem t_X8_valueOf_166 {n : Nat} {K12 : St → Nat → Int32 → Int32 → Int32 → Int32 → Int32 → Int32 → Option (St × Int32)} {x : XC} (hx : CX x cX8_valueOf 11 RX8) (hR : x_R x = rm_X8_valueOf) (hKS : ∀ k ∈ KM, k ∈ x_K x) {out : St × Int32} (hE : EI x cX8_valueOf out) (hK12 : ∀ {S : St} {a1 : Nat} {l2 : Int32} {l3 : Int32} {l4 : Int32} {l5 : Int32} {l6 : Int32} {l7 : Int32} (_ : (1, a1, 0) ∈ KM), K12 S a1 l2 l3 l4 l5 l6 l7 = some out → WX x 11 0 0 S 12 [(0, .ref (x_ad x 0 7 0)), (1, .ref (x_ad x 1 a1 0)), (2, .int l2), (3, .int l3), (4, .int l4), (5, .int l5), (6, .int l6), (7, .int l7)] []) {S : St} {a1 : Nat} {l2 : Int32} {l3 : Int32} {l4 : Int32} {l5 : Int32} {l6 : Int32} {l7 : Int32} (h_a1 : (1, a1, 0) ∈ KM) (h : j_X8_valueOf_166 n K12 S a1 l2 l3 l4 l5 l6 l7 = some out) : WX x 11 0 0 S 166 [(0, .ref (x_ad x 0 7 0)), (1, .ref (x_ad x 1 a1 0)), (2, .int l2), (3, .int l3), (4, .int l4), (5, .int l5), (6, .int l6), (7, .int l7)] [] := by
  unfold j_X8_valueOf_166 at h
  obtain ⟨v1, e2, h⟩ := bV_some h
  refine r_iinc (k := 7) (v := v1) (lv' := [(7, .int v1), (0, .ref (x_ad x 0 7 0)), (1, .ref (x_ad x 1 a1 0)), (2, .int l2), (3, .int l3), (4, .int l4), (5, .int l5), (6, .int l6)]) hx dX8_valueOf_166 rfl (by rw [e2]; rfl) (by decide) rfl ?_
  refine r_goto (tgt := 12) hx dX8_valueOf_169 (by decide) ?_
  refine WX.sub (lv' := [(0, .ref (x_ad x 0 7 0)), (1, .ref (x_ad x 1 a1 0)), (2, .int l2), (3, .int l3), (4, .int l4), (5, .int l5), (6, .int l6), (7, .int v1)]) ?_ [1, 2, 3, 4, 5, 6, 7, 0] rfl
  exact hK12 h_a1 h
set_option maxRecDepth 100000 in
set_option maxHeartbeats 4000000 in
theorem t_X8_valueOf_120 {n : Nat} {K12 : St → Nat → Int32 → Int32 → Int32 → Int32 → Int32 → Int32 → Option (St × Int32)} {x : XC} (hx : CX x cX8_valueOf 11 RX8) (hR : x_R x = rm_X8_valueOf) (hKS : ∀ k ∈ KM, k ∈ x_K x) {out : St × Int32} (hE : EI x cX8_valueOf out) (hK12 : ∀ {S : St} {a1 : Nat} {l2 : Int32} {l3 : Int32} {l4 : Int32} {l5 : Int32} {l6 : Int32} {l7 : Int32} (_ : (1, a1, 0) ∈ KM), K12 S a1 l2 l3 l4 l5 l6 l7 = some out → WX x 11 0 0 S 12 [(0, .ref (x_ad x 0 7 0)), (1, .ref (x_ad x 1 a1 0)), (2, .int l2), (3, .int l3), (4, .int l4), (5, .int l5), (6, .int l6), (7, .int l7)] []) {S : St} {a1 : Nat} {l2 : Int32} {l3 : Int32} {l4 : Int32} {l5 : Int32} {l6 : Int32} {l7 : Int32} {s0 : Int32} {s1 : Int32} (h_a1 : (1, a1, 0) ∈ KM) (h : j_X8_valueOf_120 n K12 S a1 l2 l3 l4 l5 l6 l7 s0 s1 = some out) : WX x 11 0 0 S 120 [(0, .ref (x_ad x 0 7 0)), (1, .ref (x_ad x 1 a1 0)), (2, .int l2), (3, .int l3), (4, .int l4), (5, .int l5), (6, .int l6), (7, .int l7)] [.int s0, .int s1, .ref (x_ad x 1 378 0)] := by
  unfold j_X8_valueOf_120 at h
  obtain ⟨S1, e2, i3, h⟩ := pI_some h
  refine r_iast hx (k_1_378 hKS) rfl i3 e2 dX8_valueOf_120 ?_
  refine r_goto (tgt := 166) hx dX8_valueOf_121 (by decide) ?_
  exact t_X8_valueOf_166 hx hR hKS hE hK12 h_a1 h
set_option maxRecDepth 100000 in
set_option maxHeartbeats 4000000 in
theorem t_X8_valueOf_106 {n : Nat} {K12 : St → Nat → Int32 → Int32 → Int32 → Int32 → Int32 → Int32 → Option (St × Int32)} {x : XC} (hx : CX x cX8_valueOf 11 RX8) (hR : x_R x = rm_X8_valueOf) (hKS : ∀ k ∈ KM, k ∈ x_K x) {out : St × Int32} (hE : EI x cX8_valueOf out) (hK12 : ∀ {S : St} {a1 : Nat} {l2 : Int32} {l3 : Int32} {l4 : Int32} {l5 : Int32} {l6 : Int32} {l7 : Int32} (_ : (1, a1, 0) ∈ KM), K12 S a1 l2 l3 l4 l5 l6 l7 = some out → WX x 11 0 0 S 12 [(0, .ref (x_ad x 0 7 0)), (1, .ref (x_ad x 1 a1 0)), (2, .int l2), (3, .int l3), (4, .int l4), (5, .int l5), (6, .int l6), (7, .int l7)] []) {S : St} {a1 : Nat} {l2 : Int32} {l3 : Int32} {l4 : Int32} {l5 : Int32} {l6 : Int32} {l7 : Int32} {l9 : Int32} {l10 : Int32} {s0 : Int32} (h_a1 : (1, a1, 0) ∈ KM) (h : j_X8_valueOf_106 n K12 S a1 l2 l3 l4 l5 l6 l7 l9 l10 s0 = some out) : WX x 11 0 0 S 106 [(0, .ref (x_ad x 0 7 0)), (1, .ref (x_ad x 1 a1 0)), (2, .int l2), (3, .int l3), (4, .int l4), (5, .int l5), (6, .int l6), (7, .int l7), (9, .int l9), (10, .int l10)] [.int s0, .ref (x_ad x 1 378 0)] := by
  unfold j_X8_valueOf_106 at h
  refine r_iload (k0 := 8) hx dX8_valueOf_106 rfl ?_
  refine r_iload (k0 := 9) hx dX8_valueOf_108 rfl ?_
  refine r_icmp_le (tgt := 118) hx dX8_valueOf_110 (by decide) (fun c1 => ?_) (fun c1 => ?_)
  · have h := ite_t h c1
    refine r_iload (k0 := 9) hx dX8_valueOf_118 rfl ?_
    refine WX.sub (lv' := [(0, .ref (x_ad x 0 7 0)), (1, .ref (x_ad x 1 a1 0)), (2, .int l2), (3, .int l3), (4, .int l4), (5, .int l5), (6, .int l6), (7, .int l7)]) ?_ [0, 1, 2, 3, 4, 5, 6, 7] rfl
    exact t_X8_valueOf_120 hx hR hKS hE hK12 h_a1 h
  · have h := ite_f h c1
    refine r_iload (k0 := 8) hx dX8_valueOf_113 rfl ?_
    refine r_goto (tgt := 120) hx dX8_valueOf_115 (by decide) ?_
    refine WX.sub (lv' := [(0, .ref (x_ad x 0 7 0)), (1, .ref (x_ad x 1 a1 0)), (2, .int l2), (3, .int l3), (4, .int l4), (5, .int l5), (6, .int l6), (7, .int l7)]) ?_ [0, 1, 2, 3, 4, 5, 6, 7] rfl
    exact t_X8_valueOf_120 hx hR hKS hE hK12 h_a1 h
set_option maxRecDepth 100000 in
set_option maxHeartbeats 4000000 in
theorem t_X8_valueOf_58 {n : Nat} {K12 : St → Nat → Int32 → Int32 → Int32 → Int32 → Int32 → Int32 → Option (St × Int32)} {x : XC} (hx : CX x cX8_valueOf 11 RX8) (hR : x_R x = rm_X8_valueOf) (hKS : ∀ k ∈ KM, k ∈ x_K x) {out : St × Int32} (hE : EI x cX8_valueOf out) (hK12 : ∀ {S : St} {a1 : Nat} {l2 : Int32} {l3 : Int32} {l4 : Int32} {l5 : Int32} {l6 : Int32} {l7 : Int32} (_ : (1, a1, 0) ∈ KM), K12 S a1 l2 l3 l4 l5 l6 l7 = some out → WX x 11 0 0 S 12 [(0, .ref (x_ad x 0 7 0)), (1, .ref (x_ad x 1 a1 0)), (2, .int l2), (3, .int l3), (4, .int l4), (5, .int l5), (6, .int l6), (7, .int l7)] []) {S : St} {a1 : Nat} {l2 : Int32} {l3 : Int32} {l4 : Int32} {l5 : Int32} {l6 : Int32} {l7 : Int32} {l8 : Int32} (h_a1 : (1, a1, 0) ∈ KM) (h : j_X8_valueOf_58 n K12 S a1 l2 l3 l4 l5 l6 l7 l8 = some out) : WX x 11 0 0 S 58 [(0, .ref (x_ad x 0 7 0)), (1, .ref (x_ad x 1 a1 0)), (2, .int l2), (3, .int l3), (4, .int l4), (5, .int l5), (6, .int l6), (7, .int l7), (8, .int l8)] [] := by
  unfold j_X8_valueOf_58 at h
  refine r_aload_n (k0 := 0) hx dX8_valueOf_58 rfl rfl ?_
  refine g_378 hx (k_0_7 hKS) wf_X8_75 dX8_valueOf_59 ?_
  refine r_iload (k0 := 6) hx dX8_valueOf_62 rfl ?_
  refine r_iconst (v := 1) hx dX8_valueOf_64 (by decide) ?_
  refine r_isub hx dX8_valueOf_65 ?_
  obtain ⟨v1, e2, i3, h⟩ := gI_some h
  refine r_iald hx (k_1_378 hKS) rfl i3 e2 dX8_valueOf_66 ?_
  refine r_istore (lv' := [(9, .int v1), (0, .ref (x_ad x 0 7 0)), (1, .ref (x_ad x 1 a1 0)), (2, .int l2), (3, .int l3), (4, .int l4), (5, .int l5), (6, .int l6), (7, .int l7), (8, .int l8)]) hx dX8_valueOf_67 (by decide) rfl ?_
  refine r_aload_n (k0 := 1) hx dX8_valueOf_69 rfl rfl ?_
  refine g_378 hx (k_0_7 hKS) wf_X8_75 dX8_valueOf_70 ?_
  refine r_iload (k0 := 7) hx dX8_valueOf_73 rfl ?_
  refine r_iconst (v := 2) hx dX8_valueOf_75 (by decide) ?_
  refine r_isub hx dX8_valueOf_76 ?_
  obtain ⟨v4, e5, i6, h⟩ := gI_some h
  refine r_iald hx (k_1_378 hKS) rfl i6 e5 dX8_valueOf_77 ?_
  refine r_istore (lv' := [(10, .int v4), (9, .int v1), (0, .ref (x_ad x 0 7 0)), (1, .ref (x_ad x 1 a1 0)), (2, .int l2), (3, .int l3), (4, .int l4), (5, .int l5), (6, .int l6), (7, .int l7), (8, .int l8)]) hx dX8_valueOf_78 (by decide) rfl ?_
  obtain ⟨v7, e8, h⟩ := bV_some h
  refine r_iinc (k := 8) (v := v7) (lv' := [(6, .int v7), (10, .int v4), (9, .int v1), (0, .ref (x_ad x 0 7 0)), (1, .ref (x_ad x 1 a1 0)), (2, .int l2), (3, .int l3), (4, .int l4), (5, .int l5), (7, .int l7), (8, .int l8)]) hx dX8_valueOf_80 rfl (by rw [e8]; rfl) (by decide) rfl ?_
  refine r_aload_n (k0 := 3) hx dX8_valueOf_83 rfl rfl ?_
  refine g_378 hx (k_0_7 hKS) wf_X8_75 dX8_valueOf_84 ?_
  refine r_iload (k0 := 0) hx dX8_valueOf_87 rfl ?_
  refine r_iconst (v := 1) hx dX8_valueOf_89 (by decide) ?_
  refine r_isub hx dX8_valueOf_90 ?_
  refine r_iload (k0 := 10) hx dX8_valueOf_91 rfl ?_
  refine r_iconst (v := 3) hx dX8_valueOf_93 (by decide) ?_
  refine r_icmp_ne (tgt := 106) hx dX8_valueOf_94 (by decide) (fun c9 => ?_) (fun c9 => ?_)
  · have h := ite_f h c9
    refine WX.sub (lv' := [(0, .ref (x_ad x 0 7 0)), (1, .ref (x_ad x 1 a1 0)), (2, .int l2), (3, .int l3), (4, .int l4), (5, .int l5), (6, .int v7), (7, .int l7), (9, .int v1), (10, .int v4)]) ?_ [3, 4, 5, 6, 7, 8, 0, 9, 2, 1] rfl
    exact t_X8_valueOf_106 hx hR hKS hE hK12 h_a1 h
  · have h := ite_t h c9
    refine r_iload (k0 := 1) hx dX8_valueOf_97 rfl ?_
    refine r_if_ne (tgt := 106) hx dX8_valueOf_99 (by decide) (fun c10 => ?_) (fun c10 => ?_)
    · have h := ite_f h c10
      refine WX.sub (lv' := [(0, .ref (x_ad x 0 7 0)), (1, .ref (x_ad x 1 a1 0)), (2, .int l2), (3, .int l3), (4, .int l4), (5, .int l5), (6, .int v7), (7, .int l7), (9, .int v1), (10, .int v4)]) ?_ [3, 4, 5, 6, 7, 8, 0, 9, 2, 1] rfl
      exact t_X8_valueOf_106 hx hR hKS hE hK12 h_a1 h
    · have h := ite_t h c10
      refine r_iconst (v := 0) hx dX8_valueOf_102 (by decide) ?_
      refine r_goto (tgt := 120) hx dX8_valueOf_103 (by decide) ?_
      refine WX.sub (lv' := [(0, .ref (x_ad x 0 7 0)), (1, .ref (x_ad x 1 a1 0)), (2, .int l2), (3, .int l3), (4, .int l4), (5, .int l5), (6, .int v7), (7, .int l7)]) ?_ [3, 4, 5, 6, 7, 8, 0, 9] rfl
      exact t_X8_valueOf_120 hx hR hKS hE hK12 h_a1 h
set_option maxRecDepth 100000 in
set_option maxHeartbeats 4000000 in
theorem t_X8_valueOf_162 {n : Nat} {K12 : St → Nat → Int32 → Int32 → Int32 → Int32 → Int32 → Int32 → Option (St × Int32)} {x : XC} (hx : CX x cX8_valueOf 11 RX8) (hR : x_R x = rm_X8_valueOf) (hKS : ∀ k ∈ KM, k ∈ x_K x) {out : St × Int32} (hE : EI x cX8_valueOf out) (hK12 : ∀ {S : St} {a1 : Nat} {l2 : Int32} {l3 : Int32} {l4 : Int32} {l5 : Int32} {l6 : Int32} {l7 : Int32} (_ : (1, a1, 0) ∈ KM), K12 S a1 l2 l3 l4 l5 l6 l7 = some out → WX x 11 0 0 S 12 [(0, .ref (x_ad x 0 7 0)), (1, .ref (x_ad x 1 a1 0)), (2, .int l2), (3, .int l3), (4, .int l4), (5, .int l5), (6, .int l6), (7, .int l7)] []) {S : St} {a1 : Nat} {l2 : Int32} {l3 : Int32} {l4 : Int32} {l5 : Int32} {l6 : Int32} {l7 : Int32} {s0 : Int32} {s1 : Int32} (h_a1 : (1, a1, 0) ∈ KM) (h : j_X8_valueOf_162 n K12 S a1 l2 l3 l4 l5 l6 l7 s0 s1 = some out) : WX x 11 0 0 S 162 [(0, .ref (x_ad x 0 7 0)), (1, .ref (x_ad x 1 a1 0)), (2, .int l2), (3, .int l3), (4, .int l4), (5, .int l5), (6, .int l6), (7, .int l7)] [.int s0, .int s1, .ref (x_ad x 1 378 0)] := by
  unfold j_X8_valueOf_162 at h
  obtain ⟨S1, e2, i3, h⟩ := pI_some h
  refine r_iast hx (k_1_378 hKS) rfl i3 e2 dX8_valueOf_162 ?_
  obtain ⟨v4, e5, h⟩ := bV_some h
  refine r_iinc (k := 6) (v := v4) (lv' := [(6, .int v4), (0, .ref (x_ad x 0 7 0)), (1, .ref (x_ad x 1 a1 0)), (2, .int l2), (3, .int l3), (4, .int l4), (5, .int l5), (7, .int l7)]) hx dX8_valueOf_163 rfl (by rw [e5]; rfl) (by decide) rfl ?_
  refine WX.sub (lv' := [(0, .ref (x_ad x 0 7 0)), (1, .ref (x_ad x 1 a1 0)), (2, .int l2), (3, .int l3), (4, .int l4), (5, .int l5), (6, .int v4), (7, .int l7)]) ?_ [1, 2, 3, 4, 5, 6, 0, 7] rfl
  exact t_X8_valueOf_166 hx hR hKS hE hK12 h_a1 h
set_option maxRecDepth 100000 in
set_option maxHeartbeats 4000000 in
theorem t_X8_valueOf_12 {n : Nat} {x : XC} (hx : CX x cX8_valueOf 11 RX8) (hR : x_R x = rm_X8_valueOf) (hKS : ∀ k ∈ KM, k ∈ x_K x) {out : St × Int32} (hE : EI x cX8_valueOf out) : ∀ {m : Nat} {S : St} {a1 : Nat} {l2 : Int32} {l3 : Int32} {l4 : Int32} {l5 : Int32} {l6 : Int32} {l7 : Int32} (h_a1 : (1, a1, 0) ∈ KM) (h : l_X8_valueOf_12 n m S a1 l2 l3 l4 l5 l6 l7 = some out), WX x 11 0 0 S 12 [(0, .ref (x_ad x 0 7 0)), (1, .ref (x_ad x 1 a1 0)), (2, .int l2), (3, .int l3), (4, .int l4), (5, .int l5), (6, .int l6), (7, .int l7)] [] := by
  intro m
  induction m with
  | zero => intro S a1 l2 l3 l4 l5 l6 l7 h_a1 h; cases h
  | succ m ih =>
    intro S a1 l2 l3 l4 l5 l6 l7 h_a1 h
    unfold l_X8_valueOf_12 at h
    refine r_iload (k0 := 7) hx dX8_valueOf_12 rfl ?_
    refine r_iload_n (k0 := 2) hx dX8_valueOf_14 rfl rfl ?_
    refine r_icmp_lt (tgt := 172) hx dX8_valueOf_15 (by decide) (fun c1 => ?_) (fun c1 => ?_)
    · have h := ite_t h c1
      refine r_aload_n (k0 := 0) hx dX8_valueOf_172 rfl rfl ?_
      refine g_378 hx (k_0_7 hKS) wf_X8_75 dX8_valueOf_173 ?_
      refine r_iconst (v := 0) hx dX8_valueOf_176 (by decide) ?_
      obtain ⟨v2, e3, i4, h⟩ := gI_some h
      refine r_iald hx (k_1_378 hKS) rfl i4 e3 dX8_valueOf_177 ?_
      exact r_iret hE h dX8_valueOf_178
    · have h := ite_f h c1
      refine r_aload_n (k0 := 1) hx dX8_valueOf_18 rfl rfl ?_
      refine r_iload (k0 := 7) hx dX8_valueOf_19 rfl ?_
      obtain ⟨v5, e6, i7, h⟩ := gI_some h
      refine r_iald hx (hKS _ h_a1) rfl i7 e6 dX8_valueOf_21 ?_
      refine r_istore (lv' := [(8, .int v5), (0, .ref (x_ad x 0 7 0)), (1, .ref (x_ad x 1 a1 0)), (2, .int l2), (3, .int l3), (4, .int l4), (5, .int l5), (6, .int l6), (7, .int l7)]) hx dX8_valueOf_22 (by decide) rfl ?_
      refine r_iload (k0 := 0) hx dX8_valueOf_24 rfl ?_
      refine r_iconst (v := 1) hx dX8_valueOf_26 (by decide) ?_
      refine r_icmp_ne (tgt := 46) hx dX8_valueOf_27 (by decide) (fun c8 => ?_) (fun c8 => ?_)
      · have h := ite_f h c8
        refine r_iload (k0 := 0) hx dX8_valueOf_46 rfl ?_
        refine r_iconst (v := 2) hx dX8_valueOf_48 (by decide) ?_
        refine r_icmp_eq (tgt := 58) hx dX8_valueOf_49 (by decide) (fun c9 => ?_) (fun c9 => ?_)
        · have h := ite_t h c9
          refine WX.sub (lv' := [(0, .ref (x_ad x 0 7 0)), (1, .ref (x_ad x 1 a1 0)), (2, .int l2), (3, .int l3), (4, .int l4), (5, .int l5), (6, .int l6), (7, .int l7), (8, .int v5)]) ?_ [1, 2, 3, 4, 5, 6, 7, 8, 0] rfl
          exact t_X8_valueOf_58 hx hR hKS hE ih h_a1 h
        · have h := ite_f h c9
          refine r_iload (k0 := 0) hx dX8_valueOf_52 rfl ?_
          refine r_iconst (v := 3) hx dX8_valueOf_54 (by decide) ?_
          refine r_icmp_ne (tgt := 124) hx dX8_valueOf_55 (by decide) (fun c10 => ?_) (fun c10 => ?_)
          · have h := ite_f h c10
            refine r_aload_n (k0 := 1) hx dX8_valueOf_124 rfl rfl ?_
            refine g_378 hx (k_0_7 hKS) wf_X8_75 dX8_valueOf_125 ?_
            refine r_iload (k0 := 7) hx dX8_valueOf_128 rfl ?_
            refine r_iload (k0 := 0) hx dX8_valueOf_130 rfl ?_
            refine r_if_ne (tgt := 139) hx dX8_valueOf_132 (by decide) (fun c11 => ?_) (fun c11 => ?_)
            · have h := ite_f h c11
              refine r_iload (k0 := 0) hx dX8_valueOf_139 rfl ?_
              refine r_iconst (v := 4) hx dX8_valueOf_141 (by decide) ?_
              refine r_icmp_ne (tgt := 149) hx dX8_valueOf_142 (by decide) (fun c12 => ?_) (fun c12 => ?_)
              · have h := ite_f h c12
                refine r_iload (k0 := 0) hx dX8_valueOf_149 rfl ?_
                refine r_iconst (v := 5) hx dX8_valueOf_151 (by decide) ?_
                refine r_icmp_ne (tgt := 160) hx dX8_valueOf_152 (by decide) (fun c13 => ?_) (fun c13 => ?_)
                · have h := ite_f h c13
                  refine r_iload (k0 := 6) hx dX8_valueOf_160 rfl ?_
                  refine WX.sub (lv' := [(0, .ref (x_ad x 0 7 0)), (1, .ref (x_ad x 1 a1 0)), (2, .int l2), (3, .int l3), (4, .int l4), (5, .int l5), (6, .int l6), (7, .int l7)]) ?_ [1, 2, 3, 4, 5, 6, 7, 8] rfl
                  exact t_X8_valueOf_162 hx hR hKS hE ih h_a1 h
                · have h := ite_t h c13
                  refine r_iload (k0 := 5) hx dX8_valueOf_155 rfl ?_
                  refine r_goto (tgt := 162) hx dX8_valueOf_157 (by decide) ?_
                  refine WX.sub (lv' := [(0, .ref (x_ad x 0 7 0)), (1, .ref (x_ad x 1 a1 0)), (2, .int l2), (3, .int l3), (4, .int l4), (5, .int l5), (6, .int l6), (7, .int l7)]) ?_ [1, 2, 3, 4, 5, 6, 7, 8] rfl
                  exact t_X8_valueOf_162 hx hR hKS hE ih h_a1 h
              · have h := ite_t h c12
                refine r_iload_n (k0 := 4) hx dX8_valueOf_145 rfl rfl ?_
                refine r_goto (tgt := 162) hx dX8_valueOf_146 (by decide) ?_
                refine WX.sub (lv' := [(0, .ref (x_ad x 0 7 0)), (1, .ref (x_ad x 1 a1 0)), (2, .int l2), (3, .int l3), (4, .int l4), (5, .int l5), (6, .int l6), (7, .int l7)]) ?_ [1, 2, 3, 4, 5, 6, 7, 8] rfl
                exact t_X8_valueOf_162 hx hR hKS hE ih h_a1 h
            · have h := ite_t h c11
              refine r_iconst (v := 0) hx dX8_valueOf_135 (by decide) ?_
              refine r_goto (tgt := 162) hx dX8_valueOf_136 (by decide) ?_
              refine WX.sub (lv' := [(0, .ref (x_ad x 0 7 0)), (1, .ref (x_ad x 1 a1 0)), (2, .int l2), (3, .int l3), (4, .int l4), (5, .int l5), (6, .int l6), (7, .int l7)]) ?_ [1, 2, 3, 4, 5, 6, 7, 8] rfl
              exact t_X8_valueOf_162 hx hR hKS hE ih h_a1 h
          · have h := ite_t h c10
            refine WX.sub (lv' := [(0, .ref (x_ad x 0 7 0)), (1, .ref (x_ad x 1 a1 0)), (2, .int l2), (3, .int l3), (4, .int l4), (5, .int l5), (6, .int l6), (7, .int l7), (8, .int v5)]) ?_ [1, 2, 3, 4, 5, 6, 7, 8, 0] rfl
            exact t_X8_valueOf_58 hx hR hKS hE ih h_a1 h
      · have h := ite_t h c8
        refine r_aload_n (k0 := 1) hx dX8_valueOf_30 rfl rfl ?_
        refine g_378 hx (k_0_7 hKS) wf_X8_75 dX8_valueOf_31 ?_
        refine r_iload (k0 := 7) hx dX8_valueOf_34 rfl ?_
        refine r_iconst (v := 1) hx dX8_valueOf_36 (by decide) ?_
        refine r_isub hx dX8_valueOf_37 ?_
        refine r_dup2 hx dX8_valueOf_38 rfl rfl ?_
        obtain ⟨v14, e15, i16, h⟩ := gI_some h
        refine r_iald hx (k_1_378 hKS) rfl i16 e15 dX8_valueOf_39 ?_
        refine r_iconst (v := 1) hx dX8_valueOf_40 (by decide) ?_
        refine r_iadd hx dX8_valueOf_41 ?_
        obtain ⟨S17, e18, i19, h⟩ := pI_some h
        refine r_iast hx (k_1_378 hKS) rfl i19 e18 dX8_valueOf_42 ?_
        refine r_goto (tgt := 166) hx dX8_valueOf_43 (by decide) ?_
        refine WX.sub (lv' := [(0, .ref (x_ad x 0 7 0)), (1, .ref (x_ad x 1 a1 0)), (2, .int l2), (3, .int l3), (4, .int l4), (5, .int l5), (6, .int l6), (7, .int l7)]) ?_ [1, 2, 3, 4, 5, 6, 7, 8] rfl
        exact t_X8_valueOf_166 hx hR hKS hE ih h_a1 h
set_option maxRecDepth 100000 in
set_option maxHeartbeats 4000000 in
theorem t_X8_valueOf_0 {n : Nat} {x : XC} (hx : CX x cX8_valueOf 11 RX8) (hR : x_R x = rm_X8_valueOf) (hKS : ∀ k ∈ KM, k ∈ x_K x) {out : St × Int32} (hE : EI x cX8_valueOf out) {S : St} {a1 : Nat} {a2 : Int32} {a3 : Int32} {a4 : Int32} {a5 : Int32} (h_a1 : (1, a1, 0) ∈ KM) (h : f_X8_valueOf n S a1 a2 a3 a4 a5 = some out) : WX x 11 0 0 S 0 [(0, .ref (x_ad x 0 7 0)), (1, .ref (x_ad x 1 a1 0)), (2, .int a2), (3, .int a3), (4, .int a4), (5, .int a5)] [] := by
  unfold f_X8_valueOf at h
  refine r_iconst (v := 0) hx dX8_valueOf_0 (by decide) ?_
  refine r_istore (lv' := [(6, .int 0), (0, .ref (x_ad x 0 7 0)), (1, .ref (x_ad x 1 a1 0)), (2, .int a2), (3, .int a3), (4, .int a4), (5, .int a5)]) hx dX8_valueOf_1 (by decide) rfl ?_
  refine r_aload_n (k0 := 2) hx dX8_valueOf_3 rfl rfl ?_
  refine r_iload_n (k0 := 3) hx dX8_valueOf_4 rfl rfl ?_
  obtain ⟨S1, v3, c2, h⟩ := bI_some h
  refine r_Si (As := [.ref (x_ad x 1 a1 0), .int a2]) (rest := []) hx (C_X8_behindLevel (c := x_y x) hKS h_a1 c2) wl_X8_144 wt_X8_behindLevel wn_X8 wc_X8_behindLevel dy_X8_behindLevel rfl (by rw [hR]; decide +kernel) rfl (Nat.le_of_ble_eq_true rfl) dX8_valueOf_5 ?_
  refine r_iconst (v := 1) hx dX8_valueOf_8 (by decide) ?_
  refine r_isub hx dX8_valueOf_9 ?_
  obtain ⟨v4, e5, h⟩ := bV_some h
  rw [← e5]
  refine r_istore (lv' := [(7, .int v4), (6, .int 0), (0, .ref (x_ad x 0 7 0)), (1, .ref (x_ad x 1 a1 0)), (2, .int a2), (3, .int a3), (4, .int a4), (5, .int a5)]) hx dX8_valueOf_10 (by decide) rfl ?_
  refine WX.sub (lv' := [(0, .ref (x_ad x 0 7 0)), (1, .ref (x_ad x 1 a1 0)), (2, .int a2), (3, .int a3), (4, .int a4), (5, .int a5), (6, .int 0), (7, .int v4)]) ?_ [2, 3, 4, 5, 6, 7, 1, 0] rfl
  exact t_X8_valueOf_12 hx hR hKS hE h_a1 h
set_option maxHeartbeats 4000000 in
theorem C_X8_valueOf {n : Nat} {c : YC} (hKS : ∀ k ∈ KM, k ∈ c.2.2.2.2) {S : St} {a1 : Nat} {a2 : Int32} {a3 : Int32} {a4 : Int32} {a5 : Int32} {out : St × Int32} (h_a1 : (1, a1, 0) ∈ KM) (h : f_X8_valueOf n S a1 a2 a3 a4 a5 = some out) : MI c yX8_valueOf cX8_valueOf 11 (some .int) rm_X8_valueOf S [.ref (c.2.2.1 0 7 0), .ref (c.2.2.1 1 a1 0), .int a2, .int a3, .int a4, .int a5] out := mk_I (own := RX8) (by decide +kernel) rfl (Nat.le_of_ble_eq_true rfl) (fun x hx hR hy hE => by subst hy; exact t_X8_valueOf_0 hx hR hKS hE h_a1 h)
def j_X8_isAtMost_117 (n : Nat) (K6 : St → Nat → Int32 → Nat → Int32 → Int32 → Int32 → Option (St × Int32)) (S : St) (a1 : Nat) (l2 : Int32) (a3 : Nat) (l4 : Int32) (l6 : Int32) (s0 : Int32) : Option (St × Int32) :=
  bV (l6 + 1) fun v1 =>
  K6 S a1 l2 a3 l4 s0 v1
def j_X8_isAtMost_82 (n : Nat) (K6 : St → Nat → Int32 → Nat → Int32 → Int32 → Int32 → Option (St × Int32)) (S : St) (a1 : Nat) (l2 : Int32) (a3 : Nat) (l4 : Int32) (l6 : Int32) (l7 : Int32) (l8 : Int32) (s0 : Int32) : Option (St × Int32) :=
  bI (f_X8_valueOf n S a1 l2 l7 l8 s0) fun S1 v3 =>
  bI (f_X8_valueOf n S1 a3 l4 l7 l8 s0) fun S4 v6 =>
  if v6 < v3 then
    j_X8_isAtMost_117 n K6 S4 a1 l2 a3 l4 l6 0
  else
    j_X8_isAtMost_117 n K6 S4 a1 l2 a3 l4 l6 1
def j_X8_isAtMost_60 (n : Nat) (K6 : St → Nat → Int32 → Nat → Int32 → Int32 → Int32 → Option (St × Int32)) (S : St) (a1 : Nat) (l2 : Int32) (a3 : Nat) (l4 : Int32) (l6 : Int32) (l7 : Int32) (s0 : Int32) : Option (St × Int32) :=
  if (l6 / 9) = 2 then
    j_X8_isAtMost_82 n K6 S a1 l2 a3 l4 l6 l7 s0 1000
  else
    j_X8_isAtMost_82 n K6 S a1 l2 a3 l4 l6 l7 s0 (l6 / 9)
def j_X8_isAtMost_36 (n : Nat) (K6 : St → Nat → Int32 → Nat → Int32 → Int32 → Int32 → Option (St × Int32)) (S : St) (a1 : Nat) (l2 : Int32) (a3 : Nat) (l4 : Int32) (l6 : Int32) (s0 : Int32) : Option (St × Int32) :=
  if ((l6 / 3) - (l6 / 3) / 3 * 3) = 2 then
    j_X8_isAtMost_60 n K6 S a1 l2 a3 l4 l6 s0 1000
  else
    j_X8_isAtMost_60 n K6 S a1 l2 a3 l4 l6 s0 ((l6 / 3) - (l6 / 3) / 3 * 3)
def l_X8_isAtMost_6 (n : Nat) : Nat → St → Nat → Int32 → Nat → Int32 → Int32 → Int32 → Option (St × Int32)
  | 0, _, _, _, _, _, _, _ => none
  | m + 1, S, a1, l2, a3, l4, l5, l6 =>
    if 27 ≤ l6 then
      some (S, l5)
    else
      if l5 = 0 then
        some (S, l5)
      else
        if (l6 - l6 / 3 * 3) = 2 then
          j_X8_isAtMost_36 n (fun S a1 l2 a3 l4 l5 l6 => l_X8_isAtMost_6 n m S a1 l2 a3 l4 l5 l6) S a1 l2 a3 l4 l6 1000
        else
          j_X8_isAtMost_36 n (fun S a1 l2 a3 l4 l5 l6 => l_X8_isAtMost_6 n m S a1 l2 a3 l4 l5 l6) S a1 l2 a3 l4 l6 (l6 - l6 / 3 * 3)
def g_X8_isAtMost (n : Nat) (S : St) (a1 : Nat) (a2 : Int32) (a3 : Nat) (a4 : Int32) : Option (St × Int32) :=
  l_X8_isAtMost_6 n n S a1 a2 a3 a4 1 0
set_option maxRecDepth 100000 in
set_option maxHeartbeats 4000000 in
theorem t_X8_isAtMost_117 {n : Nat} {K6 : St → Nat → Int32 → Nat → Int32 → Int32 → Int32 → Option (St × Int32)} {x : XC} (hx : CX x cX8_isAtMost 10 RX8) (hR : x_R x = rm_X8_isAtMost) (hKS : ∀ k ∈ KM, k ∈ x_K x) {out : St × Int32} (hE : EI x cX8_isAtMost out) (hK6 : ∀ {S : St} {a1 : Nat} {l2 : Int32} {a3 : Nat} {l4 : Int32} {l5 : Int32} {l6 : Int32} (_ : (1, a1, 0) ∈ KM) (_ : (1, a3, 0) ∈ KM), K6 S a1 l2 a3 l4 l5 l6 = some out → WX x 10 0 0 S 6 [(0, .ref (x_ad x 0 7 0)), (1, .ref (x_ad x 1 a1 0)), (2, .int l2), (3, .ref (x_ad x 1 a3 0)), (4, .int l4), (5, .int l5), (6, .int l6)] []) {S : St} {a1 : Nat} {l2 : Int32} {a3 : Nat} {l4 : Int32} {l6 : Int32} {s0 : Int32} (h_a1 : (1, a1, 0) ∈ KM) (h_a3 : (1, a3, 0) ∈ KM) (h : j_X8_isAtMost_117 n K6 S a1 l2 a3 l4 l6 s0 = some out) : WX x 10 0 0 S 117 [(0, .ref (x_ad x 0 7 0)), (1, .ref (x_ad x 1 a1 0)), (2, .int l2), (3, .ref (x_ad x 1 a3 0)), (4, .int l4), (6, .int l6)] [.int s0] := by
  unfold j_X8_isAtMost_117 at h
  refine r_istore (lv' := [(5, .int s0), (0, .ref (x_ad x 0 7 0)), (1, .ref (x_ad x 1 a1 0)), (2, .int l2), (3, .ref (x_ad x 1 a3 0)), (4, .int l4), (6, .int l6)]) hx dX8_isAtMost_117 (by decide) rfl ?_
  obtain ⟨v1, e2, h⟩ := bV_some h
  refine r_iinc (k := 6) (v := v1) (lv' := [(6, .int v1), (5, .int s0), (0, .ref (x_ad x 0 7 0)), (1, .ref (x_ad x 1 a1 0)), (2, .int l2), (3, .ref (x_ad x 1 a3 0)), (4, .int l4)]) hx dX8_isAtMost_119 rfl (by rw [e2]; rfl) (by decide) rfl ?_
  refine r_goto (tgt := 6) hx dX8_isAtMost_122 (by decide) ?_
  refine WX.sub (lv' := [(0, .ref (x_ad x 0 7 0)), (1, .ref (x_ad x 1 a1 0)), (2, .int l2), (3, .ref (x_ad x 1 a3 0)), (4, .int l4), (5, .int s0), (6, .int v1)]) ?_ [2, 3, 4, 5, 6, 1, 0] rfl
  exact hK6 h_a1 h_a3 h
set_option maxRecDepth 100000 in
set_option maxHeartbeats 4000000 in
theorem t_X8_isAtMost_82 {n : Nat} {K6 : St → Nat → Int32 → Nat → Int32 → Int32 → Int32 → Option (St × Int32)} {x : XC} (hx : CX x cX8_isAtMost 10 RX8) (hR : x_R x = rm_X8_isAtMost) (hKS : ∀ k ∈ KM, k ∈ x_K x) {out : St × Int32} (hE : EI x cX8_isAtMost out) (hK6 : ∀ {S : St} {a1 : Nat} {l2 : Int32} {a3 : Nat} {l4 : Int32} {l5 : Int32} {l6 : Int32} (_ : (1, a1, 0) ∈ KM) (_ : (1, a3, 0) ∈ KM), K6 S a1 l2 a3 l4 l5 l6 = some out → WX x 10 0 0 S 6 [(0, .ref (x_ad x 0 7 0)), (1, .ref (x_ad x 1 a1 0)), (2, .int l2), (3, .ref (x_ad x 1 a3 0)), (4, .int l4), (5, .int l5), (6, .int l6)] []) {S : St} {a1 : Nat} {l2 : Int32} {a3 : Nat} {l4 : Int32} {l6 : Int32} {l7 : Int32} {l8 : Int32} {s0 : Int32} (h_a1 : (1, a1, 0) ∈ KM) (h_a3 : (1, a3, 0) ∈ KM) (h : j_X8_isAtMost_82 n K6 S a1 l2 a3 l4 l6 l7 l8 s0 = some out) : WX x 10 0 0 S 82 [(0, .ref (x_ad x 0 7 0)), (1, .ref (x_ad x 1 a1 0)), (2, .int l2), (3, .ref (x_ad x 1 a3 0)), (4, .int l4), (6, .int l6), (7, .int l7), (8, .int l8)] [.int s0] := by
  unfold j_X8_isAtMost_82 at h
  refine r_istore (lv' := [(9, .int s0), (0, .ref (x_ad x 0 7 0)), (1, .ref (x_ad x 1 a1 0)), (2, .int l2), (3, .ref (x_ad x 1 a3 0)), (4, .int l4), (6, .int l6), (7, .int l7), (8, .int l8)]) hx dX8_isAtMost_82 (by decide) rfl ?_
  refine r_aload_n (k0 := 1) hx dX8_isAtMost_84 rfl rfl ?_
  refine r_aload_n (k0 := 2) hx dX8_isAtMost_85 rfl rfl ?_
  refine r_iload_n (k0 := 3) hx dX8_isAtMost_86 rfl rfl ?_
  refine r_iload (k0 := 7) hx dX8_isAtMost_87 rfl ?_
  refine r_iload (k0 := 8) hx dX8_isAtMost_89 rfl ?_
  refine r_iload (k0 := 0) hx dX8_isAtMost_91 rfl ?_
  obtain ⟨S1, v3, c2, h⟩ := bI_some h
  refine r_Vi (ci := 7) (As := [.ref (x_ad x 1 a1 0), .int l2, .int l7, .int l8, .int s0]) (rest := []) hx (C_X8_valueOf (c := x_y x) hKS h_a1 c2) (k_0_7 hKS) rfl wl_X8_217 wi_X8_valueOf we_X8_valueOf wn_X8 wc_X8_valueOf dy_X8_valueOf rfl (by rw [hR]; decide +kernel) rfl (Nat.le_of_ble_eq_true rfl) dX8_isAtMost_93 ?_
  refine r_aload_n (k0 := 1) hx dX8_isAtMost_96 rfl rfl ?_
  refine r_aload_n (k0 := 4) hx dX8_isAtMost_97 rfl rfl ?_
  refine r_iload (k0 := 5) hx dX8_isAtMost_98 rfl ?_
  refine r_iload (k0 := 7) hx dX8_isAtMost_100 rfl ?_
  refine r_iload (k0 := 8) hx dX8_isAtMost_102 rfl ?_
  refine r_iload (k0 := 0) hx dX8_isAtMost_104 rfl ?_
  obtain ⟨S4, v6, c5, h⟩ := bI_some h
  refine r_Vi (ci := 7) (As := [.ref (x_ad x 1 a3 0), .int l4, .int l7, .int l8, .int s0]) (rest := [.int v3]) hx (C_X8_valueOf (c := x_y x) hKS h_a3 c5) (k_0_7 hKS) rfl wl_X8_217 wi_X8_valueOf we_X8_valueOf wn_X8 wc_X8_valueOf dy_X8_valueOf rfl (by rw [hR]; decide +kernel) rfl (Nat.le_of_ble_eq_true rfl) dX8_isAtMost_106 ?_
  refine r_icmp_gt (tgt := 116) hx dX8_isAtMost_109 (by decide) (fun c7 => ?_) (fun c7 => ?_)
  · have h := ite_t h c7
    refine r_iconst (v := 0) hx dX8_isAtMost_116 (by decide) ?_
    refine WX.sub (lv' := [(0, .ref (x_ad x 0 7 0)), (1, .ref (x_ad x 1 a1 0)), (2, .int l2), (3, .ref (x_ad x 1 a3 0)), (4, .int l4), (6, .int l6)]) ?_ [1, 2, 3, 4, 5, 6] rfl
    exact t_X8_isAtMost_117 hx hR hKS hE hK6 h_a1 h_a3 h
  · have h := ite_f h c7
    refine r_iconst (v := 1) hx dX8_isAtMost_112 (by decide) ?_
    refine r_goto (tgt := 117) hx dX8_isAtMost_113 (by decide) ?_
    refine WX.sub (lv' := [(0, .ref (x_ad x 0 7 0)), (1, .ref (x_ad x 1 a1 0)), (2, .int l2), (3, .ref (x_ad x 1 a3 0)), (4, .int l4), (6, .int l6)]) ?_ [1, 2, 3, 4, 5, 6] rfl
    exact t_X8_isAtMost_117 hx hR hKS hE hK6 h_a1 h_a3 h
set_option maxRecDepth 100000 in
set_option maxHeartbeats 4000000 in
theorem t_X8_isAtMost_60 {n : Nat} {K6 : St → Nat → Int32 → Nat → Int32 → Int32 → Int32 → Option (St × Int32)} {x : XC} (hx : CX x cX8_isAtMost 10 RX8) (hR : x_R x = rm_X8_isAtMost) (hKS : ∀ k ∈ KM, k ∈ x_K x) {out : St × Int32} (hE : EI x cX8_isAtMost out) (hK6 : ∀ {S : St} {a1 : Nat} {l2 : Int32} {a3 : Nat} {l4 : Int32} {l5 : Int32} {l6 : Int32} (_ : (1, a1, 0) ∈ KM) (_ : (1, a3, 0) ∈ KM), K6 S a1 l2 a3 l4 l5 l6 = some out → WX x 10 0 0 S 6 [(0, .ref (x_ad x 0 7 0)), (1, .ref (x_ad x 1 a1 0)), (2, .int l2), (3, .ref (x_ad x 1 a3 0)), (4, .int l4), (5, .int l5), (6, .int l6)] []) {S : St} {a1 : Nat} {l2 : Int32} {a3 : Nat} {l4 : Int32} {l6 : Int32} {l7 : Int32} {s0 : Int32} (h_a1 : (1, a1, 0) ∈ KM) (h_a3 : (1, a3, 0) ∈ KM) (h : j_X8_isAtMost_60 n K6 S a1 l2 a3 l4 l6 l7 s0 = some out) : WX x 10 0 0 S 60 [(0, .ref (x_ad x 0 7 0)), (1, .ref (x_ad x 1 a1 0)), (2, .int l2), (3, .ref (x_ad x 1 a3 0)), (4, .int l4), (6, .int l6), (7, .int l7)] [.int s0] := by
  unfold j_X8_isAtMost_60 at h
  refine r_istore (lv' := [(8, .int s0), (0, .ref (x_ad x 0 7 0)), (1, .ref (x_ad x 1 a1 0)), (2, .int l2), (3, .ref (x_ad x 1 a3 0)), (4, .int l4), (6, .int l6), (7, .int l7)]) hx dX8_isAtMost_60 (by decide) rfl ?_
  refine r_iload (k0 := 6) hx dX8_isAtMost_62 rfl ?_
  refine r_bipush (v := 9) hx dX8_isAtMost_64 (by decide) ?_
  refine r_idiv hx dX8_isAtMost_66 (by decide) ?_
  refine r_iconst (v := 2) hx dX8_isAtMost_67 (by decide) ?_
  refine r_icmp_ne (tgt := 77) hx dX8_isAtMost_68 (by decide) (fun c1 => ?_) (fun c1 => ?_)
  · have h := ite_f h c1
    refine r_iload (k0 := 6) hx dX8_isAtMost_77 rfl ?_
    refine r_bipush (v := 9) hx dX8_isAtMost_79 (by decide) ?_
    refine r_idiv hx dX8_isAtMost_81 (by decide) ?_
    refine WX.sub (lv' := [(0, .ref (x_ad x 0 7 0)), (1, .ref (x_ad x 1 a1 0)), (2, .int l2), (3, .ref (x_ad x 1 a3 0)), (4, .int l4), (6, .int l6), (7, .int l7), (8, .int s0)]) ?_ [1, 2, 3, 4, 5, 6, 7, 0] rfl
    exact t_X8_isAtMost_82 hx hR hKS hE hK6 h_a1 h_a3 h
  · have h := ite_t h c1
    refine r_sipush (v := 1000) hx dX8_isAtMost_71 (by decide) ?_
    refine r_goto (tgt := 82) hx dX8_isAtMost_74 (by decide) ?_
    refine WX.sub (lv' := [(0, .ref (x_ad x 0 7 0)), (1, .ref (x_ad x 1 a1 0)), (2, .int l2), (3, .ref (x_ad x 1 a3 0)), (4, .int l4), (6, .int l6), (7, .int l7), (8, .int s0)]) ?_ [1, 2, 3, 4, 5, 6, 7, 0] rfl
    exact t_X8_isAtMost_82 hx hR hKS hE hK6 h_a1 h_a3 h
set_option maxRecDepth 100000 in
set_option maxHeartbeats 4000000 in
theorem t_X8_isAtMost_36 {n : Nat} {K6 : St → Nat → Int32 → Nat → Int32 → Int32 → Int32 → Option (St × Int32)} {x : XC} (hx : CX x cX8_isAtMost 10 RX8) (hR : x_R x = rm_X8_isAtMost) (hKS : ∀ k ∈ KM, k ∈ x_K x) {out : St × Int32} (hE : EI x cX8_isAtMost out) (hK6 : ∀ {S : St} {a1 : Nat} {l2 : Int32} {a3 : Nat} {l4 : Int32} {l5 : Int32} {l6 : Int32} (_ : (1, a1, 0) ∈ KM) (_ : (1, a3, 0) ∈ KM), K6 S a1 l2 a3 l4 l5 l6 = some out → WX x 10 0 0 S 6 [(0, .ref (x_ad x 0 7 0)), (1, .ref (x_ad x 1 a1 0)), (2, .int l2), (3, .ref (x_ad x 1 a3 0)), (4, .int l4), (5, .int l5), (6, .int l6)] []) {S : St} {a1 : Nat} {l2 : Int32} {a3 : Nat} {l4 : Int32} {l6 : Int32} {s0 : Int32} (h_a1 : (1, a1, 0) ∈ KM) (h_a3 : (1, a3, 0) ∈ KM) (h : j_X8_isAtMost_36 n K6 S a1 l2 a3 l4 l6 s0 = some out) : WX x 10 0 0 S 36 [(0, .ref (x_ad x 0 7 0)), (1, .ref (x_ad x 1 a1 0)), (2, .int l2), (3, .ref (x_ad x 1 a3 0)), (4, .int l4), (6, .int l6)] [.int s0] := by
  unfold j_X8_isAtMost_36 at h
  refine r_istore (lv' := [(7, .int s0), (0, .ref (x_ad x 0 7 0)), (1, .ref (x_ad x 1 a1 0)), (2, .int l2), (3, .ref (x_ad x 1 a3 0)), (4, .int l4), (6, .int l6)]) hx dX8_isAtMost_36 (by decide) rfl ?_
  refine r_iload (k0 := 6) hx dX8_isAtMost_38 rfl ?_
  refine r_iconst (v := 3) hx dX8_isAtMost_40 (by decide) ?_
  refine r_idiv hx dX8_isAtMost_41 (by decide) ?_
  refine r_iconst (v := 3) hx dX8_isAtMost_42 (by decide) ?_
  refine r_irem hx dX8_isAtMost_43 (by decide) ?_
  refine r_iconst (v := 2) hx dX8_isAtMost_44 (by decide) ?_
  refine r_icmp_ne (tgt := 54) hx dX8_isAtMost_45 (by decide) (fun c1 => ?_) (fun c1 => ?_)
  · have h := ite_f h c1
    refine r_iload (k0 := 6) hx dX8_isAtMost_54 rfl ?_
    refine r_iconst (v := 3) hx dX8_isAtMost_56 (by decide) ?_
    refine r_idiv hx dX8_isAtMost_57 (by decide) ?_
    refine r_iconst (v := 3) hx dX8_isAtMost_58 (by decide) ?_
    refine r_irem hx dX8_isAtMost_59 (by decide) ?_
    refine WX.sub (lv' := [(0, .ref (x_ad x 0 7 0)), (1, .ref (x_ad x 1 a1 0)), (2, .int l2), (3, .ref (x_ad x 1 a3 0)), (4, .int l4), (6, .int l6), (7, .int s0)]) ?_ [1, 2, 3, 4, 5, 6, 0] rfl
    exact t_X8_isAtMost_60 hx hR hKS hE hK6 h_a1 h_a3 h
  · have h := ite_t h c1
    refine r_sipush (v := 1000) hx dX8_isAtMost_48 (by decide) ?_
    refine r_goto (tgt := 60) hx dX8_isAtMost_51 (by decide) ?_
    refine WX.sub (lv' := [(0, .ref (x_ad x 0 7 0)), (1, .ref (x_ad x 1 a1 0)), (2, .int l2), (3, .ref (x_ad x 1 a3 0)), (4, .int l4), (6, .int l6), (7, .int s0)]) ?_ [1, 2, 3, 4, 5, 6, 0] rfl
    exact t_X8_isAtMost_60 hx hR hKS hE hK6 h_a1 h_a3 h
set_option maxRecDepth 100000 in
set_option maxHeartbeats 4000000 in
theorem t_X8_isAtMost_6 {n : Nat} {x : XC} (hx : CX x cX8_isAtMost 10 RX8) (hR : x_R x = rm_X8_isAtMost) (hKS : ∀ k ∈ KM, k ∈ x_K x) {out : St × Int32} (hE : EI x cX8_isAtMost out) : ∀ {m : Nat} {S : St} {a1 : Nat} {l2 : Int32} {a3 : Nat} {l4 : Int32} {l5 : Int32} {l6 : Int32} (h_a1 : (1, a1, 0) ∈ KM) (h_a3 : (1, a3, 0) ∈ KM) (h : l_X8_isAtMost_6 n m S a1 l2 a3 l4 l5 l6 = some out), WX x 10 0 0 S 6 [(0, .ref (x_ad x 0 7 0)), (1, .ref (x_ad x 1 a1 0)), (2, .int l2), (3, .ref (x_ad x 1 a3 0)), (4, .int l4), (5, .int l5), (6, .int l6)] [] := by
  intro m
  induction m with
  | zero => intro S a1 l2 a3 l4 l5 l6 h_a1 h_a3 h; cases h
  | succ m ih =>
    intro S a1 l2 a3 l4 l5 l6 h_a1 h_a3 h
    unfold l_X8_isAtMost_6 at h
    refine r_iload (k0 := 6) hx dX8_isAtMost_6 rfl ?_
    refine r_bipush (v := 27) hx dX8_isAtMost_8 (by decide) ?_
    refine r_icmp_ge (tgt := 125) hx dX8_isAtMost_10 (by decide) (fun c1 => ?_) (fun c1 => ?_)
    · have h := ite_t h c1
      refine r_iload (k0 := 5) hx dX8_isAtMost_125 rfl ?_
      exact r_iret hE h dX8_isAtMost_127
    · have h := ite_f h c1
      refine r_iload (k0 := 5) hx dX8_isAtMost_13 rfl ?_
      refine r_if_eq (tgt := 125) hx dX8_isAtMost_15 (by decide) (fun c2 => ?_) (fun c2 => ?_)
      · have h := ite_t h c2
        refine r_iload (k0 := 5) hx dX8_isAtMost_125 rfl ?_
        exact r_iret hE h dX8_isAtMost_127
      · have h := ite_f h c2
        refine r_iload (k0 := 6) hx dX8_isAtMost_18 rfl ?_
        refine r_iconst (v := 3) hx dX8_isAtMost_20 (by decide) ?_
        refine r_irem hx dX8_isAtMost_21 (by decide) ?_
        refine r_iconst (v := 2) hx dX8_isAtMost_22 (by decide) ?_
        refine r_icmp_ne (tgt := 32) hx dX8_isAtMost_23 (by decide) (fun c3 => ?_) (fun c3 => ?_)
        · have h := ite_f h c3
          refine r_iload (k0 := 6) hx dX8_isAtMost_32 rfl ?_
          refine r_iconst (v := 3) hx dX8_isAtMost_34 (by decide) ?_
          refine r_irem hx dX8_isAtMost_35 (by decide) ?_
          refine WX.sub (lv' := [(0, .ref (x_ad x 0 7 0)), (1, .ref (x_ad x 1 a1 0)), (2, .int l2), (3, .ref (x_ad x 1 a3 0)), (4, .int l4), (6, .int l6)]) ?_ [0, 1, 2, 3, 4, 6] rfl
          exact t_X8_isAtMost_36 hx hR hKS hE ih h_a1 h_a3 h
        · have h := ite_t h c3
          refine r_sipush (v := 1000) hx dX8_isAtMost_26 (by decide) ?_
          refine r_goto (tgt := 36) hx dX8_isAtMost_29 (by decide) ?_
          refine WX.sub (lv' := [(0, .ref (x_ad x 0 7 0)), (1, .ref (x_ad x 1 a1 0)), (2, .int l2), (3, .ref (x_ad x 1 a3 0)), (4, .int l4), (6, .int l6)]) ?_ [0, 1, 2, 3, 4, 6] rfl
          exact t_X8_isAtMost_36 hx hR hKS hE ih h_a1 h_a3 h
set_option maxRecDepth 100000 in
set_option maxHeartbeats 4000000 in
theorem t_X8_isAtMost_0 {n : Nat} {x : XC} (hx : CX x cX8_isAtMost 10 RX8) (hR : x_R x = rm_X8_isAtMost) (hKS : ∀ k ∈ KM, k ∈ x_K x) {out : St × Int32} (hE : EI x cX8_isAtMost out) {S : St} {a1 : Nat} {a2 : Int32} {a3 : Nat} {a4 : Int32} (h_a1 : (1, a1, 0) ∈ KM) (h_a3 : (1, a3, 0) ∈ KM) (h : g_X8_isAtMost n S a1 a2 a3 a4 = some out) : WX x 10 0 0 S 0 [(0, .ref (x_ad x 0 7 0)), (1, .ref (x_ad x 1 a1 0)), (2, .int a2), (3, .ref (x_ad x 1 a3 0)), (4, .int a4)] [] := by
  unfold g_X8_isAtMost at h
  refine r_iconst (v := 1) hx dX8_isAtMost_0 (by decide) ?_
  refine r_istore (lv' := [(5, .int 1), (0, .ref (x_ad x 0 7 0)), (1, .ref (x_ad x 1 a1 0)), (2, .int a2), (3, .ref (x_ad x 1 a3 0)), (4, .int a4)]) hx dX8_isAtMost_1 (by decide) rfl ?_
  refine r_iconst (v := 0) hx dX8_isAtMost_3 (by decide) ?_
  refine r_istore (lv' := [(6, .int 0), (5, .int 1), (0, .ref (x_ad x 0 7 0)), (1, .ref (x_ad x 1 a1 0)), (2, .int a2), (3, .ref (x_ad x 1 a3 0)), (4, .int a4)]) hx dX8_isAtMost_4 (by decide) rfl ?_
  refine WX.sub (lv' := [(0, .ref (x_ad x 0 7 0)), (1, .ref (x_ad x 1 a1 0)), (2, .int a2), (3, .ref (x_ad x 1 a3 0)), (4, .int a4), (5, .int 1), (6, .int 0)]) ?_ [2, 3, 4, 5, 6, 1, 0] rfl
  exact t_X8_isAtMost_6 hx hR hKS hE h_a1 h_a3 h
def f_X8_isAtMost (n : Nat) (S : St) (a1 : Nat) (a2 : Int32) (a3 : Nat) (a4 : Int32) : Option (St × Int32) := zW (g_X8_isAtMost n S a1 a2 a3 a4)
set_option maxHeartbeats 4000000 in
theorem C_X8_isAtMost {n : Nat} {c : YC} (hKS : ∀ k ∈ KM, k ∈ c.2.2.2.2) {S : St} {a1 : Nat} {a2 : Int32} {a3 : Nat} {a4 : Int32} {out : St × Int32} (h_a1 : (1, a1, 0) ∈ KM) (h_a3 : (1, a3, 0) ∈ KM) (h : f_X8_isAtMost n S a1 a2 a3 a4 = some out) : MI c yX8_isAtMost cX8_isAtMost 10 (some .boolean) rm_X8_isAtMost S [.ref (c.2.2.1 0 7 0), .ref (c.2.2.1 1 a1 0), .int a2, .ref (c.2.2.1 1 a3 0), .int a4] out := mk_Z (own := RX8) (by decide +kernel) rfl (Nat.le_of_ble_eq_true rfl) (zW_some h).2 (fun x hx hR hy hE => by subst hy; exact t_X8_isAtMost_0 hx hR hKS hE h_a1 h_a3 (zW_some h).1)
def g_X8_isSameLevel (n : Nat) (S : St) (a1 : Nat) (a2 : Int32) (a3 : Nat) (a4 : Int32) : Option (St × Int32) :=
  bI (f_X8_isAtMost n S a1 a2 a3 a4) fun S1 v3 =>
  if v3 = 0 then
    some (S1, 0)
  else
    bI (f_X8_isAtMost n S1 a3 a4 a1 a2) fun S5 v7 =>
    if v7 = 0 then
      some (S5, 0)
    else
      some (S5, 1)
set_option maxRecDepth 100000 in
set_option maxHeartbeats 4000000 in
theorem t_X8_isSameLevel_0 {n : Nat} {x : XC} (hx : CX x cX8_isSameLevel 5 RX8) (hR : x_R x = rm_X8_isSameLevel) (hKS : ∀ k ∈ KM, k ∈ x_K x) {out : St × Int32} (hE : EI x cX8_isSameLevel out) {S : St} {a1 : Nat} {a2 : Int32} {a3 : Nat} {a4 : Int32} (h_a1 : (1, a1, 0) ∈ KM) (h_a3 : (1, a3, 0) ∈ KM) (h : g_X8_isSameLevel n S a1 a2 a3 a4 = some out) : WX x 5 0 0 S 0 [(0, .ref (x_ad x 0 7 0)), (1, .ref (x_ad x 1 a1 0)), (2, .int a2), (3, .ref (x_ad x 1 a3 0)), (4, .int a4)] [] := by
  unfold g_X8_isSameLevel at h
  refine r_aload_n (k0 := 0) hx dX8_isSameLevel_0 rfl rfl ?_
  refine r_aload_n (k0 := 1) hx dX8_isSameLevel_1 rfl rfl ?_
  refine r_iload_n (k0 := 2) hx dX8_isSameLevel_2 rfl rfl ?_
  refine r_aload_n (k0 := 3) hx dX8_isSameLevel_3 rfl rfl ?_
  refine r_iload (k0 := 4) hx dX8_isSameLevel_4 rfl ?_
  obtain ⟨S1, v3, c2, h⟩ := bI_some h
  refine r_Vi (ci := 7) (As := [.ref (x_ad x 1 a1 0), .int a2, .ref (x_ad x 1 a3 0), .int a4]) (rest := []) hx (C_X8_isAtMost (c := x_y x) hKS h_a1 h_a3 c2) (k_0_7 hKS) rfl wl_X8_221 wi_X8_isAtMost we_X8_isAtMost wn_X8 wc_X8_isAtMost dy_X8_isAtMost rfl (by rw [hR]; decide +kernel) rfl (Nat.le_of_ble_eq_true rfl) dX8_isSameLevel_6 ?_
  refine r_if_eq (tgt := 28) hx dX8_isSameLevel_9 (by decide) (fun c4 => ?_) (fun c4 => ?_)
  · have h := ite_t h c4
    refine r_iconst (v := 0) hx dX8_isSameLevel_28 (by decide) ?_
    exact r_iret hE h dX8_isSameLevel_29
  · have h := ite_f h c4
    refine r_aload_n (k0 := 0) hx dX8_isSameLevel_12 rfl rfl ?_
    refine r_aload_n (k0 := 3) hx dX8_isSameLevel_13 rfl rfl ?_
    refine r_iload (k0 := 4) hx dX8_isSameLevel_14 rfl ?_
    refine r_aload_n (k0 := 1) hx dX8_isSameLevel_16 rfl rfl ?_
    refine r_iload_n (k0 := 2) hx dX8_isSameLevel_17 rfl rfl ?_
    obtain ⟨S5, v7, c6, h⟩ := bI_some h
    refine r_Vi (ci := 7) (As := [.ref (x_ad x 1 a3 0), .int a4, .ref (x_ad x 1 a1 0), .int a2]) (rest := []) hx (C_X8_isAtMost (c := x_y x) hKS h_a3 h_a1 c6) (k_0_7 hKS) rfl wl_X8_221 wi_X8_isAtMost we_X8_isAtMost wn_X8 wc_X8_isAtMost dy_X8_isAtMost rfl (by rw [hR]; decide +kernel) rfl (Nat.le_of_ble_eq_true rfl) dX8_isSameLevel_18 ?_
    refine r_if_eq (tgt := 28) hx dX8_isSameLevel_21 (by decide) (fun c8 => ?_) (fun c8 => ?_)
    · have h := ite_t h c8
      refine r_iconst (v := 0) hx dX8_isSameLevel_28 (by decide) ?_
      exact r_iret hE h dX8_isSameLevel_29
    · have h := ite_f h c8
      refine r_iconst (v := 1) hx dX8_isSameLevel_24 (by decide) ?_
      refine r_goto (tgt := 29) hx dX8_isSameLevel_25 (by decide) ?_
      exact r_iret hE h dX8_isSameLevel_29
def f_X8_isSameLevel (n : Nat) (S : St) (a1 : Nat) (a2 : Int32) (a3 : Nat) (a4 : Int32) : Option (St × Int32) := zW (g_X8_isSameLevel n S a1 a2 a3 a4)
set_option maxHeartbeats 4000000 in
theorem C_X8_isSameLevel {n : Nat} {c : YC} (hKS : ∀ k ∈ KM, k ∈ c.2.2.2.2) {S : St} {a1 : Nat} {a2 : Int32} {a3 : Nat} {a4 : Int32} {out : St × Int32} (h_a1 : (1, a1, 0) ∈ KM) (h_a3 : (1, a3, 0) ∈ KM) (h : f_X8_isSameLevel n S a1 a2 a3 a4 = some out) : MI c yX8_isSameLevel cX8_isSameLevel 5 (some .boolean) rm_X8_isSameLevel S [.ref (c.2.2.1 0 7 0), .ref (c.2.2.1 1 a1 0), .int a2, .ref (c.2.2.1 1 a3 0), .int a4] out := mk_Z (own := RX8) (by decide +kernel) rfl (Nat.le_of_ble_eq_true rfl) (zW_some h).2 (fun x hx hR hy hE => by subst hy; exact t_X8_isSameLevel_0 hx hR hKS hE h_a1 h_a3 (zW_some h).1)
def j_X8_isSame_165 (n : Nat) (K13 : St → Nat → Nat → Int32 → Int32 → Int32 → Int32 → Option (St × Int32)) (S : St) (a1 : Nat) (a3 : Nat) (l5 : Int32) (l6 : Int32) (l7 : Int32) (l8 : Int32) : Option (St × Int32) :=
  gI S a1 0 l5 (ln a1) fun v1 =>
  bI (f_X8_partsOf n S v1) fun S4 v6 =>
  bV (l7 + (v6 - 1)) fun v7 =>
  bI (f_X8_behindToken n S4 a1 l5) fun S9 v11 =>
  bI (f_X8_behindToken n S9 a3 l6) fun S12 v14 =>
  K13 S12 a1 a3 v11 v14 v7 l8
def j_X8_isSame_163 (n : Nat) (K13 : St → Nat → Nat → Int32 → Int32 → Int32 → Int32 → Option (St × Int32)) (S : St) (a1 : Nat) (a3 : Nat) (l5 : Int32) (l6 : Int32) (l7 : Int32) (s0 : Int32) : Option (St × Int32) :=
  j_X8_isSame_165 n K13 S a1 a3 l5 l6 l7 s0
def j_X8_isSame_162 (n : Nat) (K13 : St → Nat → Nat → Int32 → Int32 → Int32 → Int32 → Option (St × Int32)) (S : St) (a1 : Nat) (a3 : Nat) (l5 : Int32) (l6 : Int32) (l7 : Int32) : Option (St × Int32) :=
  j_X8_isSame_163 n K13 S a1 a3 l5 l6 l7 0
def j_X8_isSame_103 (n : Nat) (K13 : St → Nat → Nat → Int32 → Int32 → Int32 → Int32 → Option (St × Int32)) (S : St) (a1 : Nat) (a3 : Nat) (l5 : Int32) (l6 : Int32) (l7 : Int32) (l8 : Int32) : Option (St × Int32) :=
  if l8 = 0 then
    j_X8_isSame_165 n K13 S a1 a3 l5 l6 l7 l8
  else
    gI S a1 0 l5 (ln a1) fun v2 =>
    if v2 = 2 then
      bI (f_X8_isSameLevel n S a1 (l5 + 2) a3 (l6 + 2)) fun S6 v8 =>
      if v8 = 0 then
        j_X8_isSame_162 n K13 S6 a1 a3 l5 l6 l7
      else
        bI (f_X8_behindLevel n S6 a1 (l5 + 2)) fun S10 v12 =>
        bI (f_X8_behindLevel n S10 a3 (l6 + 2)) fun S13 v15 =>
        bI (f_X8_isSameLevel n S13 a1 v12 a3 v15) fun S16 v18 =>
        if v18 = 0 then
          j_X8_isSame_162 n K13 S16 a1 a3 l5 l6 l7
        else
          j_X8_isSame_163 n K13 S16 a1 a3 l5 l6 l7 1
    else
      j_X8_isSame_165 n K13 S a1 a3 l5 l6 l7 l8
def j_X8_isSame_70 (n : Nat) (K13 : St → Nat → Nat → Int32 → Int32 → Int32 → Int32 → Option (St × Int32)) (S : St) (a1 : Nat) (a3 : Nat) (l5 : Int32) (l6 : Int32) (l7 : Int32) (s0 : Int32) : Option (St × Int32) :=
  if s0 = 0 then
    j_X8_isSame_103 n K13 S a1 a3 l5 l6 l7 s0
  else
    gI S a1 0 l5 (ln a1) fun v2 =>
    if v2 = 0 then
      bI (f_X8_isSameLevel n S a1 (l5 + 1) a3 (l6 + 1)) fun S6 v8 =>
      j_X8_isSame_165 n K13 S6 a1 a3 l5 l6 l7 v8
    else
      j_X8_isSame_103 n K13 S a1 a3 l5 l6 l7 s0
def j_X8_isSame_65 (n : Nat) (K13 : St → Nat → Nat → Int32 → Int32 → Int32 → Int32 → Option (St × Int32)) (S : St) (a1 : Nat) (a3 : Nat) (l5 : Int32) (l6 : Int32) (l7 : Int32) : Option (St × Int32) :=
  j_X8_isSame_70 n K13 S a1 a3 l5 l6 l7 1
def j_X8_isSame_69 (n : Nat) (K13 : St → Nat → Nat → Int32 → Int32 → Int32 → Int32 → Option (St × Int32)) (S : St) (a1 : Nat) (a3 : Nat) (l5 : Int32) (l6 : Int32) (l7 : Int32) : Option (St × Int32) :=
  j_X8_isSame_70 n K13 S a1 a3 l5 l6 l7 0
def j_X8_isSame_50 (n : Nat) (K13 : St → Nat → Nat → Int32 → Int32 → Int32 → Int32 → Option (St × Int32)) (S : St) (a1 : Nat) (a3 : Nat) (l5 : Int32) (l6 : Int32) (l7 : Int32) : Option (St × Int32) :=
  gI S a1 0 (l5 + 1) (ln a1) fun v1 =>
  gI S a3 0 (l6 + 1) (ln a3) fun v4 =>
  if v1 = v4 then
    j_X8_isSame_65 n K13 S a1 a3 l5 l6 l7
  else
    j_X8_isSame_69 n K13 S a1 a3 l5 l6 l7
def l_X8_isSame_13 (n : Nat) : Nat → St → Nat → Nat → Int32 → Int32 → Int32 → Int32 → Option (St × Int32)
  | 0, _, _, _, _, _, _, _ => none
  | m + 1, S, a1, a3, l5, l6, l7, l8 =>
    if l7 ≤ 0 then
      some (S, l8)
    else
      if l8 = 0 then
        some (S, l8)
      else
        gI S a1 0 l5 (ln a1) fun v3 =>
        gI S a3 0 l6 (ln a3) fun v6 =>
        if v3 = v6 then
          gI S a1 0 l5 (ln a1) fun v10 =>
          if v10 = 1 then
            j_X8_isSame_50 n (fun S a1 a3 l5 l6 l7 l8 => l_X8_isSame_13 n m S a1 a3 l5 l6 l7 l8) S a1 a3 l5 l6 l7
          else
            gI S a1 0 l5 (ln a1) fun v14 =>
            if v14 = 2 then
              j_X8_isSame_50 n (fun S a1 a3 l5 l6 l7 l8 => l_X8_isSame_13 n m S a1 a3 l5 l6 l7 l8) S a1 a3 l5 l6 l7
            else
              j_X8_isSame_65 n (fun S a1 a3 l5 l6 l7 l8 => l_X8_isSame_13 n m S a1 a3 l5 l6 l7 l8) S a1 a3 l5 l6 l7
        else
          j_X8_isSame_69 n (fun S a1 a3 l5 l6 l7 l8 => l_X8_isSame_13 n m S a1 a3 l5 l6 l7 l8) S a1 a3 l5 l6 l7
def g_X8_isSame (n : Nat) (S : St) (a1 : Nat) (a2 : Int32) (a3 : Nat) (a4 : Int32) : Option (St × Int32) :=
  l_X8_isSame_13 n n S a1 a3 a2 a4 1 1
set_option maxRecDepth 100000 in
set_option maxHeartbeats 4000000 in
theorem t_X8_isSame_165 {n : Nat} {K13 : St → Nat → Nat → Int32 → Int32 → Int32 → Int32 → Option (St × Int32)} {x : XC} (hx : CX x cX8_isSame 9 RX8) (hR : x_R x = rm_X8_isSame) (hKS : ∀ k ∈ KM, k ∈ x_K x) {out : St × Int32} (hE : EI x cX8_isSame out) (hK13 : ∀ {S : St} {a1 : Nat} {a3 : Nat} {l5 : Int32} {l6 : Int32} {l7 : Int32} {l8 : Int32} (_ : (1, a1, 0) ∈ KM) (_ : (1, a3, 0) ∈ KM), K13 S a1 a3 l5 l6 l7 l8 = some out → WX x 9 0 0 S 13 [(0, .ref (x_ad x 0 7 0)), (1, .ref (x_ad x 1 a1 0)), (3, .ref (x_ad x 1 a3 0)), (5, .int l5), (6, .int l6), (7, .int l7), (8, .int l8)] []) {S : St} {a1 : Nat} {a3 : Nat} {l5 : Int32} {l6 : Int32} {l7 : Int32} {l8 : Int32} (h_a1 : (1, a1, 0) ∈ KM) (h_a3 : (1, a3, 0) ∈ KM) (h : j_X8_isSame_165 n K13 S a1 a3 l5 l6 l7 l8 = some out) : WX x 9 0 0 S 165 [(0, .ref (x_ad x 0 7 0)), (1, .ref (x_ad x 1 a1 0)), (3, .ref (x_ad x 1 a3 0)), (5, .int l5), (6, .int l6), (7, .int l7), (8, .int l8)] [] := by
  unfold j_X8_isSame_165 at h
  refine r_iload (k0 := 5) hx dX8_isSame_165 rfl ?_
  refine r_aload_n (k0 := 1) hx dX8_isSame_167 rfl rfl ?_
  refine r_iload (k0 := 3) hx dX8_isSame_168 rfl ?_
  obtain ⟨v1, e2, i3, h⟩ := gI_some h
  refine r_iald hx (hKS _ h_a1) rfl i3 e2 dX8_isSame_170 ?_
  obtain ⟨S4, v6, c5, h⟩ := bI_some h
  refine r_Si (As := [.int v1]) (rest := [.int l7]) hx (C_X8_partsOf (c := x_y x) hKS c5) wl_X8_148 wt_X8_partsOf wn_X8 wc_X8_partsOf dy_X8_partsOf rfl (by rw [hR]; decide +kernel) rfl (Nat.le_of_ble_eq_true rfl) dX8_isSame_171 ?_
  refine r_iconst (v := 1) hx dX8_isSame_174 (by decide) ?_
  refine r_isub hx dX8_isSame_175 ?_
  refine r_iadd hx dX8_isSame_176 ?_
  obtain ⟨v7, e8, h⟩ := bV_some h
  rw [← e8]
  refine r_istore (lv' := [(7, .int v7), (0, .ref (x_ad x 0 7 0)), (1, .ref (x_ad x 1 a1 0)), (3, .ref (x_ad x 1 a3 0)), (5, .int l5), (6, .int l6), (8, .int l8)]) hx dX8_isSame_177 (by decide) rfl ?_
  refine r_aload_n (k0 := 2) hx dX8_isSame_179 rfl rfl ?_
  refine r_iload (k0 := 4) hx dX8_isSame_180 rfl ?_
  obtain ⟨S9, v11, c10, h⟩ := bI_some h
  refine r_Si (As := [.ref (x_ad x 1 a1 0), .int l5]) (rest := []) hx (C_X8_behindToken (c := x_y x) hKS h_a1 c10) wl_X8_152 wt_X8_behindToken wn_X8 wc_X8_behindToken dy_X8_behindToken rfl (by rw [hR]; decide +kernel) rfl (Nat.le_of_ble_eq_true rfl) dX8_isSame_182 ?_
  refine r_istore (lv' := [(5, .int v11), (7, .int v7), (0, .ref (x_ad x 0 7 0)), (1, .ref (x_ad x 1 a1 0)), (3, .ref (x_ad x 1 a3 0)), (6, .int l6), (8, .int l8)]) hx dX8_isSame_185 (by decide) rfl ?_
  refine r_aload_n (k0 := 4) hx dX8_isSame_187 rfl rfl ?_
  refine r_iload (k0 := 5) hx dX8_isSame_188 rfl ?_
  obtain ⟨S12, v14, c13, h⟩ := bI_some h
  refine r_Si (As := [.ref (x_ad x 1 a3 0), .int l6]) (rest := []) hx (C_X8_behindToken (c := x_y x) hKS h_a3 c13) wl_X8_152 wt_X8_behindToken wn_X8 wc_X8_behindToken dy_X8_behindToken rfl (by rw [hR]; decide +kernel) rfl (Nat.le_of_ble_eq_true rfl) dX8_isSame_190 ?_
  refine r_istore (lv' := [(6, .int v14), (5, .int v11), (7, .int v7), (0, .ref (x_ad x 0 7 0)), (1, .ref (x_ad x 1 a1 0)), (3, .ref (x_ad x 1 a3 0)), (8, .int l8)]) hx dX8_isSame_193 (by decide) rfl ?_
  refine r_goto (tgt := 13) hx dX8_isSame_195 (by decide) ?_
  refine WX.sub (lv' := [(0, .ref (x_ad x 0 7 0)), (1, .ref (x_ad x 1 a1 0)), (3, .ref (x_ad x 1 a3 0)), (5, .int v11), (6, .int v14), (7, .int v7), (8, .int l8)]) ?_ [3, 4, 5, 1, 0, 2, 6] rfl
  exact hK13 h_a1 h_a3 h
set_option maxRecDepth 100000 in
set_option maxHeartbeats 4000000 in
theorem t_X8_isSame_163 {n : Nat} {K13 : St → Nat → Nat → Int32 → Int32 → Int32 → Int32 → Option (St × Int32)} {x : XC} (hx : CX x cX8_isSame 9 RX8) (hR : x_R x = rm_X8_isSame) (hKS : ∀ k ∈ KM, k ∈ x_K x) {out : St × Int32} (hE : EI x cX8_isSame out) (hK13 : ∀ {S : St} {a1 : Nat} {a3 : Nat} {l5 : Int32} {l6 : Int32} {l7 : Int32} {l8 : Int32} (_ : (1, a1, 0) ∈ KM) (_ : (1, a3, 0) ∈ KM), K13 S a1 a3 l5 l6 l7 l8 = some out → WX x 9 0 0 S 13 [(0, .ref (x_ad x 0 7 0)), (1, .ref (x_ad x 1 a1 0)), (3, .ref (x_ad x 1 a3 0)), (5, .int l5), (6, .int l6), (7, .int l7), (8, .int l8)] []) {S : St} {a1 : Nat} {a3 : Nat} {l5 : Int32} {l6 : Int32} {l7 : Int32} {s0 : Int32} (h_a1 : (1, a1, 0) ∈ KM) (h_a3 : (1, a3, 0) ∈ KM) (h : j_X8_isSame_163 n K13 S a1 a3 l5 l6 l7 s0 = some out) : WX x 9 0 0 S 163 [(0, .ref (x_ad x 0 7 0)), (1, .ref (x_ad x 1 a1 0)), (3, .ref (x_ad x 1 a3 0)), (5, .int l5), (6, .int l6), (7, .int l7)] [.int s0] := by
  unfold j_X8_isSame_163 at h
  refine r_istore (lv' := [(8, .int s0), (0, .ref (x_ad x 0 7 0)), (1, .ref (x_ad x 1 a1 0)), (3, .ref (x_ad x 1 a3 0)), (5, .int l5), (6, .int l6), (7, .int l7)]) hx dX8_isSame_163 (by decide) rfl ?_
  refine WX.sub (lv' := [(0, .ref (x_ad x 0 7 0)), (1, .ref (x_ad x 1 a1 0)), (3, .ref (x_ad x 1 a3 0)), (5, .int l5), (6, .int l6), (7, .int l7), (8, .int s0)]) ?_ [1, 2, 3, 4, 5, 6, 0] rfl
  exact t_X8_isSame_165 hx hR hKS hE hK13 h_a1 h_a3 h
set_option maxRecDepth 100000 in
set_option maxHeartbeats 4000000 in
theorem t_X8_isSame_162 {n : Nat} {K13 : St → Nat → Nat → Int32 → Int32 → Int32 → Int32 → Option (St × Int32)} {x : XC} (hx : CX x cX8_isSame 9 RX8) (hR : x_R x = rm_X8_isSame) (hKS : ∀ k ∈ KM, k ∈ x_K x) {out : St × Int32} (hE : EI x cX8_isSame out) (hK13 : ∀ {S : St} {a1 : Nat} {a3 : Nat} {l5 : Int32} {l6 : Int32} {l7 : Int32} {l8 : Int32} (_ : (1, a1, 0) ∈ KM) (_ : (1, a3, 0) ∈ KM), K13 S a1 a3 l5 l6 l7 l8 = some out → WX x 9 0 0 S 13 [(0, .ref (x_ad x 0 7 0)), (1, .ref (x_ad x 1 a1 0)), (3, .ref (x_ad x 1 a3 0)), (5, .int l5), (6, .int l6), (7, .int l7), (8, .int l8)] []) {S : St} {a1 : Nat} {a3 : Nat} {l5 : Int32} {l6 : Int32} {l7 : Int32} (h_a1 : (1, a1, 0) ∈ KM) (h_a3 : (1, a3, 0) ∈ KM) (h : j_X8_isSame_162 n K13 S a1 a3 l5 l6 l7 = some out) : WX x 9 0 0 S 162 [(0, .ref (x_ad x 0 7 0)), (1, .ref (x_ad x 1 a1 0)), (3, .ref (x_ad x 1 a3 0)), (5, .int l5), (6, .int l6), (7, .int l7)] [] := by
  unfold j_X8_isSame_162 at h
  refine r_iconst (v := 0) hx dX8_isSame_162 (by decide) ?_
  exact t_X8_isSame_163 hx hR hKS hE hK13 h_a1 h_a3 h
set_option maxRecDepth 100000 in
set_option maxHeartbeats 4000000 in
theorem t_X8_isSame_103 {n : Nat} {K13 : St → Nat → Nat → Int32 → Int32 → Int32 → Int32 → Option (St × Int32)} {x : XC} (hx : CX x cX8_isSame 9 RX8) (hR : x_R x = rm_X8_isSame) (hKS : ∀ k ∈ KM, k ∈ x_K x) {out : St × Int32} (hE : EI x cX8_isSame out) (hK13 : ∀ {S : St} {a1 : Nat} {a3 : Nat} {l5 : Int32} {l6 : Int32} {l7 : Int32} {l8 : Int32} (_ : (1, a1, 0) ∈ KM) (_ : (1, a3, 0) ∈ KM), K13 S a1 a3 l5 l6 l7 l8 = some out → WX x 9 0 0 S 13 [(0, .ref (x_ad x 0 7 0)), (1, .ref (x_ad x 1 a1 0)), (3, .ref (x_ad x 1 a3 0)), (5, .int l5), (6, .int l6), (7, .int l7), (8, .int l8)] []) {S : St} {a1 : Nat} {a3 : Nat} {l5 : Int32} {l6 : Int32} {l7 : Int32} {l8 : Int32} (h_a1 : (1, a1, 0) ∈ KM) (h_a3 : (1, a3, 0) ∈ KM) (h : j_X8_isSame_103 n K13 S a1 a3 l5 l6 l7 l8 = some out) : WX x 9 0 0 S 103 [(0, .ref (x_ad x 0 7 0)), (1, .ref (x_ad x 1 a1 0)), (3, .ref (x_ad x 1 a3 0)), (5, .int l5), (6, .int l6), (7, .int l7), (8, .int l8)] [] := by
  unfold j_X8_isSame_103 at h
  refine r_iload (k0 := 6) hx dX8_isSame_103 rfl ?_
  refine r_if_eq (tgt := 165) hx dX8_isSame_105 (by decide) (fun c1 => ?_) (fun c1 => ?_)
  · have h := ite_t h c1
    exact t_X8_isSame_165 hx hR hKS hE hK13 h_a1 h_a3 h
  · have h := ite_f h c1
    refine r_aload_n (k0 := 1) hx dX8_isSame_108 rfl rfl ?_
    refine r_iload (k0 := 3) hx dX8_isSame_109 rfl ?_
    obtain ⟨v2, e3, i4, h⟩ := gI_some h
    refine r_iald hx (hKS _ h_a1) rfl i4 e3 dX8_isSame_111 ?_
    refine r_iconst (v := 2) hx dX8_isSame_112 (by decide) ?_
    refine r_icmp_ne (tgt := 165) hx dX8_isSame_113 (by decide) (fun c5 => ?_) (fun c5 => ?_)
    · have h := ite_f h c5
      exact t_X8_isSame_165 hx hR hKS hE hK13 h_a1 h_a3 h
    · have h := ite_t h c5
      refine r_aload_n (k0 := 0) hx dX8_isSame_116 rfl rfl ?_
      refine r_aload_n (k0 := 1) hx dX8_isSame_117 rfl rfl ?_
      refine r_iload (k0 := 3) hx dX8_isSame_118 rfl ?_
      refine r_iconst (v := 2) hx dX8_isSame_120 (by decide) ?_
      refine r_iadd hx dX8_isSame_121 ?_
      refine r_aload_n (k0 := 2) hx dX8_isSame_122 rfl rfl ?_
      refine r_iload (k0 := 4) hx dX8_isSame_123 rfl ?_
      refine r_iconst (v := 2) hx dX8_isSame_125 (by decide) ?_
      refine r_iadd hx dX8_isSame_126 ?_
      obtain ⟨S6, v8, c7, h⟩ := bI_some h
      refine r_Vi (ci := 7) (As := [.ref (x_ad x 1 a1 0), .int (l5 + 2), .ref (x_ad x 1 a3 0), .int (l6 + 2)]) (rest := []) hx (C_X8_isSameLevel (c := x_y x) hKS h_a1 h_a3 c7) (k_0_7 hKS) rfl wl_X8_225 wi_X8_isSameLevel we_X8_isSameLevel wn_X8 wc_X8_isSameLevel dy_X8_isSameLevel rfl (by rw [hR]; decide +kernel) rfl (Nat.le_of_ble_eq_true rfl) dX8_isSame_127 ?_
      refine r_if_eq (tgt := 162) hx dX8_isSame_130 (by decide) (fun c9 => ?_) (fun c9 => ?_)
      · have h := ite_t h c9
        refine WX.sub (lv' := [(0, .ref (x_ad x 0 7 0)), (1, .ref (x_ad x 1 a1 0)), (3, .ref (x_ad x 1 a3 0)), (5, .int l5), (6, .int l6), (7, .int l7)]) ?_ [0, 1, 2, 3, 4, 5] rfl
        exact t_X8_isSame_162 hx hR hKS hE hK13 h_a1 h_a3 h
      · have h := ite_f h c9
        refine r_aload_n (k0 := 0) hx dX8_isSame_133 rfl rfl ?_
        refine r_aload_n (k0 := 1) hx dX8_isSame_134 rfl rfl ?_
        refine r_aload_n (k0 := 1) hx dX8_isSame_135 rfl rfl ?_
        refine r_iload (k0 := 3) hx dX8_isSame_136 rfl ?_
        refine r_iconst (v := 2) hx dX8_isSame_138 (by decide) ?_
        refine r_iadd hx dX8_isSame_139 ?_
        obtain ⟨S10, v12, c11, h⟩ := bI_some h
        refine r_Si (As := [.ref (x_ad x 1 a1 0), .int (l5 + 2)]) (rest := [.ref (x_ad x 1 a1 0), .ref (x_ad x 0 7 0)]) hx (C_X8_behindLevel (c := x_y x) hKS h_a1 c11) wl_X8_144 wt_X8_behindLevel wn_X8 wc_X8_behindLevel dy_X8_behindLevel rfl (by rw [hR]; decide +kernel) rfl (Nat.le_of_ble_eq_true rfl) dX8_isSame_140 ?_
        refine r_aload_n (k0 := 2) hx dX8_isSame_143 rfl rfl ?_
        refine r_aload_n (k0 := 2) hx dX8_isSame_144 rfl rfl ?_
        refine r_iload (k0 := 4) hx dX8_isSame_145 rfl ?_
        refine r_iconst (v := 2) hx dX8_isSame_147 (by decide) ?_
        refine r_iadd hx dX8_isSame_148 ?_
        obtain ⟨S13, v15, c14, h⟩ := bI_some h
        refine r_Si (As := [.ref (x_ad x 1 a3 0), .int (l6 + 2)]) (rest := [.ref (x_ad x 1 a3 0), .int v12, .ref (x_ad x 1 a1 0), .ref (x_ad x 0 7 0)]) hx (C_X8_behindLevel (c := x_y x) hKS h_a3 c14) wl_X8_144 wt_X8_behindLevel wn_X8 wc_X8_behindLevel dy_X8_behindLevel rfl (by rw [hR]; decide +kernel) rfl (Nat.le_of_ble_eq_true rfl) dX8_isSame_149 ?_
        obtain ⟨S16, v18, c17, h⟩ := bI_some h
        refine r_Vi (ci := 7) (As := [.ref (x_ad x 1 a1 0), .int v12, .ref (x_ad x 1 a3 0), .int v15]) (rest := []) hx (C_X8_isSameLevel (c := x_y x) hKS h_a1 h_a3 c17) (k_0_7 hKS) rfl wl_X8_225 wi_X8_isSameLevel we_X8_isSameLevel wn_X8 wc_X8_isSameLevel dy_X8_isSameLevel rfl (by rw [hR]; decide +kernel) rfl (Nat.le_of_ble_eq_true rfl) dX8_isSame_152 ?_
        refine r_if_eq (tgt := 162) hx dX8_isSame_155 (by decide) (fun c19 => ?_) (fun c19 => ?_)
        · have h := ite_t h c19
          refine WX.sub (lv' := [(0, .ref (x_ad x 0 7 0)), (1, .ref (x_ad x 1 a1 0)), (3, .ref (x_ad x 1 a3 0)), (5, .int l5), (6, .int l6), (7, .int l7)]) ?_ [0, 1, 2, 3, 4, 5] rfl
          exact t_X8_isSame_162 hx hR hKS hE hK13 h_a1 h_a3 h
        · have h := ite_f h c19
          refine r_iconst (v := 1) hx dX8_isSame_158 (by decide) ?_
          refine r_goto (tgt := 163) hx dX8_isSame_159 (by decide) ?_
          refine WX.sub (lv' := [(0, .ref (x_ad x 0 7 0)), (1, .ref (x_ad x 1 a1 0)), (3, .ref (x_ad x 1 a3 0)), (5, .int l5), (6, .int l6), (7, .int l7)]) ?_ [0, 1, 2, 3, 4, 5] rfl
          exact t_X8_isSame_163 hx hR hKS hE hK13 h_a1 h_a3 h
set_option maxRecDepth 100000 in
set_option maxHeartbeats 4000000 in
theorem t_X8_isSame_70 {n : Nat} {K13 : St → Nat → Nat → Int32 → Int32 → Int32 → Int32 → Option (St × Int32)} {x : XC} (hx : CX x cX8_isSame 9 RX8) (hR : x_R x = rm_X8_isSame) (hKS : ∀ k ∈ KM, k ∈ x_K x) {out : St × Int32} (hE : EI x cX8_isSame out) (hK13 : ∀ {S : St} {a1 : Nat} {a3 : Nat} {l5 : Int32} {l6 : Int32} {l7 : Int32} {l8 : Int32} (_ : (1, a1, 0) ∈ KM) (_ : (1, a3, 0) ∈ KM), K13 S a1 a3 l5 l6 l7 l8 = some out → WX x 9 0 0 S 13 [(0, .ref (x_ad x 0 7 0)), (1, .ref (x_ad x 1 a1 0)), (3, .ref (x_ad x 1 a3 0)), (5, .int l5), (6, .int l6), (7, .int l7), (8, .int l8)] []) {S : St} {a1 : Nat} {a3 : Nat} {l5 : Int32} {l6 : Int32} {l7 : Int32} {s0 : Int32} (h_a1 : (1, a1, 0) ∈ KM) (h_a3 : (1, a3, 0) ∈ KM) (h : j_X8_isSame_70 n K13 S a1 a3 l5 l6 l7 s0 = some out) : WX x 9 0 0 S 70 [(0, .ref (x_ad x 0 7 0)), (1, .ref (x_ad x 1 a1 0)), (3, .ref (x_ad x 1 a3 0)), (5, .int l5), (6, .int l6), (7, .int l7)] [.int s0] := by
  unfold j_X8_isSame_70 at h
  refine r_istore (lv' := [(8, .int s0), (0, .ref (x_ad x 0 7 0)), (1, .ref (x_ad x 1 a1 0)), (3, .ref (x_ad x 1 a3 0)), (5, .int l5), (6, .int l6), (7, .int l7)]) hx dX8_isSame_70 (by decide) rfl ?_
  refine r_iload (k0 := 0) hx dX8_isSame_72 rfl ?_
  refine r_if_eq (tgt := 103) hx dX8_isSame_74 (by decide) (fun c1 => ?_) (fun c1 => ?_)
  · have h := ite_t h c1
    refine WX.sub (lv' := [(0, .ref (x_ad x 0 7 0)), (1, .ref (x_ad x 1 a1 0)), (3, .ref (x_ad x 1 a3 0)), (5, .int l5), (6, .int l6), (7, .int l7), (8, .int s0)]) ?_ [1, 2, 3, 4, 5, 6, 0] rfl
    exact t_X8_isSame_103 hx hR hKS hE hK13 h_a1 h_a3 h
  · have h := ite_f h c1
    refine r_aload_n (k0 := 2) hx dX8_isSame_77 rfl rfl ?_
    refine r_iload (k0 := 4) hx dX8_isSame_78 rfl ?_
    obtain ⟨v2, e3, i4, h⟩ := gI_some h
    refine r_iald hx (hKS _ h_a1) rfl i4 e3 dX8_isSame_80 ?_
    refine r_if_ne (tgt := 103) hx dX8_isSame_81 (by decide) (fun c5 => ?_) (fun c5 => ?_)
    · have h := ite_f h c5
      refine WX.sub (lv' := [(0, .ref (x_ad x 0 7 0)), (1, .ref (x_ad x 1 a1 0)), (3, .ref (x_ad x 1 a3 0)), (5, .int l5), (6, .int l6), (7, .int l7), (8, .int s0)]) ?_ [1, 2, 3, 4, 5, 6, 0] rfl
      exact t_X8_isSame_103 hx hR hKS hE hK13 h_a1 h_a3 h
    · have h := ite_t h c5
      refine r_aload_n (k0 := 1) hx dX8_isSame_84 rfl rfl ?_
      refine r_aload_n (k0 := 2) hx dX8_isSame_85 rfl rfl ?_
      refine r_iload (k0 := 4) hx dX8_isSame_86 rfl ?_
      refine r_iconst (v := 1) hx dX8_isSame_88 (by decide) ?_
      refine r_iadd hx dX8_isSame_89 ?_
      refine r_aload_n (k0 := 3) hx dX8_isSame_90 rfl rfl ?_
      refine r_iload (k0 := 5) hx dX8_isSame_91 rfl ?_
      refine r_iconst (v := 1) hx dX8_isSame_93 (by decide) ?_
      refine r_iadd hx dX8_isSame_94 ?_
      obtain ⟨S6, v8, c7, h⟩ := bI_some h
      refine r_Vi (ci := 7) (As := [.ref (x_ad x 1 a1 0), .int (l5 + 1), .ref (x_ad x 1 a3 0), .int (l6 + 1)]) (rest := []) hx (C_X8_isSameLevel (c := x_y x) hKS h_a1 h_a3 c7) (k_0_7 hKS) rfl wl_X8_225 wi_X8_isSameLevel we_X8_isSameLevel wn_X8 wc_X8_isSameLevel dy_X8_isSameLevel rfl (by rw [hR]; decide +kernel) rfl (Nat.le_of_ble_eq_true rfl) dX8_isSame_95 ?_
      refine r_istore (lv' := [(8, .int v8), (0, .ref (x_ad x 0 7 0)), (1, .ref (x_ad x 1 a1 0)), (3, .ref (x_ad x 1 a3 0)), (5, .int l5), (6, .int l6), (7, .int l7)]) hx dX8_isSame_98 (by decide) rfl ?_
      refine r_goto (tgt := 165) hx dX8_isSame_100 (by decide) ?_
      refine WX.sub (lv' := [(0, .ref (x_ad x 0 7 0)), (1, .ref (x_ad x 1 a1 0)), (3, .ref (x_ad x 1 a3 0)), (5, .int l5), (6, .int l6), (7, .int l7), (8, .int v8)]) ?_ [1, 2, 3, 4, 5, 6, 0] rfl
      exact t_X8_isSame_165 hx hR hKS hE hK13 h_a1 h_a3 h
set_option maxRecDepth 100000 in
set_option maxHeartbeats 4000000 in
theorem t_X8_isSame_65 {n : Nat} {K13 : St → Nat → Nat → Int32 → Int32 → Int32 → Int32 → Option (St × Int32)} {x : XC} (hx : CX x cX8_isSame 9 RX8) (hR : x_R x = rm_X8_isSame) (hKS : ∀ k ∈ KM, k ∈ x_K x) {out : St × Int32} (hE : EI x cX8_isSame out) (hK13 : ∀ {S : St} {a1 : Nat} {a3 : Nat} {l5 : Int32} {l6 : Int32} {l7 : Int32} {l8 : Int32} (_ : (1, a1, 0) ∈ KM) (_ : (1, a3, 0) ∈ KM), K13 S a1 a3 l5 l6 l7 l8 = some out → WX x 9 0 0 S 13 [(0, .ref (x_ad x 0 7 0)), (1, .ref (x_ad x 1 a1 0)), (3, .ref (x_ad x 1 a3 0)), (5, .int l5), (6, .int l6), (7, .int l7), (8, .int l8)] []) {S : St} {a1 : Nat} {a3 : Nat} {l5 : Int32} {l6 : Int32} {l7 : Int32} (h_a1 : (1, a1, 0) ∈ KM) (h_a3 : (1, a3, 0) ∈ KM) (h : j_X8_isSame_65 n K13 S a1 a3 l5 l6 l7 = some out) : WX x 9 0 0 S 65 [(0, .ref (x_ad x 0 7 0)), (1, .ref (x_ad x 1 a1 0)), (3, .ref (x_ad x 1 a3 0)), (5, .int l5), (6, .int l6), (7, .int l7)] [] := by
  unfold j_X8_isSame_65 at h
  refine r_iconst (v := 1) hx dX8_isSame_65 (by decide) ?_
  refine r_goto (tgt := 70) hx dX8_isSame_66 (by decide) ?_
  exact t_X8_isSame_70 hx hR hKS hE hK13 h_a1 h_a3 h
set_option maxRecDepth 100000 in
set_option maxHeartbeats 4000000 in
theorem t_X8_isSame_69 {n : Nat} {K13 : St → Nat → Nat → Int32 → Int32 → Int32 → Int32 → Option (St × Int32)} {x : XC} (hx : CX x cX8_isSame 9 RX8) (hR : x_R x = rm_X8_isSame) (hKS : ∀ k ∈ KM, k ∈ x_K x) {out : St × Int32} (hE : EI x cX8_isSame out) (hK13 : ∀ {S : St} {a1 : Nat} {a3 : Nat} {l5 : Int32} {l6 : Int32} {l7 : Int32} {l8 : Int32} (_ : (1, a1, 0) ∈ KM) (_ : (1, a3, 0) ∈ KM), K13 S a1 a3 l5 l6 l7 l8 = some out → WX x 9 0 0 S 13 [(0, .ref (x_ad x 0 7 0)), (1, .ref (x_ad x 1 a1 0)), (3, .ref (x_ad x 1 a3 0)), (5, .int l5), (6, .int l6), (7, .int l7), (8, .int l8)] []) {S : St} {a1 : Nat} {a3 : Nat} {l5 : Int32} {l6 : Int32} {l7 : Int32} (h_a1 : (1, a1, 0) ∈ KM) (h_a3 : (1, a3, 0) ∈ KM) (h : j_X8_isSame_69 n K13 S a1 a3 l5 l6 l7 = some out) : WX x 9 0 0 S 69 [(0, .ref (x_ad x 0 7 0)), (1, .ref (x_ad x 1 a1 0)), (3, .ref (x_ad x 1 a3 0)), (5, .int l5), (6, .int l6), (7, .int l7)] [] := by
  unfold j_X8_isSame_69 at h
  refine r_iconst (v := 0) hx dX8_isSame_69 (by decide) ?_
  exact t_X8_isSame_70 hx hR hKS hE hK13 h_a1 h_a3 h
set_option maxRecDepth 100000 in
set_option maxHeartbeats 4000000 in
theorem t_X8_isSame_50 {n : Nat} {K13 : St → Nat → Nat → Int32 → Int32 → Int32 → Int32 → Option (St × Int32)} {x : XC} (hx : CX x cX8_isSame 9 RX8) (hR : x_R x = rm_X8_isSame) (hKS : ∀ k ∈ KM, k ∈ x_K x) {out : St × Int32} (hE : EI x cX8_isSame out) (hK13 : ∀ {S : St} {a1 : Nat} {a3 : Nat} {l5 : Int32} {l6 : Int32} {l7 : Int32} {l8 : Int32} (_ : (1, a1, 0) ∈ KM) (_ : (1, a3, 0) ∈ KM), K13 S a1 a3 l5 l6 l7 l8 = some out → WX x 9 0 0 S 13 [(0, .ref (x_ad x 0 7 0)), (1, .ref (x_ad x 1 a1 0)), (3, .ref (x_ad x 1 a3 0)), (5, .int l5), (6, .int l6), (7, .int l7), (8, .int l8)] []) {S : St} {a1 : Nat} {a3 : Nat} {l5 : Int32} {l6 : Int32} {l7 : Int32} (h_a1 : (1, a1, 0) ∈ KM) (h_a3 : (1, a3, 0) ∈ KM) (h : j_X8_isSame_50 n K13 S a1 a3 l5 l6 l7 = some out) : WX x 9 0 0 S 50 [(0, .ref (x_ad x 0 7 0)), (1, .ref (x_ad x 1 a1 0)), (3, .ref (x_ad x 1 a3 0)), (5, .int l5), (6, .int l6), (7, .int l7)] [] := by
  unfold j_X8_isSame_50 at h
  refine r_aload_n (k0 := 1) hx dX8_isSame_50 rfl rfl ?_
  refine r_iload (k0 := 3) hx dX8_isSame_51 rfl ?_
  refine r_iconst (v := 1) hx dX8_isSame_53 (by decide) ?_
  refine r_iadd hx dX8_isSame_54 ?_
  obtain ⟨v1, e2, i3, h⟩ := gI_some h
  refine r_iald hx (hKS _ h_a1) rfl i3 e2 dX8_isSame_55 ?_
  refine r_aload_n (k0 := 2) hx dX8_isSame_56 rfl rfl ?_
  refine r_iload (k0 := 4) hx dX8_isSame_57 rfl ?_
  refine r_iconst (v := 1) hx dX8_isSame_59 (by decide) ?_
  refine r_iadd hx dX8_isSame_60 ?_
  obtain ⟨v4, e5, i6, h⟩ := gI_some h
  refine r_iald hx (hKS _ h_a3) rfl i6 e5 dX8_isSame_61 ?_
  refine r_icmp_ne (tgt := 69) hx dX8_isSame_62 (by decide) (fun c7 => ?_) (fun c7 => ?_)
  · have h := ite_f h c7
    exact t_X8_isSame_69 hx hR hKS hE hK13 h_a1 h_a3 h
  · have h := ite_t h c7
    exact t_X8_isSame_65 hx hR hKS hE hK13 h_a1 h_a3 h
set_option maxRecDepth 100000 in
set_option maxHeartbeats 4000000 in
theorem t_X8_isSame_13 {n : Nat} {x : XC} (hx : CX x cX8_isSame 9 RX8) (hR : x_R x = rm_X8_isSame) (hKS : ∀ k ∈ KM, k ∈ x_K x) {out : St × Int32} (hE : EI x cX8_isSame out) : ∀ {m : Nat} {S : St} {a1 : Nat} {a3 : Nat} {l5 : Int32} {l6 : Int32} {l7 : Int32} {l8 : Int32} (h_a1 : (1, a1, 0) ∈ KM) (h_a3 : (1, a3, 0) ∈ KM) (h : l_X8_isSame_13 n m S a1 a3 l5 l6 l7 l8 = some out), WX x 9 0 0 S 13 [(0, .ref (x_ad x 0 7 0)), (1, .ref (x_ad x 1 a1 0)), (3, .ref (x_ad x 1 a3 0)), (5, .int l5), (6, .int l6), (7, .int l7), (8, .int l8)] [] := by
  intro m
  induction m with
  | zero => intro S a1 a3 l5 l6 l7 l8 h_a1 h_a3 h; cases h
  | succ m ih =>
    intro S a1 a3 l5 l6 l7 l8 h_a1 h_a3 h
    unfold l_X8_isSame_13 at h
    refine r_iload (k0 := 5) hx dX8_isSame_13 rfl ?_
    refine r_if_le (tgt := 198) hx dX8_isSame_15 (by decide) (fun c1 => ?_) (fun c1 => ?_)
    · have h := ite_t h c1
      refine r_iload (k0 := 6) hx dX8_isSame_198 rfl ?_
      exact r_iret hE h dX8_isSame_200
    · have h := ite_f h c1
      refine r_iload (k0 := 6) hx dX8_isSame_18 rfl ?_
      refine r_if_eq (tgt := 198) hx dX8_isSame_20 (by decide) (fun c2 => ?_) (fun c2 => ?_)
      · have h := ite_t h c2
        refine r_iload (k0 := 6) hx dX8_isSame_198 rfl ?_
        exact r_iret hE h dX8_isSame_200
      · have h := ite_f h c2
        refine r_aload_n (k0 := 1) hx dX8_isSame_23 rfl rfl ?_
        refine r_iload (k0 := 3) hx dX8_isSame_24 rfl ?_
        obtain ⟨v3, e4, i5, h⟩ := gI_some h
        refine r_iald hx (hKS _ h_a1) rfl i5 e4 dX8_isSame_26 ?_
        refine r_aload_n (k0 := 2) hx dX8_isSame_27 rfl rfl ?_
        refine r_iload (k0 := 4) hx dX8_isSame_28 rfl ?_
        obtain ⟨v6, e7, i8, h⟩ := gI_some h
        refine r_iald hx (hKS _ h_a3) rfl i8 e7 dX8_isSame_30 ?_
        refine r_icmp_ne (tgt := 69) hx dX8_isSame_31 (by decide) (fun c9 => ?_) (fun c9 => ?_)
        · have h := ite_f h c9
          refine WX.sub (lv' := [(0, .ref (x_ad x 0 7 0)), (1, .ref (x_ad x 1 a1 0)), (3, .ref (x_ad x 1 a3 0)), (5, .int l5), (6, .int l6), (7, .int l7)]) ?_ [0, 1, 2, 3, 4, 5] rfl
          exact t_X8_isSame_69 hx hR hKS hE ih h_a1 h_a3 h
        · have h := ite_t h c9
          refine r_aload_n (k0 := 1) hx dX8_isSame_34 rfl rfl ?_
          refine r_iload (k0 := 3) hx dX8_isSame_35 rfl ?_
          obtain ⟨v10, e11, i12, h⟩ := gI_some h
          refine r_iald hx (hKS _ h_a1) rfl i12 e11 dX8_isSame_37 ?_
          refine r_iconst (v := 1) hx dX8_isSame_38 (by decide) ?_
          refine r_icmp_eq (tgt := 50) hx dX8_isSame_39 (by decide) (fun c13 => ?_) (fun c13 => ?_)
          · have h := ite_t h c13
            refine WX.sub (lv' := [(0, .ref (x_ad x 0 7 0)), (1, .ref (x_ad x 1 a1 0)), (3, .ref (x_ad x 1 a3 0)), (5, .int l5), (6, .int l6), (7, .int l7)]) ?_ [0, 1, 2, 3, 4, 5] rfl
            exact t_X8_isSame_50 hx hR hKS hE ih h_a1 h_a3 h
          · have h := ite_f h c13
            refine r_aload_n (k0 := 1) hx dX8_isSame_42 rfl rfl ?_
            refine r_iload (k0 := 3) hx dX8_isSame_43 rfl ?_
            obtain ⟨v14, e15, i16, h⟩ := gI_some h
            refine r_iald hx (hKS _ h_a1) rfl i16 e15 dX8_isSame_45 ?_
            refine r_iconst (v := 2) hx dX8_isSame_46 (by decide) ?_
            refine r_icmp_ne (tgt := 65) hx dX8_isSame_47 (by decide) (fun c17 => ?_) (fun c17 => ?_)
            · have h := ite_f h c17
              refine WX.sub (lv' := [(0, .ref (x_ad x 0 7 0)), (1, .ref (x_ad x 1 a1 0)), (3, .ref (x_ad x 1 a3 0)), (5, .int l5), (6, .int l6), (7, .int l7)]) ?_ [0, 1, 2, 3, 4, 5] rfl
              exact t_X8_isSame_65 hx hR hKS hE ih h_a1 h_a3 h
            · have h := ite_t h c17
              refine WX.sub (lv' := [(0, .ref (x_ad x 0 7 0)), (1, .ref (x_ad x 1 a1 0)), (3, .ref (x_ad x 1 a3 0)), (5, .int l5), (6, .int l6), (7, .int l7)]) ?_ [0, 1, 2, 3, 4, 5] rfl
              exact t_X8_isSame_50 hx hR hKS hE ih h_a1 h_a3 h
set_option maxRecDepth 100000 in
set_option maxHeartbeats 4000000 in
theorem t_X8_isSame_0 {n : Nat} {x : XC} (hx : CX x cX8_isSame 9 RX8) (hR : x_R x = rm_X8_isSame) (hKS : ∀ k ∈ KM, k ∈ x_K x) {out : St × Int32} (hE : EI x cX8_isSame out) {S : St} {a1 : Nat} {a2 : Int32} {a3 : Nat} {a4 : Int32} (h_a1 : (1, a1, 0) ∈ KM) (h_a3 : (1, a3, 0) ∈ KM) (h : g_X8_isSame n S a1 a2 a3 a4 = some out) : WX x 9 0 0 S 0 [(0, .ref (x_ad x 0 7 0)), (1, .ref (x_ad x 1 a1 0)), (2, .int a2), (3, .ref (x_ad x 1 a3 0)), (4, .int a4)] [] := by
  unfold g_X8_isSame at h
  refine r_iload_n (k0 := 2) hx dX8_isSame_0 rfl rfl ?_
  refine r_istore (lv' := [(5, .int a2), (0, .ref (x_ad x 0 7 0)), (1, .ref (x_ad x 1 a1 0)), (2, .int a2), (3, .ref (x_ad x 1 a3 0)), (4, .int a4)]) hx dX8_isSame_1 (by decide) rfl ?_
  refine r_iload (k0 := 5) hx dX8_isSame_3 rfl ?_
  refine r_istore (lv' := [(6, .int a4), (5, .int a2), (0, .ref (x_ad x 0 7 0)), (1, .ref (x_ad x 1 a1 0)), (2, .int a2), (3, .ref (x_ad x 1 a3 0)), (4, .int a4)]) hx dX8_isSame_5 (by decide) rfl ?_
  refine r_iconst (v := 1) hx dX8_isSame_7 (by decide) ?_
  refine r_istore (lv' := [(7, .int 1), (6, .int a4), (5, .int a2), (0, .ref (x_ad x 0 7 0)), (1, .ref (x_ad x 1 a1 0)), (2, .int a2), (3, .ref (x_ad x 1 a3 0)), (4, .int a4)]) hx dX8_isSame_8 (by decide) rfl ?_
  refine r_iconst (v := 1) hx dX8_isSame_10 (by decide) ?_
  refine r_istore (lv' := [(8, .int 1), (7, .int 1), (6, .int a4), (5, .int a2), (0, .ref (x_ad x 0 7 0)), (1, .ref (x_ad x 1 a1 0)), (2, .int a2), (3, .ref (x_ad x 1 a3 0)), (4, .int a4)]) hx dX8_isSame_11 (by decide) rfl ?_
  refine WX.sub (lv' := [(0, .ref (x_ad x 0 7 0)), (1, .ref (x_ad x 1 a1 0)), (3, .ref (x_ad x 1 a3 0)), (5, .int a2), (6, .int a4), (7, .int 1), (8, .int 1)]) ?_ [4, 5, 7, 3, 2, 1, 0] rfl
  exact t_X8_isSame_13 hx hR hKS hE h_a1 h_a3 h
def f_X8_isSame (n : Nat) (S : St) (a1 : Nat) (a2 : Int32) (a3 : Nat) (a4 : Int32) : Option (St × Int32) := zW (g_X8_isSame n S a1 a2 a3 a4)
set_option maxHeartbeats 4000000 in
theorem C_X8_isSame {n : Nat} {c : YC} (hKS : ∀ k ∈ KM, k ∈ c.2.2.2.2) {S : St} {a1 : Nat} {a2 : Int32} {a3 : Nat} {a4 : Int32} {out : St × Int32} (h_a1 : (1, a1, 0) ∈ KM) (h_a3 : (1, a3, 0) ∈ KM) (h : f_X8_isSame n S a1 a2 a3 a4 = some out) : MI c yX8_isSame cX8_isSame 9 (some .boolean) rm_X8_isSame S [.ref (c.2.2.1 0 7 0), .ref (c.2.2.1 1 a1 0), .int a2, .ref (c.2.2.1 1 a3 0), .int a4] out := mk_Z (own := RX8) (by decide +kernel) rfl (Nat.le_of_ble_eq_true rfl) (zW_some h).2 (fun x hx hR hy hE => by subst hy; exact t_X8_isSame_0 hx hR hKS hE h_a1 h_a3 (zW_some h).1)
def l_X8_push_3 (n : Nat) : Nat → St → Nat → Int32 → Int32 → Option (St)
  | 0, _, _, _, _ => none
  | m + 1, S, a1, l3, l4 =>
    if l3 ≤ l4 then
      some S
    else
      gI S a1 0 l4 (ln a1) fun v2 =>
      pI S 371 0 (S.1 375 0) 1500000 v2 fun S5 =>
      pS S5 375 0 ((S5.1 375 0) + 1) fun S8 =>
      bV (l4 + 1) fun v10 =>
      l_X8_push_3 n m S8 a1 l3 v10
def f_X8_push (n : Nat) (S : St) (a1 : Nat) (a2 : Int32) (a3 : Int32) : Option (St) :=
  l_X8_push_3 n n S a1 a3 a2
set_option maxRecDepth 100000 in
set_option maxHeartbeats 4000000 in
theorem t_X8_push_3 {n : Nat} {x : XC} (hx : CX x cX8_push 5 RX8) (hR : x_R x = rm_X8_push) (hKS : ∀ k ∈ KM, k ∈ x_K x) {out : St} (hE : EV x cX8_push out) : ∀ {m : Nat} {S : St} {a1 : Nat} {l3 : Int32} {l4 : Int32} (h_a1 : (1, a1, 0) ∈ KM) (h : l_X8_push_3 n m S a1 l3 l4 = some out), WX x 5 0 0 S 3 [(0, .ref (x_ad x 0 7 0)), (1, .ref (x_ad x 1 a1 0)), (3, .int l3), (4, .int l4)] [] := by
  intro m
  induction m with
  | zero => intro S a1 l3 l4 h_a1 h; cases h
  | succ m ih =>
    intro S a1 l3 l4 h_a1 h
    unfold l_X8_push_3 at h
    refine r_iload (k0 := 3) hx dX8_push_3 rfl ?_
    refine r_iload_n (k0 := 2) hx dX8_push_5 rfl rfl ?_
    refine r_icmp_ge (tgt := 38) hx dX8_push_6 (by decide) (fun c1 => ?_) (fun c1 => ?_)
    · have h := ite_t h c1
      exact r_vret hE h dX8_push_38
    · have h := ite_f h c1
      refine r_aload_n (k0 := 0) hx dX8_push_9 rfl rfl ?_
      refine g_371 hx (k_0_7 hKS) wf_X8_66 dX8_push_10 ?_
      refine r_aload_n (k0 := 0) hx dX8_push_13 rfl rfl ?_
      refine g_375 hx (k_0_7 hKS) wf_X8_228 dX8_push_14 ?_
      refine r_aload_n (k0 := 1) hx dX8_push_17 rfl rfl ?_
      refine r_iload (k0 := 3) hx dX8_push_18 rfl ?_
      obtain ⟨v2, e3, i4, h⟩ := gI_some h
      refine r_iald hx (hKS _ h_a1) rfl i4 e3 dX8_push_20 ?_
      obtain ⟨S5, e6, i7, h⟩ := pI_some h
      refine r_iast hx (k_1_371 hKS) rfl i7 e6 dX8_push_21 ?_
      refine r_aload_n (k0 := 0) hx dX8_push_22 rfl rfl ?_
      refine r_dup hx dX8_push_23 rfl ?_
      refine g_375 hx (k_0_7 hKS) wf_X8_228 dX8_push_24 ?_
      refine r_iconst (v := 1) hx dX8_push_27 (by decide) ?_
      refine r_iadd hx dX8_push_28 ?_
      obtain ⟨S8, e9, h⟩ := pS_some h
      refine p_375 hx (k_0_7 hKS) wf_X8_228 dX8_push_29 e9 ?_
      obtain ⟨v10, e11, h⟩ := bV_some h
      refine r_iinc (k := 3) (v := v10) (lv' := [(4, .int v10), (0, .ref (x_ad x 0 7 0)), (1, .ref (x_ad x 1 a1 0)), (3, .int l3)]) hx dX8_push_32 rfl (by rw [e11]; rfl) (by decide) rfl ?_
      refine r_goto (tgt := 3) hx dX8_push_35 (by decide) ?_
      refine WX.sub (lv' := [(0, .ref (x_ad x 0 7 0)), (1, .ref (x_ad x 1 a1 0)), (3, .int l3), (4, .int v10)]) ?_ [1, 2, 3, 0] rfl
      exact ih h_a1 h
set_option maxRecDepth 100000 in
set_option maxHeartbeats 4000000 in
theorem t_X8_push_0 {n : Nat} {x : XC} (hx : CX x cX8_push 5 RX8) (hR : x_R x = rm_X8_push) (hKS : ∀ k ∈ KM, k ∈ x_K x) {out : St} (hE : EV x cX8_push out) {S : St} {a1 : Nat} {a2 : Int32} {a3 : Int32} (h_a1 : (1, a1, 0) ∈ KM) (h : f_X8_push n S a1 a2 a3 = some out) : WX x 5 0 0 S 0 [(0, .ref (x_ad x 0 7 0)), (1, .ref (x_ad x 1 a1 0)), (2, .int a2), (3, .int a3)] [] := by
  unfold f_X8_push at h
  refine r_iload_n (k0 := 2) hx dX8_push_0 rfl rfl ?_
  refine r_istore (lv' := [(4, .int a2), (0, .ref (x_ad x 0 7 0)), (1, .ref (x_ad x 1 a1 0)), (2, .int a2), (3, .int a3)]) hx dX8_push_1 (by decide) rfl ?_
  refine WX.sub (lv' := [(0, .ref (x_ad x 0 7 0)), (1, .ref (x_ad x 1 a1 0)), (3, .int a3), (4, .int a2)]) ?_ [1, 2, 4, 0] rfl
  exact t_X8_push_3 hx hR hKS hE h_a1 h
set_option maxHeartbeats 4000000 in
theorem C_X8_push {n : Nat} {c : YC} (hKS : ∀ k ∈ KM, k ∈ c.2.2.2.2) {S : St} {a1 : Nat} {a2 : Int32} {a3 : Int32} {out : St} (h_a1 : (1, a1, 0) ∈ KM) (h : f_X8_push n S a1 a2 a3 = some out) : MV c yX8_push cX8_push 5 none rm_X8_push S [.ref (c.2.2.1 0 7 0), .ref (c.2.2.1 1 a1 0), .int a2, .int a3] out := mk_V (own := RX8) (by decide +kernel) rfl (Nat.le_of_ble_eq_true rfl) (fun x hx hR hy hE => by subst hy; exact t_X8_push_0 hx hR hKS hE h_a1 h)
def f_X8_settle (n : Nat) (S : St) (a1 : Int32) : Option (St × Int32) :=
  if (S.1 380 0) = 0 then
    bI (f_X8_fits n S 369 0 (S.1 373 0)) fun S2 v4 =>
    if v4 = 0 then
      some (S2, 5)
    else
      pS S2 375 0 a1 fun S6 =>
      bU (f_X8_push n S6 369 0 (S6.1 373 0)) fun S8 =>
      some (S8, 0)
  else
    some (S, 5)
set_option maxRecDepth 100000 in
set_option maxHeartbeats 4000000 in
theorem t_X8_settle_0 {n : Nat} {x : XC} (hx : CX x cX8_settle 2 RX8) (hR : x_R x = rm_X8_settle) (hKS : ∀ k ∈ KM, k ∈ x_K x) {out : St × Int32} (hE : EI x cX8_settle out) {S : St} {a1 : Int32} (h : f_X8_settle n S a1 = some out) : WX x 2 0 0 S 0 [(0, .ref (x_ad x 0 7 0)), (1, .int a1)] [] := by
  unfold f_X8_settle at h
  refine r_aload_n (k0 := 0) hx dX8_settle_0 rfl rfl ?_
  refine g_380 hx (k_0_7 hKS) wf_X8_162 dX8_settle_1 ?_
  refine r_if_ne (tgt := 22) hx dX8_settle_4 (by decide) (fun c1 => ?_) (fun c1 => ?_)
  · have h := ite_f h c1
    refine r_iconst (v := 5) hx dX8_settle_22 (by decide) ?_
    exact r_iret hE h dX8_settle_23
  · have h := ite_t h c1
    refine r_aload_n (k0 := 0) hx dX8_settle_7 rfl rfl ?_
    refine g_369 hx (k_0_7 hKS) wf_X8_59 dX8_settle_8 ?_
    refine r_iconst (v := 0) hx dX8_settle_11 (by decide) ?_
    refine r_aload_n (k0 := 0) hx dX8_settle_12 rfl rfl ?_
    refine g_373 hx (k_0_7 hKS) wf_X8_159 dX8_settle_13 ?_
    obtain ⟨S2, v4, c3, h⟩ := bI_some h
    refine r_Si (As := [.ref (x_ad x 1 369 0), .int 0, .int (S.1 373 0)]) (rest := []) hx (C_X8_fits (c := x_y x) hKS km_369 c3) wl_X8_193 wt_X8_fits wn_X8 wc_X8_fits dy_X8_fits rfl (by rw [hR]; decide +kernel) rfl (Nat.le_of_ble_eq_true rfl) dX8_settle_16 ?_
    refine r_if_ne (tgt := 24) hx dX8_settle_19 (by decide) (fun c5 => ?_) (fun c5 => ?_)
    · have h := ite_f h c5
      refine r_aload_n (k0 := 0) hx dX8_settle_24 rfl rfl ?_
      refine r_iload_n (k0 := 1) hx dX8_settle_25 rfl rfl ?_
      obtain ⟨S6, e7, h⟩ := pS_some h
      refine p_375 hx (k_0_7 hKS) wf_X8_228 dX8_settle_26 e7 ?_
      refine r_aload_n (k0 := 0) hx dX8_settle_29 rfl rfl ?_
      refine r_aload_n (k0 := 0) hx dX8_settle_30 rfl rfl ?_
      refine g_369 hx (k_0_7 hKS) wf_X8_59 dX8_settle_31 ?_
      refine r_iconst (v := 0) hx dX8_settle_34 (by decide) ?_
      refine r_aload_n (k0 := 0) hx dX8_settle_35 rfl rfl ?_
      refine g_373 hx (k_0_7 hKS) wf_X8_159 dX8_settle_36 ?_
      obtain ⟨S8, c9, h⟩ := bU_some h
      refine r_Vv (ci := 7) (As := [.ref (x_ad x 1 369 0), .int 0, .int (S6.1 373 0)]) (rest := []) hx (C_X8_push (c := x_y x) hKS km_369 c9) (k_0_7 hKS) rfl wl_X8_231 wi_X8_push we_X8_push wn_X8 wc_X8_push dy_X8_push rfl (by rw [hR]; decide +kernel) rfl (Nat.le_of_ble_eq_true rfl) dX8_settle_39 ?_
      refine r_iconst (v := 0) hx dX8_settle_42 (by decide) ?_
      exact r_iret hE h dX8_settle_43
    · have h := ite_t h c5
      refine r_iconst (v := 5) hx dX8_settle_22 (by decide) ?_
      exact r_iret hE h dX8_settle_23
set_option maxHeartbeats 4000000 in
theorem C_X8_settle {n : Nat} {c : YC} (hKS : ∀ k ∈ KM, k ∈ c.2.2.2.2) {S : St} {a1 : Int32} {out : St × Int32} (h : f_X8_settle n S a1 = some out) : MI c yX8_settle cX8_settle 2 (some .int) rm_X8_settle S [.ref (c.2.2.1 0 7 0), .int a1] out := mk_I (own := RX8) (by decide +kernel) rfl (Nat.le_of_ble_eq_true rfl) (fun x hx hR hy hE => by subst hy; exact t_X8_settle_0 hx hR hKS hE h)
def f_X8_normalAt (n : Nat) (S : St) (a1 : Int32) : Option (St × Int32) :=
  bU (f_X8_load n S 371 a1 (S.1 375 0)) fun S1 =>
  bI (f_X8_normalize n S1) fun S3 v5 =>
  if 0 ≤ v5 then
    pS S3 375 0 a1 fun S7 =>
    bU (f_X8_push n S7 368 0 (S7.1 372 0)) fun S9 =>
    some (S9, 0)
  else
    some (S3, 5)
set_option maxRecDepth 100000 in
set_option maxHeartbeats 4000000 in
theorem t_X8_normalAt_0 {n : Nat} {x : XC} (hx : CX x cX8_normalAt 2 RX8) (hR : x_R x = rm_X8_normalAt) (hKS : ∀ k ∈ KM, k ∈ x_K x) {out : St × Int32} (hE : EI x cX8_normalAt out) {S : St} {a1 : Int32} (h : f_X8_normalAt n S a1 = some out) : WX x 2 0 0 S 0 [(0, .ref (x_ad x 0 7 0)), (1, .int a1)] [] := by
  unfold f_X8_normalAt at h
  refine r_aload_n (k0 := 0) hx dX8_normalAt_0 rfl rfl ?_
  refine r_aload_n (k0 := 0) hx dX8_normalAt_1 rfl rfl ?_
  refine g_371 hx (k_0_7 hKS) wf_X8_66 dX8_normalAt_2 ?_
  refine r_iload_n (k0 := 1) hx dX8_normalAt_5 rfl rfl ?_
  refine r_aload_n (k0 := 0) hx dX8_normalAt_6 rfl rfl ?_
  refine g_375 hx (k_0_7 hKS) wf_X8_228 dX8_normalAt_7 ?_
  obtain ⟨S1, c2, h⟩ := bU_some h
  refine r_Vv (ci := 7) (As := [.ref (x_ad x 1 371 0), .int a1, .int (S.1 375 0)]) (rest := []) hx (C_X8_load (c := x_y x) hKS km_371 c2) (k_0_7 hKS) rfl wl_X8_234 wi_X8_load we_X8_load wn_X8 wc_X8_load dy_X8_load rfl (by rw [hR]; decide +kernel) rfl (Nat.le_of_ble_eq_true rfl) dX8_normalAt_10 ?_
  refine r_aload_n (k0 := 0) hx dX8_normalAt_13 rfl rfl ?_
  obtain ⟨S3, v5, c4, h⟩ := bI_some h
  refine r_Vi (ci := 7) (As := []) (rest := []) hx (C_X8_normalize (c := x_y x) hKS c4) (k_0_7 hKS) rfl wl_X8_237 wi_X8_normalize we_X8_normalize wn_X8 wc_X8_normalize dy_X8_normalize rfl (by rw [hR]; decide +kernel) rfl (Nat.le_of_ble_eq_true rfl) dX8_normalAt_14 ?_
  refine r_if_ge (tgt := 22) hx dX8_normalAt_17 (by decide) (fun c6 => ?_) (fun c6 => ?_)
  · have h := ite_t h c6
    refine r_aload_n (k0 := 0) hx dX8_normalAt_22 rfl rfl ?_
    refine r_iload_n (k0 := 1) hx dX8_normalAt_23 rfl rfl ?_
    obtain ⟨S7, e8, h⟩ := pS_some h
    refine p_375 hx (k_0_7 hKS) wf_X8_228 dX8_normalAt_24 e8 ?_
    refine r_aload_n (k0 := 0) hx dX8_normalAt_27 rfl rfl ?_
    refine r_aload_n (k0 := 0) hx dX8_normalAt_28 rfl rfl ?_
    refine g_368 hx (k_0_7 hKS) wf_X8_56 dX8_normalAt_29 ?_
    refine r_iconst (v := 0) hx dX8_normalAt_32 (by decide) ?_
    refine r_aload_n (k0 := 0) hx dX8_normalAt_33 rfl rfl ?_
    refine g_372 hx (k_0_7 hKS) wf_X8_186 dX8_normalAt_34 ?_
    obtain ⟨S9, c10, h⟩ := bU_some h
    refine r_Vv (ci := 7) (As := [.ref (x_ad x 1 368 0), .int 0, .int (S7.1 372 0)]) (rest := []) hx (C_X8_push (c := x_y x) hKS km_368 c10) (k_0_7 hKS) rfl wl_X8_231 wi_X8_push we_X8_push wn_X8 wc_X8_push dy_X8_push rfl (by rw [hR]; decide +kernel) rfl (Nat.le_of_ble_eq_true rfl) dX8_normalAt_37 ?_
    refine r_iconst (v := 0) hx dX8_normalAt_40 (by decide) ?_
    exact r_iret hE h dX8_normalAt_41
  · have h := ite_f h c6
    refine r_iconst (v := 5) hx dX8_normalAt_20 (by decide) ?_
    exact r_iret hE h dX8_normalAt_21
set_option maxHeartbeats 4000000 in
theorem C_X8_normalAt {n : Nat} {c : YC} (hKS : ∀ k ∈ KM, k ∈ c.2.2.2.2) {S : St} {a1 : Int32} {out : St × Int32} (h : f_X8_normalAt n S a1 = some out) : MI c yX8_normalAt cX8_normalAt 2 (some .int) rm_X8_normalAt S [.ref (c.2.2.1 0 7 0), .int a1] out := mk_I (own := RX8) (by decide +kernel) rfl (Nat.le_of_ble_eq_true rfl) (fun x hx hR hy hE => by subst hy; exact t_X8_normalAt_0 hx hR hKS hE h)
