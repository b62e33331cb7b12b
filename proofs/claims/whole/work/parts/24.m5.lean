theorem dX8_thrown_0 : decode cX8_thrown 0 = .ok (.aload_n 0, 1) := by decide +kernel
theorem dX8_thrown_1 : decode cX8_thrown 1 = .ok (.getfield 106, 3) := by decide +kernel
theorem dX8_thrown_4 : decode cX8_thrown 4 = .ok (.ireturn, 1) := by decide +kernel
theorem dy_X8_thrown : DY yX8_thrown 0 := by decide +kernel
theorem dX8_clear_0 : decode cX8_clear 0 = .ok (.aload_n 0, 1) := by decide +kernel
theorem dX8_clear_1 : decode cX8_clear 1 = .ok (.iconst 0, 1) := by decide +kernel
theorem dX8_clear_2 : decode cX8_clear 2 = .ok (.putfield 106, 3) := by decide +kernel
theorem dX8_clear_5 : decode cX8_clear 5 = .ok (.aload_n 0, 1) := by decide +kernel
theorem dX8_clear_6 : decode cX8_clear 6 = .ok (.iconst 1, 1) := by decide +kernel
theorem dX8_clear_7 : decode cX8_clear 7 = .ok (.putfield 22, 3) := by decide +kernel
theorem dX8_clear_10 : decode cX8_clear 10 = .ok (.aload_n 0, 1) := by decide +kernel
theorem dX8_clear_11 : decode cX8_clear 11 = .ok (.getfield 7, 3) := by decide +kernel
theorem dX8_clear_14 : decode cX8_clear 14 = .ok (.iconst 0, 1) := by decide +kernel
theorem dX8_clear_15 : decode cX8_clear 15 = .ok (.iconst 0, 1) := by decide +kernel
theorem dX8_clear_16 : decode cX8_clear 16 = .ok (.iastore, 1) := by decide +kernel
theorem dX8_clear_17 : decode cX8_clear 17 = .ok (.aload_n 0, 1) := by decide +kernel
theorem dX8_clear_18 : decode cX8_clear 18 = .ok (.getfield 13, 3) := by decide +kernel
theorem dX8_clear_21 : decode cX8_clear 21 = .ok (.iconst 0, 1) := by decide +kernel
theorem dX8_clear_22 : decode cX8_clear 22 = .ok (.iconst (-1), 1) := by decide +kernel
theorem dX8_clear_23 : decode cX8_clear 23 = .ok (.iastore, 1) := by decide +kernel
theorem dX8_clear_24 : decode cX8_clear 24 = .ok (.aload_n 0, 1) := by decide +kernel
theorem dX8_clear_25 : decode cX8_clear 25 = .ok (.getfield 16, 3) := by decide +kernel
theorem dX8_clear_28 : decode cX8_clear 28 = .ok (.iconst 0, 1) := by decide +kernel
theorem dX8_clear_29 : decode cX8_clear 29 = .ok (.iconst (-1), 1) := by decide +kernel
theorem dX8_clear_30 : decode cX8_clear 30 = .ok (.iastore, 1) := by decide +kernel
theorem dX8_clear_31 : decode cX8_clear 31 = .ok (.aload_n 0, 1) := by decide +kernel
theorem dX8_clear_32 : decode cX8_clear 32 = .ok (.getfield 19, 3) := by decide +kernel
theorem dX8_clear_35 : decode cX8_clear 35 = .ok (.iconst 0, 1) := by decide +kernel
theorem dX8_clear_36 : decode cX8_clear 36 = .ok (.iconst 1, 1) := by decide +kernel
theorem dX8_clear_37 : decode cX8_clear 37 = .ok (.iastore, 1) := by decide +kernel
theorem dX8_clear_38 : decode cX8_clear 38 = .ok (.aload_n 0, 1) := by decide +kernel
theorem dX8_clear_39 : decode cX8_clear 39 = .ok (.iconst 0, 1) := by decide +kernel
theorem dX8_clear_40 : decode cX8_clear 40 = .ok (.putfield 109, 3) := by decide +kernel
theorem dX8_clear_43 : decode cX8_clear 43 = .ok (.aload_n 0, 1) := by decide +kernel
theorem dX8_clear_44 : decode cX8_clear 44 = .ok (.iconst 0, 1) := by decide +kernel
theorem dX8_clear_45 : decode cX8_clear 45 = .ok (.putfield 112, 3) := by decide +kernel
theorem dX8_clear_48 : decode cX8_clear 48 = .ok (.return_, 1) := by decide +kernel
theorem dy_X8_clear : DY yX8_clear 0 := by decide +kernel
theorem dX8_level_0 : decode cX8_level 0 = .ok (.aload_n 0, 1) := by decide +kernel
theorem dX8_level_1 : decode cX8_level 1 = .ok (.iload_n 1, 1) := by decide +kernel
theorem dX8_level_2 : decode cX8_level 2 = .ok (.iconst 1, 1) := by decide +kernel
theorem dX8_level_3 : decode cX8_level 3 = .ok (.if_icmp .lt 22, 3) := by decide +kernel
theorem dX8_level_6 : decode cX8_level 6 = .ok (.iload_n 1, 1) := by decide +kernel
theorem dX8_level_7 : decode cX8_level 7 = .ok (.iconst 4, 1) := by decide +kernel
theorem dX8_level_8 : decode cX8_level 8 = .ok (.if_icmp .gt 17, 3) := by decide +kernel
theorem dX8_level_11 : decode cX8_level 11 = .ok (.iload_n 1, 1) := by decide +kernel
theorem dX8_level_12 : decode cX8_level 12 = .ok (.iconst 4, 1) := by decide +kernel
theorem dX8_level_13 : decode cX8_level 13 = .ok (.if_icmp .ne 16, 3) := by decide +kernel
theorem dX8_level_16 : decode cX8_level 16 = .ok (.iload_n 2, 1) := by decide +kernel
theorem dX8_level_17 : decode cX8_level 17 = .ok (.iconst 0, 1) := by decide +kernel
theorem dX8_level_18 : decode cX8_level 18 = .ok (.iconst 2, 1) := by decide +kernel
theorem dX8_level_19 : decode cX8_level 19 = .ok (.invokestatic 115, 3) := by decide +kernel
theorem dX8_level_22 : decode cX8_level 22 = .ok (.ifCond .ne 7, 3) := by decide +kernel
theorem dX8_level_25 : decode cX8_level 25 = .ok (.iconst 1, 1) := by decide +kernel
theorem dX8_level_26 : decode cX8_level 26 = .ok (.goto 39, 3) := by decide +kernel
theorem dX8_level_29 : decode cX8_level 29 = .ok (.iload_n 1, 1) := by decide +kernel
theorem dX8_level_30 : decode cX8_level 30 = .ok (.iconst 4, 1) := by decide +kernel
theorem dX8_level_31 : decode cX8_level 31 = .ok (.if_icmp .ge 11, 3) := by decide +kernel
theorem dX8_level_34 : decode cX8_level 34 = .ok (.aload_n 0, 1) := by decide +kernel
theorem dX8_level_35 : decode cX8_level 35 = .ok (.iload_n 2, 1) := by decide +kernel
theorem dX8_level_36 : decode cX8_level 36 = .ok (.invokevirtual 123, 3) := by decide +kernel
theorem dX8_level_39 : decode cX8_level 39 = .ok (.ifCond .eq 21, 3) := by decide +kernel
theorem dX8_level_42 : decode cX8_level 42 = .ok (.iload_n 1, 1) := by decide +kernel
theorem dX8_level_43 : decode cX8_level 43 = .ok (.iconst 2, 1) := by decide +kernel
theorem dX8_level_44 : decode cX8_level 44 = .ok (.if_icmp .eq 8, 3) := by decide +kernel
theorem dX8_level_47 : decode cX8_level 47 = .ok (.iload_n 1, 1) := by decide +kernel
theorem dX8_level_48 : decode cX8_level 48 = .ok (.iconst 3, 1) := by decide +kernel
theorem dX8_level_49 : decode cX8_level 49 = .ok (.if_icmp .ne 15, 3) := by decide +kernel
theorem dX8_level_52 : decode cX8_level 52 = .ok (.aload_n 0, 1) := by decide +kernel
theorem dX8_level_53 : decode cX8_level 53 = .ok (.iload_n 3, 1) := by decide +kernel
theorem dX8_level_54 : decode cX8_level 54 = .ok (.invokevirtual 123, 3) := by decide +kernel
theorem dX8_level_57 : decode cX8_level 57 = .ok (.ifCond .ne 7, 3) := by decide +kernel
theorem dX8_level_60 : decode cX8_level 60 = .ok (.iconst 2, 1) := by decide +kernel
theorem dX8_level_61 : decode cX8_level 61 = .ok (.goto 4, 3) := by decide +kernel
theorem dX8_level_64 : decode cX8_level 64 = .ok (.iconst 0, 1) := by decide +kernel
theorem dX8_level_65 : decode cX8_level 65 = .ok (.putfield 106, 3) := by decide +kernel
theorem dX8_level_68 : decode cX8_level 68 = .ok (.aload_n 0, 1) := by decide +kernel
theorem dX8_level_69 : decode cX8_level 69 = .ok (.getfield 106, 3) := by decide +kernel
theorem dX8_level_72 : decode cX8_level 72 = .ok (.ifCond .le 5, 3) := by decide +kernel
theorem dX8_level_75 : decode cX8_level 75 = .ok (.iconst 0, 1) := by decide +kernel
theorem dX8_level_76 : decode cX8_level 76 = .ok (.ireturn, 1) := by decide +kernel
theorem dX8_level_77 : decode cX8_level 77 = .ok (.aload_n 0, 1) := by decide +kernel
theorem dX8_level_78 : decode cX8_level 78 = .ok (.iload_n 1, 1) := by decide +kernel
theorem dX8_level_79 : decode cX8_level 79 = .ok (.iload_n 2, 1) := by decide +kernel
theorem dX8_level_80 : decode cX8_level 80 = .ok (.iload_n 1, 1) := by decide +kernel
theorem dX8_level_81 : decode cX8_level 81 = .ok (.iconst 2, 1) := by decide +kernel
theorem dX8_level_82 : decode cX8_level 82 = .ok (.if_icmp .eq 8, 3) := by decide +kernel
theorem dX8_level_85 : decode cX8_level 85 = .ok (.iload_n 1, 1) := by decide +kernel
theorem dX8_level_86 : decode cX8_level 86 = .ok (.iconst 3, 1) := by decide +kernel
theorem dX8_level_87 : decode cX8_level 87 = .ok (.if_icmp .ne 7, 3) := by decide +kernel
theorem dX8_level_90 : decode cX8_level 90 = .ok (.iload_n 3, 1) := by decide +kernel
theorem dX8_level_91 : decode cX8_level 91 = .ok (.goto 4, 3) := by decide +kernel
theorem dX8_level_94 : decode cX8_level 94 = .ok (.iconst (-1), 1) := by decide +kernel
theorem dX8_level_95 : decode cX8_level 95 = .ok (.invokevirtual 127, 3) := by decide +kernel
theorem dX8_level_98 : decode cX8_level 98 = .ok (.istore 4, 2) := by decide +kernel
theorem dX8_level_100 : decode cX8_level 100 = .ok (.aload_n 0, 1) := by decide +kernel
theorem dX8_level_101 : decode cX8_level 101 = .ok (.iload 4, 2) := by decide +kernel
theorem dX8_level_103 : decode cX8_level 103 = .ok (.ifCond .ge 7, 3) := by decide +kernel
theorem dX8_level_106 : decode cX8_level 106 = .ok (.iconst 3, 1) := by decide +kernel
theorem dX8_level_107 : decode cX8_level 107 = .ok (.goto 4, 3) := by decide +kernel
theorem dX8_level_110 : decode cX8_level 110 = .ok (.iconst 0, 1) := by decide +kernel
theorem dX8_level_111 : decode cX8_level 111 = .ok (.putfield 106, 3) := by decide +kernel
theorem dX8_level_114 : decode cX8_level 114 = .ok (.iload 4, 2) := by decide +kernel
theorem dX8_level_116 : decode cX8_level 116 = .ok (.ifCond .ge 7, 3) := by decide +kernel
theorem dX8_level_119 : decode cX8_level 119 = .ok (.iconst 0, 1) := by decide +kernel
theorem dX8_level_120 : decode cX8_level 120 = .ok (.goto 5, 3) := by decide +kernel
theorem dX8_level_123 : decode cX8_level 123 = .ok (.iload 4, 2) := by decide +kernel
theorem dX8_level_125 : decode cX8_level 125 = .ok (.ireturn, 1) := by decide +kernel
theorem dy_X8_level : DY yX8_level 3 := by decide +kernel
theorem dX8_sort_0 : decode cX8_sort 0 = .ok (.aload_n 0, 1) := by decide +kernel
theorem dX8_sort_1 : decode cX8_sort 1 = .ok (.aload_n 0, 1) := by decide +kernel
theorem dX8_sort_2 : decode cX8_sort 2 = .ok (.iload_n 1, 1) := by decide +kernel
theorem dX8_sort_3 : decode cX8_sort 3 = .ok (.invokevirtual 123, 3) := by decide +kernel
theorem dX8_sort_6 : decode cX8_sort 6 = .ok (.ifCond .eq 7, 3) := by decide +kernel
theorem dX8_sort_9 : decode cX8_sort 9 = .ok (.iconst 0, 1) := by decide +kernel
theorem dX8_sort_10 : decode cX8_sort 10 = .ok (.goto 4, 3) := by decide +kernel
theorem dX8_sort_13 : decode cX8_sort 13 = .ok (.iconst 1, 1) := by decide +kernel
theorem dX8_sort_14 : decode cX8_sort 14 = .ok (.putfield 106, 3) := by decide +kernel
theorem dX8_sort_17 : decode cX8_sort 17 = .ok (.aload_n 0, 1) := by decide +kernel
theorem dX8_sort_18 : decode cX8_sort 18 = .ok (.getfield 106, 3) := by decide +kernel
theorem dX8_sort_21 : decode cX8_sort 21 = .ok (.ifCond .le 7, 3) := by decide +kernel
theorem dX8_sort_24 : decode cX8_sort 24 = .ok (.iconst 0, 1) := by decide +kernel
theorem dX8_sort_25 : decode cX8_sort 25 = .ok (.goto 16, 3) := by decide +kernel
theorem dX8_sort_28 : decode cX8_sort 28 = .ok (.aload_n 0, 1) := by decide +kernel
theorem dX8_sort_29 : decode cX8_sort 29 = .ok (.aload_n 0, 1) := by decide +kernel
theorem dX8_sort_30 : decode cX8_sort 30 = .ok (.iconst 0, 1) := by decide +kernel
theorem dX8_sort_31 : decode cX8_sort 31 = .ok (.iload_n 1, 1) := by decide +kernel
theorem dX8_sort_32 : decode cX8_sort 32 = .ok (.iconst (-1), 1) := by decide +kernel
theorem dX8_sort_33 : decode cX8_sort 33 = .ok (.iconst (-1), 1) := by decide +kernel
theorem dX8_sort_34 : decode cX8_sort 34 = .ok (.invokevirtual 131, 3) := by decide +kernel
theorem dX8_sort_37 : decode cX8_sort 37 = .ok (.iconst 2, 1) := by decide +kernel
theorem dX8_sort_38 : decode cX8_sort 38 = .ok (.invokevirtual 134, 3) := by decide +kernel
theorem dX8_sort_41 : decode cX8_sort 41 = .ok (.ireturn, 1) := by decide +kernel
theorem dy_X8_sort : DY yX8_sort 1 := by decide +kernel
theorem dX8_variable_0 : decode cX8_variable 0 = .ok (.aload_n 0, 1) := by decide +kernel
theorem dX8_variable_1 : decode cX8_variable 1 = .ok (.iload_n 1, 1) := by decide +kernel
theorem dX8_variable_2 : decode cX8_variable 2 = .ok (.iconst 0, 1) := by decide +kernel
theorem dX8_variable_3 : decode cX8_variable 3 = .ok (.bipush 59, 2) := by decide +kernel
theorem dX8_variable_5 : decode cX8_variable 5 = .ok (.invokestatic 115, 3) := by decide +kernel
theorem dX8_variable_8 : decode cX8_variable 8 = .ok (.ifCond .eq 7, 3) := by decide +kernel
theorem dX8_variable_11 : decode cX8_variable 11 = .ok (.iconst 0, 1) := by decide +kernel
theorem dX8_variable_12 : decode cX8_variable 12 = .ok (.goto 4, 3) := by decide +kernel
theorem dX8_variable_15 : decode cX8_variable 15 = .ok (.iconst 1, 1) := by decide +kernel
theorem dX8_variable_16 : decode cX8_variable 16 = .ok (.putfield 106, 3) := by decide +kernel
theorem dX8_variable_19 : decode cX8_variable 19 = .ok (.aload_n 0, 1) := by decide +kernel
theorem dX8_variable_20 : decode cX8_variable 20 = .ok (.getfield 106, 3) := by decide +kernel
theorem dX8_variable_23 : decode cX8_variable 23 = .ok (.ifCond .le 7, 3) := by decide +kernel
theorem dX8_variable_26 : decode cX8_variable 26 = .ok (.iconst 0, 1) := by decide +kernel
theorem dX8_variable_27 : decode cX8_variable 27 = .ok (.goto 16, 3) := by decide +kernel
theorem dX8_variable_30 : decode cX8_variable 30 = .ok (.aload_n 0, 1) := by decide +kernel
theorem dX8_variable_31 : decode cX8_variable 31 = .ok (.aload_n 0, 1) := by decide +kernel
theorem dX8_variable_32 : decode cX8_variable 32 = .ok (.iconst 1, 1) := by decide +kernel
theorem dX8_variable_33 : decode cX8_variable 33 = .ok (.iload_n 1, 1) := by decide +kernel
theorem dX8_variable_34 : decode cX8_variable 34 = .ok (.iconst (-1), 1) := by decide +kernel
theorem dX8_variable_35 : decode cX8_variable 35 = .ok (.iconst (-1), 1) := by decide +kernel
theorem dX8_variable_36 : decode cX8_variable 36 = .ok (.invokevirtual 131, 3) := by decide +kernel
theorem dX8_variable_39 : decode cX8_variable 39 = .ok (.iconst 2, 1) := by decide +kernel
theorem dX8_variable_40 : decode cX8_variable 40 = .ok (.invokevirtual 134, 3) := by decide +kernel
theorem dX8_variable_43 : decode cX8_variable 43 = .ok (.ireturn, 1) := by decide +kernel
theorem dy_X8_variable : DY yX8_variable 1 := by decide +kernel
theorem dX8_name_0 : decode cX8_name 0 = .ok (.aload_n 0, 1) := by decide +kernel
theorem dX8_name_1 : decode cX8_name 1 = .ok (.aload_n 0, 1) := by decide +kernel
theorem dX8_name_2 : decode cX8_name 2 = .ok (.iload_n 1, 1) := by decide +kernel
theorem dX8_name_3 : decode cX8_name 3 = .ok (.invokevirtual 138, 3) := by decide +kernel
theorem dX8_name_6 : decode cX8_name 6 = .ok (.ifCond .eq 23, 3) := by decide +kernel
theorem dX8_name_9 : decode cX8_name 9 = .ok (.aload_n 0, 1) := by decide +kernel
theorem dX8_name_10 : decode cX8_name 10 = .ok (.iload_n 2, 1) := by decide +kernel
theorem dX8_name_11 : decode cX8_name 11 = .ok (.invokevirtual 123, 3) := by decide +kernel
theorem dX8_name_14 : decode cX8_name 14 = .ok (.ifCond .eq 15, 3) := by decide +kernel
theorem dX8_name_17 : decode cX8_name 17 = .ok (.aload_n 0, 1) := by decide +kernel
theorem dX8_name_18 : decode cX8_name 18 = .ok (.iload_n 3, 1) := by decide +kernel
theorem dX8_name_19 : decode cX8_name 19 = .ok (.invokevirtual 123, 3) := by decide +kernel
theorem dX8_name_22 : decode cX8_name 22 = .ok (.ifCond .eq 7, 3) := by decide +kernel
theorem dX8_name_25 : decode cX8_name 25 = .ok (.iconst 0, 1) := by decide +kernel
theorem dX8_name_26 : decode cX8_name 26 = .ok (.goto 4, 3) := by decide +kernel
theorem dX8_name_29 : decode cX8_name 29 = .ok (.iconst 1, 1) := by decide +kernel
theorem dX8_name_30 : decode cX8_name 30 = .ok (.putfield 106, 3) := by decide +kernel
theorem dX8_name_33 : decode cX8_name 33 = .ok (.aload_n 0, 1) := by decide +kernel
theorem dX8_name_34 : decode cX8_name 34 = .ok (.getfield 106, 3) := by decide +kernel
theorem dX8_name_37 : decode cX8_name 37 = .ok (.ifCond .le 7, 3) := by decide +kernel
theorem dX8_name_40 : decode cX8_name 40 = .ok (.iconst 0, 1) := by decide +kernel
theorem dX8_name_41 : decode cX8_name 41 = .ok (.goto 16, 3) := by decide +kernel
theorem dX8_name_44 : decode cX8_name 44 = .ok (.aload_n 0, 1) := by decide +kernel
theorem dX8_name_45 : decode cX8_name 45 = .ok (.aload_n 0, 1) := by decide +kernel
theorem dX8_name_46 : decode cX8_name 46 = .ok (.iconst 2, 1) := by decide +kernel
theorem dX8_name_47 : decode cX8_name 47 = .ok (.iload_n 1, 1) := by decide +kernel
theorem dX8_name_48 : decode cX8_name 48 = .ok (.iload_n 2, 1) := by decide +kernel
theorem dX8_name_49 : decode cX8_name 49 = .ok (.iload_n 3, 1) := by decide +kernel
theorem dX8_name_50 : decode cX8_name 50 = .ok (.invokevirtual 131, 3) := by decide +kernel
theorem dX8_name_53 : decode cX8_name 53 = .ok (.iconst 2, 1) := by decide +kernel
theorem dX8_name_54 : decode cX8_name 54 = .ok (.invokevirtual 134, 3) := by decide +kernel
theorem dX8_name_57 : decode cX8_name 57 = .ok (.ireturn, 1) := by decide +kernel
theorem dy_X8_name : DY yX8_name 3 := by decide +kernel
theorem dX8_term_0 : decode cX8_term 0 = .ok (.aload_n 0, 1) := by decide +kernel
theorem dX8_term_1 : decode cX8_term 1 = .ok (.iload_n 1, 1) := by decide +kernel
theorem dX8_term_2 : decode cX8_term 2 = .ok (.iconst 3, 1) := by decide +kernel
theorem dX8_term_3 : decode cX8_term 3 = .ok (.iconst 5, 1) := by decide +kernel
theorem dX8_term_4 : decode cX8_term 4 = .ok (.invokestatic 115, 3) := by decide +kernel
theorem dX8_term_7 : decode cX8_term 7 = .ok (.ifCond .ne 7, 3) := by decide +kernel
theorem dX8_term_10 : decode cX8_term 10 = .ok (.iconst 1, 1) := by decide +kernel
theorem dX8_term_11 : decode cX8_term 11 = .ok (.goto 24, 3) := by decide +kernel
theorem dX8_term_14 : decode cX8_term 14 = .ok (.aload_n 0, 1) := by decide +kernel
theorem dX8_term_15 : decode cX8_term 15 = .ok (.iload_n 2, 1) := by decide +kernel
theorem dX8_term_16 : decode cX8_term 16 = .ok (.invokevirtual 141, 3) := by decide +kernel
theorem dX8_term_19 : decode cX8_term 19 = .ok (.ifCond .eq 11, 3) := by decide +kernel
theorem dX8_term_22 : decode cX8_term 22 = .ok (.aload_n 0, 1) := by decide +kernel
theorem dX8_term_23 : decode cX8_term 23 = .ok (.iload_n 3, 1) := by decide +kernel
theorem dX8_term_24 : decode cX8_term 24 = .ok (.invokevirtual 141, 3) := by decide +kernel
theorem dX8_term_27 : decode cX8_term 27 = .ok (.ifCond .ne 7, 3) := by decide +kernel
theorem dX8_term_30 : decode cX8_term 30 = .ok (.iconst 2, 1) := by decide +kernel
theorem dX8_term_31 : decode cX8_term 31 = .ok (.goto 4, 3) := by decide +kernel
theorem dX8_term_34 : decode cX8_term 34 = .ok (.iconst 0, 1) := by decide +kernel
theorem dX8_term_35 : decode cX8_term 35 = .ok (.putfield 106, 3) := by decide +kernel
theorem dX8_term_38 : decode cX8_term 38 = .ok (.aload_n 0, 1) := by decide +kernel
theorem dX8_term_39 : decode cX8_term 39 = .ok (.getfield 106, 3) := by decide +kernel
theorem dX8_term_42 : decode cX8_term 42 = .ok (.ifCond .le 7, 3) := by decide +kernel
theorem dX8_term_45 : decode cX8_term 45 = .ok (.iconst 0, 1) := by decide +kernel
theorem dX8_term_46 : decode cX8_term 46 = .ok (.goto 16, 3) := by decide +kernel
theorem dX8_term_49 : decode cX8_term 49 = .ok (.aload_n 0, 1) := by decide +kernel
theorem dX8_term_50 : decode cX8_term 50 = .ok (.aload_n 0, 1) := by decide +kernel
theorem dX8_term_51 : decode cX8_term 51 = .ok (.iload_n 1, 1) := by decide +kernel
theorem dX8_term_52 : decode cX8_term 52 = .ok (.iload_n 2, 1) := by decide +kernel
theorem dX8_term_53 : decode cX8_term 53 = .ok (.iload_n 3, 1) := by decide +kernel
theorem dX8_term_54 : decode cX8_term 54 = .ok (.iconst (-1), 1) := by decide +kernel
theorem dX8_term_55 : decode cX8_term 55 = .ok (.invokevirtual 131, 3) := by decide +kernel
theorem dX8_term_58 : decode cX8_term 58 = .ok (.iconst 3, 1) := by decide +kernel
theorem dX8_term_59 : decode cX8_term 59 = .ok (.invokevirtual 134, 3) := by decide +kernel
theorem dX8_term_62 : decode cX8_term 62 = .ok (.ireturn, 1) := by decide +kernel
theorem dy_X8_term : DY yX8_term 3 := by decide +kernel
theorem dX8_let_0 : decode cX8_let 0 = .ok (.aload_n 0, 1) := by decide +kernel
theorem dX8_let_1 : decode cX8_let 1 = .ok (.aload_n 0, 1) := by decide +kernel
theorem dX8_let_2 : decode cX8_let 2 = .ok (.iload_n 1, 1) := by decide +kernel
theorem dX8_let_3 : decode cX8_let 3 = .ok (.invokevirtual 141, 3) := by decide +kernel
theorem dX8_let_6 : decode cX8_let 6 = .ok (.ifCond .eq 23, 3) := by decide +kernel
theorem dX8_let_9 : decode cX8_let 9 = .ok (.aload_n 0, 1) := by decide +kernel
theorem dX8_let_10 : decode cX8_let 10 = .ok (.iload_n 2, 1) := by decide +kernel
theorem dX8_let_11 : decode cX8_let 11 = .ok (.invokevirtual 141, 3) := by decide +kernel
theorem dX8_let_14 : decode cX8_let 14 = .ok (.ifCond .eq 15, 3) := by decide +kernel
theorem dX8_let_17 : decode cX8_let 17 = .ok (.aload_n 0, 1) := by decide +kernel
theorem dX8_let_18 : decode cX8_let 18 = .ok (.iload_n 3, 1) := by decide +kernel
theorem dX8_let_19 : decode cX8_let 19 = .ok (.invokevirtual 141, 3) := by decide +kernel
theorem dX8_let_22 : decode cX8_let 22 = .ok (.ifCond .eq 7, 3) := by decide +kernel
theorem dX8_let_25 : decode cX8_let 25 = .ok (.iconst 0, 1) := by decide +kernel
theorem dX8_let_26 : decode cX8_let 26 = .ok (.goto 4, 3) := by decide +kernel
theorem dX8_let_29 : decode cX8_let 29 = .ok (.iconst 1, 1) := by decide +kernel
theorem dX8_let_30 : decode cX8_let 30 = .ok (.putfield 106, 3) := by decide +kernel
theorem dX8_let_33 : decode cX8_let 33 = .ok (.aload_n 0, 1) := by decide +kernel
theorem dX8_let_34 : decode cX8_let 34 = .ok (.getfield 106, 3) := by decide +kernel
theorem dX8_let_37 : decode cX8_let 37 = .ok (.ifCond .le 7, 3) := by decide +kernel
theorem dX8_let_40 : decode cX8_let 40 = .ok (.iconst 0, 1) := by decide +kernel
theorem dX8_let_41 : decode cX8_let 41 = .ok (.goto 17, 3) := by decide +kernel
theorem dX8_let_44 : decode cX8_let 44 = .ok (.aload_n 0, 1) := by decide +kernel
theorem dX8_let_45 : decode cX8_let 45 = .ok (.aload_n 0, 1) := by decide +kernel
theorem dX8_let_46 : decode cX8_let 46 = .ok (.bipush 6, 2) := by decide +kernel
theorem dX8_let_48 : decode cX8_let 48 = .ok (.iload_n 1, 1) := by decide +kernel
theorem dX8_let_49 : decode cX8_let 49 = .ok (.iload_n 2, 1) := by decide +kernel
theorem dX8_let_50 : decode cX8_let 50 = .ok (.iload_n 3, 1) := by decide +kernel
theorem dX8_let_51 : decode cX8_let 51 = .ok (.invokevirtual 131, 3) := by decide +kernel
theorem dX8_let_54 : decode cX8_let 54 = .ok (.iconst 2, 1) := by decide +kernel
theorem dX8_let_55 : decode cX8_let 55 = .ok (.invokevirtual 134, 3) := by decide +kernel
theorem dX8_let_58 : decode cX8_let 58 = .ok (.ireturn, 1) := by decide +kernel
theorem dy_X8_let : DY yX8_let 3 := by decide +kernel
theorem dX8_type_0 : decode cX8_type 0 = .ok (.aload_n 0, 1) := by decide +kernel
theorem dX8_type_1 : decode cX8_type 1 = .ok (.aload_n 0, 1) := by decide +kernel
theorem dX8_type_2 : decode cX8_type 2 = .ok (.iload_n 1, 1) := by decide +kernel
theorem dX8_type_3 : decode cX8_type 3 = .ok (.invokevirtual 141, 3) := by decide +kernel
theorem dX8_type_6 : decode cX8_type 6 = .ok (.ifCond .eq 7, 3) := by decide +kernel
theorem dX8_type_9 : decode cX8_type 9 = .ok (.iconst 0, 1) := by decide +kernel
theorem dX8_type_10 : decode cX8_type 10 = .ok (.goto 4, 3) := by decide +kernel
theorem dX8_type_13 : decode cX8_type 13 = .ok (.iconst 1, 1) := by decide +kernel
theorem dX8_type_14 : decode cX8_type 14 = .ok (.putfield 106, 3) := by decide +kernel
theorem dX8_type_17 : decode cX8_type 17 = .ok (.aload_n 0, 1) := by decide +kernel
theorem dX8_type_18 : decode cX8_type 18 = .ok (.getfield 106, 3) := by decide +kernel
theorem dX8_type_21 : decode cX8_type 21 = .ok (.ifCond .le 5, 3) := by decide +kernel
theorem dX8_type_24 : decode cX8_type 24 = .ok (.iconst 0, 1) := by decide +kernel
theorem dX8_type_25 : decode cX8_type 25 = .ok (.ireturn, 1) := by decide +kernel
theorem dX8_type_26 : decode cX8_type 26 = .ok (.aload_n 0, 1) := by decide +kernel
theorem dX8_type_27 : decode cX8_type 27 = .ok (.iload_n 1, 1) := by decide +kernel
theorem dX8_type_28 : decode cX8_type 28 = .ok (.invokevirtual 285, 3) := by decide +kernel
theorem dX8_type_31 : decode cX8_type 31 = .ok (.aload_n 0, 1) := by decide +kernel
theorem dX8_type_32 : decode cX8_type 32 = .ok (.iconst 0, 1) := by decide +kernel
theorem dX8_type_33 : decode cX8_type 33 = .ok (.invokevirtual 240, 3) := by decide +kernel
theorem dX8_type_36 : decode cX8_type 36 = .ok (.istore_n 2, 1) := by decide +kernel
theorem dX8_type_37 : decode cX8_type 37 = .ok (.iload_n 2, 1) := by decide +kernel
theorem dX8_type_38 : decode cX8_type 38 = .ok (.ifCond .le 9, 3) := by decide +kernel
theorem dX8_type_41 : decode cX8_type 41 = .ok (.iconst (-1), 1) := by decide +kernel
theorem dX8_type_42 : decode cX8_type 42 = .ok (.iload_n 2, 1) := by decide +kernel
theorem dX8_type_43 : decode cX8_type 43 = .ok (.isub, 1) := by decide +kernel
theorem dX8_type_44 : decode cX8_type 44 = .ok (.goto 12, 3) := by decide +kernel
theorem dX8_type_47 : decode cX8_type 47 = .ok (.aload_n 0, 1) := by decide +kernel
theorem dX8_type_48 : decode cX8_type 48 = .ok (.aload_n 0, 1) := by decide +kernel
theorem dX8_type_49 : decode cX8_type 49 = .ok (.getfield 66, 3) := by decide +kernel
theorem dX8_type_52 : decode cX8_type 52 = .ok (.iconst 0, 1) := by decide +kernel
theorem dX8_type_53 : decode cX8_type 53 = .ok (.invokevirtual 288, 3) := by decide +kernel
theorem dX8_type_56 : decode cX8_type 56 = .ok (.ireturn, 1) := by decide +kernel
theorem dy_X8_type : DY yX8_type 1 := by decide +kernel
theorem dX8_normal_0 : decode cX8_normal 0 = .ok (.aload_n 0, 1) := by decide +kernel
theorem dX8_normal_1 : decode cX8_normal 1 = .ok (.aload_n 0, 1) := by decide +kernel
theorem dX8_normal_2 : decode cX8_normal 2 = .ok (.iload_n 1, 1) := by decide +kernel
theorem dX8_normal_3 : decode cX8_normal 3 = .ok (.invokevirtual 141, 3) := by decide +kernel
theorem dX8_normal_6 : decode cX8_normal 6 = .ok (.ifCond .eq 7, 3) := by decide +kernel
theorem dX8_normal_9 : decode cX8_normal 9 = .ok (.iconst 0, 1) := by decide +kernel
theorem dX8_normal_10 : decode cX8_normal 10 = .ok (.goto 4, 3) := by decide +kernel
theorem dX8_normal_13 : decode cX8_normal 13 = .ok (.iconst 1, 1) := by decide +kernel
theorem dX8_normal_14 : decode cX8_normal 14 = .ok (.putfield 106, 3) := by decide +kernel
theorem dX8_normal_17 : decode cX8_normal 17 = .ok (.aload_n 0, 1) := by decide +kernel
theorem dX8_normal_18 : decode cX8_normal 18 = .ok (.getfield 106, 3) := by decide +kernel
theorem dX8_normal_21 : decode cX8_normal 21 = .ok (.ifCond .le 5, 3) := by decide +kernel
theorem dX8_normal_24 : decode cX8_normal 24 = .ok (.iconst 0, 1) := by decide +kernel
theorem dX8_normal_25 : decode cX8_normal 25 = .ok (.ireturn, 1) := by decide +kernel
theorem dX8_normal_26 : decode cX8_normal 26 = .ok (.aload_n 0, 1) := by decide +kernel
theorem dX8_normal_27 : decode cX8_normal 27 = .ok (.aload_n 0, 1) := by decide +kernel
theorem dX8_normal_28 : decode cX8_normal 28 = .ok (.iload_n 1, 1) := by decide +kernel
theorem dX8_normal_29 : decode cX8_normal 29 = .ok (.aload_n 0, 1) := by decide +kernel
theorem dX8_normal_30 : decode cX8_normal 30 = .ok (.getfield 56, 3) := by decide +kernel
theorem dX8_normal_33 : decode cX8_normal 33 = .ok (.iconst 0, 1) := by decide +kernel
theorem dX8_normal_34 : decode cX8_normal 34 = .ok (.invokevirtual 176, 3) := by decide +kernel
theorem dX8_normal_37 : decode cX8_normal 37 = .ok (.putfield 186, 3) := by decide +kernel
theorem dX8_normal_40 : decode cX8_normal 40 = .ok (.aload_n 0, 1) := by decide +kernel
theorem dX8_normal_41 : decode cX8_normal 41 = .ok (.invokevirtual 237, 3) := by decide +kernel
theorem dX8_normal_44 : decode cX8_normal 44 = .ok (.ifCond .ge 8, 3) := by decide +kernel
theorem dX8_normal_47 : decode cX8_normal 47 = .ok (.bipush (-6), 2) := by decide +kernel
theorem dX8_normal_49 : decode cX8_normal 49 = .ok (.goto 12, 3) := by decide +kernel
theorem dX8_normal_52 : decode cX8_normal 52 = .ok (.aload_n 0, 1) := by decide +kernel
theorem dX8_normal_53 : decode cX8_normal 53 = .ok (.aload_n 0, 1) := by decide +kernel
theorem dX8_normal_54 : decode cX8_normal 54 = .ok (.getfield 56, 3) := by decide +kernel
theorem dX8_normal_57 : decode cX8_normal 57 = .ok (.iconst 0, 1) := by decide +kernel
theorem dX8_normal_58 : decode cX8_normal 58 = .ok (.invokevirtual 288, 3) := by decide +kernel
theorem dX8_normal_61 : decode cX8_normal 61 = .ok (.ireturn, 1) := by decide +kernel
theorem dy_X8_normal : DY yX8_normal 1 := by decide +kernel
theorem dX8_steps_0 : decode cX8_steps 0 = .ok (.aload_n 0, 1) := by decide +kernel
theorem dX8_steps_1 : decode cX8_steps 1 = .ok (.aload_n 0, 1) := by decide +kernel
theorem dX8_steps_2 : decode cX8_steps 2 = .ok (.iload_n 1, 1) := by decide +kernel
theorem dX8_steps_3 : decode cX8_steps 3 = .ok (.invokevirtual 141, 3) := by decide +kernel
theorem dX8_steps_6 : decode cX8_steps 6 = .ok (.ifCond .eq 7, 3) := by decide +kernel
theorem dX8_steps_9 : decode cX8_steps 9 = .ok (.iconst 0, 1) := by decide +kernel
theorem dX8_steps_10 : decode cX8_steps 10 = .ok (.goto 4, 3) := by decide +kernel
theorem dX8_steps_13 : decode cX8_steps 13 = .ok (.iconst 1, 1) := by decide +kernel
theorem dX8_steps_14 : decode cX8_steps 14 = .ok (.putfield 106, 3) := by decide +kernel
theorem dX8_steps_17 : decode cX8_steps 17 = .ok (.aload_n 0, 1) := by decide +kernel
theorem dX8_steps_18 : decode cX8_steps 18 = .ok (.getfield 106, 3) := by decide +kernel
theorem dX8_steps_21 : decode cX8_steps 21 = .ok (.ifCond .le 5, 3) := by decide +kernel
theorem dX8_steps_24 : decode cX8_steps 24 = .ok (.iconst 0, 1) := by decide +kernel
theorem dX8_steps_25 : decode cX8_steps 25 = .ok (.ireturn, 1) := by decide +kernel
theorem dX8_steps_26 : decode cX8_steps 26 = .ok (.aload_n 0, 1) := by decide +kernel
theorem dX8_steps_27 : decode cX8_steps 27 = .ok (.aload_n 0, 1) := by decide +kernel
theorem dX8_steps_28 : decode cX8_steps 28 = .ok (.iload_n 1, 1) := by decide +kernel
theorem dX8_steps_29 : decode cX8_steps 29 = .ok (.aload_n 0, 1) := by decide +kernel
theorem dX8_steps_30 : decode cX8_steps 30 = .ok (.getfield 56, 3) := by decide +kernel
theorem dX8_steps_33 : decode cX8_steps 33 = .ok (.iconst 0, 1) := by decide +kernel
theorem dX8_steps_34 : decode cX8_steps 34 = .ok (.invokevirtual 176, 3) := by decide +kernel
theorem dX8_steps_37 : decode cX8_steps 37 = .ok (.putfield 186, 3) := by decide +kernel
theorem dX8_steps_40 : decode cX8_steps 40 = .ok (.aload_n 0, 1) := by decide +kernel
theorem dX8_steps_41 : decode cX8_steps 41 = .ok (.invokevirtual 237, 3) := by decide +kernel
theorem dX8_steps_44 : decode cX8_steps 44 = .ok (.ireturn, 1) := by decide +kernel
theorem dy_X8_steps : DY yX8_steps 1 := by decide +kernel
theorem dX8_same_0 : decode cX8_same 0 = .ok (.aload_n 0, 1) := by decide +kernel
theorem dX8_same_1 : decode cX8_same 1 = .ok (.aload_n 0, 1) := by decide +kernel
theorem dX8_same_2 : decode cX8_same 2 = .ok (.iload_n 1, 1) := by decide +kernel
theorem dX8_same_3 : decode cX8_same 3 = .ok (.invokevirtual 141, 3) := by decide +kernel
theorem dX8_same_6 : decode cX8_same 6 = .ok (.ifCond .eq 15, 3) := by decide +kernel
theorem dX8_same_9 : decode cX8_same 9 = .ok (.aload_n 0, 1) := by decide +kernel
theorem dX8_same_10 : decode cX8_same 10 = .ok (.iload_n 2, 1) := by decide +kernel
theorem dX8_same_11 : decode cX8_same 11 = .ok (.invokevirtual 141, 3) := by decide +kernel
theorem dX8_same_14 : decode cX8_same 14 = .ok (.ifCond .eq 7, 3) := by decide +kernel
theorem dX8_same_17 : decode cX8_same 17 = .ok (.iconst 0, 1) := by decide +kernel
theorem dX8_same_18 : decode cX8_same 18 = .ok (.goto 4, 3) := by decide +kernel
theorem dX8_same_21 : decode cX8_same 21 = .ok (.iconst 1, 1) := by decide +kernel
theorem dX8_same_22 : decode cX8_same 22 = .ok (.putfield 106, 3) := by decide +kernel
theorem dX8_same_25 : decode cX8_same 25 = .ok (.aload_n 0, 1) := by decide +kernel
theorem dX8_same_26 : decode cX8_same 26 = .ok (.getfield 106, 3) := by decide +kernel
theorem dX8_same_29 : decode cX8_same 29 = .ok (.ifCond .le 5, 3) := by decide +kernel
theorem dX8_same_32 : decode cX8_same 32 = .ok (.iconst 0, 1) := by decide +kernel
theorem dX8_same_33 : decode cX8_same 33 = .ok (.ireturn, 1) := by decide +kernel
theorem dX8_same_34 : decode cX8_same 34 = .ok (.aload_n 0, 1) := by decide +kernel
theorem dX8_same_35 : decode cX8_same 35 = .ok (.aload_n 0, 1) := by decide +kernel
theorem dX8_same_36 : decode cX8_same 36 = .ok (.iload_n 1, 1) := by decide +kernel
theorem dX8_same_37 : decode cX8_same 37 = .ok (.aload_n 0, 1) := by decide +kernel
theorem dX8_same_38 : decode cX8_same 38 = .ok (.getfield 56, 3) := by decide +kernel
theorem dX8_same_41 : decode cX8_same 41 = .ok (.iconst 0, 1) := by decide +kernel
theorem dX8_same_42 : decode cX8_same 42 = .ok (.invokevirtual 176, 3) := by decide +kernel
theorem dX8_same_45 : decode cX8_same 45 = .ok (.putfield 186, 3) := by decide +kernel
theorem dX8_same_48 : decode cX8_same 48 = .ok (.aload_n 0, 1) := by decide +kernel
theorem dX8_same_49 : decode cX8_same 49 = .ok (.invokevirtual 237, 3) := by decide +kernel
theorem dX8_same_52 : decode cX8_same 52 = .ok (.ifCond .ge 6, 3) := by decide +kernel
theorem dX8_same_55 : decode cX8_same 55 = .ok (.bipush (-6), 2) := by decide +kernel
theorem dX8_same_57 : decode cX8_same 57 = .ok (.ireturn, 1) := by decide +kernel
theorem dX8_same_58 : decode cX8_same 58 = .ok (.aload_n 0, 1) := by decide +kernel
theorem dX8_same_59 : decode cX8_same 59 = .ok (.iconst 0, 1) := by decide +kernel
theorem dX8_same_60 : decode cX8_same 60 = .ok (.putfield 228, 3) := by decide +kernel
theorem dX8_same_63 : decode cX8_same 63 = .ok (.aload_n 0, 1) := by decide +kernel
theorem dX8_same_64 : decode cX8_same 64 = .ok (.aload_n 0, 1) := by decide +kernel
theorem dX8_same_65 : decode cX8_same 65 = .ok (.getfield 56, 3) := by decide +kernel
theorem dX8_same_68 : decode cX8_same 68 = .ok (.iconst 0, 1) := by decide +kernel
theorem dX8_same_69 : decode cX8_same 69 = .ok (.aload_n 0, 1) := by decide +kernel
theorem dX8_same_70 : decode cX8_same 70 = .ok (.getfield 186, 3) := by decide +kernel
theorem dX8_same_73 : decode cX8_same 73 = .ok (.invokevirtual 231, 3) := by decide +kernel
theorem dX8_same_76 : decode cX8_same 76 = .ok (.aload_n 0, 1) := by decide +kernel
theorem dX8_same_77 : decode cX8_same 77 = .ok (.aload_n 0, 1) := by decide +kernel
theorem dX8_same_78 : decode cX8_same 78 = .ok (.iload_n 2, 1) := by decide +kernel
theorem dX8_same_79 : decode cX8_same 79 = .ok (.aload_n 0, 1) := by decide +kernel
theorem dX8_same_80 : decode cX8_same 80 = .ok (.getfield 56, 3) := by decide +kernel
theorem dX8_same_83 : decode cX8_same 83 = .ok (.iconst 0, 1) := by decide +kernel
theorem dX8_same_84 : decode cX8_same 84 = .ok (.invokevirtual 176, 3) := by decide +kernel
theorem dX8_same_87 : decode cX8_same 87 = .ok (.putfield 186, 3) := by decide +kernel
theorem dX8_same_90 : decode cX8_same 90 = .ok (.aload_n 0, 1) := by decide +kernel
theorem dX8_same_91 : decode cX8_same 91 = .ok (.invokevirtual 237, 3) := by decide +kernel
theorem dX8_same_94 : decode cX8_same 94 = .ok (.ifCond .ge 6, 3) := by decide +kernel
theorem dX8_same_97 : decode cX8_same 97 = .ok (.bipush (-6), 2) := by decide +kernel
theorem dX8_same_99 : decode cX8_same 99 = .ok (.ireturn, 1) := by decide +kernel
theorem dX8_same_100 : decode cX8_same 100 = .ok (.aload_n 0, 1) := by decide +kernel
theorem dX8_same_101 : decode cX8_same 101 = .ok (.aload_n 0, 1) := by decide +kernel
theorem dX8_same_102 : decode cX8_same 102 = .ok (.getfield 66, 3) := by decide +kernel
theorem dX8_same_105 : decode cX8_same 105 = .ok (.iconst 0, 1) := by decide +kernel
theorem dX8_same_106 : decode cX8_same 106 = .ok (.aload_n 0, 1) := by decide +kernel
theorem dX8_same_107 : decode cX8_same 107 = .ok (.getfield 56, 3) := by decide +kernel
theorem dX8_same_110 : decode cX8_same 110 = .ok (.iconst 0, 1) := by decide +kernel
theorem dX8_same_111 : decode cX8_same 111 = .ok (.invokevirtual 270, 3) := by decide +kernel
theorem dX8_same_114 : decode cX8_same 114 = .ok (.ifCond .eq 7, 3) := by decide +kernel
theorem dX8_same_117 : decode cX8_same 117 = .ok (.iconst 1, 1) := by decide +kernel
theorem dX8_same_118 : decode cX8_same 118 = .ok (.goto 4, 3) := by decide +kernel
theorem dX8_same_121 : decode cX8_same 121 = .ok (.iconst 0, 1) := by decide +kernel
theorem dX8_same_122 : decode cX8_same 122 = .ok (.ireturn, 1) := by decide +kernel
theorem dy_X8_same : DY yX8_same 2 := by decide +kernel
theorem dX8_declare_0 : decode cX8_declare 0 = .ok (.aload_n 0, 1) := by decide +kernel
theorem dX8_declare_1 : decode cX8_declare 1 = .ok (.iload_n 1, 1) := by decide +kernel
theorem dX8_declare_2 : decode cX8_declare 2 = .ok (.iconst 0, 1) := by decide +kernel
theorem dX8_declare_3 : decode cX8_declare 3 = .ok (.iconst 2, 1) := by decide +kernel
theorem dX8_declare_4 : decode cX8_declare 4 = .ok (.invokestatic 115, 3) := by decide +kernel
theorem dX8_declare_7 : decode cX8_declare 7 = .ok (.ifCond .ne 7, 3) := by decide +kernel
theorem dX8_declare_10 : decode cX8_declare 10 = .ok (.iconst 1, 1) := by decide +kernel
theorem dX8_declare_11 : decode cX8_declare 11 = .ok (.goto 42, 3) := by decide +kernel
theorem dX8_declare_14 : decode cX8_declare 14 = .ok (.aload_n 0, 1) := by decide +kernel
theorem dX8_declare_15 : decode cX8_declare 15 = .ok (.iload_n 2, 1) := by decide +kernel
theorem dX8_declare_16 : decode cX8_declare 16 = .ok (.invokevirtual 141, 3) := by decide +kernel
theorem dX8_declare_19 : decode cX8_declare 19 = .ok (.ifCond .eq 16, 3) := by decide +kernel
theorem dX8_declare_22 : decode cX8_declare 22 = .ok (.iload_n 3, 1) := by decide +kernel
theorem dX8_declare_23 : decode cX8_declare 23 = .ok (.iconst (-1), 1) := by decide +kernel
theorem dX8_declare_24 : decode cX8_declare 24 = .ok (.if_icmp .eq 15, 3) := by decide +kernel
theorem dX8_declare_27 : decode cX8_declare 27 = .ok (.aload_n 0, 1) := by decide +kernel
theorem dX8_declare_28 : decode cX8_declare 28 = .ok (.iload_n 3, 1) := by decide +kernel
theorem dX8_declare_29 : decode cX8_declare 29 = .ok (.invokevirtual 141, 3) := by decide +kernel
theorem dX8_declare_32 : decode cX8_declare 32 = .ok (.ifCond .ne 7, 3) := by decide +kernel
theorem dX8_declare_35 : decode cX8_declare 35 = .ok (.iconst 2, 1) := by decide +kernel
theorem dX8_declare_36 : decode cX8_declare 36 = .ok (.goto 17, 3) := by decide +kernel
theorem dX8_declare_39 : decode cX8_declare 39 = .ok (.aload_n 0, 1) := by decide +kernel
theorem dX8_declare_40 : decode cX8_declare 40 = .ok (.getfield 112, 3) := by decide +kernel
theorem dX8_declare_43 : decode cX8_declare 43 = .ok (.bipush 40, 2) := by decide +kernel
theorem dX8_declare_45 : decode cX8_declare 45 = .ok (.if_icmp .ne 7, 3) := by decide +kernel
theorem dX8_declare_48 : decode cX8_declare 48 = .ok (.iconst 3, 1) := by decide +kernel
theorem dX8_declare_49 : decode cX8_declare 49 = .ok (.goto 4, 3) := by decide +kernel
theorem dX8_declare_52 : decode cX8_declare 52 = .ok (.iconst 0, 1) := by decide +kernel
theorem dX8_declare_53 : decode cX8_declare 53 = .ok (.putfield 106, 3) := by decide +kernel
theorem dX8_declare_56 : decode cX8_declare 56 = .ok (.aload_n 0, 1) := by decide +kernel
theorem dX8_declare_57 : decode cX8_declare 57 = .ok (.getfield 106, 3) := by decide +kernel
theorem dX8_declare_60 : decode cX8_declare 60 = .ok (.ifCond .le 5, 3) := by decide +kernel
theorem dX8_declare_63 : decode cX8_declare 63 = .ok (.iconst 0, 1) := by decide +kernel
theorem dX8_declare_64 : decode cX8_declare 64 = .ok (.ireturn, 1) := by decide +kernel
theorem dX8_declare_65 : decode cX8_declare 65 = .ok (.aload_n 0, 1) := by decide +kernel
theorem dX8_declare_66 : decode cX8_declare 66 = .ok (.iload_n 1, 1) := by decide +kernel
theorem dX8_declare_67 : decode cX8_declare 67 = .ok (.iload_n 2, 1) := by decide +kernel
theorem dX8_declare_68 : decode cX8_declare 68 = .ok (.iload_n 3, 1) := by decide +kernel
theorem dX8_declare_69 : decode cX8_declare 69 = .ok (.invokevirtual 294, 3) := by decide +kernel
theorem dX8_declare_72 : decode cX8_declare 72 = .ok (.istore 4, 2) := by decide +kernel
theorem dX8_declare_74 : decode cX8_declare 74 = .ok (.iload 4, 2) := by decide +kernel
theorem dX8_declare_76 : decode cX8_declare 76 = .ok (.ifCond .le 8, 3) := by decide +kernel
theorem dX8_declare_79 : decode cX8_declare 79 = .ok (.iconst (-1), 1) := by decide +kernel
theorem dX8_declare_80 : decode cX8_declare 80 = .ok (.iload 4, 2) := by decide +kernel
theorem dX8_declare_82 : decode cX8_declare 82 = .ok (.isub, 1) := by decide +kernel
theorem dX8_declare_83 : decode cX8_declare 83 = .ok (.ireturn, 1) := by decide +kernel
theorem dX8_declare_84 : decode cX8_declare 84 = .ok (.aload_n 0, 1) := by decide +kernel
theorem dX8_declare_85 : decode cX8_declare 85 = .ok (.getfield 44, 3) := by decide +kernel
theorem dX8_declare_88 : decode cX8_declare 88 = .ok (.aload_n 0, 1) := by decide +kernel
theorem dX8_declare_89 : decode cX8_declare 89 = .ok (.getfield 112, 3) := by decide +kernel
theorem dX8_declare_92 : decode cX8_declare 92 = .ok (.iload_n 1, 1) := by decide +kernel
theorem dX8_declare_93 : decode cX8_declare 93 = .ok (.iastore, 1) := by decide +kernel
theorem dX8_declare_94 : decode cX8_declare 94 = .ok (.aload_n 0, 1) := by decide +kernel
theorem dX8_declare_95 : decode cX8_declare 95 = .ok (.getfield 47, 3) := by decide +kernel
theorem dX8_declare_98 : decode cX8_declare 98 = .ok (.aload_n 0, 1) := by decide +kernel
theorem dX8_declare_99 : decode cX8_declare 99 = .ok (.getfield 112, 3) := by decide +kernel
theorem dX8_declare_102 : decode cX8_declare 102 = .ok (.iload_n 2, 1) := by decide +kernel
theorem dX8_declare_103 : decode cX8_declare 103 = .ok (.iastore, 1) := by decide +kernel
theorem dX8_declare_104 : decode cX8_declare 104 = .ok (.aload_n 0, 1) := by decide +kernel
theorem dX8_declare_105 : decode cX8_declare 105 = .ok (.getfield 50, 3) := by decide +kernel
theorem dX8_declare_108 : decode cX8_declare 108 = .ok (.aload_n 0, 1) := by decide +kernel
theorem dX8_declare_109 : decode cX8_declare 109 = .ok (.getfield 112, 3) := by decide +kernel
theorem dX8_declare_112 : decode cX8_declare 112 = .ok (.iload_n 3, 1) := by decide +kernel
theorem dX8_declare_113 : decode cX8_declare 113 = .ok (.iastore, 1) := by decide +kernel
theorem dX8_declare_114 : decode cX8_declare 114 = .ok (.aload_n 0, 1) := by decide +kernel
theorem dX8_declare_115 : decode cX8_declare 115 = .ok (.dup, 1) := by decide +kernel
theorem dX8_declare_116 : decode cX8_declare 116 = .ok (.getfield 112, 3) := by decide +kernel
theorem dX8_declare_119 : decode cX8_declare 119 = .ok (.iconst 1, 1) := by decide +kernel
theorem dX8_declare_120 : decode cX8_declare 120 = .ok (.iadd, 1) := by decide +kernel
theorem dX8_declare_121 : decode cX8_declare 121 = .ok (.putfield 112, 3) := by decide +kernel
theorem dX8_declare_124 : decode cX8_declare 124 = .ok (.aload_n 0, 1) := by decide +kernel
theorem dX8_declare_125 : decode cX8_declare 125 = .ok (.getfield 112, 3) := by decide +kernel
theorem dX8_declare_128 : decode cX8_declare 128 = .ok (.iconst 1, 1) := by decide +kernel
theorem dX8_declare_129 : decode cX8_declare 129 = .ok (.isub, 1) := by decide +kernel
theorem dX8_declare_130 : decode cX8_declare 130 = .ok (.ireturn, 1) := by decide +kernel
theorem dy_X8_declare : DY yX8_declare 3 := by decide +kernel
theorem dX8_atMost_0 : decode cX8_atMost 0 = .ok (.aload_n 0, 1) := by decide +kernel
theorem dX8_atMost_1 : decode cX8_atMost 1 = .ok (.aload_n 0, 1) := by decide +kernel
theorem dX8_atMost_2 : decode cX8_atMost 2 = .ok (.iload_n 1, 1) := by decide +kernel
theorem dX8_atMost_3 : decode cX8_atMost 3 = .ok (.invokevirtual 123, 3) := by decide +kernel
theorem dX8_atMost_6 : decode cX8_atMost 6 = .ok (.ifCond .eq 15, 3) := by decide +kernel
theorem dX8_atMost_9 : decode cX8_atMost 9 = .ok (.aload_n 0, 1) := by decide +kernel
theorem dX8_atMost_10 : decode cX8_atMost 10 = .ok (.iload_n 2, 1) := by decide +kernel
theorem dX8_atMost_11 : decode cX8_atMost 11 = .ok (.invokevirtual 123, 3) := by decide +kernel
theorem dX8_atMost_14 : decode cX8_atMost 14 = .ok (.ifCond .eq 7, 3) := by decide +kernel
theorem dX8_atMost_17 : decode cX8_atMost 17 = .ok (.iconst 0, 1) := by decide +kernel
theorem dX8_atMost_18 : decode cX8_atMost 18 = .ok (.goto 4, 3) := by decide +kernel
theorem dX8_atMost_21 : decode cX8_atMost 21 = .ok (.iconst 1, 1) := by decide +kernel
theorem dX8_atMost_22 : decode cX8_atMost 22 = .ok (.putfield 106, 3) := by decide +kernel
theorem dX8_atMost_25 : decode cX8_atMost 25 = .ok (.aload_n 0, 1) := by decide +kernel
theorem dX8_atMost_26 : decode cX8_atMost 26 = .ok (.getfield 106, 3) := by decide +kernel
theorem dX8_atMost_29 : decode cX8_atMost 29 = .ok (.ifCond .le 5, 3) := by decide +kernel
theorem dX8_atMost_32 : decode cX8_atMost 32 = .ok (.iconst 0, 1) := by decide +kernel
theorem dX8_atMost_33 : decode cX8_atMost 33 = .ok (.ireturn, 1) := by decide +kernel
theorem dX8_atMost_34 : decode cX8_atMost 34 = .ok (.aload_n 0, 1) := by decide +kernel
theorem dX8_atMost_35 : decode cX8_atMost 35 = .ok (.iload_n 1, 1) := by decide +kernel
theorem dX8_atMost_36 : decode cX8_atMost 36 = .ok (.aload_n 0, 1) := by decide +kernel
theorem dX8_atMost_37 : decode cX8_atMost 37 = .ok (.getfield 56, 3) := by decide +kernel
theorem dX8_atMost_40 : decode cX8_atMost 40 = .ok (.iconst 0, 1) := by decide +kernel
theorem dX8_atMost_41 : decode cX8_atMost 41 = .ok (.invokevirtual 155, 3) := by decide +kernel
theorem dX8_atMost_44 : decode cX8_atMost 44 = .ok (.istore_n 3, 1) := by decide +kernel
theorem dX8_atMost_45 : decode cX8_atMost 45 = .ok (.aload_n 0, 1) := by decide +kernel
theorem dX8_atMost_46 : decode cX8_atMost 46 = .ok (.iload_n 2, 1) := by decide +kernel
theorem dX8_atMost_47 : decode cX8_atMost 47 = .ok (.aload_n 0, 1) := by decide +kernel
theorem dX8_atMost_48 : decode cX8_atMost 48 = .ok (.getfield 59, 3) := by decide +kernel
theorem dX8_atMost_51 : decode cX8_atMost 51 = .ok (.iconst 0, 1) := by decide +kernel
theorem dX8_atMost_52 : decode cX8_atMost 52 = .ok (.invokevirtual 155, 3) := by decide +kernel
theorem dX8_atMost_55 : decode cX8_atMost 55 = .ok (.istore 4, 2) := by decide +kernel
theorem dX8_atMost_57 : decode cX8_atMost 57 = .ok (.aload_n 0, 1) := by decide +kernel
theorem dX8_atMost_58 : decode cX8_atMost 58 = .ok (.aload_n 0, 1) := by decide +kernel
theorem dX8_atMost_59 : decode cX8_atMost 59 = .ok (.getfield 56, 3) := by decide +kernel
theorem dX8_atMost_62 : decode cX8_atMost 62 = .ok (.iconst 0, 1) := by decide +kernel
theorem dX8_atMost_63 : decode cX8_atMost 63 = .ok (.aload_n 0, 1) := by decide +kernel
theorem dX8_atMost_64 : decode cX8_atMost 64 = .ok (.getfield 59, 3) := by decide +kernel
theorem dX8_atMost_67 : decode cX8_atMost 67 = .ok (.iconst 0, 1) := by decide +kernel
theorem dX8_atMost_68 : decode cX8_atMost 68 = .ok (.invokevirtual 221, 3) := by decide +kernel
theorem dX8_atMost_71 : decode cX8_atMost 71 = .ok (.ireturn, 1) := by decide +kernel
theorem dy_X8_atMost : DY yX8_atMost 2 := by decide +kernel
theorem dX8_value_0 : decode cX8_value 0 = .ok (.aload_n 0, 1) := by decide +kernel
theorem dX8_value_1 : decode cX8_value 1 = .ok (.aload_n 0, 1) := by decide +kernel
theorem dX8_value_2 : decode cX8_value 2 = .ok (.iload_n 1, 1) := by decide +kernel
theorem dX8_value_3 : decode cX8_value 3 = .ok (.invokevirtual 123, 3) := by decide +kernel
theorem dX8_value_6 : decode cX8_value 6 = .ok (.ifCond .ne 7, 3) := by decide +kernel
theorem dX8_value_9 : decode cX8_value 9 = .ok (.iconst 1, 1) := by decide +kernel
theorem dX8_value_10 : decode cX8_value 10 = .ok (.goto 42, 3) := by decide +kernel
theorem dX8_value_13 : decode cX8_value 13 = .ok (.iload_n 2, 1) := by decide +kernel
theorem dX8_value_14 : decode cX8_value 14 = .ok (.iconst 0, 1) := by decide +kernel
theorem dX8_value_15 : decode cX8_value 15 = .ok (.sipush 1000, 3) := by decide +kernel
theorem dX8_value_18 : decode cX8_value 18 = .ok (.invokestatic 115, 3) := by decide +kernel
theorem dX8_value_21 : decode cX8_value 21 = .ok (.ifCond .eq 26, 3) := by decide +kernel
theorem dX8_value_24 : decode cX8_value 24 = .ok (.iload_n 3, 1) := by decide +kernel
theorem dX8_value_25 : decode cX8_value 25 = .ok (.iconst 0, 1) := by decide +kernel
theorem dX8_value_26 : decode cX8_value 26 = .ok (.sipush 1000, 3) := by decide +kernel
theorem dX8_value_29 : decode cX8_value 29 = .ok (.invokestatic 115, 3) := by decide +kernel
theorem dX8_value_32 : decode cX8_value 32 = .ok (.ifCond .eq 15, 3) := by decide +kernel
theorem dX8_value_35 : decode cX8_value 35 = .ok (.iload 4, 2) := by decide +kernel
theorem dX8_value_37 : decode cX8_value 37 = .ok (.iconst 0, 1) := by decide +kernel
theorem dX8_value_38 : decode cX8_value 38 = .ok (.sipush 1000, 3) := by decide +kernel
theorem dX8_value_41 : decode cX8_value 41 = .ok (.invokestatic 115, 3) := by decide +kernel
theorem dX8_value_44 : decode cX8_value 44 = .ok (.ifCond .ne 7, 3) := by decide +kernel
theorem dX8_value_47 : decode cX8_value 47 = .ok (.iconst 2, 1) := by decide +kernel
theorem dX8_value_48 : decode cX8_value 48 = .ok (.goto 4, 3) := by decide +kernel
theorem dX8_value_51 : decode cX8_value 51 = .ok (.iconst 0, 1) := by decide +kernel
theorem dX8_value_52 : decode cX8_value 52 = .ok (.putfield 106, 3) := by decide +kernel
theorem dX8_value_55 : decode cX8_value 55 = .ok (.aload_n 0, 1) := by decide +kernel
theorem dX8_value_56 : decode cX8_value 56 = .ok (.getfield 106, 3) := by decide +kernel
theorem dX8_value_59 : decode cX8_value 59 = .ok (.ifCond .le 5, 3) := by decide +kernel
theorem dX8_value_62 : decode cX8_value 62 = .ok (.iconst 0, 1) := by decide +kernel
theorem dX8_value_63 : decode cX8_value 63 = .ok (.ireturn, 1) := by decide +kernel
theorem dX8_value_64 : decode cX8_value 64 = .ok (.aload_n 0, 1) := by decide +kernel
theorem dX8_value_65 : decode cX8_value 65 = .ok (.iload_n 1, 1) := by decide +kernel
theorem dX8_value_66 : decode cX8_value 66 = .ok (.aload_n 0, 1) := by decide +kernel
theorem dX8_value_67 : decode cX8_value 67 = .ok (.getfield 56, 3) := by decide +kernel
theorem dX8_value_70 : decode cX8_value 70 = .ok (.iconst 0, 1) := by decide +kernel
theorem dX8_value_71 : decode cX8_value 71 = .ok (.invokevirtual 155, 3) := by decide +kernel
theorem dX8_value_74 : decode cX8_value 74 = .ok (.istore 5, 2) := by decide +kernel
theorem dX8_value_76 : decode cX8_value 76 = .ok (.aload_n 0, 1) := by decide +kernel
theorem dX8_value_77 : decode cX8_value 77 = .ok (.aload_n 0, 1) := by decide +kernel
theorem dX8_value_78 : decode cX8_value 78 = .ok (.getfield 56, 3) := by decide +kernel
theorem dX8_value_81 : decode cX8_value 81 = .ok (.iconst 0, 1) := by decide +kernel
theorem dX8_value_82 : decode cX8_value 82 = .ok (.iload_n 2, 1) := by decide +kernel
theorem dX8_value_83 : decode cX8_value 83 = .ok (.iload_n 3, 1) := by decide +kernel
theorem dX8_value_84 : decode cX8_value 84 = .ok (.iload 4, 2) := by decide +kernel
theorem dX8_value_86 : decode cX8_value 86 = .ok (.invokevirtual 217, 3) := by decide +kernel
theorem dX8_value_89 : decode cX8_value 89 = .ok (.ireturn, 1) := by decide +kernel
theorem dy_X8_value : DY yX8_value 4 := by decide +kernel
theorem dX8_part_0 : decode cX8_part 0 = .ok (.aload_n 0, 1) := by decide +kernel
theorem dX8_part_1 : decode cX8_part 1 = .ok (.aload_n 0, 1) := by decide +kernel
theorem dX8_part_2 : decode cX8_part 2 = .ok (.iload_n 1, 1) := by decide +kernel
theorem dX8_part_3 : decode cX8_part 3 = .ok (.invokevirtual 141, 3) := by decide +kernel
theorem dX8_part_6 : decode cX8_part 6 = .ok (.ifCond .ne 7, 3) := by decide +kernel
theorem dX8_part_9 : decode cX8_part 9 = .ok (.iconst 1, 1) := by decide +kernel
theorem dX8_part_10 : decode cX8_part 10 = .ok (.goto 17, 3) := by decide +kernel
theorem dX8_part_13 : decode cX8_part 13 = .ok (.iload_n 2, 1) := by decide +kernel
theorem dX8_part_14 : decode cX8_part 14 = .ok (.iconst 0, 1) := by decide +kernel
theorem dX8_part_15 : decode cX8_part 15 = .ok (.iconst 5, 1) := by decide +kernel
theorem dX8_part_16 : decode cX8_part 16 = .ok (.invokestatic 115, 3) := by decide +kernel
theorem dX8_part_19 : decode cX8_part 19 = .ok (.ifCond .ne 7, 3) := by decide +kernel
theorem dX8_part_22 : decode cX8_part 22 = .ok (.iconst 2, 1) := by decide +kernel
theorem dX8_part_23 : decode cX8_part 23 = .ok (.goto 4, 3) := by decide +kernel
theorem dX8_part_26 : decode cX8_part 26 = .ok (.iconst 0, 1) := by decide +kernel
theorem dX8_part_27 : decode cX8_part 27 = .ok (.putfield 106, 3) := by decide +kernel
theorem dX8_part_30 : decode cX8_part 30 = .ok (.aload_n 0, 1) := by decide +kernel
theorem dX8_part_31 : decode cX8_part 31 = .ok (.getfield 106, 3) := by decide +kernel
theorem dX8_part_34 : decode cX8_part 34 = .ok (.ifCond .le 5, 3) := by decide +kernel
theorem dX8_part_37 : decode cX8_part 37 = .ok (.iconst 0, 1) := by decide +kernel
theorem dX8_part_38 : decode cX8_part 38 = .ok (.ireturn, 1) := by decide +kernel
theorem dX8_part_39 : decode cX8_part 39 = .ok (.aload_n 0, 1) := by decide +kernel
theorem dX8_part_40 : decode cX8_part 40 = .ok (.getfield 41, 3) := by decide +kernel
theorem dX8_part_43 : decode cX8_part 43 = .ok (.iload_n 1, 1) := by decide +kernel
theorem dX8_part_44 : decode cX8_part 44 = .ok (.iaload, 1) := by decide +kernel
theorem dX8_part_45 : decode cX8_part 45 = .ok (.ifCond .le 12, 3) := by decide +kernel
theorem dX8_part_48 : decode cX8_part 48 = .ok (.aload_n 0, 1) := by decide +kernel
theorem dX8_part_49 : decode cX8_part 49 = .ok (.getfield 41, 3) := by decide +kernel
theorem dX8_part_52 : decode cX8_part 52 = .ok (.iload_n 1, 1) := by decide +kernel
theorem dX8_part_53 : decode cX8_part 53 = .ok (.iaload, 1) := by decide +kernel
theorem dX8_part_54 : decode cX8_part 54 = .ok (.goto 4, 3) := by decide +kernel
theorem dX8_part_57 : decode cX8_part 57 = .ok (.iconst 0, 1) := by decide +kernel
theorem dX8_part_58 : decode cX8_part 58 = .ok (.istore_n 3, 1) := by decide +kernel
theorem dX8_part_59 : decode cX8_part 59 = .ok (.iload_n 2, 1) := by decide +kernel
theorem dX8_part_60 : decode cX8_part 60 = .ok (.ifCond .ne 12, 3) := by decide +kernel
theorem dX8_part_63 : decode cX8_part 63 = .ok (.aload_n 0, 1) := by decide +kernel
theorem dX8_part_64 : decode cX8_part 64 = .ok (.getfield 26, 3) := by decide +kernel
theorem dX8_part_67 : decode cX8_part 67 = .ok (.iload_n 1, 1) := by decide +kernel
theorem dX8_part_68 : decode cX8_part 68 = .ok (.iaload, 1) := by decide +kernel
theorem dX8_part_69 : decode cX8_part 69 = .ok (.goto 60, 3) := by decide +kernel
theorem dX8_part_72 : decode cX8_part 72 = .ok (.iload_n 2, 1) := by decide +kernel
theorem dX8_part_73 : decode cX8_part 73 = .ok (.iconst 1, 1) := by decide +kernel
theorem dX8_part_74 : decode cX8_part 74 = .ok (.if_icmp .ne 12, 3) := by decide +kernel
theorem dX8_part_77 : decode cX8_part 77 = .ok (.aload_n 0, 1) := by decide +kernel
theorem dX8_part_78 : decode cX8_part 78 = .ok (.getfield 29, 3) := by decide +kernel
theorem dX8_part_81 : decode cX8_part 81 = .ok (.iload_n 1, 1) := by decide +kernel
theorem dX8_part_82 : decode cX8_part 82 = .ok (.iaload, 1) := by decide +kernel
theorem dX8_part_83 : decode cX8_part 83 = .ok (.goto 46, 3) := by decide +kernel
theorem dX8_part_86 : decode cX8_part 86 = .ok (.iload_n 2, 1) := by decide +kernel
theorem dX8_part_87 : decode cX8_part 87 = .ok (.iconst 2, 1) := by decide +kernel
theorem dX8_part_88 : decode cX8_part 88 = .ok (.if_icmp .ne 12, 3) := by decide +kernel
theorem dX8_part_91 : decode cX8_part 91 = .ok (.aload_n 0, 1) := by decide +kernel
theorem dX8_part_92 : decode cX8_part 92 = .ok (.getfield 32, 3) := by decide +kernel
theorem dX8_part_95 : decode cX8_part 95 = .ok (.iload_n 1, 1) := by decide +kernel
theorem dX8_part_96 : decode cX8_part 96 = .ok (.iaload, 1) := by decide +kernel
theorem dX8_part_97 : decode cX8_part 97 = .ok (.goto 32, 3) := by decide +kernel
theorem dX8_part_100 : decode cX8_part 100 = .ok (.iload_n 2, 1) := by decide +kernel
theorem dX8_part_101 : decode cX8_part 101 = .ok (.iconst 3, 1) := by decide +kernel
theorem dX8_part_102 : decode cX8_part 102 = .ok (.if_icmp .ne 12, 3) := by decide +kernel
theorem dX8_part_105 : decode cX8_part 105 = .ok (.aload_n 0, 1) := by decide +kernel
theorem dX8_part_106 : decode cX8_part 106 = .ok (.getfield 35, 3) := by decide +kernel
theorem dX8_part_109 : decode cX8_part 109 = .ok (.iload_n 1, 1) := by decide +kernel
theorem dX8_part_110 : decode cX8_part 110 = .ok (.iaload, 1) := by decide +kernel
theorem dX8_part_111 : decode cX8_part 111 = .ok (.goto 18, 3) := by decide +kernel
theorem dX8_part_114 : decode cX8_part 114 = .ok (.iload_n 2, 1) := by decide +kernel
theorem dX8_part_115 : decode cX8_part 115 = .ok (.iconst 4, 1) := by decide +kernel
theorem dX8_part_116 : decode cX8_part 116 = .ok (.if_icmp .ne 12, 3) := by decide +kernel
theorem dX8_part_119 : decode cX8_part 119 = .ok (.aload_n 0, 1) := by decide +kernel
theorem dX8_part_120 : decode cX8_part 120 = .ok (.getfield 38, 3) := by decide +kernel
theorem dX8_part_123 : decode cX8_part 123 = .ok (.iload_n 1, 1) := by decide +kernel
theorem dX8_part_124 : decode cX8_part 124 = .ok (.iaload, 1) := by decide +kernel
theorem dX8_part_125 : decode cX8_part 125 = .ok (.goto 4, 3) := by decide +kernel
theorem dX8_part_128 : decode cX8_part 128 = .ok (.iload_n 3, 1) := by decide +kernel
theorem dX8_part_129 : decode cX8_part 129 = .ok (.ireturn, 1) := by decide +kernel
theorem dy_X8_part : DY yX8_part 2 := by decide +kernel
theorem dX8_levelPart_0 : decode cX8_levelPart 0 = .ok (.aload_n 0, 1) := by decide +kernel
theorem dX8_levelPart_1 : decode cX8_levelPart 1 = .ok (.aload_n 0, 1) := by decide +kernel
theorem dX8_levelPart_2 : decode cX8_levelPart 2 = .ok (.iload_n 1, 1) := by decide +kernel
theorem dX8_levelPart_3 : decode cX8_levelPart 3 = .ok (.invokevirtual 123, 3) := by decide +kernel
theorem dX8_levelPart_6 : decode cX8_levelPart 6 = .ok (.ifCond .ne 7, 3) := by decide +kernel
theorem dX8_levelPart_9 : decode cX8_levelPart 9 = .ok (.iconst 1, 1) := by decide +kernel
theorem dX8_levelPart_10 : decode cX8_levelPart 10 = .ok (.goto 17, 3) := by decide +kernel
theorem dX8_levelPart_13 : decode cX8_levelPart 13 = .ok (.iload_n 2, 1) := by decide +kernel
theorem dX8_levelPart_14 : decode cX8_levelPart 14 = .ok (.iconst 0, 1) := by decide +kernel
theorem dX8_levelPart_15 : decode cX8_levelPart 15 = .ok (.iconst 3, 1) := by decide +kernel
theorem dX8_levelPart_16 : decode cX8_levelPart 16 = .ok (.invokestatic 115, 3) := by decide +kernel
theorem dX8_levelPart_19 : decode cX8_levelPart 19 = .ok (.ifCond .ne 7, 3) := by decide +kernel
theorem dX8_levelPart_22 : decode cX8_levelPart 22 = .ok (.iconst 2, 1) := by decide +kernel
theorem dX8_levelPart_23 : decode cX8_levelPart 23 = .ok (.goto 4, 3) := by decide +kernel
theorem dX8_levelPart_26 : decode cX8_levelPart 26 = .ok (.iconst 0, 1) := by decide +kernel
theorem dX8_levelPart_27 : decode cX8_levelPart 27 = .ok (.putfield 106, 3) := by decide +kernel
theorem dX8_levelPart_30 : decode cX8_levelPart 30 = .ok (.aload_n 0, 1) := by decide +kernel
theorem dX8_levelPart_31 : decode cX8_levelPart 31 = .ok (.getfield 106, 3) := by decide +kernel
theorem dX8_levelPart_34 : decode cX8_levelPart 34 = .ok (.ifCond .le 5, 3) := by decide +kernel
theorem dX8_levelPart_37 : decode cX8_levelPart 37 = .ok (.iconst 0, 1) := by decide +kernel
theorem dX8_levelPart_38 : decode cX8_levelPart 38 = .ok (.ireturn, 1) := by decide +kernel
theorem dX8_levelPart_39 : decode cX8_levelPart 39 = .ok (.iload_n 2, 1) := by decide +kernel
theorem dX8_levelPart_40 : decode cX8_levelPart 40 = .ok (.ifCond .ne 12, 3) := by decide +kernel
theorem dX8_levelPart_43 : decode cX8_levelPart 43 = .ok (.aload_n 0, 1) := by decide +kernel
theorem dX8_levelPart_44 : decode cX8_levelPart 44 = .ok (.getfield 7, 3) := by decide +kernel
theorem dX8_levelPart_47 : decode cX8_levelPart 47 = .ok (.iload_n 1, 1) := by decide +kernel
theorem dX8_levelPart_48 : decode cX8_levelPart 48 = .ok (.iaload, 1) := by decide +kernel
theorem dX8_levelPart_49 : decode cX8_levelPart 49 = .ok (.goto 37, 3) := by decide +kernel
theorem dX8_levelPart_52 : decode cX8_levelPart 52 = .ok (.iload_n 2, 1) := by decide +kernel
theorem dX8_levelPart_53 : decode cX8_levelPart 53 = .ok (.iconst 1, 1) := by decide +kernel
theorem dX8_levelPart_54 : decode cX8_levelPart 54 = .ok (.if_icmp .ne 12, 3) := by decide +kernel
theorem dX8_levelPart_57 : decode cX8_levelPart 57 = .ok (.aload_n 0, 1) := by decide +kernel
theorem dX8_levelPart_58 : decode cX8_levelPart 58 = .ok (.getfield 13, 3) := by decide +kernel
theorem dX8_levelPart_61 : decode cX8_levelPart 61 = .ok (.iload_n 1, 1) := by decide +kernel
theorem dX8_levelPart_62 : decode cX8_levelPart 62 = .ok (.iaload, 1) := by decide +kernel
theorem dX8_levelPart_63 : decode cX8_levelPart 63 = .ok (.goto 23, 3) := by decide +kernel
theorem dX8_levelPart_66 : decode cX8_levelPart 66 = .ok (.iload_n 2, 1) := by decide +kernel
theorem dX8_levelPart_67 : decode cX8_levelPart 67 = .ok (.iconst 2, 1) := by decide +kernel
theorem dX8_levelPart_68 : decode cX8_levelPart 68 = .ok (.if_icmp .ne 12, 3) := by decide +kernel
theorem dX8_levelPart_71 : decode cX8_levelPart 71 = .ok (.aload_n 0, 1) := by decide +kernel
theorem dX8_levelPart_72 : decode cX8_levelPart 72 = .ok (.getfield 16, 3) := by decide +kernel
theorem dX8_levelPart_75 : decode cX8_levelPart 75 = .ok (.iload_n 1, 1) := by decide +kernel
theorem dX8_levelPart_76 : decode cX8_levelPart 76 = .ok (.iaload, 1) := by decide +kernel
theorem dX8_levelPart_77 : decode cX8_levelPart 77 = .ok (.goto 9, 3) := by decide +kernel
theorem dX8_levelPart_80 : decode cX8_levelPart 80 = .ok (.aload_n 0, 1) := by decide +kernel
theorem dX8_levelPart_81 : decode cX8_levelPart 81 = .ok (.getfield 19, 3) := by decide +kernel
theorem dX8_levelPart_84 : decode cX8_levelPart 84 = .ok (.iload_n 1, 1) := by decide +kernel
theorem dX8_levelPart_85 : decode cX8_levelPart 85 = .ok (.iaload, 1) := by decide +kernel
theorem dX8_levelPart_86 : decode cX8_levelPart 86 = .ok (.ireturn, 1) := by decide +kernel
theorem dy_X8_levelPart : DY yX8_levelPart 2 := by decide +kernel
theorem dX8_declared_0 : decode cX8_declared 0 = .ok (.aload_n 0, 1) := by decide +kernel
theorem dX8_declared_1 : decode cX8_declared 1 = .ok (.aload_n 0, 1) := by decide +kernel
theorem dX8_declared_2 : decode cX8_declared 2 = .ok (.iload_n 1, 1) := by decide +kernel
theorem dX8_declared_3 : decode cX8_declared 3 = .ok (.invokevirtual 138, 3) := by decide +kernel
theorem dX8_declared_6 : decode cX8_declared 6 = .ok (.ifCond .ne 7, 3) := by decide +kernel
theorem dX8_declared_9 : decode cX8_declared 9 = .ok (.iconst 1, 1) := by decide +kernel
theorem dX8_declared_10 : decode cX8_declared 10 = .ok (.goto 17, 3) := by decide +kernel
theorem dX8_declared_13 : decode cX8_declared 13 = .ok (.iload_n 2, 1) := by decide +kernel
theorem dX8_declared_14 : decode cX8_declared 14 = .ok (.iconst 0, 1) := by decide +kernel
theorem dX8_declared_15 : decode cX8_declared 15 = .ok (.iconst 2, 1) := by decide +kernel
theorem dX8_declared_16 : decode cX8_declared 16 = .ok (.invokestatic 115, 3) := by decide +kernel
theorem dX8_declared_19 : decode cX8_declared 19 = .ok (.ifCond .ne 7, 3) := by decide +kernel
theorem dX8_declared_22 : decode cX8_declared 22 = .ok (.iconst 2, 1) := by decide +kernel
theorem dX8_declared_23 : decode cX8_declared 23 = .ok (.goto 4, 3) := by decide +kernel
theorem dX8_declared_26 : decode cX8_declared 26 = .ok (.iconst 0, 1) := by decide +kernel
theorem dX8_declared_27 : decode cX8_declared 27 = .ok (.putfield 106, 3) := by decide +kernel
theorem dX8_declared_30 : decode cX8_declared 30 = .ok (.aload_n 0, 1) := by decide +kernel
theorem dX8_declared_31 : decode cX8_declared 31 = .ok (.getfield 106, 3) := by decide +kernel
theorem dX8_declared_34 : decode cX8_declared 34 = .ok (.ifCond .le 5, 3) := by decide +kernel
theorem dX8_declared_37 : decode cX8_declared 37 = .ok (.iconst 0, 1) := by decide +kernel
theorem dX8_declared_38 : decode cX8_declared 38 = .ok (.ireturn, 1) := by decide +kernel
theorem dX8_declared_39 : decode cX8_declared 39 = .ok (.iload_n 2, 1) := by decide +kernel
theorem dX8_declared_40 : decode cX8_declared 40 = .ok (.ifCond .ne 12, 3) := by decide +kernel
theorem dX8_declared_43 : decode cX8_declared 43 = .ok (.aload_n 0, 1) := by decide +kernel
theorem dX8_declared_44 : decode cX8_declared 44 = .ok (.getfield 44, 3) := by decide +kernel
theorem dX8_declared_47 : decode cX8_declared 47 = .ok (.iload_n 1, 1) := by decide +kernel
theorem dX8_declared_48 : decode cX8_declared 48 = .ok (.iaload, 1) := by decide +kernel
theorem dX8_declared_49 : decode cX8_declared 49 = .ok (.goto 23, 3) := by decide +kernel
theorem dX8_declared_52 : decode cX8_declared 52 = .ok (.iload_n 2, 1) := by decide +kernel
theorem dX8_declared_53 : decode cX8_declared 53 = .ok (.iconst 1, 1) := by decide +kernel
theorem dX8_declared_54 : decode cX8_declared 54 = .ok (.if_icmp .ne 12, 3) := by decide +kernel
theorem dX8_declared_57 : decode cX8_declared 57 = .ok (.aload_n 0, 1) := by decide +kernel
theorem dX8_declared_58 : decode cX8_declared 58 = .ok (.getfield 47, 3) := by decide +kernel
theorem dX8_declared_61 : decode cX8_declared 61 = .ok (.iload_n 1, 1) := by decide +kernel
theorem dX8_declared_62 : decode cX8_declared 62 = .ok (.iaload, 1) := by decide +kernel
theorem dX8_declared_63 : decode cX8_declared 63 = .ok (.goto 9, 3) := by decide +kernel
theorem dX8_declared_66 : decode cX8_declared 66 = .ok (.aload_n 0, 1) := by decide +kernel
theorem dX8_declared_67 : decode cX8_declared 67 = .ok (.getfield 50, 3) := by decide +kernel
theorem dX8_declared_70 : decode cX8_declared 70 = .ok (.iload_n 1, 1) := by decide +kernel
theorem dX8_declared_71 : decode cX8_declared 71 = .ok (.iaload, 1) := by decide +kernel
theorem dX8_declared_72 : decode cX8_declared 72 = .ok (.ireturn, 1) := by decide +kernel
theorem dy_X8_declared : DY yX8_declared 2 := by decide +kernel
theorem dX8_told_0 : decode cX8_told 0 = .ok (.aload_n 0, 1) := by decide +kernel
theorem dX8_told_1 : decode cX8_told 1 = .ok (.iconst 0, 1) := by decide +kernel
theorem dX8_told_2 : decode cX8_told 2 = .ok (.putfield 106, 3) := by decide +kernel
theorem dX8_told_5 : decode cX8_told 5 = .ok (.iload_n 1, 1) := by decide +kernel
theorem dX8_told_6 : decode cX8_told 6 = .ok (.ifCond .ne 10, 3) := by decide +kernel
theorem dX8_told_9 : decode cX8_told 9 = .ok (.aload_n 0, 1) := by decide +kernel
theorem dX8_told_10 : decode cX8_told 10 = .ok (.getfield 22, 3) := by decide +kernel
theorem dX8_told_13 : decode cX8_told 13 = .ok (.goto 28, 3) := by decide +kernel
theorem dX8_told_16 : decode cX8_told 16 = .ok (.iload_n 1, 1) := by decide +kernel
theorem dX8_told_17 : decode cX8_told 17 = .ok (.iconst 1, 1) := by decide +kernel
theorem dX8_told_18 : decode cX8_told 18 = .ok (.if_icmp .ne 10, 3) := by decide +kernel
theorem dX8_told_21 : decode cX8_told 21 = .ok (.aload_n 0, 1) := by decide +kernel
theorem dX8_told_22 : decode cX8_told 22 = .ok (.getfield 109, 3) := by decide +kernel
theorem dX8_told_25 : decode cX8_told 25 = .ok (.goto 16, 3) := by decide +kernel
theorem dX8_told_28 : decode cX8_told 28 = .ok (.iload_n 1, 1) := by decide +kernel
theorem dX8_told_29 : decode cX8_told 29 = .ok (.iconst 2, 1) := by decide +kernel
theorem dX8_told_30 : decode cX8_told 30 = .ok (.if_icmp .ne 10, 3) := by decide +kernel
theorem dX8_told_33 : decode cX8_told 33 = .ok (.aload_n 0, 1) := by decide +kernel
theorem dX8_told_34 : decode cX8_told 34 = .ok (.getfield 112, 3) := by decide +kernel
theorem dX8_told_37 : decode cX8_told 37 = .ok (.goto 4, 3) := by decide +kernel
theorem dX8_told_40 : decode cX8_told 40 = .ok (.iconst (-1), 1) := by decide +kernel
theorem dX8_told_41 : decode cX8_told 41 = .ok (.ireturn, 1) := by decide +kernel
theorem dy_X8_told : DY yX8_told 1 := by decide +kernel
abbrev rm_X8_thrown : Room := { frames := 0, cells := 0, slots := 0, locals := 0 }
abbrev rm_X8_clear : Room := { frames := 0, cells := 0, slots := 0, locals := 0 }
abbrev rm_X8_level : Room := { frames := 2, cells := 0, slots := 0, locals := 43 }
abbrev rm_X8_sort : Room := { frames := 2, cells := 0, slots := 0, locals := 53 }
abbrev rm_X8_variable : Room := { frames := 2, cells := 0, slots := 0, locals := 53 }
abbrev rm_X8_name : Room := { frames := 2, cells := 0, slots := 0, locals := 53 }
abbrev rm_X8_term : Room := { frames := 2, cells := 0, slots := 0, locals := 53 }
abbrev rm_X8_let : Room := { frames := 2, cells := 0, slots := 0, locals := 53 }
abbrev rm_X8_type : Room := { frames := 413, cells := 0, slots := 0, locals := 16390 }
abbrev rm_X8_normal : Room := { frames := 5, cells := 0, slots := 0, locals := 132 }
abbrev rm_X8_steps : Room := { frames := 5, cells := 0, slots := 0, locals := 128 }
abbrev rm_X8_same : Room := { frames := 5, cells := 0, slots := 0, locals := 134 }
abbrev rm_X8_declare : Room := { frames := 415, cells := 0, slots := 0, locals := 16458 }
abbrev rm_X8_atMost : Room := { frames := 3, cells := 0, slots := 0, locals := 82 }
abbrev rm_X8_value : Room := { frames := 2, cells := 0, slots := 0, locals := 53 }
abbrev rm_X8_part : Room := { frames := 2, cells := 0, slots := 0, locals := 43 }
abbrev rm_X8_levelPart : Room := { frames := 2, cells := 0, slots := 0, locals := 43 }
abbrev rm_X8_declared : Room := { frames := 2, cells := 0, slots := 0, locals := 43 }
abbrev rm_X8_told : Room := { frames := 0, cells := 0, slots := 0, locals := 0 }
def f_X8_thrown (n : Nat) (S : St) : Option (St × Int32) :=
  some (S, (S.1 350 0))
set_option maxRecDepth 100000 in
set_option maxHeartbeats 4000000 in
theorem t_X8_thrown_0 {n : Nat} {x : XC} (hx : CX x cX8_thrown 1 RX8) (hR : x_R x = rm_X8_thrown) (hKS : ∀ k ∈ KM, k ∈ x_K x) {out : St × Int32} (hE : EI x cX8_thrown out) {S : St} (h : f_X8_thrown n S  = some out) : WX x 1 0 0 S 0 [(0, .ref (x_ad x 0 7 0))] [] := by
  unfold f_X8_thrown at h
  refine r_aload_n (k0 := 0) hx dX8_thrown_0 rfl rfl ?_
  refine g_350 hx (k_0_7 hKS) wf_X8_106 dX8_thrown_1 ?_
  exact r_iret hE h dX8_thrown_4
set_option maxHeartbeats 4000000 in
theorem C_X8_thrown {n : Nat} {c : YC} (hKS : ∀ k ∈ KM, k ∈ c.2.2.2.2) {S : St} {out : St × Int32} (h : f_X8_thrown n S  = some out) : MI c yX8_thrown cX8_thrown 1 (some .int) rm_X8_thrown S [.ref (c.2.2.1 0 7 0)] out := mk_I (own := RX8) (by decide +kernel) rfl (Nat.le_of_ble_eq_true rfl) (fun x hx hR hy hE => by subst hy; exact t_X8_thrown_0 hx hR hKS hE h)
def f_X8_clear (n : Nat) (S : St) : Option (St) :=
  pS S 350 0 0 fun S1 =>
  pS S1 355 0 1 fun S3 =>
  pI S3 351 0 0 300 0 fun S5 =>
  pI S5 352 0 0 300 (-1) fun S8 =>
  pI S8 353 0 0 300 (-1) fun S11 =>
  pI S11 354 0 0 300 1 fun S14 =>
  pS S14 362 0 0 fun S17 =>
  pS S17 366 0 0 fun S19 =>
  some S19
set_option maxRecDepth 100000 in
set_option maxHeartbeats 4000000 in
theorem t_X8_clear_0 {n : Nat} {x : XC} (hx : CX x cX8_clear 1 RX8) (hR : x_R x = rm_X8_clear) (hKS : ∀ k ∈ KM, k ∈ x_K x) {out : St} (hE : EV x cX8_clear out) {S : St} (h : f_X8_clear n S  = some out) : WX x 1 0 0 S 0 [(0, .ref (x_ad x 0 7 0))] [] := by
  unfold f_X8_clear at h
  refine r_aload_n (k0 := 0) hx dX8_clear_0 rfl rfl ?_
  refine r_iconst (v := 0) hx dX8_clear_1 (by decide) ?_
  obtain ⟨S1, e2, h⟩ := pS_some h
  refine p_350 hx (k_0_7 hKS) wf_X8_106 dX8_clear_2 e2 ?_
  refine r_aload_n (k0 := 0) hx dX8_clear_5 rfl rfl ?_
  refine r_iconst (v := 1) hx dX8_clear_6 (by decide) ?_
  obtain ⟨S3, e4, h⟩ := pS_some h
  refine p_355 hx (k_0_7 hKS) wf_X8_22 dX8_clear_7 e4 ?_
  refine r_aload_n (k0 := 0) hx dX8_clear_10 rfl rfl ?_
  refine g_351 hx (k_0_7 hKS) wf_X8_7 dX8_clear_11 ?_
  refine r_iconst (v := 0) hx dX8_clear_14 (by decide) ?_
  refine r_iconst (v := 0) hx dX8_clear_15 (by decide) ?_
  obtain ⟨S5, e6, i7, h⟩ := pI_some h
  refine r_iast hx (k_1_351 hKS) rfl i7 e6 dX8_clear_16 ?_
  refine r_aload_n (k0 := 0) hx dX8_clear_17 rfl rfl ?_
  refine g_352 hx (k_0_7 hKS) wf_X8_13 dX8_clear_18 ?_
  refine r_iconst (v := 0) hx dX8_clear_21 (by decide) ?_
  refine r_iconst (v := -1) hx dX8_clear_22 (by decide) ?_
  obtain ⟨S8, e9, i10, h⟩ := pI_some h
  refine r_iast hx (k_1_352 hKS) rfl i10 e9 dX8_clear_23 ?_
  refine r_aload_n (k0 := 0) hx dX8_clear_24 rfl rfl ?_
  refine g_353 hx (k_0_7 hKS) wf_X8_16 dX8_clear_25 ?_
  refine r_iconst (v := 0) hx dX8_clear_28 (by decide) ?_
  refine r_iconst (v := -1) hx dX8_clear_29 (by decide) ?_
  obtain ⟨S11, e12, i13, h⟩ := pI_some h
  refine r_iast hx (k_1_353 hKS) rfl i13 e12 dX8_clear_30 ?_
  refine r_aload_n (k0 := 0) hx dX8_clear_31 rfl rfl ?_
  refine g_354 hx (k_0_7 hKS) wf_X8_19 dX8_clear_32 ?_
  refine r_iconst (v := 0) hx dX8_clear_35 (by decide) ?_
  refine r_iconst (v := 1) hx dX8_clear_36 (by decide) ?_
  obtain ⟨S14, e15, i16, h⟩ := pI_some h
  refine r_iast hx (k_1_354 hKS) rfl i16 e15 dX8_clear_37 ?_
  refine r_aload_n (k0 := 0) hx dX8_clear_38 rfl rfl ?_
  refine r_iconst (v := 0) hx dX8_clear_39 (by decide) ?_
  obtain ⟨S17, e18, h⟩ := pS_some h
  refine p_362 hx (k_0_7 hKS) wf_X8_109 dX8_clear_40 e18 ?_
  refine r_aload_n (k0 := 0) hx dX8_clear_43 rfl rfl ?_
  refine r_iconst (v := 0) hx dX8_clear_44 (by decide) ?_
  obtain ⟨S19, e20, h⟩ := pS_some h
  refine p_366 hx (k_0_7 hKS) wf_X8_112 dX8_clear_45 e20 ?_
  exact r_vret hE h dX8_clear_48
set_option maxHeartbeats 4000000 in
theorem C_X8_clear {n : Nat} {c : YC} (hKS : ∀ k ∈ KM, k ∈ c.2.2.2.2) {S : St} {out : St} (h : f_X8_clear n S  = some out) : MV c yX8_clear cX8_clear 1 none rm_X8_clear S [.ref (c.2.2.1 0 7 0)] out := mk_V (own := RX8) (by decide +kernel) rfl (Nat.le_of_ble_eq_true rfl) (fun x hx hR hy hE => by subst hy; exact t_X8_clear_0 hx hR hKS hE h)
def j_X8_level_111 (n : Nat) (S : St) (l4 : Int32) (s0 : Int32) : Option (St × Int32) :=
  pS S 350 0 s0 fun S1 =>
  if 0 ≤ l4 then
    some (S1, l4)
  else
    some (S1, 0)
def j_X8_level_95 (n : Nat) (S : St) (s0 : Int32) (s1 : Int32) (s2 : Int32) : Option (St × Int32) :=
  bI (f_X8_numberOfLevel n S s2 s1 s0) fun S1 v3 =>
  if 0 ≤ v3 then
    j_X8_level_111 n S1 v3 0
  else
    j_X8_level_111 n S1 v3 3
def j_X8_level_90 (n : Nat) (S : St) (l3 : Int32) (s0 : Int32) (s1 : Int32) : Option (St × Int32) :=
  j_X8_level_95 n S l3 s0 s1
def j_X8_level_65 (n : Nat) (S : St) (l1 : Int32) (l2 : Int32) (l3 : Int32) (s0 : Int32) : Option (St × Int32) :=
  pS S 350 0 s0 fun S1 =>
  if (S1.1 350 0) ≤ 0 then
    if l1 = 2 then
      j_X8_level_90 n S1 l3 l2 l1
    else
      if l1 = 3 then
        j_X8_level_90 n S1 l3 l2 l1
      else
        j_X8_level_95 n S1 (-1) l2 l1
  else
    some (S1, 0)
def j_X8_level_25 (n : Nat) (S : St) (l1 : Int32) (l2 : Int32) (l3 : Int32) : Option (St × Int32) :=
  j_X8_level_65 n S l1 l2 l3 1
def j_X8_level_60 (n : Nat) (S : St) (l1 : Int32) (l2 : Int32) (l3 : Int32) : Option (St × Int32) :=
  j_X8_level_65 n S l1 l2 l3 2
def j_X8_level_64 (n : Nat) (S : St) (l1 : Int32) (l2 : Int32) (l3 : Int32) : Option (St × Int32) :=
  j_X8_level_65 n S l1 l2 l3 0
def j_X8_level_52 (n : Nat) (S : St) (l1 : Int32) (l2 : Int32) (l3 : Int32) : Option (St × Int32) :=
  bI (f_X8_isLevel n S l3) fun S1 v3 =>
  if v3 = 0 then
    j_X8_level_60 n S1 l1 l2 l3
  else
    j_X8_level_64 n S1 l1 l2 l3
def j_X8_level_42 (n : Nat) (S : St) (l1 : Int32) (l2 : Int32) (l3 : Int32) : Option (St × Int32) :=
  if l1 = 2 then
    j_X8_level_52 n S l1 l2 l3
  else
    if l1 = 3 then
      j_X8_level_52 n S l1 l2 l3
    else
      j_X8_level_64 n S l1 l2 l3
def j_X8_level_29 (n : Nat) (S : St) (l1 : Int32) (l2 : Int32) (l3 : Int32) : Option (St × Int32) :=
  if 4 ≤ l1 then
    j_X8_level_42 n S l1 l2 l3
  else
    bI (f_X8_isLevel n S l2) fun S2 v4 =>
    if v4 = 0 then
      j_X8_level_60 n S2 l1 l2 l3
    else
      j_X8_level_42 n S2 l1 l2 l3
def f_X8_level (n : Nat) (S : St) (a1 : Int32) (a2 : Int32) (a3 : Int32) : Option (St × Int32) :=
  if a1 < 1 then
    j_X8_level_25 n S a1 a2 a3
  else
    if 4 < a1 then
      j_X8_level_25 n S a1 a2 a3
    else
      if a1 = 4 then
        bI (f_X8_isIn n S a2 0 2) fun S4 v6 =>
        if v6 = 0 then
          j_X8_level_25 n S4 a1 a2 a3
        else
          j_X8_level_29 n S4 a1 a2 a3
      else
        j_X8_level_29 n S a1 a2 a3
set_option maxRecDepth 100000 in
set_option maxHeartbeats 4000000 in
theorem t_X8_level_111 {n : Nat} {x : XC} (hx : CX x cX8_level 5 RX8) (hR : x_R x = rm_X8_level) (hKS : ∀ k ∈ KM, k ∈ x_K x) {out : St × Int32} (hE : EI x cX8_level out) {S : St} {l4 : Int32} {s0 : Int32} (h : j_X8_level_111 n S l4 s0 = some out) : WX x 5 0 0 S 111 [(4, .int l4)] [.int s0, .ref (x_ad x 0 7 0)] := by
  unfold j_X8_level_111 at h
  obtain ⟨S1, e2, h⟩ := pS_some h
  refine p_350 hx (k_0_7 hKS) wf_X8_106 dX8_level_111 e2 ?_
  refine r_iload (k0 := 0) hx dX8_level_114 rfl ?_
  refine r_if_ge (tgt := 123) hx dX8_level_116 (by decide) (fun c3 => ?_) (fun c3 => ?_)
  · have h := ite_t h c3
    refine r_iload (k0 := 0) hx dX8_level_123 rfl ?_
    exact r_iret hE h dX8_level_125
  · have h := ite_f h c3
    refine r_iconst (v := 0) hx dX8_level_119 (by decide) ?_
    refine r_goto (tgt := 125) hx dX8_level_120 (by decide) ?_
    exact r_iret hE h dX8_level_125
set_option maxRecDepth 100000 in
set_option maxHeartbeats 4000000 in
theorem t_X8_level_95 {n : Nat} {x : XC} (hx : CX x cX8_level 5 RX8) (hR : x_R x = rm_X8_level) (hKS : ∀ k ∈ KM, k ∈ x_K x) {out : St × Int32} (hE : EI x cX8_level out) {S : St} {s0 : Int32} {s1 : Int32} {s2 : Int32} (h : j_X8_level_95 n S s0 s1 s2 = some out) : WX x 5 0 0 S 95 [(0, .ref (x_ad x 0 7 0))] [.int s0, .int s1, .int s2, .ref (x_ad x 0 7 0)] := by
  unfold j_X8_level_95 at h
  obtain ⟨S1, v3, c2, h⟩ := bI_some h
  refine r_Vi (ci := 7) (As := [.int s2, .int s1, .int s0]) (rest := []) hx (C_X8_numberOfLevel (c := x_y x) hKS c2) (k_0_7 hKS) rfl wl_X8_127 wi_X8_numberOfLevel we_X8_numberOfLevel wn_X8 wc_X8_numberOfLevel dy_X8_numberOfLevel rfl (by rw [hR]; decide +kernel) rfl (Nat.le_of_ble_eq_true rfl) dX8_level_95 ?_
  refine r_istore (lv' := [(4, .int v3), (0, .ref (x_ad x 0 7 0))]) hx dX8_level_98 (by decide) rfl ?_
  refine r_aload_n (k0 := 1) hx dX8_level_100 rfl rfl ?_
  refine r_iload (k0 := 0) hx dX8_level_101 rfl ?_
  refine r_if_ge (tgt := 110) hx dX8_level_103 (by decide) (fun c4 => ?_) (fun c4 => ?_)
  · have h := ite_t h c4
    refine r_iconst (v := 0) hx dX8_level_110 (by decide) ?_
    refine WX.sub (lv' := [(4, .int v3)]) ?_ [0] rfl
    exact t_X8_level_111 hx hR hKS hE h
  · have h := ite_f h c4
    refine r_iconst (v := 3) hx dX8_level_106 (by decide) ?_
    refine r_goto (tgt := 111) hx dX8_level_107 (by decide) ?_
    refine WX.sub (lv' := [(4, .int v3)]) ?_ [0] rfl
    exact t_X8_level_111 hx hR hKS hE h
set_option maxRecDepth 100000 in
set_option maxHeartbeats 4000000 in
theorem t_X8_level_90 {n : Nat} {x : XC} (hx : CX x cX8_level 5 RX8) (hR : x_R x = rm_X8_level) (hKS : ∀ k ∈ KM, k ∈ x_K x) {out : St × Int32} (hE : EI x cX8_level out) {S : St} {l3 : Int32} {s0 : Int32} {s1 : Int32} (h : j_X8_level_90 n S l3 s0 s1 = some out) : WX x 5 0 0 S 90 [(0, .ref (x_ad x 0 7 0)), (3, .int l3)] [.int s0, .int s1, .ref (x_ad x 0 7 0)] := by
  unfold j_X8_level_90 at h
  refine r_iload_n (k0 := 1) hx dX8_level_90 rfl rfl ?_
  refine r_goto (tgt := 95) hx dX8_level_91 (by decide) ?_
  refine WX.sub (lv' := [(0, .ref (x_ad x 0 7 0))]) ?_ [0] rfl
  exact t_X8_level_95 hx hR hKS hE h
set_option maxRecDepth 100000 in
set_option maxHeartbeats 4000000 in
theorem t_X8_level_65 {n : Nat} {x : XC} (hx : CX x cX8_level 5 RX8) (hR : x_R x = rm_X8_level) (hKS : ∀ k ∈ KM, k ∈ x_K x) {out : St × Int32} (hE : EI x cX8_level out) {S : St} {l1 : Int32} {l2 : Int32} {l3 : Int32} {s0 : Int32} (h : j_X8_level_65 n S l1 l2 l3 s0 = some out) : WX x 5 0 0 S 65 [(0, .ref (x_ad x 0 7 0)), (1, .int l1), (2, .int l2), (3, .int l3)] [.int s0, .ref (x_ad x 0 7 0)] := by
  unfold j_X8_level_65 at h
  obtain ⟨S1, e2, h⟩ := pS_some h
  refine p_350 hx (k_0_7 hKS) wf_X8_106 dX8_level_65 e2 ?_
  refine r_aload_n (k0 := 0) hx dX8_level_68 rfl rfl ?_
  refine g_350 hx (k_0_7 hKS) wf_X8_106 dX8_level_69 ?_
  refine r_if_le (tgt := 77) hx dX8_level_72 (by decide) (fun c3 => ?_) (fun c3 => ?_)
  · have h := ite_t h c3
    refine r_aload_n (k0 := 0) hx dX8_level_77 rfl rfl ?_
    refine r_iload_n (k0 := 1) hx dX8_level_78 rfl rfl ?_
    refine r_iload_n (k0 := 2) hx dX8_level_79 rfl rfl ?_
    refine r_iload_n (k0 := 1) hx dX8_level_80 rfl rfl ?_
    refine r_iconst (v := 2) hx dX8_level_81 (by decide) ?_
    refine r_icmp_eq (tgt := 90) hx dX8_level_82 (by decide) (fun c4 => ?_) (fun c4 => ?_)
    · have h := ite_t h c4
      refine WX.sub (lv' := [(0, .ref (x_ad x 0 7 0)), (3, .int l3)]) ?_ [0, 3] rfl
      exact t_X8_level_90 hx hR hKS hE h
    · have h := ite_f h c4
      refine r_iload_n (k0 := 1) hx dX8_level_85 rfl rfl ?_
      refine r_iconst (v := 3) hx dX8_level_86 (by decide) ?_
      refine r_icmp_ne (tgt := 94) hx dX8_level_87 (by decide) (fun c5 => ?_) (fun c5 => ?_)
      · have h := ite_f h c5
        refine r_iconst (v := -1) hx dX8_level_94 (by decide) ?_
        refine WX.sub (lv' := [(0, .ref (x_ad x 0 7 0))]) ?_ [0] rfl
        exact t_X8_level_95 hx hR hKS hE h
      · have h := ite_t h c5
        refine WX.sub (lv' := [(0, .ref (x_ad x 0 7 0)), (3, .int l3)]) ?_ [0, 3] rfl
        exact t_X8_level_90 hx hR hKS hE h
  · have h := ite_f h c3
    refine r_iconst (v := 0) hx dX8_level_75 (by decide) ?_
    exact r_iret hE h dX8_level_76
set_option maxRecDepth 100000 in
set_option maxHeartbeats 4000000 in
theorem t_X8_level_25 {n : Nat} {x : XC} (hx : CX x cX8_level 5 RX8) (hR : x_R x = rm_X8_level) (hKS : ∀ k ∈ KM, k ∈ x_K x) {out : St × Int32} (hE : EI x cX8_level out) {S : St} {l1 : Int32} {l2 : Int32} {l3 : Int32} (h : j_X8_level_25 n S l1 l2 l3 = some out) : WX x 5 0 0 S 25 [(0, .ref (x_ad x 0 7 0)), (1, .int l1), (2, .int l2), (3, .int l3)] [.ref (x_ad x 0 7 0)] := by
  unfold j_X8_level_25 at h
  refine r_iconst (v := 1) hx dX8_level_25 (by decide) ?_
  refine r_goto (tgt := 65) hx dX8_level_26 (by decide) ?_
  exact t_X8_level_65 hx hR hKS hE h
set_option maxRecDepth 100000 in
set_option maxHeartbeats 4000000 in
theorem t_X8_level_60 {n : Nat} {x : XC} (hx : CX x cX8_level 5 RX8) (hR : x_R x = rm_X8_level) (hKS : ∀ k ∈ KM, k ∈ x_K x) {out : St × Int32} (hE : EI x cX8_level out) {S : St} {l1 : Int32} {l2 : Int32} {l3 : Int32} (h : j_X8_level_60 n S l1 l2 l3 = some out) : WX x 5 0 0 S 60 [(0, .ref (x_ad x 0 7 0)), (1, .int l1), (2, .int l2), (3, .int l3)] [.ref (x_ad x 0 7 0)] := by
  unfold j_X8_level_60 at h
  refine r_iconst (v := 2) hx dX8_level_60 (by decide) ?_
  refine r_goto (tgt := 65) hx dX8_level_61 (by decide) ?_
  exact t_X8_level_65 hx hR hKS hE h
set_option maxRecDepth 100000 in
set_option maxHeartbeats 4000000 in
theorem t_X8_level_64 {n : Nat} {x : XC} (hx : CX x cX8_level 5 RX8) (hR : x_R x = rm_X8_level) (hKS : ∀ k ∈ KM, k ∈ x_K x) {out : St × Int32} (hE : EI x cX8_level out) {S : St} {l1 : Int32} {l2 : Int32} {l3 : Int32} (h : j_X8_level_64 n S l1 l2 l3 = some out) : WX x 5 0 0 S 64 [(0, .ref (x_ad x 0 7 0)), (1, .int l1), (2, .int l2), (3, .int l3)] [.ref (x_ad x 0 7 0)] := by
  unfold j_X8_level_64 at h
  refine r_iconst (v := 0) hx dX8_level_64 (by decide) ?_
  exact t_X8_level_65 hx hR hKS hE h
set_option maxRecDepth 100000 in
set_option maxHeartbeats 4000000 in
theorem t_X8_level_52 {n : Nat} {x : XC} (hx : CX x cX8_level 5 RX8) (hR : x_R x = rm_X8_level) (hKS : ∀ k ∈ KM, k ∈ x_K x) {out : St × Int32} (hE : EI x cX8_level out) {S : St} {l1 : Int32} {l2 : Int32} {l3 : Int32} (h : j_X8_level_52 n S l1 l2 l3 = some out) : WX x 5 0 0 S 52 [(0, .ref (x_ad x 0 7 0)), (1, .int l1), (2, .int l2), (3, .int l3)] [.ref (x_ad x 0 7 0)] := by
  unfold j_X8_level_52 at h
  refine r_aload_n (k0 := 0) hx dX8_level_52 rfl rfl ?_
  refine r_iload_n (k0 := 3) hx dX8_level_53 rfl rfl ?_
  obtain ⟨S1, v3, c2, h⟩ := bI_some h
  refine r_Vi (ci := 7) (As := [.int l3]) (rest := [.ref (x_ad x 0 7 0)]) hx (C_X8_isLevel (c := x_y x) hKS c2) (k_0_7 hKS) rfl wl_X8_123 wi_X8_isLevel we_X8_isLevel wn_X8 wc_X8_isLevel dy_X8_isLevel rfl (by rw [hR]; decide +kernel) rfl (Nat.le_of_ble_eq_true rfl) dX8_level_54 ?_
  refine r_if_ne (tgt := 64) hx dX8_level_57 (by decide) (fun c4 => ?_) (fun c4 => ?_)
  · have h := ite_f h c4
    exact t_X8_level_64 hx hR hKS hE h
  · have h := ite_t h c4
    exact t_X8_level_60 hx hR hKS hE h
set_option maxRecDepth 100000 in
set_option maxHeartbeats 4000000 in
theorem t_X8_level_42 {n : Nat} {x : XC} (hx : CX x cX8_level 5 RX8) (hR : x_R x = rm_X8_level) (hKS : ∀ k ∈ KM, k ∈ x_K x) {out : St × Int32} (hE : EI x cX8_level out) {S : St} {l1 : Int32} {l2 : Int32} {l3 : Int32} (h : j_X8_level_42 n S l1 l2 l3 = some out) : WX x 5 0 0 S 42 [(0, .ref (x_ad x 0 7 0)), (1, .int l1), (2, .int l2), (3, .int l3)] [.ref (x_ad x 0 7 0)] := by
  unfold j_X8_level_42 at h
  refine r_iload_n (k0 := 1) hx dX8_level_42 rfl rfl ?_
  refine r_iconst (v := 2) hx dX8_level_43 (by decide) ?_
  refine r_icmp_eq (tgt := 52) hx dX8_level_44 (by decide) (fun c1 => ?_) (fun c1 => ?_)
  · have h := ite_t h c1
    exact t_X8_level_52 hx hR hKS hE h
  · have h := ite_f h c1
    refine r_iload_n (k0 := 1) hx dX8_level_47 rfl rfl ?_
    refine r_iconst (v := 3) hx dX8_level_48 (by decide) ?_
    refine r_icmp_ne (tgt := 64) hx dX8_level_49 (by decide) (fun c2 => ?_) (fun c2 => ?_)
    · have h := ite_f h c2
      exact t_X8_level_64 hx hR hKS hE h
    · have h := ite_t h c2
      exact t_X8_level_52 hx hR hKS hE h
set_option maxRecDepth 100000 in
set_option maxHeartbeats 4000000 in
theorem t_X8_level_29 {n : Nat} {x : XC} (hx : CX x cX8_level 5 RX8) (hR : x_R x = rm_X8_level) (hKS : ∀ k ∈ KM, k ∈ x_K x) {out : St × Int32} (hE : EI x cX8_level out) {S : St} {l1 : Int32} {l2 : Int32} {l3 : Int32} (h : j_X8_level_29 n S l1 l2 l3 = some out) : WX x 5 0 0 S 29 [(0, .ref (x_ad x 0 7 0)), (1, .int l1), (2, .int l2), (3, .int l3)] [.ref (x_ad x 0 7 0)] := by
  unfold j_X8_level_29 at h
  refine r_iload_n (k0 := 1) hx dX8_level_29 rfl rfl ?_
  refine r_iconst (v := 4) hx dX8_level_30 (by decide) ?_
  refine r_icmp_ge (tgt := 42) hx dX8_level_31 (by decide) (fun c1 => ?_) (fun c1 => ?_)
  · have h := ite_t h c1
    exact t_X8_level_42 hx hR hKS hE h
  · have h := ite_f h c1
    refine r_aload_n (k0 := 0) hx dX8_level_34 rfl rfl ?_
    refine r_iload_n (k0 := 2) hx dX8_level_35 rfl rfl ?_
    obtain ⟨S2, v4, c3, h⟩ := bI_some h
    refine r_Vi (ci := 7) (As := [.int l2]) (rest := [.ref (x_ad x 0 7 0)]) hx (C_X8_isLevel (c := x_y x) hKS c3) (k_0_7 hKS) rfl wl_X8_123 wi_X8_isLevel we_X8_isLevel wn_X8 wc_X8_isLevel dy_X8_isLevel rfl (by rw [hR]; decide +kernel) rfl (Nat.le_of_ble_eq_true rfl) dX8_level_36 ?_
    refine r_if_eq (tgt := 60) hx dX8_level_39 (by decide) (fun c5 => ?_) (fun c5 => ?_)
    · have h := ite_t h c5
      exact t_X8_level_60 hx hR hKS hE h
    · have h := ite_f h c5
      exact t_X8_level_42 hx hR hKS hE h
set_option maxRecDepth 100000 in
set_option maxHeartbeats 4000000 in
theorem t_X8_level_0 {n : Nat} {x : XC} (hx : CX x cX8_level 5 RX8) (hR : x_R x = rm_X8_level) (hKS : ∀ k ∈ KM, k ∈ x_K x) {out : St × Int32} (hE : EI x cX8_level out) {S : St} {a1 : Int32} {a2 : Int32} {a3 : Int32} (h : f_X8_level n S a1 a2 a3 = some out) : WX x 5 0 0 S 0 [(0, .ref (x_ad x 0 7 0)), (1, .int a1), (2, .int a2), (3, .int a3)] [] := by
  unfold f_X8_level at h
  refine r_aload_n (k0 := 0) hx dX8_level_0 rfl rfl ?_
  refine r_iload_n (k0 := 1) hx dX8_level_1 rfl rfl ?_
  refine r_iconst (v := 1) hx dX8_level_2 (by decide) ?_
  refine r_icmp_lt (tgt := 25) hx dX8_level_3 (by decide) (fun c1 => ?_) (fun c1 => ?_)
  · have h := ite_t h c1
    exact t_X8_level_25 hx hR hKS hE h
  · have h := ite_f h c1
    refine r_iload_n (k0 := 1) hx dX8_level_6 rfl rfl ?_
    refine r_iconst (v := 4) hx dX8_level_7 (by decide) ?_
    refine r_icmp_gt (tgt := 25) hx dX8_level_8 (by decide) (fun c2 => ?_) (fun c2 => ?_)
    · have h := ite_t h c2
      exact t_X8_level_25 hx hR hKS hE h
    · have h := ite_f h c2
      refine r_iload_n (k0 := 1) hx dX8_level_11 rfl rfl ?_
      refine r_iconst (v := 4) hx dX8_level_12 (by decide) ?_
      refine r_icmp_ne (tgt := 29) hx dX8_level_13 (by decide) (fun c3 => ?_) (fun c3 => ?_)
      · have h := ite_f h c3
        exact t_X8_level_29 hx hR hKS hE h
      · have h := ite_t h c3
        refine r_iload_n (k0 := 2) hx dX8_level_16 rfl rfl ?_
        refine r_iconst (v := 0) hx dX8_level_17 (by decide) ?_
        refine r_iconst (v := 2) hx dX8_level_18 (by decide) ?_
        obtain ⟨S4, v6, c5, h⟩ := bI_some h
        refine r_Si (As := [.int a2, .int 0, .int 2]) (rest := [.ref (x_ad x 0 7 0)]) hx (C_X8_isIn (c := x_y x) hKS c5) wl_X8_115 wt_X8_isIn wn_X8 wc_X8_isIn dy_X8_isIn rfl (by rw [hR]; decide +kernel) rfl (Nat.le_of_ble_eq_true rfl) dX8_level_19 ?_
        refine r_if_ne (tgt := 29) hx dX8_level_22 (by decide) (fun c7 => ?_) (fun c7 => ?_)
        · have h := ite_f h c7
          exact t_X8_level_29 hx hR hKS hE h
        · have h := ite_t h c7
          exact t_X8_level_25 hx hR hKS hE h
set_option maxHeartbeats 4000000 in
theorem C_X8_level {n : Nat} {c : YC} (hKS : ∀ k ∈ KM, k ∈ c.2.2.2.2) {S : St} {a1 : Int32} {a2 : Int32} {a3 : Int32} {out : St × Int32} (h : f_X8_level n S a1 a2 a3 = some out) : MI c yX8_level cX8_level 5 (some .int) rm_X8_level S [.ref (c.2.2.1 0 7 0), .int a1, .int a2, .int a3] out := mk_I (own := RX8) (by decide +kernel) rfl (Nat.le_of_ble_eq_true rfl) (fun x hx hR hy hE => by subst hy; exact t_X8_level_0 hx hR hKS hE h)
def j_X8_sort_14 (n : Nat) (S : St) (l1 : Int32) (s0 : Int32) : Option (St × Int32) :=
  pS S 350 0 s0 fun S1 =>
  if (S1.1 350 0) ≤ 0 then
    bI (f_X8_numberOfTerm n S1 0 l1 (-1) (-1)) fun S4 v6 =>
    bI (f_X8_orFull n S4 v6 2) fun S7 v9 =>
    some (S7, v9)
  else
    some (S1, 0)
def f_X8_sort (n : Nat) (S : St) (a1 : Int32) : Option (St × Int32) :=
  bI (f_X8_isLevel n S a1) fun S1 v3 =>
  if v3 = 0 then
    j_X8_sort_14 n S1 a1 1
  else
    j_X8_sort_14 n S1 a1 0
set_option maxRecDepth 100000 in
set_option maxHeartbeats 4000000 in
theorem t_X8_sort_14 {n : Nat} {x : XC} (hx : CX x cX8_sort 2 RX8) (hR : x_R x = rm_X8_sort) (hKS : ∀ k ∈ KM, k ∈ x_K x) {out : St × Int32} (hE : EI x cX8_sort out) {S : St} {l1 : Int32} {s0 : Int32} (h : j_X8_sort_14 n S l1 s0 = some out) : WX x 2 0 0 S 14 [(0, .ref (x_ad x 0 7 0)), (1, .int l1)] [.int s0, .ref (x_ad x 0 7 0)] := by
  unfold j_X8_sort_14 at h
  obtain ⟨S1, e2, h⟩ := pS_some h
  refine p_350 hx (k_0_7 hKS) wf_X8_106 dX8_sort_14 e2 ?_
  refine r_aload_n (k0 := 0) hx dX8_sort_17 rfl rfl ?_
  refine g_350 hx (k_0_7 hKS) wf_X8_106 dX8_sort_18 ?_
  refine r_if_le (tgt := 28) hx dX8_sort_21 (by decide) (fun c3 => ?_) (fun c3 => ?_)
  · have h := ite_t h c3
    refine r_aload_n (k0 := 0) hx dX8_sort_28 rfl rfl ?_
    refine r_aload_n (k0 := 0) hx dX8_sort_29 rfl rfl ?_
    refine r_iconst (v := 0) hx dX8_sort_30 (by decide) ?_
    refine r_iload_n (k0 := 1) hx dX8_sort_31 rfl rfl ?_
    refine r_iconst (v := -1) hx dX8_sort_32 (by decide) ?_
    refine r_iconst (v := -1) hx dX8_sort_33 (by decide) ?_
    obtain ⟨S4, v6, c5, h⟩ := bI_some h
    refine r_Vi (ci := 7) (As := [.int 0, .int l1, .int (-1), .int (-1)]) (rest := [.ref (x_ad x 0 7 0)]) hx (C_X8_numberOfTerm (c := x_y x) hKS c5) (k_0_7 hKS) rfl wl_X8_131 wi_X8_numberOfTerm we_X8_numberOfTerm wn_X8 wc_X8_numberOfTerm dy_X8_numberOfTerm rfl (by rw [hR]; decide +kernel) rfl (Nat.le_of_ble_eq_true rfl) dX8_sort_34 ?_
    refine r_iconst (v := 2) hx dX8_sort_37 (by decide) ?_
    obtain ⟨S7, v9, c8, h⟩ := bI_some h
    refine r_Vi (ci := 7) (As := [.int v6, .int 2]) (rest := []) hx (C_X8_orFull (c := x_y x) hKS c8) (k_0_7 hKS) rfl wl_X8_134 wi_X8_orFull we_X8_orFull wn_X8 wc_X8_orFull dy_X8_orFull rfl (by rw [hR]; decide +kernel) rfl (Nat.le_of_ble_eq_true rfl) dX8_sort_38 ?_
    exact r_iret hE h dX8_sort_41
  · have h := ite_f h c3
    refine r_iconst (v := 0) hx dX8_sort_24 (by decide) ?_
    refine r_goto (tgt := 41) hx dX8_sort_25 (by decide) ?_
    exact r_iret hE h dX8_sort_41
set_option maxRecDepth 100000 in
set_option maxHeartbeats 4000000 in
theorem t_X8_sort_0 {n : Nat} {x : XC} (hx : CX x cX8_sort 2 RX8) (hR : x_R x = rm_X8_sort) (hKS : ∀ k ∈ KM, k ∈ x_K x) {out : St × Int32} (hE : EI x cX8_sort out) {S : St} {a1 : Int32} (h : f_X8_sort n S a1 = some out) : WX x 2 0 0 S 0 [(0, .ref (x_ad x 0 7 0)), (1, .int a1)] [] := by
  unfold f_X8_sort at h
  refine r_aload_n (k0 := 0) hx dX8_sort_0 rfl rfl ?_
  refine r_aload_n (k0 := 0) hx dX8_sort_1 rfl rfl ?_
  refine r_iload_n (k0 := 1) hx dX8_sort_2 rfl rfl ?_
  obtain ⟨S1, v3, c2, h⟩ := bI_some h
  refine r_Vi (ci := 7) (As := [.int a1]) (rest := [.ref (x_ad x 0 7 0)]) hx (C_X8_isLevel (c := x_y x) hKS c2) (k_0_7 hKS) rfl wl_X8_123 wi_X8_isLevel we_X8_isLevel wn_X8 wc_X8_isLevel dy_X8_isLevel rfl (by rw [hR]; decide +kernel) rfl (Nat.le_of_ble_eq_true rfl) dX8_sort_3 ?_
  refine r_if_eq (tgt := 13) hx dX8_sort_6 (by decide) (fun c4 => ?_) (fun c4 => ?_)
  · have h := ite_t h c4
    refine r_iconst (v := 1) hx dX8_sort_13 (by decide) ?_
    exact t_X8_sort_14 hx hR hKS hE h
  · have h := ite_f h c4
    refine r_iconst (v := 0) hx dX8_sort_9 (by decide) ?_
    refine r_goto (tgt := 14) hx dX8_sort_10 (by decide) ?_
    exact t_X8_sort_14 hx hR hKS hE h
set_option maxHeartbeats 4000000 in
theorem C_X8_sort {n : Nat} {c : YC} (hKS : ∀ k ∈ KM, k ∈ c.2.2.2.2) {S : St} {a1 : Int32} {out : St × Int32} (h : f_X8_sort n S a1 = some out) : MI c yX8_sort cX8_sort 2 (some .int) rm_X8_sort S [.ref (c.2.2.1 0 7 0), .int a1] out := mk_I (own := RX8) (by decide +kernel) rfl (Nat.le_of_ble_eq_true rfl) (fun x hx hR hy hE => by subst hy; exact t_X8_sort_0 hx hR hKS hE h)
def j_X8_variable_16 (n : Nat) (S : St) (l1 : Int32) (s0 : Int32) : Option (St × Int32) :=
  pS S 350 0 s0 fun S1 =>
  if (S1.1 350 0) ≤ 0 then
    bI (f_X8_numberOfTerm n S1 1 l1 (-1) (-1)) fun S4 v6 =>
    bI (f_X8_orFull n S4 v6 2) fun S7 v9 =>
    some (S7, v9)
  else
    some (S1, 0)
def f_X8_variable (n : Nat) (S : St) (a1 : Int32) : Option (St × Int32) :=
  bI (f_X8_isIn n S a1 0 59) fun S1 v3 =>
  if v3 = 0 then
    j_X8_variable_16 n S1 a1 1
  else
    j_X8_variable_16 n S1 a1 0
set_option maxRecDepth 100000 in
set_option maxHeartbeats 4000000 in
theorem t_X8_variable_16 {n : Nat} {x : XC} (hx : CX x cX8_variable 2 RX8) (hR : x_R x = rm_X8_variable) (hKS : ∀ k ∈ KM, k ∈ x_K x) {out : St × Int32} (hE : EI x cX8_variable out) {S : St} {l1 : Int32} {s0 : Int32} (h : j_X8_variable_16 n S l1 s0 = some out) : WX x 2 0 0 S 16 [(0, .ref (x_ad x 0 7 0)), (1, .int l1)] [.int s0, .ref (x_ad x 0 7 0)] := by
  unfold j_X8_variable_16 at h
  obtain ⟨S1, e2, h⟩ := pS_some h
  refine p_350 hx (k_0_7 hKS) wf_X8_106 dX8_variable_16 e2 ?_
  refine r_aload_n (k0 := 0) hx dX8_variable_19 rfl rfl ?_
  refine g_350 hx (k_0_7 hKS) wf_X8_106 dX8_variable_20 ?_
  refine r_if_le (tgt := 30) hx dX8_variable_23 (by decide) (fun c3 => ?_) (fun c3 => ?_)
  · have h := ite_t h c3
    refine r_aload_n (k0 := 0) hx dX8_variable_30 rfl rfl ?_
    refine r_aload_n (k0 := 0) hx dX8_variable_31 rfl rfl ?_
    refine r_iconst (v := 1) hx dX8_variable_32 (by decide) ?_
    refine r_iload_n (k0 := 1) hx dX8_variable_33 rfl rfl ?_
    refine r_iconst (v := -1) hx dX8_variable_34 (by decide) ?_
    refine r_iconst (v := -1) hx dX8_variable_35 (by decide) ?_
    obtain ⟨S4, v6, c5, h⟩ := bI_some h
    refine r_Vi (ci := 7) (As := [.int 1, .int l1, .int (-1), .int (-1)]) (rest := [.ref (x_ad x 0 7 0)]) hx (C_X8_numberOfTerm (c := x_y x) hKS c5) (k_0_7 hKS) rfl wl_X8_131 wi_X8_numberOfTerm we_X8_numberOfTerm wn_X8 wc_X8_numberOfTerm dy_X8_numberOfTerm rfl (by rw [hR]; decide +kernel) rfl (Nat.le_of_ble_eq_true rfl) dX8_variable_36 ?_
    refine r_iconst (v := 2) hx dX8_variable_39 (by decide) ?_
    obtain ⟨S7, v9, c8, h⟩ := bI_some h
    refine r_Vi (ci := 7) (As := [.int v6, .int 2]) (rest := []) hx (C_X8_orFull (c := x_y x) hKS c8) (k_0_7 hKS) rfl wl_X8_134 wi_X8_orFull we_X8_orFull wn_X8 wc_X8_orFull dy_X8_orFull rfl (by rw [hR]; decide +kernel) rfl (Nat.le_of_ble_eq_true rfl) dX8_variable_40 ?_
    exact r_iret hE h dX8_variable_43
  · have h := ite_f h c3
    refine r_iconst (v := 0) hx dX8_variable_26 (by decide) ?_
    refine r_goto (tgt := 43) hx dX8_variable_27 (by decide) ?_
    exact r_iret hE h dX8_variable_43
set_option maxRecDepth 100000 in
set_option maxHeartbeats 4000000 in
theorem t_X8_variable_0 {n : Nat} {x : XC} (hx : CX x cX8_variable 2 RX8) (hR : x_R x = rm_X8_variable) (hKS : ∀ k ∈ KM, k ∈ x_K x) {out : St × Int32} (hE : EI x cX8_variable out) {S : St} {a1 : Int32} (h : f_X8_variable n S a1 = some out) : WX x 2 0 0 S 0 [(0, .ref (x_ad x 0 7 0)), (1, .int a1)] [] := by
  unfold f_X8_variable at h
  refine r_aload_n (k0 := 0) hx dX8_variable_0 rfl rfl ?_
  refine r_iload_n (k0 := 1) hx dX8_variable_1 rfl rfl ?_
  refine r_iconst (v := 0) hx dX8_variable_2 (by decide) ?_
  refine r_bipush (v := 59) hx dX8_variable_3 (by decide) ?_
  obtain ⟨S1, v3, c2, h⟩ := bI_some h
  refine r_Si (As := [.int a1, .int 0, .int 59]) (rest := [.ref (x_ad x 0 7 0)]) hx (C_X8_isIn (c := x_y x) hKS c2) wl_X8_115 wt_X8_isIn wn_X8 wc_X8_isIn dy_X8_isIn rfl (by rw [hR]; decide +kernel) rfl (Nat.le_of_ble_eq_true rfl) dX8_variable_5 ?_
  refine r_if_eq (tgt := 15) hx dX8_variable_8 (by decide) (fun c4 => ?_) (fun c4 => ?_)
  · have h := ite_t h c4
    refine r_iconst (v := 1) hx dX8_variable_15 (by decide) ?_
    exact t_X8_variable_16 hx hR hKS hE h
  · have h := ite_f h c4
    refine r_iconst (v := 0) hx dX8_variable_11 (by decide) ?_
    refine r_goto (tgt := 16) hx dX8_variable_12 (by decide) ?_
    exact t_X8_variable_16 hx hR hKS hE h
set_option maxHeartbeats 4000000 in
theorem C_X8_variable {n : Nat} {c : YC} (hKS : ∀ k ∈ KM, k ∈ c.2.2.2.2) {S : St} {a1 : Int32} {out : St × Int32} (h : f_X8_variable n S a1 = some out) : MI c yX8_variable cX8_variable 2 (some .int) rm_X8_variable S [.ref (c.2.2.1 0 7 0), .int a1] out := mk_I (own := RX8) (by decide +kernel) rfl (Nat.le_of_ble_eq_true rfl) (fun x hx hR hy hE => by subst hy; exact t_X8_variable_0 hx hR hKS hE h)
def j_X8_name_30 (n : Nat) (S : St) (l1 : Int32) (l2 : Int32) (l3 : Int32) (s0 : Int32) : Option (St × Int32) :=
  pS S 350 0 s0 fun S1 =>
  if (S1.1 350 0) ≤ 0 then
    bI (f_X8_numberOfTerm n S1 2 l1 l2 l3) fun S4 v6 =>
    bI (f_X8_orFull n S4 v6 2) fun S7 v9 =>
    some (S7, v9)
  else
    some (S1, 0)
def j_X8_name_29 (n : Nat) (S : St) (l1 : Int32) (l2 : Int32) (l3 : Int32) : Option (St × Int32) :=
  j_X8_name_30 n S l1 l2 l3 1
def f_X8_name (n : Nat) (S : St) (a1 : Int32) (a2 : Int32) (a3 : Int32) : Option (St × Int32) :=
  bI (f_X8_isName n S a1) fun S1 v3 =>
  if v3 = 0 then
    j_X8_name_29 n S1 a1 a2 a3
  else
    bI (f_X8_isLevel n S1 a2) fun S5 v7 =>
    if v7 = 0 then
      j_X8_name_29 n S5 a1 a2 a3
    else
      bI (f_X8_isLevel n S5 a3) fun S9 v11 =>
      if v11 = 0 then
        j_X8_name_29 n S9 a1 a2 a3
      else
        j_X8_name_30 n S9 a1 a2 a3 0
set_option maxRecDepth 100000 in
set_option maxHeartbeats 4000000 in
theorem t_X8_name_30 {n : Nat} {x : XC} (hx : CX x cX8_name 4 RX8) (hR : x_R x = rm_X8_name) (hKS : ∀ k ∈ KM, k ∈ x_K x) {out : St × Int32} (hE : EI x cX8_name out) {S : St} {l1 : Int32} {l2 : Int32} {l3 : Int32} {s0 : Int32} (h : j_X8_name_30 n S l1 l2 l3 s0 = some out) : WX x 4 0 0 S 30 [(0, .ref (x_ad x 0 7 0)), (1, .int l1), (2, .int l2), (3, .int l3)] [.int s0, .ref (x_ad x 0 7 0)] := by
  unfold j_X8_name_30 at h
  obtain ⟨S1, e2, h⟩ := pS_some h
  refine p_350 hx (k_0_7 hKS) wf_X8_106 dX8_name_30 e2 ?_
  refine r_aload_n (k0 := 0) hx dX8_name_33 rfl rfl ?_
  refine g_350 hx (k_0_7 hKS) wf_X8_106 dX8_name_34 ?_
  refine r_if_le (tgt := 44) hx dX8_name_37 (by decide) (fun c3 => ?_) (fun c3 => ?_)
  · have h := ite_t h c3
    refine r_aload_n (k0 := 0) hx dX8_name_44 rfl rfl ?_
    refine r_aload_n (k0 := 0) hx dX8_name_45 rfl rfl ?_
    refine r_iconst (v := 2) hx dX8_name_46 (by decide) ?_
    refine r_iload_n (k0 := 1) hx dX8_name_47 rfl rfl ?_
    refine r_iload_n (k0 := 2) hx dX8_name_48 rfl rfl ?_
    refine r_iload_n (k0 := 3) hx dX8_name_49 rfl rfl ?_
    obtain ⟨S4, v6, c5, h⟩ := bI_some h
    refine r_Vi (ci := 7) (As := [.int 2, .int l1, .int l2, .int l3]) (rest := [.ref (x_ad x 0 7 0)]) hx (C_X8_numberOfTerm (c := x_y x) hKS c5) (k_0_7 hKS) rfl wl_X8_131 wi_X8_numberOfTerm we_X8_numberOfTerm wn_X8 wc_X8_numberOfTerm dy_X8_numberOfTerm rfl (by rw [hR]; decide +kernel) rfl (Nat.le_of_ble_eq_true rfl) dX8_name_50 ?_
    refine r_iconst (v := 2) hx dX8_name_53 (by decide) ?_
    obtain ⟨S7, v9, c8, h⟩ := bI_some h
    refine r_Vi (ci := 7) (As := [.int v6, .int 2]) (rest := []) hx (C_X8_orFull (c := x_y x) hKS c8) (k_0_7 hKS) rfl wl_X8_134 wi_X8_orFull we_X8_orFull wn_X8 wc_X8_orFull dy_X8_orFull rfl (by rw [hR]; decide +kernel) rfl (Nat.le_of_ble_eq_true rfl) dX8_name_54 ?_
    exact r_iret hE h dX8_name_57
  · have h := ite_f h c3
    refine r_iconst (v := 0) hx dX8_name_40 (by decide) ?_
    refine r_goto (tgt := 57) hx dX8_name_41 (by decide) ?_
    exact r_iret hE h dX8_name_57
set_option maxRecDepth 100000 in
set_option maxHeartbeats 4000000 in
theorem t_X8_name_29 {n : Nat} {x : XC} (hx : CX x cX8_name 4 RX8) (hR : x_R x = rm_X8_name) (hKS : ∀ k ∈ KM, k ∈ x_K x) {out : St × Int32} (hE : EI x cX8_name out) {S : St} {l1 : Int32} {l2 : Int32} {l3 : Int32} (h : j_X8_name_29 n S l1 l2 l3 = some out) : WX x 4 0 0 S 29 [(0, .ref (x_ad x 0 7 0)), (1, .int l1), (2, .int l2), (3, .int l3)] [.ref (x_ad x 0 7 0)] := by
  unfold j_X8_name_29 at h
  refine r_iconst (v := 1) hx dX8_name_29 (by decide) ?_
  exact t_X8_name_30 hx hR hKS hE h
set_option maxRecDepth 100000 in
set_option maxHeartbeats 4000000 in
theorem t_X8_name_0 {n : Nat} {x : XC} (hx : CX x cX8_name 4 RX8) (hR : x_R x = rm_X8_name) (hKS : ∀ k ∈ KM, k ∈ x_K x) {out : St × Int32} (hE : EI x cX8_name out) {S : St} {a1 : Int32} {a2 : Int32} {a3 : Int32} (h : f_X8_name n S a1 a2 a3 = some out) : WX x 4 0 0 S 0 [(0, .ref (x_ad x 0 7 0)), (1, .int a1), (2, .int a2), (3, .int a3)] [] := by
  unfold f_X8_name at h
  refine r_aload_n (k0 := 0) hx dX8_name_0 rfl rfl ?_
  refine r_aload_n (k0 := 0) hx dX8_name_1 rfl rfl ?_
  refine r_iload_n (k0 := 1) hx dX8_name_2 rfl rfl ?_
  obtain ⟨S1, v3, c2, h⟩ := bI_some h
  refine r_Vi (ci := 7) (As := [.int a1]) (rest := [.ref (x_ad x 0 7 0)]) hx (C_X8_isName (c := x_y x) hKS c2) (k_0_7 hKS) rfl wl_X8_138 wi_X8_isName we_X8_isName wn_X8 wc_X8_isName dy_X8_isName rfl (by rw [hR]; decide +kernel) rfl (Nat.le_of_ble_eq_true rfl) dX8_name_3 ?_
  refine r_if_eq (tgt := 29) hx dX8_name_6 (by decide) (fun c4 => ?_) (fun c4 => ?_)
  · have h := ite_t h c4
    exact t_X8_name_29 hx hR hKS hE h
  · have h := ite_f h c4
    refine r_aload_n (k0 := 0) hx dX8_name_9 rfl rfl ?_
    refine r_iload_n (k0 := 2) hx dX8_name_10 rfl rfl ?_
    obtain ⟨S5, v7, c6, h⟩ := bI_some h
    refine r_Vi (ci := 7) (As := [.int a2]) (rest := [.ref (x_ad x 0 7 0)]) hx (C_X8_isLevel (c := x_y x) hKS c6) (k_0_7 hKS) rfl wl_X8_123 wi_X8_isLevel we_X8_isLevel wn_X8 wc_X8_isLevel dy_X8_isLevel rfl (by rw [hR]; decide +kernel) rfl (Nat.le_of_ble_eq_true rfl) dX8_name_11 ?_
    refine r_if_eq (tgt := 29) hx dX8_name_14 (by decide) (fun c8 => ?_) (fun c8 => ?_)
    · have h := ite_t h c8
      exact t_X8_name_29 hx hR hKS hE h
    · have h := ite_f h c8
      refine r_aload_n (k0 := 0) hx dX8_name_17 rfl rfl ?_
      refine r_iload_n (k0 := 3) hx dX8_name_18 rfl rfl ?_
      obtain ⟨S9, v11, c10, h⟩ := bI_some h
      refine r_Vi (ci := 7) (As := [.int a3]) (rest := [.ref (x_ad x 0 7 0)]) hx (C_X8_isLevel (c := x_y x) hKS c10) (k_0_7 hKS) rfl wl_X8_123 wi_X8_isLevel we_X8_isLevel wn_X8 wc_X8_isLevel dy_X8_isLevel rfl (by rw [hR]; decide +kernel) rfl (Nat.le_of_ble_eq_true rfl) dX8_name_19 ?_
      refine r_if_eq (tgt := 29) hx dX8_name_22 (by decide) (fun c12 => ?_) (fun c12 => ?_)
      · have h := ite_t h c12
        exact t_X8_name_29 hx hR hKS hE h
      · have h := ite_f h c12
        refine r_iconst (v := 0) hx dX8_name_25 (by decide) ?_
        refine r_goto (tgt := 30) hx dX8_name_26 (by decide) ?_
        exact t_X8_name_30 hx hR hKS hE h
set_option maxHeartbeats 4000000 in
theorem C_X8_name {n : Nat} {c : YC} (hKS : ∀ k ∈ KM, k ∈ c.2.2.2.2) {S : St} {a1 : Int32} {a2 : Int32} {a3 : Int32} {out : St × Int32} (h : f_X8_name n S a1 a2 a3 = some out) : MI c yX8_name cX8_name 4 (some .int) rm_X8_name S [.ref (c.2.2.1 0 7 0), .int a1, .int a2, .int a3] out := mk_I (own := RX8) (by decide +kernel) rfl (Nat.le_of_ble_eq_true rfl) (fun x hx hR hy hE => by subst hy; exact t_X8_name_0 hx hR hKS hE h)
def j_X8_term_35 (n : Nat) (S : St) (l1 : Int32) (l2 : Int32) (l3 : Int32) (s0 : Int32) : Option (St × Int32) :=
  pS S 350 0 s0 fun S1 =>
  if (S1.1 350 0) ≤ 0 then
    bI (f_X8_numberOfTerm n S1 l1 l2 l3 (-1)) fun S4 v6 =>
    bI (f_X8_orFull n S4 v6 3) fun S7 v9 =>
    some (S7, v9)
  else
    some (S1, 0)
def j_X8_term_30 (n : Nat) (S : St) (l1 : Int32) (l2 : Int32) (l3 : Int32) : Option (St × Int32) :=
  j_X8_term_35 n S l1 l2 l3 2
def f_X8_term (n : Nat) (S : St) (a1 : Int32) (a2 : Int32) (a3 : Int32) : Option (St × Int32) :=
  bI (f_X8_isIn n S a1 3 5) fun S1 v3 =>
  if v3 = 0 then
    j_X8_term_35 n S1 a1 a2 a3 1
  else
    bI (f_X8_isTerm n S1 a2) fun S5 v7 =>
    if v7 = 0 then
      j_X8_term_30 n S5 a1 a2 a3
    else
      bI (f_X8_isTerm n S5 a3) fun S9 v11 =>
      if v11 = 0 then
        j_X8_term_30 n S9 a1 a2 a3
      else
        j_X8_term_35 n S9 a1 a2 a3 0
set_option maxRecDepth 100000 in
set_option maxHeartbeats 4000000 in
theorem t_X8_term_35 {n : Nat} {x : XC} (hx : CX x cX8_term 4 RX8) (hR : x_R x = rm_X8_term) (hKS : ∀ k ∈ KM, k ∈ x_K x) {out : St × Int32} (hE : EI x cX8_term out) {S : St} {l1 : Int32} {l2 : Int32} {l3 : Int32} {s0 : Int32} (h : j_X8_term_35 n S l1 l2 l3 s0 = some out) : WX x 4 0 0 S 35 [(0, .ref (x_ad x 0 7 0)), (1, .int l1), (2, .int l2), (3, .int l3)] [.int s0, .ref (x_ad x 0 7 0)] := by
  unfold j_X8_term_35 at h
  obtain ⟨S1, e2, h⟩ := pS_some h
  refine p_350 hx (k_0_7 hKS) wf_X8_106 dX8_term_35 e2 ?_
  refine r_aload_n (k0 := 0) hx dX8_term_38 rfl rfl ?_
  refine g_350 hx (k_0_7 hKS) wf_X8_106 dX8_term_39 ?_
  refine r_if_le (tgt := 49) hx dX8_term_42 (by decide) (fun c3 => ?_) (fun c3 => ?_)
  · have h := ite_t h c3
    refine r_aload_n (k0 := 0) hx dX8_term_49 rfl rfl ?_
    refine r_aload_n (k0 := 0) hx dX8_term_50 rfl rfl ?_
    refine r_iload_n (k0 := 1) hx dX8_term_51 rfl rfl ?_
    refine r_iload_n (k0 := 2) hx dX8_term_52 rfl rfl ?_
    refine r_iload_n (k0 := 3) hx dX8_term_53 rfl rfl ?_
    refine r_iconst (v := -1) hx dX8_term_54 (by decide) ?_
    obtain ⟨S4, v6, c5, h⟩ := bI_some h
    refine r_Vi (ci := 7) (As := [.int l1, .int l2, .int l3, .int (-1)]) (rest := [.ref (x_ad x 0 7 0)]) hx (C_X8_numberOfTerm (c := x_y x) hKS c5) (k_0_7 hKS) rfl wl_X8_131 wi_X8_numberOfTerm we_X8_numberOfTerm wn_X8 wc_X8_numberOfTerm dy_X8_numberOfTerm rfl (by rw [hR]; decide +kernel) rfl (Nat.le_of_ble_eq_true rfl) dX8_term_55 ?_
    refine r_iconst (v := 3) hx dX8_term_58 (by decide) ?_
    obtain ⟨S7, v9, c8, h⟩ := bI_some h
    refine r_Vi (ci := 7) (As := [.int v6, .int 3]) (rest := []) hx (C_X8_orFull (c := x_y x) hKS c8) (k_0_7 hKS) rfl wl_X8_134 wi_X8_orFull we_X8_orFull wn_X8 wc_X8_orFull dy_X8_orFull rfl (by rw [hR]; decide +kernel) rfl (Nat.le_of_ble_eq_true rfl) dX8_term_59 ?_
    exact r_iret hE h dX8_term_62
  · have h := ite_f h c3
    refine r_iconst (v := 0) hx dX8_term_45 (by decide) ?_
    refine r_goto (tgt := 62) hx dX8_term_46 (by decide) ?_
    exact r_iret hE h dX8_term_62
set_option maxRecDepth 100000 in
set_option maxHeartbeats 4000000 in
theorem t_X8_term_30 {n : Nat} {x : XC} (hx : CX x cX8_term 4 RX8) (hR : x_R x = rm_X8_term) (hKS : ∀ k ∈ KM, k ∈ x_K x) {out : St × Int32} (hE : EI x cX8_term out) {S : St} {l1 : Int32} {l2 : Int32} {l3 : Int32} (h : j_X8_term_30 n S l1 l2 l3 = some out) : WX x 4 0 0 S 30 [(0, .ref (x_ad x 0 7 0)), (1, .int l1), (2, .int l2), (3, .int l3)] [.ref (x_ad x 0 7 0)] := by
  unfold j_X8_term_30 at h
  refine r_iconst (v := 2) hx dX8_term_30 (by decide) ?_
  refine r_goto (tgt := 35) hx dX8_term_31 (by decide) ?_
  exact t_X8_term_35 hx hR hKS hE h
set_option maxRecDepth 100000 in
set_option maxHeartbeats 4000000 in
theorem t_X8_term_0 {n : Nat} {x : XC} (hx : CX x cX8_term 4 RX8) (hR : x_R x = rm_X8_term) (hKS : ∀ k ∈ KM, k ∈ x_K x) {out : St × Int32} (hE : EI x cX8_term out) {S : St} {a1 : Int32} {a2 : Int32} {a3 : Int32} (h : f_X8_term n S a1 a2 a3 = some out) : WX x 4 0 0 S 0 [(0, .ref (x_ad x 0 7 0)), (1, .int a1), (2, .int a2), (3, .int a3)] [] := by
  unfold f_X8_term at h
  refine r_aload_n (k0 := 0) hx dX8_term_0 rfl rfl ?_
  refine r_iload_n (k0 := 1) hx dX8_term_1 rfl rfl ?_
  refine r_iconst (v := 3) hx dX8_term_2 (by decide) ?_
  refine r_iconst (v := 5) hx dX8_term_3 (by decide) ?_
  obtain ⟨S1, v3, c2, h⟩ := bI_some h
  refine r_Si (As := [.int a1, .int 3, .int 5]) (rest := [.ref (x_ad x 0 7 0)]) hx (C_X8_isIn (c := x_y x) hKS c2) wl_X8_115 wt_X8_isIn wn_X8 wc_X8_isIn dy_X8_isIn rfl (by rw [hR]; decide +kernel) rfl (Nat.le_of_ble_eq_true rfl) dX8_term_4 ?_
  refine r_if_ne (tgt := 14) hx dX8_term_7 (by decide) (fun c4 => ?_) (fun c4 => ?_)
  · have h := ite_f h c4
    refine r_aload_n (k0 := 0) hx dX8_term_14 rfl rfl ?_
    refine r_iload_n (k0 := 2) hx dX8_term_15 rfl rfl ?_
    obtain ⟨S5, v7, c6, h⟩ := bI_some h
    refine r_Vi (ci := 7) (As := [.int a2]) (rest := [.ref (x_ad x 0 7 0)]) hx (C_X8_isTerm (c := x_y x) hKS c6) (k_0_7 hKS) rfl wl_X8_141 wi_X8_isTerm we_X8_isTerm wn_X8 wc_X8_isTerm dy_X8_isTerm rfl (by rw [hR]; decide +kernel) rfl (Nat.le_of_ble_eq_true rfl) dX8_term_16 ?_
    refine r_if_eq (tgt := 30) hx dX8_term_19 (by decide) (fun c8 => ?_) (fun c8 => ?_)
    · have h := ite_t h c8
      exact t_X8_term_30 hx hR hKS hE h
    · have h := ite_f h c8
      refine r_aload_n (k0 := 0) hx dX8_term_22 rfl rfl ?_
      refine r_iload_n (k0 := 3) hx dX8_term_23 rfl rfl ?_
      obtain ⟨S9, v11, c10, h⟩ := bI_some h
      refine r_Vi (ci := 7) (As := [.int a3]) (rest := [.ref (x_ad x 0 7 0)]) hx (C_X8_isTerm (c := x_y x) hKS c10) (k_0_7 hKS) rfl wl_X8_141 wi_X8_isTerm we_X8_isTerm wn_X8 wc_X8_isTerm dy_X8_isTerm rfl (by rw [hR]; decide +kernel) rfl (Nat.le_of_ble_eq_true rfl) dX8_term_24 ?_
      refine r_if_ne (tgt := 34) hx dX8_term_27 (by decide) (fun c12 => ?_) (fun c12 => ?_)
      · have h := ite_f h c12
        refine r_iconst (v := 0) hx dX8_term_34 (by decide) ?_
        exact t_X8_term_35 hx hR hKS hE h
      · have h := ite_t h c12
        exact t_X8_term_30 hx hR hKS hE h
  · have h := ite_t h c4
    refine r_iconst (v := 1) hx dX8_term_10 (by decide) ?_
    refine r_goto (tgt := 35) hx dX8_term_11 (by decide) ?_
    exact t_X8_term_35 hx hR hKS hE h
set_option maxHeartbeats 4000000 in
theorem C_X8_term {n : Nat} {c : YC} (hKS : ∀ k ∈ KM, k ∈ c.2.2.2.2) {S : St} {a1 : Int32} {a2 : Int32} {a3 : Int32} {out : St × Int32} (h : f_X8_term n S a1 a2 a3 = some out) : MI c yX8_term cX8_term 4 (some .int) rm_X8_term S [.ref (c.2.2.1 0 7 0), .int a1, .int a2, .int a3] out := mk_I (own := RX8) (by decide +kernel) rfl (Nat.le_of_ble_eq_true rfl) (fun x hx hR hy hE => by subst hy; exact t_X8_term_0 hx hR hKS hE h)
def j_X8_let_30 (n : Nat) (S : St) (l1 : Int32) (l2 : Int32) (l3 : Int32) (s0 : Int32) : Option (St × Int32) :=
  pS S 350 0 s0 fun S1 =>
  if (S1.1 350 0) ≤ 0 then
    bI (f_X8_numberOfTerm n S1 6 l1 l2 l3) fun S4 v6 =>
    bI (f_X8_orFull n S4 v6 2) fun S7 v9 =>
    some (S7, v9)
  else
    some (S1, 0)
def j_X8_let_29 (n : Nat) (S : St) (l1 : Int32) (l2 : Int32) (l3 : Int32) : Option (St × Int32) :=
  j_X8_let_30 n S l1 l2 l3 1
def f_X8_let (n : Nat) (S : St) (a1 : Int32) (a2 : Int32) (a3 : Int32) : Option (St × Int32) :=
  bI (f_X8_isTerm n S a1) fun S1 v3 =>
  if v3 = 0 then
    j_X8_let_29 n S1 a1 a2 a3
  else
    bI (f_X8_isTerm n S1 a2) fun S5 v7 =>
    if v7 = 0 then
      j_X8_let_29 n S5 a1 a2 a3
    else
      bI (f_X8_isTerm n S5 a3) fun S9 v11 =>
      if v11 = 0 then
        j_X8_let_29 n S9 a1 a2 a3
      else
        j_X8_let_30 n S9 a1 a2 a3 0
set_option maxRecDepth 100000 in
set_option maxHeartbeats 4000000 in
theorem t_X8_let_30 {n : Nat} {x : XC} (hx : CX x cX8_let 4 RX8) (hR : x_R x = rm_X8_let) (hKS : ∀ k ∈ KM, k ∈ x_K x) {out : St × Int32} (hE : EI x cX8_let out) {S : St} {l1 : Int32} {l2 : Int32} {l3 : Int32} {s0 : Int32} (h : j_X8_let_30 n S l1 l2 l3 s0 = some out) : WX x 4 0 0 S 30 [(0, .ref (x_ad x 0 7 0)), (1, .int l1), (2, .int l2), (3, .int l3)] [.int s0, .ref (x_ad x 0 7 0)] := by
  unfold j_X8_let_30 at h
  obtain ⟨S1, e2, h⟩ := pS_some h
  refine p_350 hx (k_0_7 hKS) wf_X8_106 dX8_let_30 e2 ?_
  refine r_aload_n (k0 := 0) hx dX8_let_33 rfl rfl ?_
  refine g_350 hx (k_0_7 hKS) wf_X8_106 dX8_let_34 ?_
  refine r_if_le (tgt := 44) hx dX8_let_37 (by decide) (fun c3 => ?_) (fun c3 => ?_)
  · have h := ite_t h c3
    refine r_aload_n (k0 := 0) hx dX8_let_44 rfl rfl ?_
    refine r_aload_n (k0 := 0) hx dX8_let_45 rfl rfl ?_
    refine r_bipush (v := 6) hx dX8_let_46 (by decide) ?_
    refine r_iload_n (k0 := 1) hx dX8_let_48 rfl rfl ?_
    refine r_iload_n (k0 := 2) hx dX8_let_49 rfl rfl ?_
    refine r_iload_n (k0 := 3) hx dX8_let_50 rfl rfl ?_
    obtain ⟨S4, v6, c5, h⟩ := bI_some h
    refine r_Vi (ci := 7) (As := [.int 6, .int l1, .int l2, .int l3]) (rest := [.ref (x_ad x 0 7 0)]) hx (C_X8_numberOfTerm (c := x_y x) hKS c5) (k_0_7 hKS) rfl wl_X8_131 wi_X8_numberOfTerm we_X8_numberOfTerm wn_X8 wc_X8_numberOfTerm dy_X8_numberOfTerm rfl (by rw [hR]; decide +kernel) rfl (Nat.le_of_ble_eq_true rfl) dX8_let_51 ?_
    refine r_iconst (v := 2) hx dX8_let_54 (by decide) ?_
    obtain ⟨S7, v9, c8, h⟩ := bI_some h
    refine r_Vi (ci := 7) (As := [.int v6, .int 2]) (rest := []) hx (C_X8_orFull (c := x_y x) hKS c8) (k_0_7 hKS) rfl wl_X8_134 wi_X8_orFull we_X8_orFull wn_X8 wc_X8_orFull dy_X8_orFull rfl (by rw [hR]; decide +kernel) rfl (Nat.le_of_ble_eq_true rfl) dX8_let_55 ?_
    exact r_iret hE h dX8_let_58
  · have h := ite_f h c3
    refine r_iconst (v := 0) hx dX8_let_40 (by decide) ?_
    refine r_goto (tgt := 58) hx dX8_let_41 (by decide) ?_
    exact r_iret hE h dX8_let_58
set_option maxRecDepth 100000 in
set_option maxHeartbeats 4000000 in
theorem t_X8_let_29 {n : Nat} {x : XC} (hx : CX x cX8_let 4 RX8) (hR : x_R x = rm_X8_let) (hKS : ∀ k ∈ KM, k ∈ x_K x) {out : St × Int32} (hE : EI x cX8_let out) {S : St} {l1 : Int32} {l2 : Int32} {l3 : Int32} (h : j_X8_let_29 n S l1 l2 l3 = some out) : WX x 4 0 0 S 29 [(0, .ref (x_ad x 0 7 0)), (1, .int l1), (2, .int l2), (3, .int l3)] [.ref (x_ad x 0 7 0)] := by
  unfold j_X8_let_29 at h
  refine r_iconst (v := 1) hx dX8_let_29 (by decide) ?_
  exact t_X8_let_30 hx hR hKS hE h
set_option maxRecDepth 100000 in
set_option maxHeartbeats 4000000 in
theorem t_X8_let_0 {n : Nat} {x : XC} (hx : CX x cX8_let 4 RX8) (hR : x_R x = rm_X8_let) (hKS : ∀ k ∈ KM, k ∈ x_K x) {out : St × Int32} (hE : EI x cX8_let out) {S : St} {a1 : Int32} {a2 : Int32} {a3 : Int32} (h : f_X8_let n S a1 a2 a3 = some out) : WX x 4 0 0 S 0 [(0, .ref (x_ad x 0 7 0)), (1, .int a1), (2, .int a2), (3, .int a3)] [] := by
  unfold f_X8_let at h
  refine r_aload_n (k0 := 0) hx dX8_let_0 rfl rfl ?_
  refine r_aload_n (k0 := 0) hx dX8_let_1 rfl rfl ?_
  refine r_iload_n (k0 := 1) hx dX8_let_2 rfl rfl ?_
  obtain ⟨S1, v3, c2, h⟩ := bI_some h
  refine r_Vi (ci := 7) (As := [.int a1]) (rest := [.ref (x_ad x 0 7 0)]) hx (C_X8_isTerm (c := x_y x) hKS c2) (k_0_7 hKS) rfl wl_X8_141 wi_X8_isTerm we_X8_isTerm wn_X8 wc_X8_isTerm dy_X8_isTerm rfl (by rw [hR]; decide +kernel) rfl (Nat.le_of_ble_eq_true rfl) dX8_let_3 ?_
  refine r_if_eq (tgt := 29) hx dX8_let_6 (by decide) (fun c4 => ?_) (fun c4 => ?_)
  · have h := ite_t h c4
    exact t_X8_let_29 hx hR hKS hE h
  · have h := ite_f h c4
    refine r_aload_n (k0 := 0) hx dX8_let_9 rfl rfl ?_
    refine r_iload_n (k0 := 2) hx dX8_let_10 rfl rfl ?_
    obtain ⟨S5, v7, c6, h⟩ := bI_some h
    refine r_Vi (ci := 7) (As := [.int a2]) (rest := [.ref (x_ad x 0 7 0)]) hx (C_X8_isTerm (c := x_y x) hKS c6) (k_0_7 hKS) rfl wl_X8_141 wi_X8_isTerm we_X8_isTerm wn_X8 wc_X8_isTerm dy_X8_isTerm rfl (by rw [hR]; decide +kernel) rfl (Nat.le_of_ble_eq_true rfl) dX8_let_11 ?_
    refine r_if_eq (tgt := 29) hx dX8_let_14 (by decide) (fun c8 => ?_) (fun c8 => ?_)
    · have h := ite_t h c8
      exact t_X8_let_29 hx hR hKS hE h
    · have h := ite_f h c8
      refine r_aload_n (k0 := 0) hx dX8_let_17 rfl rfl ?_
      refine r_iload_n (k0 := 3) hx dX8_let_18 rfl rfl ?_
      obtain ⟨S9, v11, c10, h⟩ := bI_some h
      refine r_Vi (ci := 7) (As := [.int a3]) (rest := [.ref (x_ad x 0 7 0)]) hx (C_X8_isTerm (c := x_y x) hKS c10) (k_0_7 hKS) rfl wl_X8_141 wi_X8_isTerm we_X8_isTerm wn_X8 wc_X8_isTerm dy_X8_isTerm rfl (by rw [hR]; decide +kernel) rfl (Nat.le_of_ble_eq_true rfl) dX8_let_19 ?_
      refine r_if_eq (tgt := 29) hx dX8_let_22 (by decide) (fun c12 => ?_) (fun c12 => ?_)
      · have h := ite_t h c12
        exact t_X8_let_29 hx hR hKS hE h
      · have h := ite_f h c12
        refine r_iconst (v := 0) hx dX8_let_25 (by decide) ?_
        refine r_goto (tgt := 30) hx dX8_let_26 (by decide) ?_
        exact t_X8_let_30 hx hR hKS hE h
set_option maxHeartbeats 4000000 in
theorem C_X8_let {n : Nat} {c : YC} (hKS : ∀ k ∈ KM, k ∈ c.2.2.2.2) {S : St} {a1 : Int32} {a2 : Int32} {a3 : Int32} {out : St × Int32} (h : f_X8_let n S a1 a2 a3 = some out) : MI c yX8_let cX8_let 4 (some .int) rm_X8_let S [.ref (c.2.2.1 0 7 0), .int a1, .int a2, .int a3] out := mk_I (own := RX8) (by decide +kernel) rfl (Nat.le_of_ble_eq_true rfl) (fun x hx hR hy hE => by subst hy; exact t_X8_let_0 hx hR hKS hE h)
def j_X8_type_14 (n : Nat) (S : St) (l1 : Int32) (s0 : Int32) : Option (St × Int32) :=
  pS S 350 0 s0 fun S1 =>
  if (S1.1 350 0) ≤ 0 then
    bU (f_X8_begin n S1 l1) fun S4 =>
    bI (k_X8_typeOf n 101 S4 0) fun S6 v8 =>
    if v8 ≤ 0 then
      bI (f_X8_answer n S6 371 0) fun S10 v12 =>
      some (S10, v12)
    else
      some (S6, ((-1) - v8))
  else
    some (S1, 0)
def f_X8_type (n : Nat) (S : St) (a1 : Int32) : Option (St × Int32) :=
  bI (f_X8_isTerm n S a1) fun S1 v3 =>
  if v3 = 0 then
    j_X8_type_14 n S1 a1 1
  else
    j_X8_type_14 n S1 a1 0
set_option maxRecDepth 100000 in
set_option maxHeartbeats 4000000 in
theorem t_X8_type_14 {n : Nat} {x : XC} (hx : CX x cX8_type 3 RX8) (hR : x_R x = rm_X8_type) (hKS : ∀ k ∈ KM, k ∈ x_K x) {out : St × Int32} (hE : EI x cX8_type out) {S : St} {l1 : Int32} {s0 : Int32} (h : j_X8_type_14 n S l1 s0 = some out) : WX x 3 0 0 S 14 [(0, .ref (x_ad x 0 7 0)), (1, .int l1)] [.int s0, .ref (x_ad x 0 7 0)] := by
  unfold j_X8_type_14 at h
  obtain ⟨S1, e2, h⟩ := pS_some h
  refine p_350 hx (k_0_7 hKS) wf_X8_106 dX8_type_14 e2 ?_
  refine r_aload_n (k0 := 0) hx dX8_type_17 rfl rfl ?_
  refine g_350 hx (k_0_7 hKS) wf_X8_106 dX8_type_18 ?_
  refine r_if_le (tgt := 26) hx dX8_type_21 (by decide) (fun c3 => ?_) (fun c3 => ?_)
  · have h := ite_t h c3
    refine r_aload_n (k0 := 0) hx dX8_type_26 rfl rfl ?_
    refine r_iload_n (k0 := 1) hx dX8_type_27 rfl rfl ?_
    obtain ⟨S4, c5, h⟩ := bU_some h
    refine r_Vv (ci := 7) (As := [.int l1]) (rest := []) hx (C_X8_begin (c := x_y x) hKS c5) (k_0_7 hKS) rfl wl_X8_285 wi_X8_begin we_X8_begin wn_X8 wc_X8_begin dy_X8_begin rfl (by rw [hR]; decide +kernel) rfl (Nat.le_of_ble_eq_true rfl) dX8_type_28 ?_
    refine r_aload_n (k0 := 0) hx dX8_type_31 rfl rfl ?_
    refine r_iconst (v := 0) hx dX8_type_32 (by decide) ?_
    obtain ⟨S6, v8, c7, h⟩ := bI_some h
    refine r_Vi (ci := 7) (As := [.int 0]) (rest := []) hx (D_X8_typeOf (c := x_y x) hKS c7) (k_0_7 hKS) rfl wl_X8_240 wi_X8_typeOf we_X8_typeOf wn_X8 wc_X8_typeOf dy_X8_typeOf rfl (by rw [hR]; decide +kernel) rfl (Nat.le_of_ble_eq_true rfl) dX8_type_33 ?_
    refine r_istore_n (lv' := [(2, .int v8), (0, .ref (x_ad x 0 7 0)), (1, .int l1)]) hx dX8_type_36 rfl (by decide) rfl ?_
    refine r_iload_n (k0 := 0) hx dX8_type_37 rfl rfl ?_
    refine r_if_le (tgt := 47) hx dX8_type_38 (by decide) (fun c9 => ?_) (fun c9 => ?_)
    · have h := ite_t h c9
      refine r_aload_n (k0 := 1) hx dX8_type_47 rfl rfl ?_
      refine r_aload_n (k0 := 1) hx dX8_type_48 rfl rfl ?_
      refine g_371 hx (k_0_7 hKS) wf_X8_66 dX8_type_49 ?_
      refine r_iconst (v := 0) hx dX8_type_52 (by decide) ?_
      obtain ⟨S10, v12, c11, h⟩ := bI_some h
      refine r_Vi (ci := 7) (As := [.ref (x_ad x 1 371 0), .int 0]) (rest := []) hx (C_X8_answer (c := x_y x) hKS km_371 c11) (k_0_7 hKS) rfl wl_X8_288 wi_X8_answer we_X8_answer wn_X8 wc_X8_answer dy_X8_answer rfl (by rw [hR]; decide +kernel) rfl (Nat.le_of_ble_eq_true rfl) dX8_type_53 ?_
      exact r_iret hE h dX8_type_56
    · have h := ite_f h c9
      refine r_iconst (v := -1) hx dX8_type_41 (by decide) ?_
      refine r_iload_n (k0 := 0) hx dX8_type_42 rfl rfl ?_
      refine r_isub hx dX8_type_43 ?_
      refine r_goto (tgt := 56) hx dX8_type_44 (by decide) ?_
      exact r_iret hE h dX8_type_56
  · have h := ite_f h c3
    refine r_iconst (v := 0) hx dX8_type_24 (by decide) ?_
    exact r_iret hE h dX8_type_25
set_option maxRecDepth 100000 in
set_option maxHeartbeats 4000000 in
theorem t_X8_type_0 {n : Nat} {x : XC} (hx : CX x cX8_type 3 RX8) (hR : x_R x = rm_X8_type) (hKS : ∀ k ∈ KM, k ∈ x_K x) {out : St × Int32} (hE : EI x cX8_type out) {S : St} {a1 : Int32} (h : f_X8_type n S a1 = some out) : WX x 3 0 0 S 0 [(0, .ref (x_ad x 0 7 0)), (1, .int a1)] [] := by
  unfold f_X8_type at h
  refine r_aload_n (k0 := 0) hx dX8_type_0 rfl rfl ?_
  refine r_aload_n (k0 := 0) hx dX8_type_1 rfl rfl ?_
  refine r_iload_n (k0 := 1) hx dX8_type_2 rfl rfl ?_
  obtain ⟨S1, v3, c2, h⟩ := bI_some h
  refine r_Vi (ci := 7) (As := [.int a1]) (rest := [.ref (x_ad x 0 7 0)]) hx (C_X8_isTerm (c := x_y x) hKS c2) (k_0_7 hKS) rfl wl_X8_141 wi_X8_isTerm we_X8_isTerm wn_X8 wc_X8_isTerm dy_X8_isTerm rfl (by rw [hR]; decide +kernel) rfl (Nat.le_of_ble_eq_true rfl) dX8_type_3 ?_
  refine r_if_eq (tgt := 13) hx dX8_type_6 (by decide) (fun c4 => ?_) (fun c4 => ?_)
  · have h := ite_t h c4
    refine r_iconst (v := 1) hx dX8_type_13 (by decide) ?_
    exact t_X8_type_14 hx hR hKS hE h
  · have h := ite_f h c4
    refine r_iconst (v := 0) hx dX8_type_9 (by decide) ?_
    refine r_goto (tgt := 14) hx dX8_type_10 (by decide) ?_
    exact t_X8_type_14 hx hR hKS hE h
set_option maxHeartbeats 4000000 in
theorem C_X8_type {n : Nat} {c : YC} (hKS : ∀ k ∈ KM, k ∈ c.2.2.2.2) {S : St} {a1 : Int32} {out : St × Int32} (h : f_X8_type n S a1 = some out) : MI c yX8_type cX8_type 3 (some .int) rm_X8_type S [.ref (c.2.2.1 0 7 0), .int a1] out := mk_I (own := RX8) (by decide +kernel) rfl (Nat.le_of_ble_eq_true rfl) (fun x hx hR hy hE => by subst hy; exact t_X8_type_0 hx hR hKS hE h)
def j_X8_normal_14 (n : Nat) (S : St) (l1 : Int32) (s0 : Int32) : Option (St × Int32) :=
  pS S 350 0 s0 fun S1 =>
  if (S1.1 350 0) ≤ 0 then
    bI (f_X8_layTerm n S1 l1 368 0) fun S4 v6 =>
    pS S4 372 0 v6 fun S7 =>
    bI (f_X8_normalize n S7) fun S9 v11 =>
    if 0 ≤ v11 then
      bI (f_X8_answer n S9 368 0) fun S13 v15 =>
      some (S13, v15)
    else
      some (S9, (-6))
  else
    some (S1, 0)
def f_X8_normal (n : Nat) (S : St) (a1 : Int32) : Option (St × Int32) :=
  bI (f_X8_isTerm n S a1) fun S1 v3 =>
  if v3 = 0 then
    j_X8_normal_14 n S1 a1 1
  else
    j_X8_normal_14 n S1 a1 0
set_option maxRecDepth 100000 in
set_option maxHeartbeats 4000000 in
theorem t_X8_normal_14 {n : Nat} {x : XC} (hx : CX x cX8_normal 2 RX8) (hR : x_R x = rm_X8_normal) (hKS : ∀ k ∈ KM, k ∈ x_K x) {out : St × Int32} (hE : EI x cX8_normal out) {S : St} {l1 : Int32} {s0 : Int32} (h : j_X8_normal_14 n S l1 s0 = some out) : WX x 2 0 0 S 14 [(0, .ref (x_ad x 0 7 0)), (1, .int l1)] [.int s0, .ref (x_ad x 0 7 0)] := by
  unfold j_X8_normal_14 at h
  obtain ⟨S1, e2, h⟩ := pS_some h
  refine p_350 hx (k_0_7 hKS) wf_X8_106 dX8_normal_14 e2 ?_
  refine r_aload_n (k0 := 0) hx dX8_normal_17 rfl rfl ?_
  refine g_350 hx (k_0_7 hKS) wf_X8_106 dX8_normal_18 ?_
  refine r_if_le (tgt := 26) hx dX8_normal_21 (by decide) (fun c3 => ?_) (fun c3 => ?_)
  · have h := ite_t h c3
    refine r_aload_n (k0 := 0) hx dX8_normal_26 rfl rfl ?_
    refine r_aload_n (k0 := 0) hx dX8_normal_27 rfl rfl ?_
    refine r_iload_n (k0 := 1) hx dX8_normal_28 rfl rfl ?_
    refine r_aload_n (k0 := 0) hx dX8_normal_29 rfl rfl ?_
    refine g_368 hx (k_0_7 hKS) wf_X8_56 dX8_normal_30 ?_
    refine r_iconst (v := 0) hx dX8_normal_33 (by decide) ?_
    obtain ⟨S4, v6, c5, h⟩ := bI_some h
    refine r_Vi (ci := 7) (As := [.int l1, .ref (x_ad x 1 368 0), .int 0]) (rest := [.ref (x_ad x 0 7 0)]) hx (C_X8_layTerm (c := x_y x) hKS km_368 c5) (k_0_7 hKS) rfl wl_X8_176 wi_X8_layTerm we_X8_layTerm wn_X8 wc_X8_layTerm dy_X8_layTerm rfl (by rw [hR]; decide +kernel) rfl (Nat.le_of_ble_eq_true rfl) dX8_normal_34 ?_
    obtain ⟨S7, e8, h⟩ := pS_some h
    refine p_372 hx (k_0_7 hKS) wf_X8_186 dX8_normal_37 e8 ?_
    refine r_aload_n (k0 := 0) hx dX8_normal_40 rfl rfl ?_
    obtain ⟨S9, v11, c10, h⟩ := bI_some h
    refine r_Vi (ci := 7) (As := []) (rest := []) hx (C_X8_normalize (c := x_y x) hKS c10) (k_0_7 hKS) rfl wl_X8_237 wi_X8_normalize we_X8_normalize wn_X8 wc_X8_normalize dy_X8_normalize rfl (by rw [hR]; decide +kernel) rfl (Nat.le_of_ble_eq_true rfl) dX8_normal_41 ?_
    refine r_if_ge (tgt := 52) hx dX8_normal_44 (by decide) (fun c12 => ?_) (fun c12 => ?_)
    · have h := ite_t h c12
      refine r_aload_n (k0 := 0) hx dX8_normal_52 rfl rfl ?_
      refine r_aload_n (k0 := 0) hx dX8_normal_53 rfl rfl ?_
      refine g_368 hx (k_0_7 hKS) wf_X8_56 dX8_normal_54 ?_
      refine r_iconst (v := 0) hx dX8_normal_57 (by decide) ?_
      obtain ⟨S13, v15, c14, h⟩ := bI_some h
      refine r_Vi (ci := 7) (As := [.ref (x_ad x 1 368 0), .int 0]) (rest := []) hx (C_X8_answer (c := x_y x) hKS km_368 c14) (k_0_7 hKS) rfl wl_X8_288 wi_X8_answer we_X8_answer wn_X8 wc_X8_answer dy_X8_answer rfl (by rw [hR]; decide +kernel) rfl (Nat.le_of_ble_eq_true rfl) dX8_normal_58 ?_
      exact r_iret hE h dX8_normal_61
    · have h := ite_f h c12
      refine r_bipush (v := -6) hx dX8_normal_47 (by decide) ?_
      refine r_goto (tgt := 61) hx dX8_normal_49 (by decide) ?_
      exact r_iret hE h dX8_normal_61
  · have h := ite_f h c3
    refine r_iconst (v := 0) hx dX8_normal_24 (by decide) ?_
    exact r_iret hE h dX8_normal_25
set_option maxRecDepth 100000 in
set_option maxHeartbeats 4000000 in
theorem t_X8_normal_0 {n : Nat} {x : XC} (hx : CX x cX8_normal 2 RX8) (hR : x_R x = rm_X8_normal) (hKS : ∀ k ∈ KM, k ∈ x_K x) {out : St × Int32} (hE : EI x cX8_normal out) {S : St} {a1 : Int32} (h : f_X8_normal n S a1 = some out) : WX x 2 0 0 S 0 [(0, .ref (x_ad x 0 7 0)), (1, .int a1)] [] := by
  unfold f_X8_normal at h
  refine r_aload_n (k0 := 0) hx dX8_normal_0 rfl rfl ?_
  refine r_aload_n (k0 := 0) hx dX8_normal_1 rfl rfl ?_
  refine r_iload_n (k0 := 1) hx dX8_normal_2 rfl rfl ?_
  obtain ⟨S1, v3, c2, h⟩ := bI_some h
  refine r_Vi (ci := 7) (As := [.int a1]) (rest := [.ref (x_ad x 0 7 0)]) hx (C_X8_isTerm (c := x_y x) hKS c2) (k_0_7 hKS) rfl wl_X8_141 wi_X8_isTerm we_X8_isTerm wn_X8 wc_X8_isTerm dy_X8_isTerm rfl (by rw [hR]; decide +kernel) rfl (Nat.le_of_ble_eq_true rfl) dX8_normal_3 ?_
  refine r_if_eq (tgt := 13) hx dX8_normal_6 (by decide) (fun c4 => ?_) (fun c4 => ?_)
  · have h := ite_t h c4
    refine r_iconst (v := 1) hx dX8_normal_13 (by decide) ?_
    exact t_X8_normal_14 hx hR hKS hE h
  · have h := ite_f h c4
    refine r_iconst (v := 0) hx dX8_normal_9 (by decide) ?_
    refine r_goto (tgt := 14) hx dX8_normal_10 (by decide) ?_
    exact t_X8_normal_14 hx hR hKS hE h
set_option maxHeartbeats 4000000 in
theorem C_X8_normal {n : Nat} {c : YC} (hKS : ∀ k ∈ KM, k ∈ c.2.2.2.2) {S : St} {a1 : Int32} {out : St × Int32} (h : f_X8_normal n S a1 = some out) : MI c yX8_normal cX8_normal 2 (some .int) rm_X8_normal S [.ref (c.2.2.1 0 7 0), .int a1] out := mk_I (own := RX8) (by decide +kernel) rfl (Nat.le_of_ble_eq_true rfl) (fun x hx hR hy hE => by subst hy; exact t_X8_normal_0 hx hR hKS hE h)
def j_X8_steps_14 (n : Nat) (S : St) (l1 : Int32) (s0 : Int32) : Option (St × Int32) :=
  pS S 350 0 s0 fun S1 =>
  if (S1.1 350 0) ≤ 0 then
    bI (f_X8_layTerm n S1 l1 368 0) fun S4 v6 =>
    pS S4 372 0 v6 fun S7 =>
    bI (f_X8_normalize n S7) fun S9 v11 =>
    some (S9, v11)
  else
    some (S1, 0)
def f_X8_steps (n : Nat) (S : St) (a1 : Int32) : Option (St × Int32) :=
  bI (f_X8_isTerm n S a1) fun S1 v3 =>
  if v3 = 0 then
    j_X8_steps_14 n S1 a1 1
  else
    j_X8_steps_14 n S1 a1 0
set_option maxRecDepth 100000 in
set_option maxHeartbeats 4000000 in
theorem t_X8_steps_14 {n : Nat} {x : XC} (hx : CX x cX8_steps 2 RX8) (hR : x_R x = rm_X8_steps) (hKS : ∀ k ∈ KM, k ∈ x_K x) {out : St × Int32} (hE : EI x cX8_steps out) {S : St} {l1 : Int32} {s0 : Int32} (h : j_X8_steps_14 n S l1 s0 = some out) : WX x 2 0 0 S 14 [(0, .ref (x_ad x 0 7 0)), (1, .int l1)] [.int s0, .ref (x_ad x 0 7 0)] := by
  unfold j_X8_steps_14 at h
  obtain ⟨S1, e2, h⟩ := pS_some h
  refine p_350 hx (k_0_7 hKS) wf_X8_106 dX8_steps_14 e2 ?_
  refine r_aload_n (k0 := 0) hx dX8_steps_17 rfl rfl ?_
  refine g_350 hx (k_0_7 hKS) wf_X8_106 dX8_steps_18 ?_
  refine r_if_le (tgt := 26) hx dX8_steps_21 (by decide) (fun c3 => ?_) (fun c3 => ?_)
  · have h := ite_t h c3
    refine r_aload_n (k0 := 0) hx dX8_steps_26 rfl rfl ?_
    refine r_aload_n (k0 := 0) hx dX8_steps_27 rfl rfl ?_
    refine r_iload_n (k0 := 1) hx dX8_steps_28 rfl rfl ?_
    refine r_aload_n (k0 := 0) hx dX8_steps_29 rfl rfl ?_
    refine g_368 hx (k_0_7 hKS) wf_X8_56 dX8_steps_30 ?_
    refine r_iconst (v := 0) hx dX8_steps_33 (by decide) ?_
    obtain ⟨S4, v6, c5, h⟩ := bI_some h
    refine r_Vi (ci := 7) (As := [.int l1, .ref (x_ad x 1 368 0), .int 0]) (rest := [.ref (x_ad x 0 7 0)]) hx (C_X8_layTerm (c := x_y x) hKS km_368 c5) (k_0_7 hKS) rfl wl_X8_176 wi_X8_layTerm we_X8_layTerm wn_X8 wc_X8_layTerm dy_X8_layTerm rfl (by rw [hR]; decide +kernel) rfl (Nat.le_of_ble_eq_true rfl) dX8_steps_34 ?_
    obtain ⟨S7, e8, h⟩ := pS_some h
    refine p_372 hx (k_0_7 hKS) wf_X8_186 dX8_steps_37 e8 ?_
    refine r_aload_n (k0 := 0) hx dX8_steps_40 rfl rfl ?_
    obtain ⟨S9, v11, c10, h⟩ := bI_some h
    refine r_Vi (ci := 7) (As := []) (rest := []) hx (C_X8_normalize (c := x_y x) hKS c10) (k_0_7 hKS) rfl wl_X8_237 wi_X8_normalize we_X8_normalize wn_X8 wc_X8_normalize dy_X8_normalize rfl (by rw [hR]; decide +kernel) rfl (Nat.le_of_ble_eq_true rfl) dX8_steps_41 ?_
    exact r_iret hE h dX8_steps_44
  · have h := ite_f h c3
    refine r_iconst (v := 0) hx dX8_steps_24 (by decide) ?_
    exact r_iret hE h dX8_steps_25
set_option maxRecDepth 100000 in
set_option maxHeartbeats 4000000 in
theorem t_X8_steps_0 {n : Nat} {x : XC} (hx : CX x cX8_steps 2 RX8) (hR : x_R x = rm_X8_steps) (hKS : ∀ k ∈ KM, k ∈ x_K x) {out : St × Int32} (hE : EI x cX8_steps out) {S : St} {a1 : Int32} (h : f_X8_steps n S a1 = some out) : WX x 2 0 0 S 0 [(0, .ref (x_ad x 0 7 0)), (1, .int a1)] [] := by
  unfold f_X8_steps at h
  refine r_aload_n (k0 := 0) hx dX8_steps_0 rfl rfl ?_
  refine r_aload_n (k0 := 0) hx dX8_steps_1 rfl rfl ?_
  refine r_iload_n (k0 := 1) hx dX8_steps_2 rfl rfl ?_
  obtain ⟨S1, v3, c2, h⟩ := bI_some h
  refine r_Vi (ci := 7) (As := [.int a1]) (rest := [.ref (x_ad x 0 7 0)]) hx (C_X8_isTerm (c := x_y x) hKS c2) (k_0_7 hKS) rfl wl_X8_141 wi_X8_isTerm we_X8_isTerm wn_X8 wc_X8_isTerm dy_X8_isTerm rfl (by rw [hR]; decide +kernel) rfl (Nat.le_of_ble_eq_true rfl) dX8_steps_3 ?_
  refine r_if_eq (tgt := 13) hx dX8_steps_6 (by decide) (fun c4 => ?_) (fun c4 => ?_)
  · have h := ite_t h c4
    refine r_iconst (v := 1) hx dX8_steps_13 (by decide) ?_
    exact t_X8_steps_14 hx hR hKS hE h
  · have h := ite_f h c4
    refine r_iconst (v := 0) hx dX8_steps_9 (by decide) ?_
    refine r_goto (tgt := 14) hx dX8_steps_10 (by decide) ?_
    exact t_X8_steps_14 hx hR hKS hE h
set_option maxHeartbeats 4000000 in
theorem C_X8_steps {n : Nat} {c : YC} (hKS : ∀ k ∈ KM, k ∈ c.2.2.2.2) {S : St} {a1 : Int32} {out : St × Int32} (h : f_X8_steps n S a1 = some out) : MI c yX8_steps cX8_steps 2 (some .int) rm_X8_steps S [.ref (c.2.2.1 0 7 0), .int a1] out := mk_I (own := RX8) (by decide +kernel) rfl (Nat.le_of_ble_eq_true rfl) (fun x hx hR hy hE => by subst hy; exact t_X8_steps_0 hx hR hKS hE h)
def j_X8_same_22 (n : Nat) (S : St) (l1 : Int32) (l2 : Int32) (s0 : Int32) : Option (St × Int32) :=
  pS S 350 0 s0 fun S1 =>
  if (S1.1 350 0) ≤ 0 then
    bI (f_X8_layTerm n S1 l1 368 0) fun S4 v6 =>
    pS S4 372 0 v6 fun S7 =>
    bI (f_X8_normalize n S7) fun S9 v11 =>
    if 0 ≤ v11 then
      pS S9 375 0 0 fun S13 =>
      bU (f_X8_push n S13 368 0 (S13.1 372 0)) fun S15 =>
      bI (f_X8_layTerm n S15 l2 368 0) fun S17 v19 =>
      pS S17 372 0 v19 fun S20 =>
      bI (f_X8_normalize n S20) fun S22 v24 =>
      if 0 ≤ v24 then
        bI (f_X8_isSame n S22 371 0 368 0) fun S26 v28 =>
        if v28 = 0 then
          some (S26, 0)
        else
          some (S26, 1)
      else
        some (S22, (-6))
    else
      some (S9, (-6))
  else
    some (S1, 0)
def j_X8_same_21 (n : Nat) (S : St) (l1 : Int32) (l2 : Int32) : Option (St × Int32) :=
  j_X8_same_22 n S l1 l2 1
def f_X8_same (n : Nat) (S : St) (a1 : Int32) (a2 : Int32) : Option (St × Int32) :=
  bI (f_X8_isTerm n S a1) fun S1 v3 =>
  if v3 = 0 then
    j_X8_same_21 n S1 a1 a2
  else
    bI (f_X8_isTerm n S1 a2) fun S5 v7 =>
    if v7 = 0 then
      j_X8_same_21 n S5 a1 a2
    else
      j_X8_same_22 n S5 a1 a2 0
set_option maxRecDepth 100000 in
set_option maxHeartbeats 4000000 in
theorem t_X8_same_22 {n : Nat} {x : XC} (hx : CX x cX8_same 3 RX8) (hR : x_R x = rm_X8_same) (hKS : ∀ k ∈ KM, k ∈ x_K x) {out : St × Int32} (hE : EI x cX8_same out) {S : St} {l1 : Int32} {l2 : Int32} {s0 : Int32} (h : j_X8_same_22 n S l1 l2 s0 = some out) : WX x 3 0 0 S 22 [(0, .ref (x_ad x 0 7 0)), (1, .int l1), (2, .int l2)] [.int s0, .ref (x_ad x 0 7 0)] := by
  unfold j_X8_same_22 at h
  obtain ⟨S1, e2, h⟩ := pS_some h
  refine p_350 hx (k_0_7 hKS) wf_X8_106 dX8_same_22 e2 ?_
  refine r_aload_n (k0 := 0) hx dX8_same_25 rfl rfl ?_
  refine g_350 hx (k_0_7 hKS) wf_X8_106 dX8_same_26 ?_
  refine r_if_le (tgt := 34) hx dX8_same_29 (by decide) (fun c3 => ?_) (fun c3 => ?_)
  · have h := ite_t h c3
    refine r_aload_n (k0 := 0) hx dX8_same_34 rfl rfl ?_
    refine r_aload_n (k0 := 0) hx dX8_same_35 rfl rfl ?_
    refine r_iload_n (k0 := 1) hx dX8_same_36 rfl rfl ?_
    refine r_aload_n (k0 := 0) hx dX8_same_37 rfl rfl ?_
    refine g_368 hx (k_0_7 hKS) wf_X8_56 dX8_same_38 ?_
    refine r_iconst (v := 0) hx dX8_same_41 (by decide) ?_
    obtain ⟨S4, v6, c5, h⟩ := bI_some h
    refine r_Vi (ci := 7) (As := [.int l1, .ref (x_ad x 1 368 0), .int 0]) (rest := [.ref (x_ad x 0 7 0)]) hx (C_X8_layTerm (c := x_y x) hKS km_368 c5) (k_0_7 hKS) rfl wl_X8_176 wi_X8_layTerm we_X8_layTerm wn_X8 wc_X8_layTerm dy_X8_layTerm rfl (by rw [hR]; decide +kernel) rfl (Nat.le_of_ble_eq_true rfl) dX8_same_42 ?_
    obtain ⟨S7, e8, h⟩ := pS_some h
    refine p_372 hx (k_0_7 hKS) wf_X8_186 dX8_same_45 e8 ?_
    refine r_aload_n (k0 := 0) hx dX8_same_48 rfl rfl ?_
    obtain ⟨S9, v11, c10, h⟩ := bI_some h
    refine r_Vi (ci := 7) (As := []) (rest := []) hx (C_X8_normalize (c := x_y x) hKS c10) (k_0_7 hKS) rfl wl_X8_237 wi_X8_normalize we_X8_normalize wn_X8 wc_X8_normalize dy_X8_normalize rfl (by rw [hR]; decide +kernel) rfl (Nat.le_of_ble_eq_true rfl) dX8_same_49 ?_
    refine r_if_ge (tgt := 58) hx dX8_same_52 (by decide) (fun c12 => ?_) (fun c12 => ?_)
    · have h := ite_t h c12
      refine r_aload_n (k0 := 0) hx dX8_same_58 rfl rfl ?_
      refine r_iconst (v := 0) hx dX8_same_59 (by decide) ?_
      obtain ⟨S13, e14, h⟩ := pS_some h
      refine p_375 hx (k_0_7 hKS) wf_X8_228 dX8_same_60 e14 ?_
      refine r_aload_n (k0 := 0) hx dX8_same_63 rfl rfl ?_
      refine r_aload_n (k0 := 0) hx dX8_same_64 rfl rfl ?_
      refine g_368 hx (k_0_7 hKS) wf_X8_56 dX8_same_65 ?_
      refine r_iconst (v := 0) hx dX8_same_68 (by decide) ?_
      refine r_aload_n (k0 := 0) hx dX8_same_69 rfl rfl ?_
      refine g_372 hx (k_0_7 hKS) wf_X8_186 dX8_same_70 ?_
      obtain ⟨S15, c16, h⟩ := bU_some h
      refine r_Vv (ci := 7) (As := [.ref (x_ad x 1 368 0), .int 0, .int (S13.1 372 0)]) (rest := []) hx (C_X8_push (c := x_y x) hKS km_368 c16) (k_0_7 hKS) rfl wl_X8_231 wi_X8_push we_X8_push wn_X8 wc_X8_push dy_X8_push rfl (by rw [hR]; decide +kernel) rfl (Nat.le_of_ble_eq_true rfl) dX8_same_73 ?_
      refine r_aload_n (k0 := 0) hx dX8_same_76 rfl rfl ?_
      refine r_aload_n (k0 := 0) hx dX8_same_77 rfl rfl ?_
      refine r_iload_n (k0 := 2) hx dX8_same_78 rfl rfl ?_
      refine r_aload_n (k0 := 0) hx dX8_same_79 rfl rfl ?_
      refine g_368 hx (k_0_7 hKS) wf_X8_56 dX8_same_80 ?_
      refine r_iconst (v := 0) hx dX8_same_83 (by decide) ?_
      obtain ⟨S17, v19, c18, h⟩ := bI_some h
      refine r_Vi (ci := 7) (As := [.int l2, .ref (x_ad x 1 368 0), .int 0]) (rest := [.ref (x_ad x 0 7 0)]) hx (C_X8_layTerm (c := x_y x) hKS km_368 c18) (k_0_7 hKS) rfl wl_X8_176 wi_X8_layTerm we_X8_layTerm wn_X8 wc_X8_layTerm dy_X8_layTerm rfl (by rw [hR]; decide +kernel) rfl (Nat.le_of_ble_eq_true rfl) dX8_same_84 ?_
      obtain ⟨S20, e21, h⟩ := pS_some h
      refine p_372 hx (k_0_7 hKS) wf_X8_186 dX8_same_87 e21 ?_
      refine r_aload_n (k0 := 0) hx dX8_same_90 rfl rfl ?_
      obtain ⟨S22, v24, c23, h⟩ := bI_some h
      refine r_Vi (ci := 7) (As := []) (rest := []) hx (C_X8_normalize (c := x_y x) hKS c23) (k_0_7 hKS) rfl wl_X8_237 wi_X8_normalize we_X8_normalize wn_X8 wc_X8_normalize dy_X8_normalize rfl (by rw [hR]; decide +kernel) rfl (Nat.le_of_ble_eq_true rfl) dX8_same_91 ?_
      refine r_if_ge (tgt := 100) hx dX8_same_94 (by decide) (fun c25 => ?_) (fun c25 => ?_)
      · have h := ite_t h c25
        refine r_aload_n (k0 := 0) hx dX8_same_100 rfl rfl ?_
        refine r_aload_n (k0 := 0) hx dX8_same_101 rfl rfl ?_
        refine g_371 hx (k_0_7 hKS) wf_X8_66 dX8_same_102 ?_
        refine r_iconst (v := 0) hx dX8_same_105 (by decide) ?_
        refine r_aload_n (k0 := 0) hx dX8_same_106 rfl rfl ?_
        refine g_368 hx (k_0_7 hKS) wf_X8_56 dX8_same_107 ?_
        refine r_iconst (v := 0) hx dX8_same_110 (by decide) ?_
        obtain ⟨S26, v28, c27, h⟩ := bI_some h
        refine r_Vi (ci := 7) (As := [.ref (x_ad x 1 371 0), .int 0, .ref (x_ad x 1 368 0), .int 0]) (rest := []) hx (C_X8_isSame (c := x_y x) hKS km_371 km_368 c27) (k_0_7 hKS) rfl wl_X8_270 wi_X8_isSame we_X8_isSame wn_X8 wc_X8_isSame dy_X8_isSame rfl (by rw [hR]; decide +kernel) rfl (Nat.le_of_ble_eq_true rfl) dX8_same_111 ?_
        refine r_if_eq (tgt := 121) hx dX8_same_114 (by decide) (fun c29 => ?_) (fun c29 => ?_)
        · have h := ite_t h c29
          refine r_iconst (v := 0) hx dX8_same_121 (by decide) ?_
          exact r_iret hE h dX8_same_122
        · have h := ite_f h c29
          refine r_iconst (v := 1) hx dX8_same_117 (by decide) ?_
          refine r_goto (tgt := 122) hx dX8_same_118 (by decide) ?_
          exact r_iret hE h dX8_same_122
      · have h := ite_f h c25
        refine r_bipush (v := -6) hx dX8_same_97 (by decide) ?_
        exact r_iret hE h dX8_same_99
    · have h := ite_f h c12
      refine r_bipush (v := -6) hx dX8_same_55 (by decide) ?_
      exact r_iret hE h dX8_same_57
  · have h := ite_f h c3
    refine r_iconst (v := 0) hx dX8_same_32 (by decide) ?_
    exact r_iret hE h dX8_same_33
set_option maxRecDepth 100000 in
set_option maxHeartbeats 4000000 in
theorem t_X8_same_21 {n : Nat} {x : XC} (hx : CX x cX8_same 3 RX8) (hR : x_R x = rm_X8_same) (hKS : ∀ k ∈ KM, k ∈ x_K x) {out : St × Int32} (hE : EI x cX8_same out) {S : St} {l1 : Int32} {l2 : Int32} (h : j_X8_same_21 n S l1 l2 = some out) : WX x 3 0 0 S 21 [(0, .ref (x_ad x 0 7 0)), (1, .int l1), (2, .int l2)] [.ref (x_ad x 0 7 0)] := by
  unfold j_X8_same_21 at h
  refine r_iconst (v := 1) hx dX8_same_21 (by decide) ?_
  exact t_X8_same_22 hx hR hKS hE h
set_option maxRecDepth 100000 in
set_option maxHeartbeats 4000000 in
theorem t_X8_same_0 {n : Nat} {x : XC} (hx : CX x cX8_same 3 RX8) (hR : x_R x = rm_X8_same) (hKS : ∀ k ∈ KM, k ∈ x_K x) {out : St × Int32} (hE : EI x cX8_same out) {S : St} {a1 : Int32} {a2 : Int32} (h : f_X8_same n S a1 a2 = some out) : WX x 3 0 0 S 0 [(0, .ref (x_ad x 0 7 0)), (1, .int a1), (2, .int a2)] [] := by
  unfold f_X8_same at h
  refine r_aload_n (k0 := 0) hx dX8_same_0 rfl rfl ?_
  refine r_aload_n (k0 := 0) hx dX8_same_1 rfl rfl ?_
  refine r_iload_n (k0 := 1) hx dX8_same_2 rfl rfl ?_
  obtain ⟨S1, v3, c2, h⟩ := bI_some h
  refine r_Vi (ci := 7) (As := [.int a1]) (rest := [.ref (x_ad x 0 7 0)]) hx (C_X8_isTerm (c := x_y x) hKS c2) (k_0_7 hKS) rfl wl_X8_141 wi_X8_isTerm we_X8_isTerm wn_X8 wc_X8_isTerm dy_X8_isTerm rfl (by rw [hR]; decide +kernel) rfl (Nat.le_of_ble_eq_true rfl) dX8_same_3 ?_
  refine r_if_eq (tgt := 21) hx dX8_same_6 (by decide) (fun c4 => ?_) (fun c4 => ?_)
  · have h := ite_t h c4
    exact t_X8_same_21 hx hR hKS hE h
  · have h := ite_f h c4
    refine r_aload_n (k0 := 0) hx dX8_same_9 rfl rfl ?_
    refine r_iload_n (k0 := 2) hx dX8_same_10 rfl rfl ?_
    obtain ⟨S5, v7, c6, h⟩ := bI_some h
    refine r_Vi (ci := 7) (As := [.int a2]) (rest := [.ref (x_ad x 0 7 0)]) hx (C_X8_isTerm (c := x_y x) hKS c6) (k_0_7 hKS) rfl wl_X8_141 wi_X8_isTerm we_X8_isTerm wn_X8 wc_X8_isTerm dy_X8_isTerm rfl (by rw [hR]; decide +kernel) rfl (Nat.le_of_ble_eq_true rfl) dX8_same_11 ?_
    refine r_if_eq (tgt := 21) hx dX8_same_14 (by decide) (fun c8 => ?_) (fun c8 => ?_)
    · have h := ite_t h c8
      exact t_X8_same_21 hx hR hKS hE h
    · have h := ite_f h c8
      refine r_iconst (v := 0) hx dX8_same_17 (by decide) ?_
      refine r_goto (tgt := 22) hx dX8_same_18 (by decide) ?_
      exact t_X8_same_22 hx hR hKS hE h
set_option maxHeartbeats 4000000 in
theorem C_X8_same {n : Nat} {c : YC} (hKS : ∀ k ∈ KM, k ∈ c.2.2.2.2) {S : St} {a1 : Int32} {a2 : Int32} {out : St × Int32} (h : f_X8_same n S a1 a2 = some out) : MI c yX8_same cX8_same 3 (some .int) rm_X8_same S [.ref (c.2.2.1 0 7 0), .int a1, .int a2] out := mk_I (own := RX8) (by decide +kernel) rfl (Nat.le_of_ble_eq_true rfl) (fun x hx hR hy hE => by subst hy; exact t_X8_same_0 hx hR hKS hE h)
def j_X8_declare_53 (n : Nat) (S : St) (l1 : Int32) (l2 : Int32) (l3 : Int32) (s0 : Int32) : Option (St × Int32) :=
  pS S 350 0 s0 fun S1 =>
  if (S1.1 350 0) ≤ 0 then
    bI (f_X8_reasonOf n S1 l1 l2 l3) fun S4 v6 =>
    if v6 ≤ 0 then
      pI S4 363 0 (S4.1 366 0) 40 l1 fun S8 =>
      pI S8 364 0 (S8.1 366 0) 40 l2 fun S11 =>
      pI S11 365 0 (S11.1 366 0) 40 l3 fun S14 =>
      pS S14 366 0 ((S14.1 366 0) + 1) fun S17 =>
      some (S17, ((S17.1 366 0) - 1))
    else
      some (S4, ((-1) - v6))
  else
    some (S1, 0)
def j_X8_declare_35 (n : Nat) (S : St) (l1 : Int32) (l2 : Int32) (l3 : Int32) : Option (St × Int32) :=
  j_X8_declare_53 n S l1 l2 l3 2
def j_X8_declare_39 (n : Nat) (S : St) (l1 : Int32) (l2 : Int32) (l3 : Int32) : Option (St × Int32) :=
  if (S.1 366 0) = 40 then
    j_X8_declare_53 n S l1 l2 l3 3
  else
    j_X8_declare_53 n S l1 l2 l3 0
def f_X8_declare (n : Nat) (S : St) (a1 : Int32) (a2 : Int32) (a3 : Int32) : Option (St × Int32) :=
  bI (f_X8_isIn n S a1 0 2) fun S1 v3 =>
  if v3 = 0 then
    j_X8_declare_53 n S1 a1 a2 a3 1
  else
    bI (f_X8_isTerm n S1 a2) fun S5 v7 =>
    if v7 = 0 then
      j_X8_declare_35 n S5 a1 a2 a3
    else
      if a3 = (-1) then
        j_X8_declare_39 n S5 a1 a2 a3
      else
        bI (f_X8_isTerm n S5 a3) fun S10 v12 =>
        if v12 = 0 then
          j_X8_declare_35 n S10 a1 a2 a3
        else
          j_X8_declare_39 n S10 a1 a2 a3
set_option maxRecDepth 100000 in
set_option maxHeartbeats 4000000 in
theorem t_X8_declare_53 {n : Nat} {x : XC} (hx : CX x cX8_declare 5 RX8) (hR : x_R x = rm_X8_declare) (hKS : ∀ k ∈ KM, k ∈ x_K x) {out : St × Int32} (hE : EI x cX8_declare out) {S : St} {l1 : Int32} {l2 : Int32} {l3 : Int32} {s0 : Int32} (h : j_X8_declare_53 n S l1 l2 l3 s0 = some out) : WX x 5 0 0 S 53 [(0, .ref (x_ad x 0 7 0)), (1, .int l1), (2, .int l2), (3, .int l3)] [.int s0, .ref (x_ad x 0 7 0)] := by
  unfold j_X8_declare_53 at h
  obtain ⟨S1, e2, h⟩ := pS_some h
  refine p_350 hx (k_0_7 hKS) wf_X8_106 dX8_declare_53 e2 ?_
  refine r_aload_n (k0 := 0) hx dX8_declare_56 rfl rfl ?_
  refine g_350 hx (k_0_7 hKS) wf_X8_106 dX8_declare_57 ?_
  refine r_if_le (tgt := 65) hx dX8_declare_60 (by decide) (fun c3 => ?_) (fun c3 => ?_)
  · have h := ite_t h c3
    refine r_aload_n (k0 := 0) hx dX8_declare_65 rfl rfl ?_
    refine r_iload_n (k0 := 1) hx dX8_declare_66 rfl rfl ?_
    refine r_iload_n (k0 := 2) hx dX8_declare_67 rfl rfl ?_
    refine r_iload_n (k0 := 3) hx dX8_declare_68 rfl rfl ?_
    obtain ⟨S4, v6, c5, h⟩ := bI_some h
    refine r_Vi (ci := 7) (As := [.int l1, .int l2, .int l3]) (rest := []) hx (C_X8_reasonOf (c := x_y x) hKS c5) (k_0_7 hKS) rfl wl_X8_294 wi_X8_reasonOf we_X8_reasonOf wn_X8 wc_X8_reasonOf dy_X8_reasonOf rfl (by rw [hR]; decide +kernel) rfl (Nat.le_of_ble_eq_true rfl) dX8_declare_69 ?_
    refine r_istore (lv' := [(4, .int v6), (0, .ref (x_ad x 0 7 0)), (1, .int l1), (2, .int l2), (3, .int l3)]) hx dX8_declare_72 (by decide) rfl ?_
    refine r_iload (k0 := 0) hx dX8_declare_74 rfl ?_
    refine r_if_le (tgt := 84) hx dX8_declare_76 (by decide) (fun c7 => ?_) (fun c7 => ?_)
    · have h := ite_t h c7
      refine r_aload_n (k0 := 1) hx dX8_declare_84 rfl rfl ?_
      refine g_363 hx (k_0_7 hKS) wf_X8_44 dX8_declare_85 ?_
      refine r_aload_n (k0 := 1) hx dX8_declare_88 rfl rfl ?_
      refine g_366 hx (k_0_7 hKS) wf_X8_112 dX8_declare_89 ?_
      refine r_iload_n (k0 := 2) hx dX8_declare_92 rfl rfl ?_
      obtain ⟨S8, e9, i10, h⟩ := pI_some h
      refine r_iast hx (k_1_363 hKS) rfl i10 e9 dX8_declare_93 ?_
      refine r_aload_n (k0 := 1) hx dX8_declare_94 rfl rfl ?_
      refine g_364 hx (k_0_7 hKS) wf_X8_47 dX8_declare_95 ?_
      refine r_aload_n (k0 := 1) hx dX8_declare_98 rfl rfl ?_
      refine g_366 hx (k_0_7 hKS) wf_X8_112 dX8_declare_99 ?_
      refine r_iload_n (k0 := 3) hx dX8_declare_102 rfl rfl ?_
      obtain ⟨S11, e12, i13, h⟩ := pI_some h
      refine r_iast hx (k_1_364 hKS) rfl i13 e12 dX8_declare_103 ?_
      refine r_aload_n (k0 := 1) hx dX8_declare_104 rfl rfl ?_
      refine g_365 hx (k_0_7 hKS) wf_X8_50 dX8_declare_105 ?_
      refine r_aload_n (k0 := 1) hx dX8_declare_108 rfl rfl ?_
      refine g_366 hx (k_0_7 hKS) wf_X8_112 dX8_declare_109 ?_
      refine r_iload_n (k0 := 4) hx dX8_declare_112 rfl rfl ?_
      obtain ⟨S14, e15, i16, h⟩ := pI_some h
      refine r_iast hx (k_1_365 hKS) rfl i16 e15 dX8_declare_113 ?_
      refine r_aload_n (k0 := 1) hx dX8_declare_114 rfl rfl ?_
      refine r_dup hx dX8_declare_115 rfl ?_
      refine g_366 hx (k_0_7 hKS) wf_X8_112 dX8_declare_116 ?_
      refine r_iconst (v := 1) hx dX8_declare_119 (by decide) ?_
      refine r_iadd hx dX8_declare_120 ?_
      obtain ⟨S17, e18, h⟩ := pS_some h
      refine p_366 hx (k_0_7 hKS) wf_X8_112 dX8_declare_121 e18 ?_
      refine r_aload_n (k0 := 1) hx dX8_declare_124 rfl rfl ?_
      refine g_366 hx (k_0_7 hKS) wf_X8_112 dX8_declare_125 ?_
      refine r_iconst (v := 1) hx dX8_declare_128 (by decide) ?_
      refine r_isub hx dX8_declare_129 ?_
      exact r_iret hE h dX8_declare_130
    · have h := ite_f h c7
      refine r_iconst (v := -1) hx dX8_declare_79 (by decide) ?_
      refine r_iload (k0 := 0) hx dX8_declare_80 rfl ?_
      refine r_isub hx dX8_declare_82 ?_
      exact r_iret hE h dX8_declare_83
  · have h := ite_f h c3
    refine r_iconst (v := 0) hx dX8_declare_63 (by decide) ?_
    exact r_iret hE h dX8_declare_64
set_option maxRecDepth 100000 in
set_option maxHeartbeats 4000000 in
theorem t_X8_declare_35 {n : Nat} {x : XC} (hx : CX x cX8_declare 5 RX8) (hR : x_R x = rm_X8_declare) (hKS : ∀ k ∈ KM, k ∈ x_K x) {out : St × Int32} (hE : EI x cX8_declare out) {S : St} {l1 : Int32} {l2 : Int32} {l3 : Int32} (h : j_X8_declare_35 n S l1 l2 l3 = some out) : WX x 5 0 0 S 35 [(0, .ref (x_ad x 0 7 0)), (1, .int l1), (2, .int l2), (3, .int l3)] [.ref (x_ad x 0 7 0)] := by
  unfold j_X8_declare_35 at h
  refine r_iconst (v := 2) hx dX8_declare_35 (by decide) ?_
  refine r_goto (tgt := 53) hx dX8_declare_36 (by decide) ?_
  exact t_X8_declare_53 hx hR hKS hE h
set_option maxRecDepth 100000 in
set_option maxHeartbeats 4000000 in
theorem t_X8_declare_39 {n : Nat} {x : XC} (hx : CX x cX8_declare 5 RX8) (hR : x_R x = rm_X8_declare) (hKS : ∀ k ∈ KM, k ∈ x_K x) {out : St × Int32} (hE : EI x cX8_declare out) {S : St} {l1 : Int32} {l2 : Int32} {l3 : Int32} (h : j_X8_declare_39 n S l1 l2 l3 = some out) : WX x 5 0 0 S 39 [(0, .ref (x_ad x 0 7 0)), (1, .int l1), (2, .int l2), (3, .int l3)] [.ref (x_ad x 0 7 0)] := by
  unfold j_X8_declare_39 at h
  refine r_aload_n (k0 := 0) hx dX8_declare_39 rfl rfl ?_
  refine g_366 hx (k_0_7 hKS) wf_X8_112 dX8_declare_40 ?_
  refine r_bipush (v := 40) hx dX8_declare_43 (by decide) ?_
  refine r_icmp_ne (tgt := 52) hx dX8_declare_45 (by decide) (fun c1 => ?_) (fun c1 => ?_)
  · have h := ite_f h c1
    refine r_iconst (v := 0) hx dX8_declare_52 (by decide) ?_
    exact t_X8_declare_53 hx hR hKS hE h
  · have h := ite_t h c1
    refine r_iconst (v := 3) hx dX8_declare_48 (by decide) ?_
    refine r_goto (tgt := 53) hx dX8_declare_49 (by decide) ?_
    exact t_X8_declare_53 hx hR hKS hE h
set_option maxRecDepth 100000 in
set_option maxHeartbeats 4000000 in
theorem t_X8_declare_0 {n : Nat} {x : XC} (hx : CX x cX8_declare 5 RX8) (hR : x_R x = rm_X8_declare) (hKS : ∀ k ∈ KM, k ∈ x_K x) {out : St × Int32} (hE : EI x cX8_declare out) {S : St} {a1 : Int32} {a2 : Int32} {a3 : Int32} (h : f_X8_declare n S a1 a2 a3 = some out) : WX x 5 0 0 S 0 [(0, .ref (x_ad x 0 7 0)), (1, .int a1), (2, .int a2), (3, .int a3)] [] := by
  unfold f_X8_declare at h
  refine r_aload_n (k0 := 0) hx dX8_declare_0 rfl rfl ?_
  refine r_iload_n (k0 := 1) hx dX8_declare_1 rfl rfl ?_
  refine r_iconst (v := 0) hx dX8_declare_2 (by decide) ?_
  refine r_iconst (v := 2) hx dX8_declare_3 (by decide) ?_
  obtain ⟨S1, v3, c2, h⟩ := bI_some h
  refine r_Si (As := [.int a1, .int 0, .int 2]) (rest := [.ref (x_ad x 0 7 0)]) hx (C_X8_isIn (c := x_y x) hKS c2) wl_X8_115 wt_X8_isIn wn_X8 wc_X8_isIn dy_X8_isIn rfl (by rw [hR]; decide +kernel) rfl (Nat.le_of_ble_eq_true rfl) dX8_declare_4 ?_
  refine r_if_ne (tgt := 14) hx dX8_declare_7 (by decide) (fun c4 => ?_) (fun c4 => ?_)
  · have h := ite_f h c4
    refine r_aload_n (k0 := 0) hx dX8_declare_14 rfl rfl ?_
    refine r_iload_n (k0 := 2) hx dX8_declare_15 rfl rfl ?_
    obtain ⟨S5, v7, c6, h⟩ := bI_some h
    refine r_Vi (ci := 7) (As := [.int a2]) (rest := [.ref (x_ad x 0 7 0)]) hx (C_X8_isTerm (c := x_y x) hKS c6) (k_0_7 hKS) rfl wl_X8_141 wi_X8_isTerm we_X8_isTerm wn_X8 wc_X8_isTerm dy_X8_isTerm rfl (by rw [hR]; decide +kernel) rfl (Nat.le_of_ble_eq_true rfl) dX8_declare_16 ?_
    refine r_if_eq (tgt := 35) hx dX8_declare_19 (by decide) (fun c8 => ?_) (fun c8 => ?_)
    · have h := ite_t h c8
      exact t_X8_declare_35 hx hR hKS hE h
    · have h := ite_f h c8
      refine r_iload_n (k0 := 3) hx dX8_declare_22 rfl rfl ?_
      refine r_iconst (v := -1) hx dX8_declare_23 (by decide) ?_
      refine r_icmp_eq (tgt := 39) hx dX8_declare_24 (by decide) (fun c9 => ?_) (fun c9 => ?_)
      · have h := ite_t h c9
        exact t_X8_declare_39 hx hR hKS hE h
      · have h := ite_f h c9
        refine r_aload_n (k0 := 0) hx dX8_declare_27 rfl rfl ?_
        refine r_iload_n (k0 := 3) hx dX8_declare_28 rfl rfl ?_
        obtain ⟨S10, v12, c11, h⟩ := bI_some h
        refine r_Vi (ci := 7) (As := [.int a3]) (rest := [.ref (x_ad x 0 7 0)]) hx (C_X8_isTerm (c := x_y x) hKS c11) (k_0_7 hKS) rfl wl_X8_141 wi_X8_isTerm we_X8_isTerm wn_X8 wc_X8_isTerm dy_X8_isTerm rfl (by rw [hR]; decide +kernel) rfl (Nat.le_of_ble_eq_true rfl) dX8_declare_29 ?_
        refine r_if_ne (tgt := 39) hx dX8_declare_32 (by decide) (fun c13 => ?_) (fun c13 => ?_)
        · have h := ite_f h c13
          exact t_X8_declare_39 hx hR hKS hE h
        · have h := ite_t h c13
          exact t_X8_declare_35 hx hR hKS hE h
  · have h := ite_t h c4
    refine r_iconst (v := 1) hx dX8_declare_10 (by decide) ?_
    refine r_goto (tgt := 53) hx dX8_declare_11 (by decide) ?_
    exact t_X8_declare_53 hx hR hKS hE h
set_option maxHeartbeats 4000000 in
theorem C_X8_declare {n : Nat} {c : YC} (hKS : ∀ k ∈ KM, k ∈ c.2.2.2.2) {S : St} {a1 : Int32} {a2 : Int32} {a3 : Int32} {out : St × Int32} (h : f_X8_declare n S a1 a2 a3 = some out) : MI c yX8_declare cX8_declare 5 (some .int) rm_X8_declare S [.ref (c.2.2.1 0 7 0), .int a1, .int a2, .int a3] out := mk_I (own := RX8) (by decide +kernel) rfl (Nat.le_of_ble_eq_true rfl) (fun x hx hR hy hE => by subst hy; exact t_X8_declare_0 hx hR hKS hE h)
def j_X8_atMost_22 (n : Nat) (S : St) (l1 : Int32) (l2 : Int32) (s0 : Int32) : Option (St × Int32) :=
  pS S 350 0 s0 fun S1 =>
  if (S1.1 350 0) ≤ 0 then
    bI (f_X8_layLevel n S1 l1 368 0) fun S4 v6 =>
    bI (f_X8_layLevel n S4 l2 369 0) fun S7 v9 =>
    bI (f_X8_isAtMost n S7 368 0 369 0) fun S10 v12 =>
    some (S10, v12)
  else
    some (S1, 0)
def j_X8_atMost_21 (n : Nat) (S : St) (l1 : Int32) (l2 : Int32) : Option (St × Int32) :=
  j_X8_atMost_22 n S l1 l2 1
def g_X8_atMost (n : Nat) (S : St) (a1 : Int32) (a2 : Int32) : Option (St × Int32) :=
  bI (f_X8_isLevel n S a1) fun S1 v3 =>
  if v3 = 0 then
    j_X8_atMost_21 n S1 a1 a2
  else
    bI (f_X8_isLevel n S1 a2) fun S5 v7 =>
    if v7 = 0 then
      j_X8_atMost_21 n S5 a1 a2
    else
      j_X8_atMost_22 n S5 a1 a2 0
set_option maxRecDepth 100000 in
set_option maxHeartbeats 4000000 in
theorem t_X8_atMost_22 {n : Nat} {x : XC} (hx : CX x cX8_atMost 5 RX8) (hR : x_R x = rm_X8_atMost) (hKS : ∀ k ∈ KM, k ∈ x_K x) {out : St × Int32} (hE : EI x cX8_atMost out) {S : St} {l1 : Int32} {l2 : Int32} {s0 : Int32} (h : j_X8_atMost_22 n S l1 l2 s0 = some out) : WX x 5 0 0 S 22 [(0, .ref (x_ad x 0 7 0)), (1, .int l1), (2, .int l2)] [.int s0, .ref (x_ad x 0 7 0)] := by
  unfold j_X8_atMost_22 at h
  obtain ⟨S1, e2, h⟩ := pS_some h
  refine p_350 hx (k_0_7 hKS) wf_X8_106 dX8_atMost_22 e2 ?_
  refine r_aload_n (k0 := 0) hx dX8_atMost_25 rfl rfl ?_
  refine g_350 hx (k_0_7 hKS) wf_X8_106 dX8_atMost_26 ?_
  refine r_if_le (tgt := 34) hx dX8_atMost_29 (by decide) (fun c3 => ?_) (fun c3 => ?_)
  · have h := ite_t h c3
    refine r_aload_n (k0 := 0) hx dX8_atMost_34 rfl rfl ?_
    refine r_iload_n (k0 := 1) hx dX8_atMost_35 rfl rfl ?_
    refine r_aload_n (k0 := 0) hx dX8_atMost_36 rfl rfl ?_
    refine g_368 hx (k_0_7 hKS) wf_X8_56 dX8_atMost_37 ?_
    refine r_iconst (v := 0) hx dX8_atMost_40 (by decide) ?_
    obtain ⟨S4, v6, c5, h⟩ := bI_some h
    refine r_Vi (ci := 7) (As := [.int l1, .ref (x_ad x 1 368 0), .int 0]) (rest := []) hx (C_X8_layLevel (c := x_y x) hKS km_368 c5) (k_0_7 hKS) rfl wl_X8_155 wi_X8_layLevel we_X8_layLevel wn_X8 wc_X8_layLevel dy_X8_layLevel rfl (by rw [hR]; decide +kernel) rfl (Nat.le_of_ble_eq_true rfl) dX8_atMost_41 ?_
    refine r_istore_n (lv' := [(3, .int v6), (0, .ref (x_ad x 0 7 0)), (1, .int l1), (2, .int l2)]) hx dX8_atMost_44 rfl (by decide) rfl ?_
    refine r_aload_n (k0 := 1) hx dX8_atMost_45 rfl rfl ?_
    refine r_iload_n (k0 := 3) hx dX8_atMost_46 rfl rfl ?_
    refine r_aload_n (k0 := 1) hx dX8_atMost_47 rfl rfl ?_
    refine g_369 hx (k_0_7 hKS) wf_X8_59 dX8_atMost_48 ?_
    refine r_iconst (v := 0) hx dX8_atMost_51 (by decide) ?_
    obtain ⟨S7, v9, c8, h⟩ := bI_some h
    refine r_Vi (ci := 7) (As := [.int l2, .ref (x_ad x 1 369 0), .int 0]) (rest := []) hx (C_X8_layLevel (c := x_y x) hKS km_369 c8) (k_0_7 hKS) rfl wl_X8_155 wi_X8_layLevel we_X8_layLevel wn_X8 wc_X8_layLevel dy_X8_layLevel rfl (by rw [hR]; decide +kernel) rfl (Nat.le_of_ble_eq_true rfl) dX8_atMost_52 ?_
    refine r_istore (lv' := [(4, .int v9), (3, .int v6), (0, .ref (x_ad x 0 7 0)), (1, .int l1), (2, .int l2)]) hx dX8_atMost_55 (by decide) rfl ?_
    refine r_aload_n (k0 := 2) hx dX8_atMost_57 rfl rfl ?_
    refine r_aload_n (k0 := 2) hx dX8_atMost_58 rfl rfl ?_
    refine g_368 hx (k_0_7 hKS) wf_X8_56 dX8_atMost_59 ?_
    refine r_iconst (v := 0) hx dX8_atMost_62 (by decide) ?_
    refine r_aload_n (k0 := 2) hx dX8_atMost_63 rfl rfl ?_
    refine g_369 hx (k_0_7 hKS) wf_X8_59 dX8_atMost_64 ?_
    refine r_iconst (v := 0) hx dX8_atMost_67 (by decide) ?_
    obtain ⟨S10, v12, c11, h⟩ := bI_some h
    refine r_Vi (ci := 7) (As := [.ref (x_ad x 1 368 0), .int 0, .ref (x_ad x 1 369 0), .int 0]) (rest := []) hx (C_X8_isAtMost (c := x_y x) hKS km_368 km_369 c11) (k_0_7 hKS) rfl wl_X8_221 wi_X8_isAtMost we_X8_isAtMost wn_X8 wc_X8_isAtMost dy_X8_isAtMost rfl (by rw [hR]; decide +kernel) rfl (Nat.le_of_ble_eq_true rfl) dX8_atMost_68 ?_
    exact r_iret hE h dX8_atMost_71
  · have h := ite_f h c3
    refine r_iconst (v := 0) hx dX8_atMost_32 (by decide) ?_
    exact r_iret hE h dX8_atMost_33
set_option maxRecDepth 100000 in
set_option maxHeartbeats 4000000 in
theorem t_X8_atMost_21 {n : Nat} {x : XC} (hx : CX x cX8_atMost 5 RX8) (hR : x_R x = rm_X8_atMost) (hKS : ∀ k ∈ KM, k ∈ x_K x) {out : St × Int32} (hE : EI x cX8_atMost out) {S : St} {l1 : Int32} {l2 : Int32} (h : j_X8_atMost_21 n S l1 l2 = some out) : WX x 5 0 0 S 21 [(0, .ref (x_ad x 0 7 0)), (1, .int l1), (2, .int l2)] [.ref (x_ad x 0 7 0)] := by
  unfold j_X8_atMost_21 at h
  refine r_iconst (v := 1) hx dX8_atMost_21 (by decide) ?_
  exact t_X8_atMost_22 hx hR hKS hE h
set_option maxRecDepth 100000 in
set_option maxHeartbeats 4000000 in
theorem t_X8_atMost_0 {n : Nat} {x : XC} (hx : CX x cX8_atMost 5 RX8) (hR : x_R x = rm_X8_atMost) (hKS : ∀ k ∈ KM, k ∈ x_K x) {out : St × Int32} (hE : EI x cX8_atMost out) {S : St} {a1 : Int32} {a2 : Int32} (h : g_X8_atMost n S a1 a2 = some out) : WX x 5 0 0 S 0 [(0, .ref (x_ad x 0 7 0)), (1, .int a1), (2, .int a2)] [] := by
  unfold g_X8_atMost at h
  refine r_aload_n (k0 := 0) hx dX8_atMost_0 rfl rfl ?_
  refine r_aload_n (k0 := 0) hx dX8_atMost_1 rfl rfl ?_
  refine r_iload_n (k0 := 1) hx dX8_atMost_2 rfl rfl ?_
  obtain ⟨S1, v3, c2, h⟩ := bI_some h
  refine r_Vi (ci := 7) (As := [.int a1]) (rest := [.ref (x_ad x 0 7 0)]) hx (C_X8_isLevel (c := x_y x) hKS c2) (k_0_7 hKS) rfl wl_X8_123 wi_X8_isLevel we_X8_isLevel wn_X8 wc_X8_isLevel dy_X8_isLevel rfl (by rw [hR]; decide +kernel) rfl (Nat.le_of_ble_eq_true rfl) dX8_atMost_3 ?_
  refine r_if_eq (tgt := 21) hx dX8_atMost_6 (by decide) (fun c4 => ?_) (fun c4 => ?_)
  · have h := ite_t h c4
    exact t_X8_atMost_21 hx hR hKS hE h
  · have h := ite_f h c4
    refine r_aload_n (k0 := 0) hx dX8_atMost_9 rfl rfl ?_
    refine r_iload_n (k0 := 2) hx dX8_atMost_10 rfl rfl ?_
    obtain ⟨S5, v7, c6, h⟩ := bI_some h
    refine r_Vi (ci := 7) (As := [.int a2]) (rest := [.ref (x_ad x 0 7 0)]) hx (C_X8_isLevel (c := x_y x) hKS c6) (k_0_7 hKS) rfl wl_X8_123 wi_X8_isLevel we_X8_isLevel wn_X8 wc_X8_isLevel dy_X8_isLevel rfl (by rw [hR]; decide +kernel) rfl (Nat.le_of_ble_eq_true rfl) dX8_atMost_11 ?_
    refine r_if_eq (tgt := 21) hx dX8_atMost_14 (by decide) (fun c8 => ?_) (fun c8 => ?_)
    · have h := ite_t h c8
      exact t_X8_atMost_21 hx hR hKS hE h
    · have h := ite_f h c8
      refine r_iconst (v := 0) hx dX8_atMost_17 (by decide) ?_
      refine r_goto (tgt := 22) hx dX8_atMost_18 (by decide) ?_
      exact t_X8_atMost_22 hx hR hKS hE h
def f_X8_atMost (n : Nat) (S : St) (a1 : Int32) (a2 : Int32) : Option (St × Int32) := zW (g_X8_atMost n S a1 a2)
set_option maxHeartbeats 4000000 in
theorem C_X8_atMost {n : Nat} {c : YC} (hKS : ∀ k ∈ KM, k ∈ c.2.2.2.2) {S : St} {a1 : Int32} {a2 : Int32} {out : St × Int32} (h : f_X8_atMost n S a1 a2 = some out) : MI c yX8_atMost cX8_atMost 5 (some .boolean) rm_X8_atMost S [.ref (c.2.2.1 0 7 0), .int a1, .int a2] out := mk_Z (own := RX8) (by decide +kernel) rfl (Nat.le_of_ble_eq_true rfl) (zW_some h).2 (fun x hx hR hy hE => by subst hy; exact t_X8_atMost_0 hx hR hKS hE (zW_some h).1)
def j_X8_value_52 (n : Nat) (S : St) (l1 : Int32) (l2 : Int32) (l3 : Int32) (l4 : Int32) (s0 : Int32) : Option (St × Int32) :=
  pS S 350 0 s0 fun S1 =>
  if (S1.1 350 0) ≤ 0 then
    bI (f_X8_layLevel n S1 l1 368 0) fun S4 v6 =>
    bI (f_X8_valueOf n S4 368 0 l2 l3 l4) fun S7 v9 =>
    some (S7, v9)
  else
    some (S1, 0)
def j_X8_value_47 (n : Nat) (S : St) (l1 : Int32) (l2 : Int32) (l3 : Int32) (l4 : Int32) : Option (St × Int32) :=
  j_X8_value_52 n S l1 l2 l3 l4 2
def f_X8_value (n : Nat) (S : St) (a1 : Int32) (a2 : Int32) (a3 : Int32) (a4 : Int32) : Option (St × Int32) :=
  bI (f_X8_isLevel n S a1) fun S1 v3 =>
  if v3 = 0 then
    j_X8_value_52 n S1 a1 a2 a3 a4 1
  else
    bI (f_X8_isIn n S1 a2 0 1000) fun S5 v7 =>
    if v7 = 0 then
      j_X8_value_47 n S5 a1 a2 a3 a4
    else
      bI (f_X8_isIn n S5 a3 0 1000) fun S9 v11 =>
      if v11 = 0 then
        j_X8_value_47 n S9 a1 a2 a3 a4
      else
        bI (f_X8_isIn n S9 a4 0 1000) fun S13 v15 =>
        if v15 = 0 then
          j_X8_value_47 n S13 a1 a2 a3 a4
        else
          j_X8_value_52 n S13 a1 a2 a3 a4 0
set_option maxRecDepth 100000 in
set_option maxHeartbeats 4000000 in
theorem t_X8_value_52 {n : Nat} {x : XC} (hx : CX x cX8_value 6 RX8) (hR : x_R x = rm_X8_value) (hKS : ∀ k ∈ KM, k ∈ x_K x) {out : St × Int32} (hE : EI x cX8_value out) {S : St} {l1 : Int32} {l2 : Int32} {l3 : Int32} {l4 : Int32} {s0 : Int32} (h : j_X8_value_52 n S l1 l2 l3 l4 s0 = some out) : WX x 6 0 0 S 52 [(0, .ref (x_ad x 0 7 0)), (1, .int l1), (2, .int l2), (3, .int l3), (4, .int l4)] [.int s0, .ref (x_ad x 0 7 0)] := by
  unfold j_X8_value_52 at h
  obtain ⟨S1, e2, h⟩ := pS_some h
  refine p_350 hx (k_0_7 hKS) wf_X8_106 dX8_value_52 e2 ?_
  refine r_aload_n (k0 := 0) hx dX8_value_55 rfl rfl ?_
  refine g_350 hx (k_0_7 hKS) wf_X8_106 dX8_value_56 ?_
  refine r_if_le (tgt := 64) hx dX8_value_59 (by decide) (fun c3 => ?_) (fun c3 => ?_)
  · have h := ite_t h c3
    refine r_aload_n (k0 := 0) hx dX8_value_64 rfl rfl ?_
    refine r_iload_n (k0 := 1) hx dX8_value_65 rfl rfl ?_
    refine r_aload_n (k0 := 0) hx dX8_value_66 rfl rfl ?_
    refine g_368 hx (k_0_7 hKS) wf_X8_56 dX8_value_67 ?_
    refine r_iconst (v := 0) hx dX8_value_70 (by decide) ?_
    obtain ⟨S4, v6, c5, h⟩ := bI_some h
    refine r_Vi (ci := 7) (As := [.int l1, .ref (x_ad x 1 368 0), .int 0]) (rest := []) hx (C_X8_layLevel (c := x_y x) hKS km_368 c5) (k_0_7 hKS) rfl wl_X8_155 wi_X8_layLevel we_X8_layLevel wn_X8 wc_X8_layLevel dy_X8_layLevel rfl (by rw [hR]; decide +kernel) rfl (Nat.le_of_ble_eq_true rfl) dX8_value_71 ?_
    refine r_istore (lv' := [(5, .int v6), (0, .ref (x_ad x 0 7 0)), (1, .int l1), (2, .int l2), (3, .int l3), (4, .int l4)]) hx dX8_value_74 (by decide) rfl ?_
    refine r_aload_n (k0 := 1) hx dX8_value_76 rfl rfl ?_
    refine r_aload_n (k0 := 1) hx dX8_value_77 rfl rfl ?_
    refine g_368 hx (k_0_7 hKS) wf_X8_56 dX8_value_78 ?_
    refine r_iconst (v := 0) hx dX8_value_81 (by decide) ?_
    refine r_iload_n (k0 := 3) hx dX8_value_82 rfl rfl ?_
    refine r_iload_n (k0 := 4) hx dX8_value_83 rfl rfl ?_
    refine r_iload (k0 := 5) hx dX8_value_84 rfl ?_
    obtain ⟨S7, v9, c8, h⟩ := bI_some h
    refine r_Vi (ci := 7) (As := [.ref (x_ad x 1 368 0), .int 0, .int l2, .int l3, .int l4]) (rest := []) hx (C_X8_valueOf (c := x_y x) hKS km_368 c8) (k_0_7 hKS) rfl wl_X8_217 wi_X8_valueOf we_X8_valueOf wn_X8 wc_X8_valueOf dy_X8_valueOf rfl (by rw [hR]; decide +kernel) rfl (Nat.le_of_ble_eq_true rfl) dX8_value_86 ?_
    exact r_iret hE h dX8_value_89
  · have h := ite_f h c3
    refine r_iconst (v := 0) hx dX8_value_62 (by decide) ?_
    exact r_iret hE h dX8_value_63
set_option maxRecDepth 100000 in
set_option maxHeartbeats 4000000 in
theorem t_X8_value_47 {n : Nat} {x : XC} (hx : CX x cX8_value 6 RX8) (hR : x_R x = rm_X8_value) (hKS : ∀ k ∈ KM, k ∈ x_K x) {out : St × Int32} (hE : EI x cX8_value out) {S : St} {l1 : Int32} {l2 : Int32} {l3 : Int32} {l4 : Int32} (h : j_X8_value_47 n S l1 l2 l3 l4 = some out) : WX x 6 0 0 S 47 [(0, .ref (x_ad x 0 7 0)), (1, .int l1), (2, .int l2), (3, .int l3), (4, .int l4)] [.ref (x_ad x 0 7 0)] := by
  unfold j_X8_value_47 at h
  refine r_iconst (v := 2) hx dX8_value_47 (by decide) ?_
  refine r_goto (tgt := 52) hx dX8_value_48 (by decide) ?_
  exact t_X8_value_52 hx hR hKS hE h
set_option maxRecDepth 100000 in
set_option maxHeartbeats 4000000 in
theorem t_X8_value_0 {n : Nat} {x : XC} (hx : CX x cX8_value 6 RX8) (hR : x_R x = rm_X8_value) (hKS : ∀ k ∈ KM, k ∈ x_K x) {out : St × Int32} (hE : EI x cX8_value out) {S : St} {a1 : Int32} {a2 : Int32} {a3 : Int32} {a4 : Int32} (h : f_X8_value n S a1 a2 a3 a4 = some out) : WX x 6 0 0 S 0 [(0, .ref (x_ad x 0 7 0)), (1, .int a1), (2, .int a2), (3, .int a3), (4, .int a4)] [] := by
  unfold f_X8_value at h
  refine r_aload_n (k0 := 0) hx dX8_value_0 rfl rfl ?_
  refine r_aload_n (k0 := 0) hx dX8_value_1 rfl rfl ?_
  refine r_iload_n (k0 := 1) hx dX8_value_2 rfl rfl ?_
  obtain ⟨S1, v3, c2, h⟩ := bI_some h
  refine r_Vi (ci := 7) (As := [.int a1]) (rest := [.ref (x_ad x 0 7 0)]) hx (C_X8_isLevel (c := x_y x) hKS c2) (k_0_7 hKS) rfl wl_X8_123 wi_X8_isLevel we_X8_isLevel wn_X8 wc_X8_isLevel dy_X8_isLevel rfl (by rw [hR]; decide +kernel) rfl (Nat.le_of_ble_eq_true rfl) dX8_value_3 ?_
  refine r_if_ne (tgt := 13) hx dX8_value_6 (by decide) (fun c4 => ?_) (fun c4 => ?_)
  · have h := ite_f h c4
    refine r_iload_n (k0 := 2) hx dX8_value_13 rfl rfl ?_
    refine r_iconst (v := 0) hx dX8_value_14 (by decide) ?_
    refine r_sipush (v := 1000) hx dX8_value_15 (by decide) ?_
    obtain ⟨S5, v7, c6, h⟩ := bI_some h
    refine r_Si (As := [.int a2, .int 0, .int 1000]) (rest := [.ref (x_ad x 0 7 0)]) hx (C_X8_isIn (c := x_y x) hKS c6) wl_X8_115 wt_X8_isIn wn_X8 wc_X8_isIn dy_X8_isIn rfl (by rw [hR]; decide +kernel) rfl (Nat.le_of_ble_eq_true rfl) dX8_value_18 ?_
    refine r_if_eq (tgt := 47) hx dX8_value_21 (by decide) (fun c8 => ?_) (fun c8 => ?_)
    · have h := ite_t h c8
      exact t_X8_value_47 hx hR hKS hE h
    · have h := ite_f h c8
      refine r_iload_n (k0 := 3) hx dX8_value_24 rfl rfl ?_
      refine r_iconst (v := 0) hx dX8_value_25 (by decide) ?_
      refine r_sipush (v := 1000) hx dX8_value_26 (by decide) ?_
      obtain ⟨S9, v11, c10, h⟩ := bI_some h
      refine r_Si (As := [.int a3, .int 0, .int 1000]) (rest := [.ref (x_ad x 0 7 0)]) hx (C_X8_isIn (c := x_y x) hKS c10) wl_X8_115 wt_X8_isIn wn_X8 wc_X8_isIn dy_X8_isIn rfl (by rw [hR]; decide +kernel) rfl (Nat.le_of_ble_eq_true rfl) dX8_value_29 ?_
      refine r_if_eq (tgt := 47) hx dX8_value_32 (by decide) (fun c12 => ?_) (fun c12 => ?_)
      · have h := ite_t h c12
        exact t_X8_value_47 hx hR hKS hE h
      · have h := ite_f h c12
        refine r_iload (k0 := 4) hx dX8_value_35 rfl ?_
        refine r_iconst (v := 0) hx dX8_value_37 (by decide) ?_
        refine r_sipush (v := 1000) hx dX8_value_38 (by decide) ?_
        obtain ⟨S13, v15, c14, h⟩ := bI_some h
        refine r_Si (As := [.int a4, .int 0, .int 1000]) (rest := [.ref (x_ad x 0 7 0)]) hx (C_X8_isIn (c := x_y x) hKS c14) wl_X8_115 wt_X8_isIn wn_X8 wc_X8_isIn dy_X8_isIn rfl (by rw [hR]; decide +kernel) rfl (Nat.le_of_ble_eq_true rfl) dX8_value_41 ?_
        refine r_if_ne (tgt := 51) hx dX8_value_44 (by decide) (fun c16 => ?_) (fun c16 => ?_)
        · have h := ite_f h c16
          refine r_iconst (v := 0) hx dX8_value_51 (by decide) ?_
          exact t_X8_value_52 hx hR hKS hE h
        · have h := ite_t h c16
          exact t_X8_value_47 hx hR hKS hE h
  · have h := ite_t h c4
    refine r_iconst (v := 1) hx dX8_value_9 (by decide) ?_
    refine r_goto (tgt := 52) hx dX8_value_10 (by decide) ?_
    exact t_X8_value_52 hx hR hKS hE h
set_option maxHeartbeats 4000000 in
theorem C_X8_value {n : Nat} {c : YC} (hKS : ∀ k ∈ KM, k ∈ c.2.2.2.2) {S : St} {a1 : Int32} {a2 : Int32} {a3 : Int32} {a4 : Int32} {out : St × Int32} (h : f_X8_value n S a1 a2 a3 a4 = some out) : MI c yX8_value cX8_value 6 (some .int) rm_X8_value S [.ref (c.2.2.1 0 7 0), .int a1, .int a2, .int a3, .int a4] out := mk_I (own := RX8) (by decide +kernel) rfl (Nat.le_of_ble_eq_true rfl) (fun x hx hR hy hE => by subst hy; exact t_X8_value_0 hx hR hKS hE h)
def j_X8_part_58 (n : Nat) (S : St) (l1 : Int32) (l2 : Int32) (s0 : Int32) : Option (St × Int32) :=
  if l2 = 0 then
    gI S 356 0 l1 1500 fun v18 =>
    some (S, v18)
  else
    if l2 = 1 then
      gI S 357 0 l1 1500 fun v15 =>
      some (S, v15)
    else
      if l2 = 2 then
        gI S 358 0 l1 1500 fun v12 =>
        some (S, v12)
      else
        if l2 = 3 then
          gI S 359 0 l1 1500 fun v9 =>
          some (S, v9)
        else
          if l2 = 4 then
            gI S 360 0 l1 1500 fun v6 =>
            some (S, v6)
          else
            some (S, s0)
def j_X8_part_27 (n : Nat) (S : St) (l1 : Int32) (l2 : Int32) (s0 : Int32) : Option (St × Int32) :=
  pS S 350 0 s0 fun S1 =>
  if (S1.1 350 0) ≤ 0 then
    gI S1 361 0 l1 1500 fun v4 =>
    if v4 ≤ 0 then
      j_X8_part_58 n S1 l1 l2 0
    else
      gI S1 361 0 l1 1500 fun v8 =>
      j_X8_part_58 n S1 l1 l2 v8
  else
    some (S1, 0)
def f_X8_part (n : Nat) (S : St) (a1 : Int32) (a2 : Int32) : Option (St × Int32) :=
  bI (f_X8_isTerm n S a1) fun S1 v3 =>
  if v3 = 0 then
    j_X8_part_27 n S1 a1 a2 1
  else
    bI (f_X8_isIn n S1 a2 0 5) fun S5 v7 =>
    if v7 = 0 then
      j_X8_part_27 n S5 a1 a2 2
    else
      j_X8_part_27 n S5 a1 a2 0
set_option maxRecDepth 100000 in
set_option maxHeartbeats 4000000 in
theorem t_X8_part_58 {n : Nat} {x : XC} (hx : CX x cX8_part 4 RX8) (hR : x_R x = rm_X8_part) (hKS : ∀ k ∈ KM, k ∈ x_K x) {out : St × Int32} (hE : EI x cX8_part out) {S : St} {l1 : Int32} {l2 : Int32} {s0 : Int32} (h : j_X8_part_58 n S l1 l2 s0 = some out) : WX x 4 0 0 S 58 [(0, .ref (x_ad x 0 7 0)), (1, .int l1), (2, .int l2)] [.int s0] := by
  unfold j_X8_part_58 at h
  refine r_istore_n (lv' := [(3, .int s0), (0, .ref (x_ad x 0 7 0)), (1, .int l1), (2, .int l2)]) hx dX8_part_58 rfl (by decide) rfl ?_
  refine r_iload_n (k0 := 3) hx dX8_part_59 rfl rfl ?_
  refine r_if_ne (tgt := 72) hx dX8_part_60 (by decide) (fun c1 => ?_) (fun c1 => ?_)
  · have h := ite_f h c1
    refine r_iload_n (k0 := 3) hx dX8_part_72 rfl rfl ?_
    refine r_iconst (v := 1) hx dX8_part_73 (by decide) ?_
    refine r_icmp_ne (tgt := 86) hx dX8_part_74 (by decide) (fun c2 => ?_) (fun c2 => ?_)
    · have h := ite_f h c2
      refine r_iload_n (k0 := 3) hx dX8_part_86 rfl rfl ?_
      refine r_iconst (v := 2) hx dX8_part_87 (by decide) ?_
      refine r_icmp_ne (tgt := 100) hx dX8_part_88 (by decide) (fun c3 => ?_) (fun c3 => ?_)
      · have h := ite_f h c3
        refine r_iload_n (k0 := 3) hx dX8_part_100 rfl rfl ?_
        refine r_iconst (v := 3) hx dX8_part_101 (by decide) ?_
        refine r_icmp_ne (tgt := 114) hx dX8_part_102 (by decide) (fun c4 => ?_) (fun c4 => ?_)
        · have h := ite_f h c4
          refine r_iload_n (k0 := 3) hx dX8_part_114 rfl rfl ?_
          refine r_iconst (v := 4) hx dX8_part_115 (by decide) ?_
          refine r_icmp_ne (tgt := 128) hx dX8_part_116 (by decide) (fun c5 => ?_) (fun c5 => ?_)
          · have h := ite_f h c5
            refine r_iload_n (k0 := 0) hx dX8_part_128 rfl rfl ?_
            exact r_iret hE h dX8_part_129
          · have h := ite_t h c5
            refine r_aload_n (k0 := 1) hx dX8_part_119 rfl rfl ?_
            refine g_360 hx (k_0_7 hKS) wf_X8_38 dX8_part_120 ?_
            refine r_iload_n (k0 := 2) hx dX8_part_123 rfl rfl ?_
            obtain ⟨v6, e7, i8, h⟩ := gI_some h
            refine r_iald hx (k_1_360 hKS) rfl i8 e7 dX8_part_124 ?_
            refine r_goto (tgt := 129) hx dX8_part_125 (by decide) ?_
            exact r_iret hE h dX8_part_129
        · have h := ite_t h c4
          refine r_aload_n (k0 := 1) hx dX8_part_105 rfl rfl ?_
          refine g_359 hx (k_0_7 hKS) wf_X8_35 dX8_part_106 ?_
          refine r_iload_n (k0 := 2) hx dX8_part_109 rfl rfl ?_
          obtain ⟨v9, e10, i11, h⟩ := gI_some h
          refine r_iald hx (k_1_359 hKS) rfl i11 e10 dX8_part_110 ?_
          refine r_goto (tgt := 129) hx dX8_part_111 (by decide) ?_
          exact r_iret hE h dX8_part_129
      · have h := ite_t h c3
        refine r_aload_n (k0 := 1) hx dX8_part_91 rfl rfl ?_
        refine g_358 hx (k_0_7 hKS) wf_X8_32 dX8_part_92 ?_
        refine r_iload_n (k0 := 2) hx dX8_part_95 rfl rfl ?_
        obtain ⟨v12, e13, i14, h⟩ := gI_some h
        refine r_iald hx (k_1_358 hKS) rfl i14 e13 dX8_part_96 ?_
        refine r_goto (tgt := 129) hx dX8_part_97 (by decide) ?_
        exact r_iret hE h dX8_part_129
    · have h := ite_t h c2
      refine r_aload_n (k0 := 1) hx dX8_part_77 rfl rfl ?_
      refine g_357 hx (k_0_7 hKS) wf_X8_29 dX8_part_78 ?_
      refine r_iload_n (k0 := 2) hx dX8_part_81 rfl rfl ?_
      obtain ⟨v15, e16, i17, h⟩ := gI_some h
      refine r_iald hx (k_1_357 hKS) rfl i17 e16 dX8_part_82 ?_
      refine r_goto (tgt := 129) hx dX8_part_83 (by decide) ?_
      exact r_iret hE h dX8_part_129
  · have h := ite_t h c1
    refine r_aload_n (k0 := 1) hx dX8_part_63 rfl rfl ?_
    refine g_356 hx (k_0_7 hKS) wf_X8_26 dX8_part_64 ?_
    refine r_iload_n (k0 := 2) hx dX8_part_67 rfl rfl ?_
    obtain ⟨v18, e19, i20, h⟩ := gI_some h
    refine r_iald hx (k_1_356 hKS) rfl i20 e19 dX8_part_68 ?_
    refine r_goto (tgt := 129) hx dX8_part_69 (by decide) ?_
    exact r_iret hE h dX8_part_129
set_option maxRecDepth 100000 in
set_option maxHeartbeats 4000000 in
theorem t_X8_part_27 {n : Nat} {x : XC} (hx : CX x cX8_part 4 RX8) (hR : x_R x = rm_X8_part) (hKS : ∀ k ∈ KM, k ∈ x_K x) {out : St × Int32} (hE : EI x cX8_part out) {S : St} {l1 : Int32} {l2 : Int32} {s0 : Int32} (h : j_X8_part_27 n S l1 l2 s0 = some out) : WX x 4 0 0 S 27 [(0, .ref (x_ad x 0 7 0)), (1, .int l1), (2, .int l2)] [.int s0, .ref (x_ad x 0 7 0)] := by
  unfold j_X8_part_27 at h
  obtain ⟨S1, e2, h⟩ := pS_some h
  refine p_350 hx (k_0_7 hKS) wf_X8_106 dX8_part_27 e2 ?_
  refine r_aload_n (k0 := 0) hx dX8_part_30 rfl rfl ?_
  refine g_350 hx (k_0_7 hKS) wf_X8_106 dX8_part_31 ?_
  refine r_if_le (tgt := 39) hx dX8_part_34 (by decide) (fun c3 => ?_) (fun c3 => ?_)
  · have h := ite_t h c3
    refine r_aload_n (k0 := 0) hx dX8_part_39 rfl rfl ?_
    refine g_361 hx (k_0_7 hKS) wf_X8_41 dX8_part_40 ?_
    refine r_iload_n (k0 := 1) hx dX8_part_43 rfl rfl ?_
    obtain ⟨v4, e5, i6, h⟩ := gI_some h
    refine r_iald hx (k_1_361 hKS) rfl i6 e5 dX8_part_44 ?_
    refine r_if_le (tgt := 57) hx dX8_part_45 (by decide) (fun c7 => ?_) (fun c7 => ?_)
    · have h := ite_t h c7
      refine r_iconst (v := 0) hx dX8_part_57 (by decide) ?_
      exact t_X8_part_58 hx hR hKS hE h
    · have h := ite_f h c7
      refine r_aload_n (k0 := 0) hx dX8_part_48 rfl rfl ?_
      refine g_361 hx (k_0_7 hKS) wf_X8_41 dX8_part_49 ?_
      refine r_iload_n (k0 := 1) hx dX8_part_52 rfl rfl ?_
      obtain ⟨v8, e9, i10, h⟩ := gI_some h
      refine r_iald hx (k_1_361 hKS) rfl i10 e9 dX8_part_53 ?_
      refine r_goto (tgt := 58) hx dX8_part_54 (by decide) ?_
      exact t_X8_part_58 hx hR hKS hE h
  · have h := ite_f h c3
    refine r_iconst (v := 0) hx dX8_part_37 (by decide) ?_
    exact r_iret hE h dX8_part_38
set_option maxRecDepth 100000 in
set_option maxHeartbeats 4000000 in
theorem t_X8_part_0 {n : Nat} {x : XC} (hx : CX x cX8_part 4 RX8) (hR : x_R x = rm_X8_part) (hKS : ∀ k ∈ KM, k ∈ x_K x) {out : St × Int32} (hE : EI x cX8_part out) {S : St} {a1 : Int32} {a2 : Int32} (h : f_X8_part n S a1 a2 = some out) : WX x 4 0 0 S 0 [(0, .ref (x_ad x 0 7 0)), (1, .int a1), (2, .int a2)] [] := by
  unfold f_X8_part at h
  refine r_aload_n (k0 := 0) hx dX8_part_0 rfl rfl ?_
  refine r_aload_n (k0 := 0) hx dX8_part_1 rfl rfl ?_
  refine r_iload_n (k0 := 1) hx dX8_part_2 rfl rfl ?_
  obtain ⟨S1, v3, c2, h⟩ := bI_some h
  refine r_Vi (ci := 7) (As := [.int a1]) (rest := [.ref (x_ad x 0 7 0)]) hx (C_X8_isTerm (c := x_y x) hKS c2) (k_0_7 hKS) rfl wl_X8_141 wi_X8_isTerm we_X8_isTerm wn_X8 wc_X8_isTerm dy_X8_isTerm rfl (by rw [hR]; decide +kernel) rfl (Nat.le_of_ble_eq_true rfl) dX8_part_3 ?_
  refine r_if_ne (tgt := 13) hx dX8_part_6 (by decide) (fun c4 => ?_) (fun c4 => ?_)
  · have h := ite_f h c4
    refine r_iload_n (k0 := 2) hx dX8_part_13 rfl rfl ?_
    refine r_iconst (v := 0) hx dX8_part_14 (by decide) ?_
    refine r_iconst (v := 5) hx dX8_part_15 (by decide) ?_
    obtain ⟨S5, v7, c6, h⟩ := bI_some h
    refine r_Si (As := [.int a2, .int 0, .int 5]) (rest := [.ref (x_ad x 0 7 0)]) hx (C_X8_isIn (c := x_y x) hKS c6) wl_X8_115 wt_X8_isIn wn_X8 wc_X8_isIn dy_X8_isIn rfl (by rw [hR]; decide +kernel) rfl (Nat.le_of_ble_eq_true rfl) dX8_part_16 ?_
    refine r_if_ne (tgt := 26) hx dX8_part_19 (by decide) (fun c8 => ?_) (fun c8 => ?_)
    · have h := ite_f h c8
      refine r_iconst (v := 0) hx dX8_part_26 (by decide) ?_
      exact t_X8_part_27 hx hR hKS hE h
    · have h := ite_t h c8
      refine r_iconst (v := 2) hx dX8_part_22 (by decide) ?_
      refine r_goto (tgt := 27) hx dX8_part_23 (by decide) ?_
      exact t_X8_part_27 hx hR hKS hE h
  · have h := ite_t h c4
    refine r_iconst (v := 1) hx dX8_part_9 (by decide) ?_
    refine r_goto (tgt := 27) hx dX8_part_10 (by decide) ?_
    exact t_X8_part_27 hx hR hKS hE h
set_option maxHeartbeats 4000000 in
theorem C_X8_part {n : Nat} {c : YC} (hKS : ∀ k ∈ KM, k ∈ c.2.2.2.2) {S : St} {a1 : Int32} {a2 : Int32} {out : St × Int32} (h : f_X8_part n S a1 a2 = some out) : MI c yX8_part cX8_part 4 (some .int) rm_X8_part S [.ref (c.2.2.1 0 7 0), .int a1, .int a2] out := mk_I (own := RX8) (by decide +kernel) rfl (Nat.le_of_ble_eq_true rfl) (fun x hx hR hy hE => by subst hy; exact t_X8_part_0 hx hR hKS hE h)
def j_X8_levelPart_27 (n : Nat) (S : St) (l1 : Int32) (l2 : Int32) (s0 : Int32) : Option (St × Int32) :=
  pS S 350 0 s0 fun S1 =>
  if (S1.1 350 0) ≤ 0 then
    if l2 = 0 then
      gI S1 351 0 l1 300 fun v16 =>
      some (S1, v16)
    else
      if l2 = 1 then
        gI S1 352 0 l1 300 fun v13 =>
        some (S1, v13)
      else
        if l2 = 2 then
          gI S1 353 0 l1 300 fun v10 =>
          some (S1, v10)
        else
          gI S1 354 0 l1 300 fun v7 =>
          some (S1, v7)
  else
    some (S1, 0)
def f_X8_levelPart (n : Nat) (S : St) (a1 : Int32) (a2 : Int32) : Option (St × Int32) :=
  bI (f_X8_isLevel n S a1) fun S1 v3 =>
  if v3 = 0 then
    j_X8_levelPart_27 n S1 a1 a2 1
  else
    bI (f_X8_isIn n S1 a2 0 3) fun S5 v7 =>
    if v7 = 0 then
      j_X8_levelPart_27 n S5 a1 a2 2
    else
      j_X8_levelPart_27 n S5 a1 a2 0
set_option maxRecDepth 100000 in
set_option maxHeartbeats 4000000 in
theorem t_X8_levelPart_27 {n : Nat} {x : XC} (hx : CX x cX8_levelPart 3 RX8) (hR : x_R x = rm_X8_levelPart) (hKS : ∀ k ∈ KM, k ∈ x_K x) {out : St × Int32} (hE : EI x cX8_levelPart out) {S : St} {l1 : Int32} {l2 : Int32} {s0 : Int32} (h : j_X8_levelPart_27 n S l1 l2 s0 = some out) : WX x 3 0 0 S 27 [(0, .ref (x_ad x 0 7 0)), (1, .int l1), (2, .int l2)] [.int s0, .ref (x_ad x 0 7 0)] := by
  unfold j_X8_levelPart_27 at h
  obtain ⟨S1, e2, h⟩ := pS_some h
  refine p_350 hx (k_0_7 hKS) wf_X8_106 dX8_levelPart_27 e2 ?_
  refine r_aload_n (k0 := 0) hx dX8_levelPart_30 rfl rfl ?_
  refine g_350 hx (k_0_7 hKS) wf_X8_106 dX8_levelPart_31 ?_
  refine r_if_le (tgt := 39) hx dX8_levelPart_34 (by decide) (fun c3 => ?_) (fun c3 => ?_)
  · have h := ite_t h c3
    refine r_iload_n (k0 := 2) hx dX8_levelPart_39 rfl rfl ?_
    refine r_if_ne (tgt := 52) hx dX8_levelPart_40 (by decide) (fun c4 => ?_) (fun c4 => ?_)
    · have h := ite_f h c4
      refine r_iload_n (k0 := 2) hx dX8_levelPart_52 rfl rfl ?_
      refine r_iconst (v := 1) hx dX8_levelPart_53 (by decide) ?_
      refine r_icmp_ne (tgt := 66) hx dX8_levelPart_54 (by decide) (fun c5 => ?_) (fun c5 => ?_)
      · have h := ite_f h c5
        refine r_iload_n (k0 := 2) hx dX8_levelPart_66 rfl rfl ?_
        refine r_iconst (v := 2) hx dX8_levelPart_67 (by decide) ?_
        refine r_icmp_ne (tgt := 80) hx dX8_levelPart_68 (by decide) (fun c6 => ?_) (fun c6 => ?_)
        · have h := ite_f h c6
          refine r_aload_n (k0 := 0) hx dX8_levelPart_80 rfl rfl ?_
          refine g_354 hx (k_0_7 hKS) wf_X8_19 dX8_levelPart_81 ?_
          refine r_iload_n (k0 := 1) hx dX8_levelPart_84 rfl rfl ?_
          obtain ⟨v7, e8, i9, h⟩ := gI_some h
          refine r_iald hx (k_1_354 hKS) rfl i9 e8 dX8_levelPart_85 ?_
          exact r_iret hE h dX8_levelPart_86
        · have h := ite_t h c6
          refine r_aload_n (k0 := 0) hx dX8_levelPart_71 rfl rfl ?_
          refine g_353 hx (k_0_7 hKS) wf_X8_16 dX8_levelPart_72 ?_
          refine r_iload_n (k0 := 1) hx dX8_levelPart_75 rfl rfl ?_
          obtain ⟨v10, e11, i12, h⟩ := gI_some h
          refine r_iald hx (k_1_353 hKS) rfl i12 e11 dX8_levelPart_76 ?_
          refine r_goto (tgt := 86) hx dX8_levelPart_77 (by decide) ?_
          exact r_iret hE h dX8_levelPart_86
      · have h := ite_t h c5
        refine r_aload_n (k0 := 0) hx dX8_levelPart_57 rfl rfl ?_
        refine g_352 hx (k_0_7 hKS) wf_X8_13 dX8_levelPart_58 ?_
        refine r_iload_n (k0 := 1) hx dX8_levelPart_61 rfl rfl ?_
        obtain ⟨v13, e14, i15, h⟩ := gI_some h
        refine r_iald hx (k_1_352 hKS) rfl i15 e14 dX8_levelPart_62 ?_
        refine r_goto (tgt := 86) hx dX8_levelPart_63 (by decide) ?_
        exact r_iret hE h dX8_levelPart_86
    · have h := ite_t h c4
      refine r_aload_n (k0 := 0) hx dX8_levelPart_43 rfl rfl ?_
      refine g_351 hx (k_0_7 hKS) wf_X8_7 dX8_levelPart_44 ?_
      refine r_iload_n (k0 := 1) hx dX8_levelPart_47 rfl rfl ?_
      obtain ⟨v16, e17, i18, h⟩ := gI_some h
      refine r_iald hx (k_1_351 hKS) rfl i18 e17 dX8_levelPart_48 ?_
      refine r_goto (tgt := 86) hx dX8_levelPart_49 (by decide) ?_
      exact r_iret hE h dX8_levelPart_86
  · have h := ite_f h c3
    refine r_iconst (v := 0) hx dX8_levelPart_37 (by decide) ?_
    exact r_iret hE h dX8_levelPart_38
set_option maxRecDepth 100000 in
set_option maxHeartbeats 4000000 in
theorem t_X8_levelPart_0 {n : Nat} {x : XC} (hx : CX x cX8_levelPart 3 RX8) (hR : x_R x = rm_X8_levelPart) (hKS : ∀ k ∈ KM, k ∈ x_K x) {out : St × Int32} (hE : EI x cX8_levelPart out) {S : St} {a1 : Int32} {a2 : Int32} (h : f_X8_levelPart n S a1 a2 = some out) : WX x 3 0 0 S 0 [(0, .ref (x_ad x 0 7 0)), (1, .int a1), (2, .int a2)] [] := by
  unfold f_X8_levelPart at h
  refine r_aload_n (k0 := 0) hx dX8_levelPart_0 rfl rfl ?_
  refine r_aload_n (k0 := 0) hx dX8_levelPart_1 rfl rfl ?_
  refine r_iload_n (k0 := 1) hx dX8_levelPart_2 rfl rfl ?_
  obtain ⟨S1, v3, c2, h⟩ := bI_some h
  refine r_Vi (ci := 7) (As := [.int a1]) (rest := [.ref (x_ad x 0 7 0)]) hx (C_X8_isLevel (c := x_y x) hKS c2) (k_0_7 hKS) rfl wl_X8_123 wi_X8_isLevel we_X8_isLevel wn_X8 wc_X8_isLevel dy_X8_isLevel rfl (by rw [hR]; decide +kernel) rfl (Nat.le_of_ble_eq_true rfl) dX8_levelPart_3 ?_
  refine r_if_ne (tgt := 13) hx dX8_levelPart_6 (by decide) (fun c4 => ?_) (fun c4 => ?_)
  · have h := ite_f h c4
    refine r_iload_n (k0 := 2) hx dX8_levelPart_13 rfl rfl ?_
    refine r_iconst (v := 0) hx dX8_levelPart_14 (by decide) ?_
    refine r_iconst (v := 3) hx dX8_levelPart_15 (by decide) ?_
    obtain ⟨S5, v7, c6, h⟩ := bI_some h
    refine r_Si (As := [.int a2, .int 0, .int 3]) (rest := [.ref (x_ad x 0 7 0)]) hx (C_X8_isIn (c := x_y x) hKS c6) wl_X8_115 wt_X8_isIn wn_X8 wc_X8_isIn dy_X8_isIn rfl (by rw [hR]; decide +kernel) rfl (Nat.le_of_ble_eq_true rfl) dX8_levelPart_16 ?_
    refine r_if_ne (tgt := 26) hx dX8_levelPart_19 (by decide) (fun c8 => ?_) (fun c8 => ?_)
    · have h := ite_f h c8
      refine r_iconst (v := 0) hx dX8_levelPart_26 (by decide) ?_
      exact t_X8_levelPart_27 hx hR hKS hE h
    · have h := ite_t h c8
      refine r_iconst (v := 2) hx dX8_levelPart_22 (by decide) ?_
      refine r_goto (tgt := 27) hx dX8_levelPart_23 (by decide) ?_
      exact t_X8_levelPart_27 hx hR hKS hE h
  · have h := ite_t h c4
    refine r_iconst (v := 1) hx dX8_levelPart_9 (by decide) ?_
    refine r_goto (tgt := 27) hx dX8_levelPart_10 (by decide) ?_
    exact t_X8_levelPart_27 hx hR hKS hE h
set_option maxHeartbeats 4000000 in
theorem C_X8_levelPart {n : Nat} {c : YC} (hKS : ∀ k ∈ KM, k ∈ c.2.2.2.2) {S : St} {a1 : Int32} {a2 : Int32} {out : St × Int32} (h : f_X8_levelPart n S a1 a2 = some out) : MI c yX8_levelPart cX8_levelPart 3 (some .int) rm_X8_levelPart S [.ref (c.2.2.1 0 7 0), .int a1, .int a2] out := mk_I (own := RX8) (by decide +kernel) rfl (Nat.le_of_ble_eq_true rfl) (fun x hx hR hy hE => by subst hy; exact t_X8_levelPart_0 hx hR hKS hE h)
def j_X8_declared_27 (n : Nat) (S : St) (l1 : Int32) (l2 : Int32) (s0 : Int32) : Option (St × Int32) :=
  pS S 350 0 s0 fun S1 =>
  if (S1.1 350 0) ≤ 0 then
    if l2 = 0 then
      gI S1 363 0 l1 40 fun v12 =>
      some (S1, v12)
    else
      if l2 = 1 then
        gI S1 364 0 l1 40 fun v9 =>
        some (S1, v9)
      else
        gI S1 365 0 l1 40 fun v6 =>
        some (S1, v6)
  else
    some (S1, 0)
def f_X8_declared (n : Nat) (S : St) (a1 : Int32) (a2 : Int32) : Option (St × Int32) :=
  bI (f_X8_isName n S a1) fun S1 v3 =>
  if v3 = 0 then
    j_X8_declared_27 n S1 a1 a2 1
  else
    bI (f_X8_isIn n S1 a2 0 2) fun S5 v7 =>
    if v7 = 0 then
      j_X8_declared_27 n S5 a1 a2 2
    else
      j_X8_declared_27 n S5 a1 a2 0
set_option maxRecDepth 100000 in
set_option maxHeartbeats 4000000 in
theorem t_X8_declared_27 {n : Nat} {x : XC} (hx : CX x cX8_declared 3 RX8) (hR : x_R x = rm_X8_declared) (hKS : ∀ k ∈ KM, k ∈ x_K x) {out : St × Int32} (hE : EI x cX8_declared out) {S : St} {l1 : Int32} {l2 : Int32} {s0 : Int32} (h : j_X8_declared_27 n S l1 l2 s0 = some out) : WX x 3 0 0 S 27 [(0, .ref (x_ad x 0 7 0)), (1, .int l1), (2, .int l2)] [.int s0, .ref (x_ad x 0 7 0)] := by
  unfold j_X8_declared_27 at h
  obtain ⟨S1, e2, h⟩ := pS_some h
  refine p_350 hx (k_0_7 hKS) wf_X8_106 dX8_declared_27 e2 ?_
  refine r_aload_n (k0 := 0) hx dX8_declared_30 rfl rfl ?_
  refine g_350 hx (k_0_7 hKS) wf_X8_106 dX8_declared_31 ?_
  refine r_if_le (tgt := 39) hx dX8_declared_34 (by decide) (fun c3 => ?_) (fun c3 => ?_)
  · have h := ite_t h c3
    refine r_iload_n (k0 := 2) hx dX8_declared_39 rfl rfl ?_
    refine r_if_ne (tgt := 52) hx dX8_declared_40 (by decide) (fun c4 => ?_) (fun c4 => ?_)
    · have h := ite_f h c4
      refine r_iload_n (k0 := 2) hx dX8_declared_52 rfl rfl ?_
      refine r_iconst (v := 1) hx dX8_declared_53 (by decide) ?_
      refine r_icmp_ne (tgt := 66) hx dX8_declared_54 (by decide) (fun c5 => ?_) (fun c5 => ?_)
      · have h := ite_f h c5
        refine r_aload_n (k0 := 0) hx dX8_declared_66 rfl rfl ?_
        refine g_365 hx (k_0_7 hKS) wf_X8_50 dX8_declared_67 ?_
        refine r_iload_n (k0 := 1) hx dX8_declared_70 rfl rfl ?_
        obtain ⟨v6, e7, i8, h⟩ := gI_some h
        refine r_iald hx (k_1_365 hKS) rfl i8 e7 dX8_declared_71 ?_
        exact r_iret hE h dX8_declared_72
      · have h := ite_t h c5
        refine r_aload_n (k0 := 0) hx dX8_declared_57 rfl rfl ?_
        refine g_364 hx (k_0_7 hKS) wf_X8_47 dX8_declared_58 ?_
        refine r_iload_n (k0 := 1) hx dX8_declared_61 rfl rfl ?_
        obtain ⟨v9, e10, i11, h⟩ := gI_some h
        refine r_iald hx (k_1_364 hKS) rfl i11 e10 dX8_declared_62 ?_
        refine r_goto (tgt := 72) hx dX8_declared_63 (by decide) ?_
        exact r_iret hE h dX8_declared_72
    · have h := ite_t h c4
      refine r_aload_n (k0 := 0) hx dX8_declared_43 rfl rfl ?_
      refine g_363 hx (k_0_7 hKS) wf_X8_44 dX8_declared_44 ?_
      refine r_iload_n (k0 := 1) hx dX8_declared_47 rfl rfl ?_
      obtain ⟨v12, e13, i14, h⟩ := gI_some h
      refine r_iald hx (k_1_363 hKS) rfl i14 e13 dX8_declared_48 ?_
      refine r_goto (tgt := 72) hx dX8_declared_49 (by decide) ?_
      exact r_iret hE h dX8_declared_72
  · have h := ite_f h c3
    refine r_iconst (v := 0) hx dX8_declared_37 (by decide) ?_
    exact r_iret hE h dX8_declared_38
set_option maxRecDepth 100000 in
set_option maxHeartbeats 4000000 in
theorem t_X8_declared_0 {n : Nat} {x : XC} (hx : CX x cX8_declared 3 RX8) (hR : x_R x = rm_X8_declared) (hKS : ∀ k ∈ KM, k ∈ x_K x) {out : St × Int32} (hE : EI x cX8_declared out) {S : St} {a1 : Int32} {a2 : Int32} (h : f_X8_declared n S a1 a2 = some out) : WX x 3 0 0 S 0 [(0, .ref (x_ad x 0 7 0)), (1, .int a1), (2, .int a2)] [] := by
  unfold f_X8_declared at h
  refine r_aload_n (k0 := 0) hx dX8_declared_0 rfl rfl ?_
  refine r_aload_n (k0 := 0) hx dX8_declared_1 rfl rfl ?_
  refine r_iload_n (k0 := 1) hx dX8_declared_2 rfl rfl ?_
  obtain ⟨S1, v3, c2, h⟩ := bI_some h
  refine r_Vi (ci := 7) (As := [.int a1]) (rest := [.ref (x_ad x 0 7 0)]) hx (C_X8_isName (c := x_y x) hKS c2) (k_0_7 hKS) rfl wl_X8_138 wi_X8_isName we_X8_isName wn_X8 wc_X8_isName dy_X8_isName rfl (by rw [hR]; decide +kernel) rfl (Nat.le_of_ble_eq_true rfl) dX8_declared_3 ?_
  refine r_if_ne (tgt := 13) hx dX8_declared_6 (by decide) (fun c4 => ?_) (fun c4 => ?_)
  · have h := ite_f h c4
    refine r_iload_n (k0 := 2) hx dX8_declared_13 rfl rfl ?_
    refine r_iconst (v := 0) hx dX8_declared_14 (by decide) ?_
    refine r_iconst (v := 2) hx dX8_declared_15 (by decide) ?_
    obtain ⟨S5, v7, c6, h⟩ := bI_some h
    refine r_Si (As := [.int a2, .int 0, .int 2]) (rest := [.ref (x_ad x 0 7 0)]) hx (C_X8_isIn (c := x_y x) hKS c6) wl_X8_115 wt_X8_isIn wn_X8 wc_X8_isIn dy_X8_isIn rfl (by rw [hR]; decide +kernel) rfl (Nat.le_of_ble_eq_true rfl) dX8_declared_16 ?_
    refine r_if_ne (tgt := 26) hx dX8_declared_19 (by decide) (fun c8 => ?_) (fun c8 => ?_)
    · have h := ite_f h c8
      refine r_iconst (v := 0) hx dX8_declared_26 (by decide) ?_
      exact t_X8_declared_27 hx hR hKS hE h
    · have h := ite_t h c8
      refine r_iconst (v := 2) hx dX8_declared_22 (by decide) ?_
      refine r_goto (tgt := 27) hx dX8_declared_23 (by decide) ?_
      exact t_X8_declared_27 hx hR hKS hE h
  · have h := ite_t h c4
    refine r_iconst (v := 1) hx dX8_declared_9 (by decide) ?_
    refine r_goto (tgt := 27) hx dX8_declared_10 (by decide) ?_
    exact t_X8_declared_27 hx hR hKS hE h
set_option maxHeartbeats 4000000 in
theorem C_X8_declared {n : Nat} {c : YC} (hKS : ∀ k ∈ KM, k ∈ c.2.2.2.2) {S : St} {a1 : Int32} {a2 : Int32} {out : St × Int32} (h : f_X8_declared n S a1 a2 = some out) : MI c yX8_declared cX8_declared 3 (some .int) rm_X8_declared S [.ref (c.2.2.1 0 7 0), .int a1, .int a2] out := mk_I (own := RX8) (by decide +kernel) rfl (Nat.le_of_ble_eq_true rfl) (fun x hx hR hy hE => by subst hy; exact t_X8_declared_0 hx hR hKS hE h)
def f_X8_told (n : Nat) (S : St) (a1 : Int32) : Option (St × Int32) :=
  pS S 350 0 0 fun S1 =>
  if a1 = 0 then
    some (S1, (S1.1 355 0))
  else
    if a1 = 1 then
      some (S1, (S1.1 362 0))
    else
      if a1 = 2 then
        some (S1, (S1.1 366 0))
      else
        some (S1, (-1))
set_option maxRecDepth 100000 in
set_option maxHeartbeats 4000000 in
theorem t_X8_told_0 {n : Nat} {x : XC} (hx : CX x cX8_told 2 RX8) (hR : x_R x = rm_X8_told) (hKS : ∀ k ∈ KM, k ∈ x_K x) {out : St × Int32} (hE : EI x cX8_told out) {S : St} {a1 : Int32} (h : f_X8_told n S a1 = some out) : WX x 2 0 0 S 0 [(0, .ref (x_ad x 0 7 0)), (1, .int a1)] [] := by
  unfold f_X8_told at h
  refine r_aload_n (k0 := 0) hx dX8_told_0 rfl rfl ?_
  refine r_iconst (v := 0) hx dX8_told_1 (by decide) ?_
  obtain ⟨S1, e2, h⟩ := pS_some h
  refine p_350 hx (k_0_7 hKS) wf_X8_106 dX8_told_2 e2 ?_
  refine r_iload_n (k0 := 1) hx dX8_told_5 rfl rfl ?_
  refine r_if_ne (tgt := 16) hx dX8_told_6 (by decide) (fun c3 => ?_) (fun c3 => ?_)
  · have h := ite_f h c3
    refine r_iload_n (k0 := 1) hx dX8_told_16 rfl rfl ?_
    refine r_iconst (v := 1) hx dX8_told_17 (by decide) ?_
    refine r_icmp_ne (tgt := 28) hx dX8_told_18 (by decide) (fun c4 => ?_) (fun c4 => ?_)
    · have h := ite_f h c4
      refine r_iload_n (k0 := 1) hx dX8_told_28 rfl rfl ?_
      refine r_iconst (v := 2) hx dX8_told_29 (by decide) ?_
      refine r_icmp_ne (tgt := 40) hx dX8_told_30 (by decide) (fun c5 => ?_) (fun c5 => ?_)
      · have h := ite_f h c5
        refine r_iconst (v := -1) hx dX8_told_40 (by decide) ?_
        exact r_iret hE h dX8_told_41
      · have h := ite_t h c5
        refine r_aload_n (k0 := 0) hx dX8_told_33 rfl rfl ?_
        refine g_366 hx (k_0_7 hKS) wf_X8_112 dX8_told_34 ?_
        refine r_goto (tgt := 41) hx dX8_told_37 (by decide) ?_
        exact r_iret hE h dX8_told_41
    · have h := ite_t h c4
      refine r_aload_n (k0 := 0) hx dX8_told_21 rfl rfl ?_
      refine g_362 hx (k_0_7 hKS) wf_X8_109 dX8_told_22 ?_
      refine r_goto (tgt := 41) hx dX8_told_25 (by decide) ?_
      exact r_iret hE h dX8_told_41
  · have h := ite_t h c3
    refine r_aload_n (k0 := 0) hx dX8_told_9 rfl rfl ?_
    refine g_355 hx (k_0_7 hKS) wf_X8_22 dX8_told_10 ?_
    refine r_goto (tgt := 41) hx dX8_told_13 (by decide) ?_
    exact r_iret hE h dX8_told_41
set_option maxHeartbeats 4000000 in
theorem C_X8_told {n : Nat} {c : YC} (hKS : ∀ k ∈ KM, k ∈ c.2.2.2.2) {S : St} {a1 : Int32} {out : St × Int32} (h : f_X8_told n S a1 = some out) : MI c yX8_told cX8_told 2 (some .int) rm_X8_told S [.ref (c.2.2.1 0 7 0), .int a1] out := mk_I (own := RX8) (by decide +kernel) rfl (Nat.le_of_ble_eq_true rfl) (fun x hx hR hy hE => by subst hy; exact t_X8_told_0 hx hR hKS hE h)
