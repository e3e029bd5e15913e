theorem dX10_lines_0 : decode cX10_lines 0 = .ok (.aload_n 0, 1) := by decide +kernel
theorem dX10_lines_1 : decode cX10_lines 1 = .ok (.iload_n 1, 1) := by decide +kernel
theorem dX10_lines_2 : decode cX10_lines 2 = .ok (.invokevirtual 113, 3) := by decide +kernel
theorem dX10_lines_5 : decode cX10_lines 5 = .ok (.ifCond .eq 10, 3) := by decide +kernel
theorem dX10_lines_8 : decode cX10_lines 8 = .ok (.iload_n 2, 1) := by decide +kernel
theorem dX10_lines_9 : decode cX10_lines 9 = .ok (.invokestatic 142, 3) := by decide +kernel
theorem dX10_lines_12 : decode cX10_lines 12 = .ok (.ifCond .ne 6, 3) := by decide +kernel
theorem dX10_lines_15 : decode cX10_lines 15 = .ok (.bipush (-2), 2) := by decide +kernel
theorem dX10_lines_17 : decode cX10_lines 17 = .ok (.ireturn, 1) := by decide +kernel
theorem dX10_lines_18 : decode cX10_lines 18 = .ok (.aload_n 0, 1) := by decide +kernel
theorem dX10_lines_19 : decode cX10_lines 19 = .ok (.getfield 73, 3) := by decide +kernel
theorem dX10_lines_22 : decode cX10_lines 22 = .ok (.invokevirtual 200, 3) := by decide +kernel
theorem dX10_lines_25 : decode cX10_lines 25 = .ok (.aload_n 0, 1) := by decide +kernel
theorem dX10_lines_26 : decode cX10_lines 26 = .ok (.getfield 52, 3) := by decide +kernel
theorem dX10_lines_29 : decode cX10_lines 29 = .ok (.aload_n 0, 1) := by decide +kernel
theorem dX10_lines_30 : decode cX10_lines 30 = .ok (.getfield 33, 3) := by decide +kernel
theorem dX10_lines_33 : decode cX10_lines 33 = .ok (.iload_n 1, 1) := by decide +kernel
theorem dX10_lines_34 : decode cX10_lines 34 = .ok (.aaload, 1) := by decide +kernel
theorem dX10_lines_35 : decode cX10_lines 35 = .ok (.iload_n 2, 1) := by decide +kernel
theorem dX10_lines_36 : decode cX10_lines 36 = .ok (.iload_n 3, 1) := by decide +kernel
theorem dX10_lines_37 : decode cX10_lines 37 = .ok (.invokevirtual 149, 3) := by decide +kernel
theorem dX10_lines_40 : decode cX10_lines 40 = .ok (.aload_n 0, 1) := by decide +kernel
theorem dX10_lines_41 : decode cX10_lines 41 = .ok (.getfield 52, 3) := by decide +kernel
theorem dX10_lines_44 : decode cX10_lines 44 = .ok (.iconst 0, 1) := by decide +kernel
theorem dX10_lines_45 : decode cX10_lines 45 = .ok (.invokevirtual 153, 3) := by decide +kernel
theorem dX10_lines_48 : decode cX10_lines 48 = .ok (.iconst 0, 1) := by decide +kernel
theorem dX10_lines_49 : decode cX10_lines 49 = .ok (.istore 4, 2) := by decide +kernel
theorem dX10_lines_51 : decode cX10_lines 51 = .ok (.iconst 0, 1) := by decide +kernel
theorem dX10_lines_52 : decode cX10_lines 52 = .ok (.istore 5, 2) := by decide +kernel
theorem dX10_lines_54 : decode cX10_lines 54 = .ok (.iconst 0, 1) := by decide +kernel
theorem dX10_lines_55 : decode cX10_lines 55 = .ok (.istore 6, 2) := by decide +kernel
theorem dX10_lines_57 : decode cX10_lines 57 = .ok (.iload 6, 2) := by decide +kernel
theorem dX10_lines_59 : decode cX10_lines 59 = .ok (.aload_n 0, 1) := by decide +kernel
theorem dX10_lines_60 : decode cX10_lines 60 = .ok (.getfield 18, 3) := by decide +kernel
theorem dX10_lines_63 : decode cX10_lines 63 = .ok (.getfield 85, 3) := by decide +kernel
theorem dX10_lines_66 : decode cX10_lines 66 = .ok (.if_icmp .ge 84, 3) := by decide +kernel
theorem dX10_lines_69 : decode cX10_lines 69 = .ok (.aload_n 0, 1) := by decide +kernel
theorem dX10_lines_70 : decode cX10_lines 70 = .ok (.getfield 18, 3) := by decide +kernel
theorem dX10_lines_73 : decode cX10_lines 73 = .ok (.iload 6, 2) := by decide +kernel
theorem dX10_lines_75 : decode cX10_lines 75 = .ok (.invokevirtual 138, 3) := by decide +kernel
theorem dX10_lines_78 : decode cX10_lines 78 = .ok (.istore 7, 2) := by decide +kernel
theorem dX10_lines_80 : decode cX10_lines 80 = .ok (.iload 7, 2) := by decide +kernel
theorem dX10_lines_82 : decode cX10_lines 82 = .ok (.bipush 10, 2) := by decide +kernel
theorem dX10_lines_84 : decode cX10_lines 84 = .ok (.if_icmp .ne 23, 3) := by decide +kernel
theorem dX10_lines_87 : decode cX10_lines 87 = .ok (.iinc 4 1, 3) := by decide +kernel
theorem dX10_lines_90 : decode cX10_lines 90 = .ok (.iconst 0, 1) := by decide +kernel
theorem dX10_lines_91 : decode cX10_lines 91 = .ok (.istore 5, 2) := by decide +kernel
theorem dX10_lines_93 : decode cX10_lines 93 = .ok (.aload_n 0, 1) := by decide +kernel
theorem dX10_lines_94 : decode cX10_lines 94 = .ok (.getfield 52, 3) := by decide +kernel
theorem dX10_lines_97 : decode cX10_lines 97 = .ok (.iload 6, 2) := by decide +kernel
theorem dX10_lines_99 : decode cX10_lines 99 = .ok (.iconst 1, 1) := by decide +kernel
theorem dX10_lines_100 : decode cX10_lines 100 = .ok (.iadd, 1) := by decide +kernel
theorem dX10_lines_101 : decode cX10_lines 101 = .ok (.invokevirtual 153, 3) := by decide +kernel
theorem dX10_lines_104 : decode cX10_lines 104 = .ok (.goto 40, 3) := by decide +kernel
theorem dX10_lines_107 : decode cX10_lines 107 = .ok (.iload 5, 2) := by decide +kernel
theorem dX10_lines_109 : decode cX10_lines 109 = .ok (.ifCond .ne 35, 3) := by decide +kernel
theorem dX10_lines_112 : decode cX10_lines 112 = .ok (.aload_n 0, 1) := by decide +kernel
theorem dX10_lines_113 : decode cX10_lines 113 = .ok (.getfield 52, 3) := by decide +kernel
theorem dX10_lines_116 : decode cX10_lines 116 = .ok (.iload 7, 2) := by decide +kernel
theorem dX10_lines_118 : decode cX10_lines 118 = .ok (.invokevirtual 156, 3) := by decide +kernel
theorem dX10_lines_121 : decode cX10_lines 121 = .ok (.aload_n 0, 1) := by decide +kernel
theorem dX10_lines_122 : decode cX10_lines 122 = .ok (.getfield 52, 3) := by decide +kernel
theorem dX10_lines_125 : decode cX10_lines 125 = .ok (.invokevirtual 159, 3) := by decide +kernel
theorem dX10_lines_128 : decode cX10_lines 128 = .ok (.istore 5, 2) := by decide +kernel
theorem dX10_lines_130 : decode cX10_lines 130 = .ok (.iload 5, 2) := by decide +kernel
theorem dX10_lines_132 : decode cX10_lines 132 = .ok (.ifCond .eq 12, 3) := by decide +kernel
theorem dX10_lines_135 : decode cX10_lines 135 = .ok (.aload_n 0, 1) := by decide +kernel
theorem dX10_lines_136 : decode cX10_lines 136 = .ok (.getfield 73, 3) := by decide +kernel
theorem dX10_lines_139 : decode cX10_lines 139 = .ok (.iload 4, 2) := by decide +kernel
theorem dX10_lines_141 : decode cX10_lines 141 = .ok (.invokevirtual 201, 3) := by decide +kernel
theorem dX10_lines_144 : decode cX10_lines 144 = .ok (.iinc 6 1, 3) := by decide +kernel
theorem dX10_lines_147 : decode cX10_lines 147 = .ok (.goto (-90), 3) := by decide +kernel
theorem dX10_lines_150 : decode cX10_lines 150 = .ok (.aload_n 0, 1) := by decide +kernel
theorem dX10_lines_151 : decode cX10_lines 151 = .ok (.getfield 73, 3) := by decide +kernel
theorem dX10_lines_154 : decode cX10_lines 154 = .ok (.getfield 202, 3) := by decide +kernel
theorem dX10_lines_157 : decode cX10_lines 157 = .ok (.ireturn, 1) := by decide +kernel
theorem dX10_line_0 : decode cX10_line 0 = .ok (.aload_n 0, 1) := by decide +kernel
theorem dX10_line_1 : decode cX10_line 1 = .ok (.getfield 73, 3) := by decide +kernel
theorem dX10_line_4 : decode cX10_line 4 = .ok (.iload_n 1, 1) := by decide +kernel
theorem dX10_line_5 : decode cX10_line 5 = .ok (.invokevirtual 203, 3) := by decide +kernel
theorem dX10_line_8 : decode cX10_line 8 = .ok (.ireturn, 1) := by decide +kernel
theorem dX10_replace_0 : decode cX10_replace 0 = .ok (.aload_n 0, 1) := by decide +kernel
theorem dX10_replace_1 : decode cX10_replace 1 = .ok (.iload_n 1, 1) := by decide +kernel
theorem dX10_replace_2 : decode cX10_replace 2 = .ok (.invokevirtual 113, 3) := by decide +kernel
theorem dX10_replace_5 : decode cX10_replace 5 = .ok (.ifCond .eq 10, 3) := by decide +kernel
theorem dX10_replace_8 : decode cX10_replace 8 = .ok (.iload_n 2, 1) := by decide +kernel
theorem dX10_replace_9 : decode cX10_replace 9 = .ok (.invokestatic 142, 3) := by decide +kernel
theorem dX10_replace_12 : decode cX10_replace 12 = .ok (.ifCond .ne 6, 3) := by decide +kernel
theorem dX10_replace_15 : decode cX10_replace 15 = .ok (.bipush (-2), 2) := by decide +kernel
theorem dX10_replace_17 : decode cX10_replace 17 = .ok (.ireturn, 1) := by decide +kernel
theorem dX10_replace_18 : decode cX10_replace 18 = .ok (.aload_n 0, 1) := by decide +kernel
theorem dX10_replace_19 : decode cX10_replace 19 = .ok (.getfield 52, 3) := by decide +kernel
theorem dX10_replace_22 : decode cX10_replace 22 = .ok (.aload_n 0, 1) := by decide +kernel
theorem dX10_replace_23 : decode cX10_replace 23 = .ok (.getfield 33, 3) := by decide +kernel
theorem dX10_replace_26 : decode cX10_replace 26 = .ok (.iload_n 1, 1) := by decide +kernel
theorem dX10_replace_27 : decode cX10_replace 27 = .ok (.aaload, 1) := by decide +kernel
theorem dX10_replace_28 : decode cX10_replace 28 = .ok (.iload_n 2, 1) := by decide +kernel
theorem dX10_replace_29 : decode cX10_replace 29 = .ok (.iload_n 3, 1) := by decide +kernel
theorem dX10_replace_30 : decode cX10_replace 30 = .ok (.invokevirtual 149, 3) := by decide +kernel
theorem dX10_replace_33 : decode cX10_replace 33 = .ok (.aload_n 0, 1) := by decide +kernel
theorem dX10_replace_34 : decode cX10_replace 34 = .ok (.invokevirtual 204, 3) := by decide +kernel
theorem dX10_replace_37 : decode cX10_replace 37 = .ok (.istore 4, 2) := by decide +kernel
theorem dX10_replace_39 : decode cX10_replace 39 = .ok (.iload 4, 2) := by decide +kernel
theorem dX10_replace_41 : decode cX10_replace 41 = .ok (.bipush (-3), 2) := by decide +kernel
theorem dX10_replace_43 : decode cX10_replace 43 = .ok (.if_icmp .eq 32, 3) := by decide +kernel
theorem dX10_replace_46 : decode cX10_replace 46 = .ok (.aload_n 0, 1) := by decide +kernel
theorem dX10_replace_47 : decode cX10_replace 47 = .ok (.getfield 27, 3) := by decide +kernel
theorem dX10_replace_50 : decode cX10_replace 50 = .ok (.aload_n 0, 1) := by decide +kernel
theorem dX10_replace_51 : decode cX10_replace 51 = .ok (.getfield 18, 3) := by decide +kernel
theorem dX10_replace_54 : decode cX10_replace 54 = .ok (.invokevirtual 120, 3) := by decide +kernel
theorem dX10_replace_57 : decode cX10_replace 57 = .ok (.aload_n 0, 1) := by decide +kernel
theorem dX10_replace_58 : decode cX10_replace 58 = .ok (.getfield 18, 3) := by decide +kernel
theorem dX10_replace_61 : decode cX10_replace 61 = .ok (.aload_n 0, 1) := by decide +kernel
theorem dX10_replace_62 : decode cX10_replace 62 = .ok (.getfield 21, 3) := by decide +kernel
theorem dX10_replace_65 : decode cX10_replace 65 = .ok (.invokevirtual 207, 3) := by decide +kernel
theorem dX10_replace_68 : decode cX10_replace 68 = .ok (.aload_n 0, 1) := by decide +kernel
theorem dX10_replace_69 : decode cX10_replace 69 = .ok (.getfield 14, 3) := by decide +kernel
theorem dX10_replace_72 : decode cX10_replace 72 = .ok (.invokevirtual 96, 3) := by decide +kernel
theorem dX10_replace_75 : decode cX10_replace 75 = .ok (.iload 4, 2) := by decide +kernel
theorem dX10_replace_77 : decode cX10_replace 77 = .ok (.ireturn, 1) := by decide +kernel
theorem dX10_whole_0 : decode cX10_whole 0 = .ok (.aload_n 0, 1) := by decide +kernel
theorem dX10_whole_1 : decode cX10_whole 1 = .ok (.iload_n 1, 1) := by decide +kernel
theorem dX10_whole_2 : decode cX10_whole 2 = .ok (.invokevirtual 113, 3) := by decide +kernel
theorem dX10_whole_5 : decode cX10_whole 5 = .ok (.ifCond .eq 23, 3) := by decide +kernel
theorem dX10_whole_8 : decode cX10_whole 8 = .ok (.aload_n 0, 1) := by decide +kernel
theorem dX10_whole_9 : decode cX10_whole 9 = .ok (.getfield 18, 3) := by decide +kernel
theorem dX10_whole_12 : decode cX10_whole 12 = .ok (.iload_n 2, 1) := by decide +kernel
theorem dX10_whole_13 : decode cX10_whole 13 = .ok (.iload_n 3, 1) := by decide +kernel
theorem dX10_whole_14 : decode cX10_whole 14 = .ok (.invokevirtual 127, 3) := by decide +kernel
theorem dX10_whole_17 : decode cX10_whole 17 = .ok (.ifCond .eq 11, 3) := by decide +kernel
theorem dX10_whole_20 : decode cX10_whole 20 = .ok (.iload 5, 2) := by decide +kernel
theorem dX10_whole_22 : decode cX10_whole 22 = .ok (.invokestatic 209, 3) := by decide +kernel
theorem dX10_whole_25 : decode cX10_whole 25 = .ok (.ifCond .ne 6, 3) := by decide +kernel
theorem dX10_whole_28 : decode cX10_whole 28 = .ok (.bipush (-2), 2) := by decide +kernel
theorem dX10_whole_30 : decode cX10_whole 30 = .ok (.ireturn, 1) := by decide +kernel
theorem dX10_whole_31 : decode cX10_whole 31 = .ok (.aload_n 0, 1) := by decide +kernel
theorem dX10_whole_32 : decode cX10_whole 32 = .ok (.getfield 59, 3) := by decide +kernel
theorem dX10_whole_35 : decode cX10_whole 35 = .ok (.aload_n 0, 1) := by decide +kernel
theorem dX10_whole_36 : decode cX10_whole 36 = .ok (.getfield 33, 3) := by decide +kernel
theorem dX10_whole_39 : decode cX10_whole 39 = .ok (.iload_n 1, 1) := by decide +kernel
theorem dX10_whole_40 : decode cX10_whole 40 = .ok (.aaload, 1) := by decide +kernel
theorem dX10_whole_41 : decode cX10_whole 41 = .ok (.aload_n 0, 1) := by decide +kernel
theorem dX10_whole_42 : decode cX10_whole 42 = .ok (.getfield 18, 3) := by decide +kernel
theorem dX10_whole_45 : decode cX10_whole 45 = .ok (.iload_n 2, 1) := by decide +kernel
theorem dX10_whole_46 : decode cX10_whole 46 = .ok (.iload_n 3, 1) := by decide +kernel
theorem dX10_whole_47 : decode cX10_whole 47 = .ok (.iload 4, 2) := by decide +kernel
theorem dX10_whole_49 : decode cX10_whole 49 = .ok (.iload 5, 2) := by decide +kernel
theorem dX10_whole_51 : decode cX10_whole 51 = .ok (.invokevirtual 212, 3) := by decide +kernel
theorem dX10_whole_54 : decode cX10_whole 54 = .ok (.istore 6, 2) := by decide +kernel
theorem dX10_whole_56 : decode cX10_whole 56 = .ok (.iload 6, 2) := by decide +kernel
theorem dX10_whole_58 : decode cX10_whole 58 = .ok (.iload 5, 2) := by decide +kernel
theorem dX10_whole_60 : decode cX10_whole 60 = .ok (.if_icmp .le 8, 3) := by decide +kernel
theorem dX10_whole_63 : decode cX10_whole 63 = .ok (.bipush (-4), 2) := by decide +kernel
theorem dX10_whole_65 : decode cX10_whole 65 = .ok (.goto 5, 3) := by decide +kernel
theorem dX10_whole_68 : decode cX10_whole 68 = .ok (.iload 6, 2) := by decide +kernel
theorem dX10_whole_70 : decode cX10_whole 70 = .ok (.ireturn, 1) := by decide +kernel
theorem dX10_which_0 : decode cX10_which 0 = .ok (.aload_n 0, 1) := by decide +kernel
theorem dX10_which_1 : decode cX10_which 1 = .ok (.getfield 18, 3) := by decide +kernel
theorem dX10_which_4 : decode cX10_which 4 = .ok (.iload_n 1, 1) := by decide +kernel
theorem dX10_which_5 : decode cX10_which 5 = .ok (.iload_n 2, 1) := by decide +kernel
theorem dX10_which_6 : decode cX10_which 6 = .ok (.invokevirtual 127, 3) := by decide +kernel
theorem dX10_which_9 : decode cX10_which 9 = .ok (.ifCond .ne 6, 3) := by decide +kernel
theorem dX10_which_12 : decode cX10_which 12 = .ok (.bipush (-2), 2) := by decide +kernel
theorem dX10_which_14 : decode cX10_which 14 = .ok (.ireturn, 1) := by decide +kernel
theorem dX10_which_15 : decode cX10_which 15 = .ok (.iconst (-1), 1) := by decide +kernel
theorem dX10_which_16 : decode cX10_which 16 = .ok (.istore 4, 2) := by decide +kernel
theorem dX10_which_18 : decode cX10_which 18 = .ok (.sipush 2000, 3) := by decide +kernel
theorem dX10_which_21 : decode cX10_which 21 = .ok (.istore 5, 2) := by decide +kernel
theorem dX10_which_23 : decode cX10_which 23 = .ok (.iconst 0, 1) := by decide +kernel
theorem dX10_which_24 : decode cX10_which 24 = .ok (.istore 6, 2) := by decide +kernel
theorem dX10_which_26 : decode cX10_which 26 = .ok (.iload 6, 2) := by decide +kernel
theorem dX10_which_28 : decode cX10_which 28 = .ok (.bipush 8, 2) := by decide +kernel
theorem dX10_which_30 : decode cX10_which 30 = .ok (.if_icmp .ge 60, 3) := by decide +kernel
theorem dX10_which_33 : decode cX10_which 33 = .ok (.aload_n 0, 1) := by decide +kernel
theorem dX10_which_34 : decode cX10_which 34 = .ok (.iload 6, 2) := by decide +kernel
theorem dX10_which_36 : decode cX10_which 36 = .ok (.invokevirtual 113, 3) := by decide +kernel
theorem dX10_which_39 : decode cX10_which 39 = .ok (.ifCond .eq 45, 3) := by decide +kernel
theorem dX10_which_42 : decode cX10_which 42 = .ok (.aload_n 0, 1) := by decide +kernel
theorem dX10_which_43 : decode cX10_which 43 = .ok (.getfield 59, 3) := by decide +kernel
theorem dX10_which_46 : decode cX10_which 46 = .ok (.aload_n 0, 1) := by decide +kernel
theorem dX10_which_47 : decode cX10_which 47 = .ok (.getfield 33, 3) := by decide +kernel
theorem dX10_which_50 : decode cX10_which 50 = .ok (.iload 6, 2) := by decide +kernel
theorem dX10_which_52 : decode cX10_which 52 = .ok (.aaload, 1) := by decide +kernel
theorem dX10_which_53 : decode cX10_which 53 = .ok (.aload_n 0, 1) := by decide +kernel
theorem dX10_which_54 : decode cX10_which 54 = .ok (.getfield 18, 3) := by decide +kernel
theorem dX10_which_57 : decode cX10_which 57 = .ok (.iload_n 1, 1) := by decide +kernel
theorem dX10_which_58 : decode cX10_which 58 = .ok (.iload_n 2, 1) := by decide +kernel
theorem dX10_which_59 : decode cX10_which 59 = .ok (.iload_n 3, 1) := by decide +kernel
theorem dX10_which_60 : decode cX10_which 60 = .ok (.iload 5, 2) := by decide +kernel
theorem dX10_which_62 : decode cX10_which 62 = .ok (.invokevirtual 212, 3) := by decide +kernel
theorem dX10_which_65 : decode cX10_which 65 = .ok (.istore 7, 2) := by decide +kernel
theorem dX10_which_67 : decode cX10_which 67 = .ok (.iload 7, 2) := by decide +kernel
theorem dX10_which_69 : decode cX10_which 69 = .ok (.iload 5, 2) := by decide +kernel
theorem dX10_which_71 : decode cX10_which 71 = .ok (.if_icmp .gt 13, 3) := by decide +kernel
theorem dX10_which_74 : decode cX10_which 74 = .ok (.iload 6, 2) := by decide +kernel
theorem dX10_which_76 : decode cX10_which 76 = .ok (.istore 4, 2) := by decide +kernel
theorem dX10_which_78 : decode cX10_which 78 = .ok (.iload 7, 2) := by decide +kernel
theorem dX10_which_80 : decode cX10_which 80 = .ok (.iconst 1, 1) := by decide +kernel
theorem dX10_which_81 : decode cX10_which 81 = .ok (.isub, 1) := by decide +kernel
theorem dX10_which_82 : decode cX10_which 82 = .ok (.istore 5, 2) := by decide +kernel
theorem dX10_which_84 : decode cX10_which 84 = .ok (.iinc 6 1, 3) := by decide +kernel
theorem dX10_which_87 : decode cX10_which 87 = .ok (.goto (-61), 3) := by decide +kernel
theorem dX10_which_90 : decode cX10_which 90 = .ok (.iload 4, 2) := by decide +kernel
theorem dX10_which_92 : decode cX10_which 92 = .ok (.ireturn, 1) := by decide +kernel
theorem dX10_apart_0 : decode cX10_apart 0 = .ok (.aload_n 0, 1) := by decide +kernel
theorem dX10_apart_1 : decode cX10_apart 1 = .ok (.getfield 18, 3) := by decide +kernel
theorem dX10_apart_4 : decode cX10_apart 4 = .ok (.iload_n 1, 1) := by decide +kernel
theorem dX10_apart_5 : decode cX10_apart 5 = .ok (.iload_n 2, 1) := by decide +kernel
theorem dX10_apart_6 : decode cX10_apart 6 = .ok (.invokevirtual 127, 3) := by decide +kernel
theorem dX10_apart_9 : decode cX10_apart 9 = .ok (.ifCond .eq 24, 3) := by decide +kernel
theorem dX10_apart_12 : decode cX10_apart 12 = .ok (.aload_n 0, 1) := by decide +kernel
theorem dX10_apart_13 : decode cX10_apart 13 = .ok (.getfield 18, 3) := by decide +kernel
theorem dX10_apart_16 : decode cX10_apart 16 = .ok (.iload_n 3, 1) := by decide +kernel
theorem dX10_apart_17 : decode cX10_apart 17 = .ok (.iload 4, 2) := by decide +kernel
theorem dX10_apart_19 : decode cX10_apart 19 = .ok (.invokevirtual 127, 3) := by decide +kernel
theorem dX10_apart_22 : decode cX10_apart 22 = .ok (.ifCond .eq 11, 3) := by decide +kernel
theorem dX10_apart_25 : decode cX10_apart 25 = .ok (.iload 6, 2) := by decide +kernel
theorem dX10_apart_27 : decode cX10_apart 27 = .ok (.invokestatic 209, 3) := by decide +kernel
theorem dX10_apart_30 : decode cX10_apart 30 = .ok (.ifCond .ne 6, 3) := by decide +kernel
theorem dX10_apart_33 : decode cX10_apart 33 = .ok (.bipush (-2), 2) := by decide +kernel
theorem dX10_apart_35 : decode cX10_apart 35 = .ok (.ireturn, 1) := by decide +kernel
theorem dX10_apart_36 : decode cX10_apart 36 = .ok (.aload_n 0, 1) := by decide +kernel
theorem dX10_apart_37 : decode cX10_apart 37 = .ok (.getfield 38, 3) := by decide +kernel
theorem dX10_apart_40 : decode cX10_apart 40 = .ok (.aload_n 0, 1) := by decide +kernel
theorem dX10_apart_41 : decode cX10_apart 41 = .ok (.getfield 18, 3) := by decide +kernel
theorem dX10_apart_44 : decode cX10_apart 44 = .ok (.iload_n 1, 1) := by decide +kernel
theorem dX10_apart_45 : decode cX10_apart 45 = .ok (.iload_n 2, 1) := by decide +kernel
theorem dX10_apart_46 : decode cX10_apart 46 = .ok (.invokevirtual 216, 3) := by decide +kernel
theorem dX10_apart_49 : decode cX10_apart 49 = .ok (.aload_n 0, 1) := by decide +kernel
theorem dX10_apart_50 : decode cX10_apart 50 = .ok (.getfield 59, 3) := by decide +kernel
theorem dX10_apart_53 : decode cX10_apart 53 = .ok (.aload_n 0, 1) := by decide +kernel
theorem dX10_apart_54 : decode cX10_apart 54 = .ok (.getfield 38, 3) := by decide +kernel
theorem dX10_apart_57 : decode cX10_apart 57 = .ok (.aload_n 0, 1) := by decide +kernel
theorem dX10_apart_58 : decode cX10_apart 58 = .ok (.getfield 18, 3) := by decide +kernel
theorem dX10_apart_61 : decode cX10_apart 61 = .ok (.iload_n 3, 1) := by decide +kernel
theorem dX10_apart_62 : decode cX10_apart 62 = .ok (.iload 4, 2) := by decide +kernel
theorem dX10_apart_64 : decode cX10_apart 64 = .ok (.iload 5, 2) := by decide +kernel
theorem dX10_apart_66 : decode cX10_apart 66 = .ok (.iload 6, 2) := by decide +kernel
theorem dX10_apart_68 : decode cX10_apart 68 = .ok (.invokevirtual 212, 3) := by decide +kernel
theorem dX10_apart_71 : decode cX10_apart 71 = .ok (.istore 7, 2) := by decide +kernel
theorem dX10_apart_73 : decode cX10_apart 73 = .ok (.iload 7, 2) := by decide +kernel
theorem dX10_apart_75 : decode cX10_apart 75 = .ok (.iload 6, 2) := by decide +kernel
theorem dX10_apart_77 : decode cX10_apart 77 = .ok (.if_icmp .le 8, 3) := by decide +kernel
theorem dX10_apart_80 : decode cX10_apart 80 = .ok (.bipush (-4), 2) := by decide +kernel
theorem dX10_apart_82 : decode cX10_apart 82 = .ok (.goto 5, 3) := by decide +kernel
theorem dX10_apart_85 : decode cX10_apart 85 = .ok (.iload 7, 2) := by decide +kernel
theorem dX10_apart_87 : decode cX10_apart 87 = .ok (.ireturn, 1) := by decide +kernel
theorem dX10_isPattern_0 : decode cX10_isPattern 0 = .ok (.iload_n 1, 1) := by decide +kernel
theorem dX10_isPattern_1 : decode cX10_isPattern 1 = .ok (.ifCond .lt 25, 3) := by decide +kernel
theorem dX10_isPattern_4 : decode cX10_isPattern 4 = .ok (.iload_n 1, 1) := by decide +kernel
theorem dX10_isPattern_5 : decode cX10_isPattern 5 = .ok (.bipush 8, 2) := by decide +kernel
theorem dX10_isPattern_7 : decode cX10_isPattern 7 = .ok (.if_icmp .ge 19, 3) := by decide +kernel
theorem dX10_isPattern_10 : decode cX10_isPattern 10 = .ok (.aload_n 0, 1) := by decide +kernel
theorem dX10_isPattern_11 : decode cX10_isPattern 11 = .ok (.getfield 33, 3) := by decide +kernel
theorem dX10_isPattern_14 : decode cX10_isPattern 14 = .ok (.iload_n 1, 1) := by decide +kernel
theorem dX10_isPattern_15 : decode cX10_isPattern 15 = .ok (.aaload, 1) := by decide +kernel
theorem dX10_isPattern_16 : decode cX10_isPattern 16 = .ok (.getfield 109, 3) := by decide +kernel
theorem dX10_isPattern_19 : decode cX10_isPattern 19 = .ok (.ifCond .le 7, 3) := by decide +kernel
theorem dX10_isPattern_22 : decode cX10_isPattern 22 = .ok (.iconst 1, 1) := by decide +kernel
theorem dX10_isPattern_23 : decode cX10_isPattern 23 = .ok (.goto 4, 3) := by decide +kernel
theorem dX10_isPattern_26 : decode cX10_isPattern 26 = .ok (.iconst 0, 1) := by decide +kernel
theorem dX10_isPattern_27 : decode cX10_isPattern 27 = .ok (.ireturn, 1) := by decide +kernel
theorem dX10_isEdits_0 : decode cX10_isEdits 0 = .ok (.iload_n 0, 1) := by decide +kernel
theorem dX10_isEdits_1 : decode cX10_isEdits 1 = .ok (.ifCond .lt 14, 3) := by decide +kernel
theorem dX10_isEdits_4 : decode cX10_isEdits 4 = .ok (.iload_n 0, 1) := by decide +kernel
theorem dX10_isEdits_5 : decode cX10_isEdits 5 = .ok (.sipush 200, 3) := by decide +kernel
theorem dX10_isEdits_8 : decode cX10_isEdits 8 = .ok (.if_icmp .gt 7, 3) := by decide +kernel
theorem dX10_isEdits_11 : decode cX10_isEdits 11 = .ok (.iconst 1, 1) := by decide +kernel
theorem dX10_isEdits_12 : decode cX10_isEdits 12 = .ok (.goto 4, 3) := by decide +kernel
theorem dX10_isEdits_15 : decode cX10_isEdits 15 = .ok (.iconst 0, 1) := by decide +kernel
theorem dX10_isEdits_16 : decode cX10_isEdits 16 = .ok (.ireturn, 1) := by decide +kernel
theorem dX10_isLimit_0 : decode cX10_isLimit 0 = .ok (.iload_n 0, 1) := by decide +kernel
theorem dX10_isLimit_1 : decode cX10_isLimit 1 = .ok (.ifCond .lt 14, 3) := by decide +kernel
theorem dX10_isLimit_4 : decode cX10_isLimit 4 = .ok (.iload_n 0, 1) := by decide +kernel
theorem dX10_isLimit_5 : decode cX10_isLimit 5 = .ok (.sipush 2000, 3) := by decide +kernel
theorem dX10_isLimit_8 : decode cX10_isLimit 8 = .ok (.if_icmp .gt 7, 3) := by decide +kernel
theorem dX10_isLimit_11 : decode cX10_isLimit 11 = .ok (.iconst 1, 1) := by decide +kernel
theorem dX10_isLimit_12 : decode cX10_isLimit 12 = .ok (.goto 4, 3) := by decide +kernel
theorem dX10_isLimit_15 : decode cX10_isLimit 15 = .ok (.iconst 0, 1) := by decide +kernel
theorem dX10_isLimit_16 : decode cX10_isLimit 16 = .ok (.ireturn, 1) := by decide +kernel
theorem dX10_isByte_0 : decode cX10_isByte 0 = .ok (.iload_n 0, 1) := by decide +kernel
theorem dX10_isByte_1 : decode cX10_isByte 1 = .ok (.bipush 10, 2) := by decide +kernel
theorem dX10_isByte_3 : decode cX10_isByte 3 = .ok (.if_icmp .eq 15, 3) := by decide +kernel
theorem dX10_isByte_6 : decode cX10_isByte 6 = .ok (.iload_n 0, 1) := by decide +kernel
theorem dX10_isByte_7 : decode cX10_isByte 7 = .ok (.bipush 32, 2) := by decide +kernel
theorem dX10_isByte_9 : decode cX10_isByte 9 = .ok (.if_icmp .lt 13, 3) := by decide +kernel
theorem dX10_isByte_12 : decode cX10_isByte 12 = .ok (.iload_n 0, 1) := by decide +kernel
theorem dX10_isByte_13 : decode cX10_isByte 13 = .ok (.bipush 126, 2) := by decide +kernel
theorem dX10_isByte_15 : decode cX10_isByte 15 = .ok (.if_icmp .gt 7, 3) := by decide +kernel
theorem dX10_isByte_18 : decode cX10_isByte 18 = .ok (.iconst 1, 1) := by decide +kernel
theorem dX10_isByte_19 : decode cX10_isByte 19 = .ok (.goto 4, 3) := by decide +kernel
theorem dX10_isByte_22 : decode cX10_isByte 22 = .ok (.iconst 0, 1) := by decide +kernel
theorem dX10_isByte_23 : decode cX10_isByte 23 = .ok (.ireturn, 1) := by decide +kernel
theorem dX10_byteOfWord_0 : decode cX10_byteOfWord 0 = .ok (.lload_n 0, 1) := by decide +kernel
theorem dX10_byteOfWord_1 : decode cX10_byteOfWord 1 = .ok (.bipush 8, 2) := by decide +kernel
theorem dX10_byteOfWord_3 : decode cX10_byteOfWord 3 = .ok (.iload_n 2, 1) := by decide +kernel
theorem dX10_byteOfWord_4 : decode cX10_byteOfWord 4 = .ok (.imul, 1) := by decide +kernel
theorem dX10_byteOfWord_5 : decode cX10_byteOfWord 5 = .ok (.lushr, 1) := by decide +kernel
theorem dX10_byteOfWord_6 : decode cX10_byteOfWord 6 = .ok (.l2i, 1) := by decide +kernel
theorem dX10_byteOfWord_7 : decode cX10_byteOfWord 7 = .ok (.sipush 255, 3) := by decide +kernel
theorem dX10_byteOfWord_10 : decode cX10_byteOfWord 10 = .ok (.iand, 1) := by decide +kernel
theorem dX10_byteOfWord_11 : decode cX10_byteOfWord 11 = .ok (.ireturn, 1) := by decide +kernel
theorem dX10_draftReplaced_0 : decode cX10_draftReplaced 0 = .ok (.aload_n 0, 1) := by decide +kernel
theorem dX10_draftReplaced_1 : decode cX10_draftReplaced 1 = .ok (.getfield 21, 3) := by decide +kernel
theorem dX10_draftReplaced_4 : decode cX10_draftReplaced 4 = .ok (.invokevirtual 96, 3) := by decide +kernel
theorem dX10_draftReplaced_7 : decode cX10_draftReplaced 7 = .ok (.aload_n 0, 1) := by decide +kernel
theorem dX10_draftReplaced_8 : decode cX10_draftReplaced 8 = .ok (.getfield 52, 3) := by decide +kernel
theorem dX10_draftReplaced_11 : decode cX10_draftReplaced 11 = .ok (.iconst 0, 1) := by decide +kernel
theorem dX10_draftReplaced_12 : decode cX10_draftReplaced 12 = .ok (.invokevirtual 153, 3) := by decide +kernel
theorem dX10_draftReplaced_15 : decode cX10_draftReplaced 15 = .ok (.iconst 0, 1) := by decide +kernel
theorem dX10_draftReplaced_16 : decode cX10_draftReplaced 16 = .ok (.istore_n 1, 1) := by decide +kernel
theorem dX10_draftReplaced_17 : decode cX10_draftReplaced 17 = .ok (.iconst 0, 1) := by decide +kernel
theorem dX10_draftReplaced_18 : decode cX10_draftReplaced 18 = .ok (.istore_n 2, 1) := by decide +kernel
theorem dX10_draftReplaced_19 : decode cX10_draftReplaced 19 = .ok (.iconst 1, 1) := by decide +kernel
theorem dX10_draftReplaced_20 : decode cX10_draftReplaced 20 = .ok (.istore_n 3, 1) := by decide +kernel
theorem dX10_draftReplaced_21 : decode cX10_draftReplaced 21 = .ok (.iload_n 3, 1) := by decide +kernel
theorem dX10_draftReplaced_22 : decode cX10_draftReplaced 22 = .ok (.aload_n 0, 1) := by decide +kernel
theorem dX10_draftReplaced_23 : decode cX10_draftReplaced 23 = .ok (.getfield 18, 3) := by decide +kernel
theorem dX10_draftReplaced_26 : decode cX10_draftReplaced 26 = .ok (.getfield 85, 3) := by decide +kernel
theorem dX10_draftReplaced_29 : decode cX10_draftReplaced 29 = .ok (.if_icmp .gt 107, 3) := by decide +kernel
theorem dX10_draftReplaced_32 : decode cX10_draftReplaced 32 = .ok (.aload_n 0, 1) := by decide +kernel
theorem dX10_draftReplaced_33 : decode cX10_draftReplaced 33 = .ok (.getfield 52, 3) := by decide +kernel
theorem dX10_draftReplaced_36 : decode cX10_draftReplaced 36 = .ok (.aload_n 0, 1) := by decide +kernel
theorem dX10_draftReplaced_37 : decode cX10_draftReplaced 37 = .ok (.getfield 18, 3) := by decide +kernel
theorem dX10_draftReplaced_40 : decode cX10_draftReplaced 40 = .ok (.iload_n 3, 1) := by decide +kernel
theorem dX10_draftReplaced_41 : decode cX10_draftReplaced 41 = .ok (.iconst 1, 1) := by decide +kernel
theorem dX10_draftReplaced_42 : decode cX10_draftReplaced 42 = .ok (.isub, 1) := by decide +kernel
theorem dX10_draftReplaced_43 : decode cX10_draftReplaced 43 = .ok (.invokevirtual 138, 3) := by decide +kernel
theorem dX10_draftReplaced_46 : decode cX10_draftReplaced 46 = .ok (.invokevirtual 156, 3) := by decide +kernel
theorem dX10_draftReplaced_49 : decode cX10_draftReplaced 49 = .ok (.aload_n 0, 1) := by decide +kernel
theorem dX10_draftReplaced_50 : decode cX10_draftReplaced 50 = .ok (.getfield 52, 3) := by decide +kernel
theorem dX10_draftReplaced_53 : decode cX10_draftReplaced 53 = .ok (.invokevirtual 159, 3) := by decide +kernel
theorem dX10_draftReplaced_56 : decode cX10_draftReplaced 56 = .ok (.ifCond .eq 74, 3) := by decide +kernel
theorem dX10_draftReplaced_59 : decode cX10_draftReplaced 59 = .ok (.aload_n 0, 1) := by decide +kernel
theorem dX10_draftReplaced_60 : decode cX10_draftReplaced 60 = .ok (.getfield 52, 3) := by decide +kernel
theorem dX10_draftReplaced_63 : decode cX10_draftReplaced 63 = .ok (.invokevirtual 167, 3) := by decide +kernel
theorem dX10_draftReplaced_66 : decode cX10_draftReplaced 66 = .ok (.iload_n 3, 1) := by decide +kernel
theorem dX10_draftReplaced_67 : decode cX10_draftReplaced 67 = .ok (.if_icmp .ge 63, 3) := by decide +kernel
theorem dX10_draftReplaced_70 : decode cX10_draftReplaced 70 = .ok (.aload_n 0, 1) := by decide +kernel
theorem dX10_draftReplaced_71 : decode cX10_draftReplaced 71 = .ok (.getfield 21, 3) := by decide +kernel
theorem dX10_draftReplaced_74 : decode cX10_draftReplaced 74 = .ok (.aload_n 0, 1) := by decide +kernel
theorem dX10_draftReplaced_75 : decode cX10_draftReplaced 75 = .ok (.getfield 18, 3) := by decide +kernel
theorem dX10_draftReplaced_78 : decode cX10_draftReplaced 78 = .ok (.iload_n 1, 1) := by decide +kernel
theorem dX10_draftReplaced_79 : decode cX10_draftReplaced 79 = .ok (.aload_n 0, 1) := by decide +kernel
theorem dX10_draftReplaced_80 : decode cX10_draftReplaced 80 = .ok (.getfield 52, 3) := by decide +kernel
theorem dX10_draftReplaced_83 : decode cX10_draftReplaced 83 = .ok (.invokevirtual 167, 3) := by decide +kernel
theorem dX10_draftReplaced_86 : decode cX10_draftReplaced 86 = .ok (.invokevirtual 220, 3) := by decide +kernel
theorem dX10_draftReplaced_89 : decode cX10_draftReplaced 89 = .ok (.ifCond .eq 25, 3) := by decide +kernel
theorem dX10_draftReplaced_92 : decode cX10_draftReplaced 92 = .ok (.aload_n 0, 1) := by decide +kernel
theorem dX10_draftReplaced_93 : decode cX10_draftReplaced 93 = .ok (.getfield 21, 3) := by decide +kernel
theorem dX10_draftReplaced_96 : decode cX10_draftReplaced 96 = .ok (.aload_n 0, 1) := by decide +kernel
theorem dX10_draftReplaced_97 : decode cX10_draftReplaced 97 = .ok (.getfield 14, 3) := by decide +kernel
theorem dX10_draftReplaced_100 : decode cX10_draftReplaced 100 = .ok (.iconst 0, 1) := by decide +kernel
theorem dX10_draftReplaced_101 : decode cX10_draftReplaced 101 = .ok (.aload_n 0, 1) := by decide +kernel
theorem dX10_draftReplaced_102 : decode cX10_draftReplaced 102 = .ok (.getfield 14, 3) := by decide +kernel
theorem dX10_draftReplaced_105 : decode cX10_draftReplaced 105 = .ok (.getfield 85, 3) := by decide +kernel
theorem dX10_draftReplaced_108 : decode cX10_draftReplaced 108 = .ok (.invokevirtual 220, 3) := by decide +kernel
theorem dX10_draftReplaced_111 : decode cX10_draftReplaced 111 = .ok (.ifCond .ne 6, 3) := by decide +kernel
theorem dX10_draftReplaced_114 : decode cX10_draftReplaced 114 = .ok (.bipush (-3), 2) := by decide +kernel
theorem dX10_draftReplaced_116 : decode cX10_draftReplaced 116 = .ok (.ireturn, 1) := by decide +kernel
theorem dX10_draftReplaced_117 : decode cX10_draftReplaced 117 = .ok (.iinc 2 1, 3) := by decide +kernel
theorem dX10_draftReplaced_120 : decode cX10_draftReplaced 120 = .ok (.iload_n 3, 1) := by decide +kernel
theorem dX10_draftReplaced_121 : decode cX10_draftReplaced 121 = .ok (.istore_n 1, 1) := by decide +kernel
theorem dX10_draftReplaced_122 : decode cX10_draftReplaced 122 = .ok (.aload_n 0, 1) := by decide +kernel
theorem dX10_draftReplaced_123 : decode cX10_draftReplaced 123 = .ok (.getfield 52, 3) := by decide +kernel
theorem dX10_draftReplaced_126 : decode cX10_draftReplaced 126 = .ok (.iload_n 3, 1) := by decide +kernel
theorem dX10_draftReplaced_127 : decode cX10_draftReplaced 127 = .ok (.invokevirtual 153, 3) := by decide +kernel
theorem dX10_draftReplaced_130 : decode cX10_draftReplaced 130 = .ok (.iinc 3 1, 3) := by decide +kernel
theorem dX10_draftReplaced_133 : decode cX10_draftReplaced 133 = .ok (.goto (-112), 3) := by decide +kernel
theorem dX10_draftReplaced_136 : decode cX10_draftReplaced 136 = .ok (.aload_n 0, 1) := by decide +kernel
theorem dX10_draftReplaced_137 : decode cX10_draftReplaced 137 = .ok (.getfield 21, 3) := by decide +kernel
theorem dX10_draftReplaced_140 : decode cX10_draftReplaced 140 = .ok (.aload_n 0, 1) := by decide +kernel
theorem dX10_draftReplaced_141 : decode cX10_draftReplaced 141 = .ok (.getfield 18, 3) := by decide +kernel
theorem dX10_draftReplaced_144 : decode cX10_draftReplaced 144 = .ok (.iload_n 1, 1) := by decide +kernel
theorem dX10_draftReplaced_145 : decode cX10_draftReplaced 145 = .ok (.aload_n 0, 1) := by decide +kernel
theorem dX10_draftReplaced_146 : decode cX10_draftReplaced 146 = .ok (.getfield 18, 3) := by decide +kernel
theorem dX10_draftReplaced_149 : decode cX10_draftReplaced 149 = .ok (.getfield 85, 3) := by decide +kernel
theorem dX10_draftReplaced_152 : decode cX10_draftReplaced 152 = .ok (.invokevirtual 220, 3) := by decide +kernel
theorem dX10_draftReplaced_155 : decode cX10_draftReplaced 155 = .ok (.ifCond .eq 7, 3) := by decide +kernel
theorem dX10_draftReplaced_158 : decode cX10_draftReplaced 158 = .ok (.iload_n 2, 1) := by decide +kernel
theorem dX10_draftReplaced_159 : decode cX10_draftReplaced 159 = .ok (.goto 5, 3) := by decide +kernel
theorem dX10_draftReplaced_162 : decode cX10_draftReplaced 162 = .ok (.bipush (-3), 2) := by decide +kernel
theorem dX10_draftReplaced_164 : decode cX10_draftReplaced 164 = .ok (.ireturn, 1) := by decide +kernel
theorem dX11_init_0 : decode cX11_init 0 = .ok (.aload_n 0, 1) := by decide +kernel
theorem dX11_init_1 : decode cX11_init 1 = .ok (.invokespecial 1, 3) := by decide +kernel
theorem dX11_init_4 : decode cX11_init 4 = .ok (.aload_n 0, 1) := by decide +kernel
theorem dX11_init_5 : decode cX11_init 5 = .ok (.sipush 400, 3) := by decide +kernel
theorem dX11_init_8 : decode cX11_init 8 = .ok (.newarray .int, 2) := by decide +kernel
theorem dX11_init_10 : decode cX11_init 10 = .ok (.putfield 7, 3) := by decide +kernel
theorem dX11_init_13 : decode cX11_init 13 = .ok (.aload_n 0, 1) := by decide +kernel
theorem dX11_init_14 : decode cX11_init 14 = .ok (.sipush 1500, 3) := by decide +kernel
theorem dX11_init_17 : decode cX11_init 17 = .ok (.newarray .int, 2) := by decide +kernel
theorem dX11_init_19 : decode cX11_init 19 = .ok (.putfield 13, 3) := by decide +kernel
theorem dX11_init_22 : decode cX11_init 22 = .ok (.aload_n 0, 1) := by decide +kernel
theorem dX11_init_23 : decode cX11_init 23 = .ok (.sipush 7500, 3) := by decide +kernel
theorem dX11_init_26 : decode cX11_init 26 = .ok (.newarray .int, 2) := by decide +kernel
theorem dX11_init_28 : decode cX11_init 28 = .ok (.putfield 16, 3) := by decide +kernel
theorem dX11_init_31 : decode cX11_init 31 = .ok (.aload_n 0, 1) := by decide +kernel
theorem dX11_init_32 : decode cX11_init 32 = .ok (.iconst 5, 1) := by decide +kernel
theorem dX11_init_33 : decode cX11_init 33 = .ok (.newarray .int, 2) := by decide +kernel
theorem dX11_init_35 : decode cX11_init 35 = .ok (.putfield 19, 3) := by decide +kernel
theorem dX11_init_38 : decode cX11_init 38 = .ok (.aload_n 0, 1) := by decide +kernel
theorem dX11_init_39 : decode cX11_init 39 = .ok (.sipush 1600, 3) := by decide +kernel
theorem dX11_init_42 : decode cX11_init 42 = .ok (.newarray .long, 2) := by decide +kernel
theorem dX11_init_44 : decode cX11_init 44 = .ok (.putfield 22, 3) := by decide +kernel
theorem dX11_init_47 : decode cX11_init 47 = .ok (.aload_n 0, 1) := by decide +kernel
theorem dX11_init_48 : decode cX11_init 48 = .ok (.sipush 1600, 3) := by decide +kernel
theorem dX11_init_51 : decode cX11_init 51 = .ok (.newarray .long, 2) := by decide +kernel
theorem dX11_init_53 : decode cX11_init 53 = .ok (.putfield 26, 3) := by decide +kernel
theorem dX11_init_56 : decode cX11_init 56 = .ok (.aload_n 0, 1) := by decide +kernel
theorem dX11_init_57 : decode cX11_init 57 = .ok (.bipush 8, 2) := by decide +kernel
theorem dX11_init_59 : decode cX11_init 59 = .ok (.newarray .int, 2) := by decide +kernel
theorem dX11_init_61 : decode cX11_init 61 = .ok (.putfield 29, 3) := by decide +kernel
theorem dX11_init_64 : decode cX11_init 64 = .ok (.aload_n 0, 1) := by decide +kernel
theorem dX11_init_65 : decode cX11_init 65 = .ok (.iconst (-1), 1) := by decide +kernel
theorem dX11_init_66 : decode cX11_init 66 = .ok (.putfield 32, 3) := by decide +kernel
theorem dX11_init_69 : decode cX11_init 69 = .ok (.aload_n 0, 1) := by decide +kernel
theorem dX11_init_70 : decode cX11_init 70 = .ok (.sipush 200, 3) := by decide +kernel
theorem dX11_init_73 : decode cX11_init 73 = .ok (.newarray .long, 2) := by decide +kernel
theorem dX11_init_75 : decode cX11_init 75 = .ok (.putfield 36, 3) := by decide +kernel
theorem dX11_init_78 : decode cX11_init 78 = .ok (.aload_n 0, 1) := by decide +kernel
theorem dX11_init_79 : decode cX11_init 79 = .ok (.sipush 200, 3) := by decide +kernel
theorem dX11_init_82 : decode cX11_init 82 = .ok (.newarray .long, 2) := by decide +kernel
theorem dX11_init_84 : decode cX11_init 84 = .ok (.putfield 39, 3) := by decide +kernel
theorem dX11_init_87 : decode cX11_init 87 = .ok (.aload_n 0, 1) := by decide +kernel
theorem dX11_init_88 : decode cX11_init 88 = .ok (.sipush 1500, 3) := by decide +kernel
theorem dX11_init_91 : decode cX11_init 91 = .ok (.newarray .long, 2) := by decide +kernel
theorem dX11_init_93 : decode cX11_init 93 = .ok (.putfield 42, 3) := by decide +kernel
theorem dX11_init_96 : decode cX11_init 96 = .ok (.aload_n 0, 1) := by decide +kernel
theorem dX11_init_97 : decode cX11_init 97 = .ok (.sipush 1500, 3) := by decide +kernel
theorem dX11_init_100 : decode cX11_init 100 = .ok (.newarray .long, 2) := by decide +kernel
theorem dX11_init_102 : decode cX11_init 102 = .ok (.putfield 45, 3) := by decide +kernel
theorem dX11_init_105 : decode cX11_init 105 = .ok (.aload_n 0, 1) := by decide +kernel
theorem dX11_init_106 : decode cX11_init 106 = .ok (.sipush 1500, 3) := by decide +kernel
theorem dX11_init_109 : decode cX11_init 109 = .ok (.newarray .int, 2) := by decide +kernel
theorem dX11_init_111 : decode cX11_init 111 = .ok (.putfield 48, 3) := by decide +kernel
theorem dX11_init_114 : decode cX11_init 114 = .ok (.aload_n 0, 1) := by decide +kernel
theorem dX11_init_115 : decode cX11_init 115 = .ok (.sipush 1501, 3) := by decide +kernel
theorem dX11_init_118 : decode cX11_init 118 = .ok (.newarray .int, 2) := by decide +kernel
theorem dX11_init_120 : decode cX11_init 120 = .ok (.putfield 51, 3) := by decide +kernel
theorem dX11_init_123 : decode cX11_init 123 = .ok (.aload_n 0, 1) := by decide +kernel
theorem dX11_init_124 : decode cX11_init 124 = .ok (.sipush 1501, 3) := by decide +kernel
theorem dX11_init_127 : decode cX11_init 127 = .ok (.newarray .int, 2) := by decide +kernel
theorem dX11_init_129 : decode cX11_init 129 = .ok (.putfield 54, 3) := by decide +kernel
theorem dX11_init_132 : decode cX11_init 132 = .ok (.aload_n 0, 1) := by decide +kernel
theorem dX11_init_133 : decode cX11_init 133 = .ok (.sipush 1501, 3) := by decide +kernel
theorem dX11_init_136 : decode cX11_init 136 = .ok (.newarray .int, 2) := by decide +kernel
theorem dX11_init_138 : decode cX11_init 138 = .ok (.putfield 57, 3) := by decide +kernel
theorem dX11_init_141 : decode cX11_init 141 = .ok (.aload_n 0, 1) := by decide +kernel
theorem dX11_init_142 : decode cX11_init 142 = .ok (.sipush 1501, 3) := by decide +kernel
theorem dX11_init_145 : decode cX11_init 145 = .ok (.newarray .int, 2) := by decide +kernel
theorem dX11_init_147 : decode cX11_init 147 = .ok (.putfield 60, 3) := by decide +kernel
theorem dX11_init_150 : decode cX11_init 150 = .ok (.aload_n 0, 1) := by decide +kernel
theorem dX11_init_151 : decode cX11_init 151 = .ok (.sipush 1501, 3) := by decide +kernel
theorem dX11_init_154 : decode cX11_init 154 = .ok (.newarray .int, 2) := by decide +kernel
theorem dX11_init_156 : decode cX11_init 156 = .ok (.putfield 63, 3) := by decide +kernel
theorem dX11_init_159 : decode cX11_init 159 = .ok (.aload_n 0, 1) := by decide +kernel
theorem dX11_init_160 : decode cX11_init 160 = .ok (.sipush 1501, 3) := by decide +kernel
theorem dX11_init_163 : decode cX11_init 163 = .ok (.newarray .int, 2) := by decide +kernel
theorem dX11_init_165 : decode cX11_init 165 = .ok (.putfield 66, 3) := by decide +kernel
theorem dX11_init_168 : decode cX11_init 168 = .ok (.aload_n 0, 1) := by decide +kernel
theorem dX11_init_169 : decode cX11_init 169 = .ok (.sipush 1500, 3) := by decide +kernel
theorem dX11_init_172 : decode cX11_init 172 = .ok (.newarray .int, 2) := by decide +kernel
theorem dX11_init_174 : decode cX11_init 174 = .ok (.putfield 69, 3) := by decide +kernel
theorem dX11_init_177 : decode cX11_init 177 = .ok (.aload_n 0, 1) := by decide +kernel
theorem dX11_init_178 : decode cX11_init 178 = .ok (.sipush 1500, 3) := by decide +kernel
theorem dX11_init_181 : decode cX11_init 181 = .ok (.newarray .int, 2) := by decide +kernel
theorem dX11_init_183 : decode cX11_init 183 = .ok (.putfield 72, 3) := by decide +kernel
theorem dX11_init_186 : decode cX11_init 186 = .ok (.aload_n 0, 1) := by decide +kernel
theorem dX11_init_187 : decode cX11_init 187 = .ok (.sipush 1500, 3) := by decide +kernel
theorem dX11_init_190 : decode cX11_init 190 = .ok (.newarray .int, 2) := by decide +kernel
theorem dX11_init_192 : decode cX11_init 192 = .ok (.putfield 75, 3) := by decide +kernel
theorem dX11_init_195 : decode cX11_init 195 = .ok (.aload_n 0, 1) := by decide +kernel
theorem dX11_init_196 : decode cX11_init 196 = .ok (.sipush 1500, 3) := by decide +kernel
theorem dX11_init_199 : decode cX11_init 199 = .ok (.newarray .int, 2) := by decide +kernel
theorem dX11_init_201 : decode cX11_init 201 = .ok (.putfield 78, 3) := by decide +kernel
theorem dX11_init_204 : decode cX11_init 204 = .ok (.aload_n 0, 1) := by decide +kernel
theorem dX11_init_205 : decode cX11_init 205 = .ok (.sipush 200, 3) := by decide +kernel
theorem dX11_init_208 : decode cX11_init 208 = .ok (.newarray .long, 2) := by decide +kernel
theorem dX11_init_210 : decode cX11_init 210 = .ok (.putfield 81, 3) := by decide +kernel
theorem dX11_init_213 : decode cX11_init 213 = .ok (.aload_n 0, 1) := by decide +kernel
theorem dX11_init_214 : decode cX11_init 214 = .ok (.sipush 200, 3) := by decide +kernel
theorem dX11_init_217 : decode cX11_init 217 = .ok (.newarray .long, 2) := by decide +kernel
theorem dX11_init_219 : decode cX11_init 219 = .ok (.putfield 84, 3) := by decide +kernel
theorem dX11_init_222 : decode cX11_init 222 = .ok (.aload_n 0, 1) := by decide +kernel
theorem dX11_init_223 : decode cX11_init 223 = .ok (.ldc 87, 2) := by decide +kernel
theorem dX11_init_225 : decode cX11_init 225 = .ok (.newarray .int, 2) := by decide +kernel
theorem dX11_init_227 : decode cX11_init 227 = .ok (.putfield 88, 3) := by decide +kernel
theorem dX11_init_230 : decode cX11_init 230 = .ok (.aload_n 0, 1) := by decide +kernel
theorem dX11_init_231 : decode cX11_init 231 = .ok (.sipush 800, 3) := by decide +kernel
theorem dX11_init_234 : decode cX11_init 234 = .ok (.newarray .int, 2) := by decide +kernel
theorem dX11_init_236 : decode cX11_init 236 = .ok (.putfield 91, 3) := by decide +kernel
theorem dX11_init_239 : decode cX11_init 239 = .ok (.aload_n 0, 1) := by decide +kernel
theorem dX11_init_240 : decode cX11_init 240 = .ok (.sipush 1501, 3) := by decide +kernel
theorem dX11_init_243 : decode cX11_init 243 = .ok (.newarray .int, 2) := by decide +kernel
theorem dX11_init_245 : decode cX11_init 245 = .ok (.putfield 94, 3) := by decide +kernel
theorem dX11_init_248 : decode cX11_init 248 = .ok (.aload_n 0, 1) := by decide +kernel
theorem dX11_init_249 : decode cX11_init 249 = .ok (.sipush 1501, 3) := by decide +kernel
theorem dX11_init_252 : decode cX11_init 252 = .ok (.newarray .int, 2) := by decide +kernel
theorem dX11_init_254 : decode cX11_init 254 = .ok (.putfield 97, 3) := by decide +kernel
theorem dX11_init_257 : decode cX11_init 257 = .ok (.return_, 1) := by decide +kernel
theorem dX11_in_0 : decode cX11_in 0 = .ok (.iload_n 0, 1) := by decide +kernel
theorem dX11_in_1 : decode cX11_in 1 = .ok (.iload_n 1, 1) := by decide +kernel
theorem dX11_in_2 : decode cX11_in 2 = .ok (.if_icmp .lt 12, 3) := by decide +kernel
theorem dX11_in_5 : decode cX11_in 5 = .ok (.iload_n 0, 1) := by decide +kernel
theorem dX11_in_6 : decode cX11_in 6 = .ok (.iload_n 2, 1) := by decide +kernel
theorem dX11_in_7 : decode cX11_in 7 = .ok (.if_icmp .gt 7, 3) := by decide +kernel
theorem dX11_in_10 : decode cX11_in 10 = .ok (.iconst 1, 1) := by decide +kernel
theorem dX11_in_11 : decode cX11_in 11 = .ok (.goto 4, 3) := by decide +kernel
theorem dX11_in_14 : decode cX11_in 14 = .ok (.iconst 0, 1) := by decide +kernel
theorem dX11_in_15 : decode cX11_in 15 = .ok (.ireturn, 1) := by decide +kernel
theorem dX11_isByte_0 : decode cX11_isByte 0 = .ok (.iload_n 0, 1) := by decide +kernel
theorem dX11_isByte_1 : decode cX11_isByte 1 = .ok (.bipush 10, 2) := by decide +kernel
theorem dX11_isByte_3 : decode cX11_isByte 3 = .ok (.if_icmp .eq 14, 3) := by decide +kernel
theorem dX11_isByte_6 : decode cX11_isByte 6 = .ok (.iload_n 0, 1) := by decide +kernel
theorem dX11_isByte_7 : decode cX11_isByte 7 = .ok (.bipush 32, 2) := by decide +kernel
theorem dX11_isByte_9 : decode cX11_isByte 9 = .ok (.bipush 126, 2) := by decide +kernel
theorem dX11_isByte_11 : decode cX11_isByte 11 = .ok (.invokestatic 100, 3) := by decide +kernel
theorem dX11_isByte_14 : decode cX11_isByte 14 = .ok (.ifCond .eq 7, 3) := by decide +kernel
theorem dX11_isByte_17 : decode cX11_isByte 17 = .ok (.iconst 1, 1) := by decide +kernel
theorem dX11_isByte_18 : decode cX11_isByte 18 = .ok (.goto 4, 3) := by decide +kernel
theorem dX11_isByte_21 : decode cX11_isByte 21 = .ok (.iconst 0, 1) := by decide +kernel
theorem dX11_isByte_22 : decode cX11_isByte 22 = .ok (.ireturn, 1) := by decide +kernel
theorem dX11_type_0 : decode cX11_type 0 = .ok (.iload_n 3, 1) := by decide +kernel
theorem dX11_type_1 : decode cX11_type 1 = .ok (.iconst 1, 1) := by decide +kernel
theorem dX11_type_2 : decode cX11_type 2 = .ok (.bipush 8, 2) := by decide +kernel
theorem dX11_type_4 : decode cX11_type 4 = .ok (.invokestatic 100, 3) := by decide +kernel
theorem dX11_type_7 : decode cX11_type 7 = .ok (.ifCond .ne 6, 3) := by decide +kernel
theorem dX11_type_10 : decode cX11_type 10 = .ok (.bipush (-2), 2) := by decide +kernel
theorem dX11_type_12 : decode cX11_type 12 = .ok (.ireturn, 1) := by decide +kernel
theorem dX11_type_13 : decode cX11_type 13 = .ok (.iconst 0, 1) := by decide +kernel
theorem dX11_type_14 : decode cX11_type 14 = .ok (.istore 4, 2) := by decide +kernel
theorem dX11_type_16 : decode cX11_type 16 = .ok (.iload 4, 2) := by decide +kernel
theorem dX11_type_18 : decode cX11_type 18 = .ok (.iload_n 3, 1) := by decide +kernel
theorem dX11_type_19 : decode cX11_type 19 = .ok (.if_icmp .ge 30, 3) := by decide +kernel
theorem dX11_type_22 : decode cX11_type 22 = .ok (.lload_n 1, 1) := by decide +kernel
theorem dX11_type_23 : decode cX11_type 23 = .ok (.bipush 8, 2) := by decide +kernel
theorem dX11_type_25 : decode cX11_type 25 = .ok (.iload 4, 2) := by decide +kernel
theorem dX11_type_27 : decode cX11_type 27 = .ok (.imul, 1) := by decide +kernel
theorem dX11_type_28 : decode cX11_type 28 = .ok (.lshr, 1) := by decide +kernel
theorem dX11_type_29 : decode cX11_type 29 = .ok (.ldc2_w 104, 3) := by decide +kernel
theorem dX11_type_32 : decode cX11_type 32 = .ok (.land, 1) := by decide +kernel
theorem dX11_type_33 : decode cX11_type 33 = .ok (.l2i, 1) := by decide +kernel
theorem dX11_type_34 : decode cX11_type 34 = .ok (.invokestatic 106, 3) := by decide +kernel
theorem dX11_type_37 : decode cX11_type 37 = .ok (.ifCond .ne 6, 3) := by decide +kernel
theorem dX11_type_40 : decode cX11_type 40 = .ok (.bipush (-2), 2) := by decide +kernel
theorem dX11_type_42 : decode cX11_type 42 = .ok (.ireturn, 1) := by decide +kernel
theorem dX11_type_43 : decode cX11_type 43 = .ok (.iinc 4 1, 3) := by decide +kernel
theorem dX11_type_46 : decode cX11_type 46 = .ok (.goto (-30), 3) := by decide +kernel
theorem dX11_type_49 : decode cX11_type 49 = .ok (.aload_n 0, 1) := by decide +kernel
theorem dX11_type_50 : decode cX11_type 50 = .ok (.getfield 110, 3) := by decide +kernel
theorem dX11_type_53 : decode cX11_type 53 = .ok (.iload_n 3, 1) := by decide +kernel
theorem dX11_type_54 : decode cX11_type 54 = .ok (.iadd, 1) := by decide +kernel
theorem dX11_type_55 : decode cX11_type 55 = .ok (.sipush 400, 3) := by decide +kernel
theorem dX11_type_58 : decode cX11_type 58 = .ok (.if_icmp .le 6, 3) := by decide +kernel
theorem dX11_type_61 : decode cX11_type 61 = .ok (.bipush (-3), 2) := by decide +kernel
theorem dX11_type_63 : decode cX11_type 63 = .ok (.ireturn, 1) := by decide +kernel
theorem dX11_type_64 : decode cX11_type 64 = .ok (.iconst 0, 1) := by decide +kernel
theorem dX11_type_65 : decode cX11_type 65 = .ok (.istore 4, 2) := by decide +kernel
theorem dX11_type_67 : decode cX11_type 67 = .ok (.iload 4, 2) := by decide +kernel
theorem dX11_type_69 : decode cX11_type 69 = .ok (.iload_n 3, 1) := by decide +kernel
theorem dX11_type_70 : decode cX11_type 70 = .ok (.if_icmp .ge 40, 3) := by decide +kernel
theorem dX11_type_73 : decode cX11_type 73 = .ok (.aload_n 0, 1) := by decide +kernel
theorem dX11_type_74 : decode cX11_type 74 = .ok (.getfield 7, 3) := by decide +kernel
theorem dX11_type_77 : decode cX11_type 77 = .ok (.aload_n 0, 1) := by decide +kernel
theorem dX11_type_78 : decode cX11_type 78 = .ok (.getfield 110, 3) := by decide +kernel
theorem dX11_type_81 : decode cX11_type 81 = .ok (.lload_n 1, 1) := by decide +kernel
theorem dX11_type_82 : decode cX11_type 82 = .ok (.bipush 8, 2) := by decide +kernel
theorem dX11_type_84 : decode cX11_type 84 = .ok (.iload 4, 2) := by decide +kernel
theorem dX11_type_86 : decode cX11_type 86 = .ok (.imul, 1) := by decide +kernel
theorem dX11_type_87 : decode cX11_type 87 = .ok (.lshr, 1) := by decide +kernel
theorem dX11_type_88 : decode cX11_type 88 = .ok (.ldc2_w 104, 3) := by decide +kernel
theorem dX11_type_91 : decode cX11_type 91 = .ok (.land, 1) := by decide +kernel
theorem dX11_type_92 : decode cX11_type 92 = .ok (.l2i, 1) := by decide +kernel
theorem dX11_type_93 : decode cX11_type 93 = .ok (.iastore, 1) := by decide +kernel
theorem dX11_type_94 : decode cX11_type 94 = .ok (.aload_n 0, 1) := by decide +kernel
theorem dX11_type_95 : decode cX11_type 95 = .ok (.dup, 1) := by decide +kernel
theorem dX11_type_96 : decode cX11_type 96 = .ok (.getfield 110, 3) := by decide +kernel
theorem dX11_type_99 : decode cX11_type 99 = .ok (.iconst 1, 1) := by decide +kernel
theorem dX11_type_100 : decode cX11_type 100 = .ok (.iadd, 1) := by decide +kernel
theorem dX11_type_101 : decode cX11_type 101 = .ok (.putfield 110, 3) := by decide +kernel
theorem dX11_type_104 : decode cX11_type 104 = .ok (.iinc 4 1, 3) := by decide +kernel
theorem dX11_type_107 : decode cX11_type 107 = .ok (.goto (-40), 3) := by decide +kernel
theorem dX11_type_110 : decode cX11_type 110 = .ok (.aload_n 0, 1) := by decide +kernel
theorem dX11_type_111 : decode cX11_type 111 = .ok (.getfield 110, 3) := by decide +kernel
theorem dX11_type_114 : decode cX11_type 114 = .ok (.ireturn, 1) := by decide +kernel
theorem dX11_blame_0 : decode cX11_blame 0 = .ok (.aload_n 0, 1) := by decide +kernel
theorem dX11_blame_1 : decode cX11_blame 1 = .ok (.iload_n 1, 1) := by decide +kernel
theorem dX11_blame_2 : decode cX11_blame 2 = .ok (.putfield 113, 3) := by decide +kernel
theorem dX11_blame_5 : decode cX11_blame 5 = .ok (.aload_n 0, 1) := by decide +kernel
theorem dX11_blame_6 : decode cX11_blame 6 = .ok (.iload_n 2, 1) := by decide +kernel
theorem dX11_blame_7 : decode cX11_blame 7 = .ok (.putfield 116, 3) := by decide +kernel
theorem dX11_blame_10 : decode cX11_blame 10 = .ok (.iconst 0, 1) := by decide +kernel
theorem dX11_blame_11 : decode cX11_blame 11 = .ok (.ireturn, 1) := by decide +kernel
theorem dX11_put_0 : decode cX11_put 0 = .ok (.iload_n 1, 1) := by decide +kernel
theorem dX11_put_1 : decode cX11_put 1 = .ok (.bipush 64, 2) := by decide +kernel
theorem dX11_put_3 : decode cX11_put 3 = .ok (.if_icmp .ge 18, 3) := by decide +kernel
theorem dX11_put_6 : decode cX11_put 6 = .ok (.aload_n 0, 1) := by decide +kernel
theorem dX11_put_7 : decode cX11_put 7 = .ok (.dup, 1) := by decide +kernel
theorem dX11_put_8 : decode cX11_put 8 = .ok (.getfield 119, 3) := by decide +kernel
theorem dX11_put_11 : decode cX11_put 11 = .ok (.lconst 1, 1) := by decide +kernel
theorem dX11_put_12 : decode cX11_put 12 = .ok (.iload_n 1, 1) := by decide +kernel
theorem dX11_put_13 : decode cX11_put 13 = .ok (.lshl, 1) := by decide +kernel
theorem dX11_put_14 : decode cX11_put 14 = .ok (.lor, 1) := by decide +kernel
theorem dX11_put_15 : decode cX11_put 15 = .ok (.putfield 119, 3) := by decide +kernel
theorem dX11_put_18 : decode cX11_put 18 = .ok (.goto 18, 3) := by decide +kernel
theorem dX11_put_21 : decode cX11_put 21 = .ok (.aload_n 0, 1) := by decide +kernel
theorem dX11_put_22 : decode cX11_put 22 = .ok (.dup, 1) := by decide +kernel
theorem dX11_put_23 : decode cX11_put 23 = .ok (.getfield 123, 3) := by decide +kernel
theorem dX11_put_26 : decode cX11_put 26 = .ok (.lconst 1, 1) := by decide +kernel
theorem dX11_put_27 : decode cX11_put 27 = .ok (.iload_n 1, 1) := by decide +kernel
theorem dX11_put_28 : decode cX11_put 28 = .ok (.bipush 64, 2) := by decide +kernel
theorem dX11_put_30 : decode cX11_put 30 = .ok (.isub, 1) := by decide +kernel
theorem dX11_put_31 : decode cX11_put 31 = .ok (.lshl, 1) := by decide +kernel
theorem dX11_put_32 : decode cX11_put 32 = .ok (.lor, 1) := by decide +kernel
theorem dX11_put_33 : decode cX11_put 33 = .ok (.putfield 123, 3) := by decide +kernel
theorem dX11_put_36 : decode cX11_put 36 = .ok (.return_, 1) := by decide +kernel
theorem dX11_putAll_0 : decode cX11_putAll 0 = .ok (.iconst 0, 1) := by decide +kernel
theorem dX11_putAll_1 : decode cX11_putAll 1 = .ok (.istore_n 3, 1) := by decide +kernel
theorem dX11_putAll_2 : decode cX11_putAll 2 = .ok (.iload_n 3, 1) := by decide +kernel
theorem dX11_putAll_3 : decode cX11_putAll 3 = .ok (.bipush 127, 2) := by decide +kernel
theorem dX11_putAll_5 : decode cX11_putAll 5 = .ok (.if_icmp .ge 31, 3) := by decide +kernel
theorem dX11_putAll_8 : decode cX11_putAll 8 = .ok (.iload_n 3, 1) := by decide +kernel
theorem dX11_putAll_9 : decode cX11_putAll 9 = .ok (.invokestatic 106, 3) := by decide +kernel
theorem dX11_putAll_12 : decode cX11_putAll 12 = .ok (.ifCond .eq 18, 3) := by decide +kernel
theorem dX11_putAll_15 : decode cX11_putAll 15 = .ok (.iload_n 3, 1) := by decide +kernel
theorem dX11_putAll_16 : decode cX11_putAll 16 = .ok (.iload_n 1, 1) := by decide +kernel
theorem dX11_putAll_17 : decode cX11_putAll 17 = .ok (.if_icmp .lt 13, 3) := by decide +kernel
theorem dX11_putAll_20 : decode cX11_putAll 20 = .ok (.iload_n 3, 1) := by decide +kernel
theorem dX11_putAll_21 : decode cX11_putAll 21 = .ok (.iload_n 2, 1) := by decide +kernel
theorem dX11_putAll_22 : decode cX11_putAll 22 = .ok (.if_icmp .gt 8, 3) := by decide +kernel
theorem dX11_putAll_25 : decode cX11_putAll 25 = .ok (.aload_n 0, 1) := by decide +kernel
theorem dX11_putAll_26 : decode cX11_putAll 26 = .ok (.iload_n 3, 1) := by decide +kernel
theorem dX11_putAll_27 : decode cX11_putAll 27 = .ok (.invokevirtual 126, 3) := by decide +kernel
theorem dX11_putAll_30 : decode cX11_putAll 30 = .ok (.iinc 3 1, 3) := by decide +kernel
theorem dX11_putAll_33 : decode cX11_putAll 33 = .ok (.goto (-31), 3) := by decide +kernel
theorem dX11_putAll_36 : decode cX11_putAll 36 = .ok (.return_, 1) := by decide +kernel
theorem dX11_itemByte_0 : decode cX11_itemByte 0 = .ok (.aload_n 0, 1) := by decide +kernel
theorem dX11_itemByte_1 : decode cX11_itemByte 1 = .ok (.getfield 130, 3) := by decide +kernel
theorem dX11_itemByte_4 : decode cX11_itemByte 4 = .ok (.aload_n 0, 1) := by decide +kernel
theorem dX11_itemByte_5 : decode cX11_itemByte 5 = .ok (.getfield 110, 3) := by decide +kernel
theorem dX11_itemByte_8 : decode cX11_itemByte 8 = .ok (.if_icmp .ge 21, 3) := by decide +kernel
theorem dX11_itemByte_11 : decode cX11_itemByte 11 = .ok (.aload_n 0, 1) := by decide +kernel
theorem dX11_itemByte_12 : decode cX11_itemByte 12 = .ok (.getfield 7, 3) := by decide +kernel
theorem dX11_itemByte_15 : decode cX11_itemByte 15 = .ok (.aload_n 0, 1) := by decide +kernel
theorem dX11_itemByte_16 : decode cX11_itemByte 16 = .ok (.getfield 130, 3) := by decide +kernel
theorem dX11_itemByte_19 : decode cX11_itemByte 19 = .ok (.iaload, 1) := by decide +kernel
theorem dX11_itemByte_20 : decode cX11_itemByte 20 = .ok (.bipush 92, 2) := by decide +kernel
theorem dX11_itemByte_22 : decode cX11_itemByte 22 = .ok (.if_icmp .ne 7, 3) := by decide +kernel
theorem dX11_itemByte_25 : decode cX11_itemByte 25 = .ok (.iconst 1, 1) := by decide +kernel
theorem dX11_itemByte_26 : decode cX11_itemByte 26 = .ok (.goto 4, 3) := by decide +kernel
theorem dX11_itemByte_29 : decode cX11_itemByte 29 = .ok (.iconst 0, 1) := by decide +kernel
theorem dX11_itemByte_30 : decode cX11_itemByte 30 = .ok (.istore_n 1, 1) := by decide +kernel
theorem dX11_itemByte_31 : decode cX11_itemByte 31 = .ok (.aload_n 0, 1) := by decide +kernel
theorem dX11_itemByte_32 : decode cX11_itemByte 32 = .ok (.dup, 1) := by decide +kernel
theorem dX11_itemByte_33 : decode cX11_itemByte 33 = .ok (.getfield 130, 3) := by decide +kernel
theorem dX11_itemByte_36 : decode cX11_itemByte 36 = .ok (.iload_n 1, 1) := by decide +kernel
theorem dX11_itemByte_37 : decode cX11_itemByte 37 = .ok (.ifCond .eq 7, 3) := by decide +kernel
theorem dX11_itemByte_40 : decode cX11_itemByte 40 = .ok (.iconst 1, 1) := by decide +kernel
theorem dX11_itemByte_41 : decode cX11_itemByte 41 = .ok (.goto 4, 3) := by decide +kernel
theorem dX11_itemByte_44 : decode cX11_itemByte 44 = .ok (.iconst 0, 1) := by decide +kernel
theorem dX11_itemByte_45 : decode cX11_itemByte 45 = .ok (.iadd, 1) := by decide +kernel
theorem dX11_itemByte_46 : decode cX11_itemByte 46 = .ok (.putfield 130, 3) := by decide +kernel
theorem dX11_itemByte_49 : decode cX11_itemByte 49 = .ok (.aload_n 0, 1) := by decide +kernel
theorem dX11_itemByte_50 : decode cX11_itemByte 50 = .ok (.getfield 130, 3) := by decide +kernel
theorem dX11_itemByte_53 : decode cX11_itemByte 53 = .ok (.aload_n 0, 1) := by decide +kernel
theorem dX11_itemByte_54 : decode cX11_itemByte 54 = .ok (.getfield 110, 3) := by decide +kernel
theorem dX11_itemByte_57 : decode cX11_itemByte 57 = .ok (.if_icmp .lt 13, 3) := by decide +kernel
theorem dX11_itemByte_60 : decode cX11_itemByte 60 = .ok (.aload_n 0, 1) := by decide +kernel
theorem dX11_itemByte_61 : decode cX11_itemByte 61 = .ok (.iconst 3, 1) := by decide +kernel
theorem dX11_itemByte_62 : decode cX11_itemByte 62 = .ok (.aload_n 0, 1) := by decide +kernel
theorem dX11_itemByte_63 : decode cX11_itemByte 63 = .ok (.getfield 110, 3) := by decide +kernel
theorem dX11_itemByte_66 : decode cX11_itemByte 66 = .ok (.invokevirtual 133, 3) := by decide +kernel
theorem dX11_itemByte_69 : decode cX11_itemByte 69 = .ok (.ireturn, 1) := by decide +kernel
theorem dX11_itemByte_70 : decode cX11_itemByte 70 = .ok (.aload_n 0, 1) := by decide +kernel
theorem dX11_itemByte_71 : decode cX11_itemByte 71 = .ok (.dup, 1) := by decide +kernel
theorem dX11_itemByte_72 : decode cX11_itemByte 72 = .ok (.getfield 130, 3) := by decide +kernel
theorem dX11_itemByte_75 : decode cX11_itemByte 75 = .ok (.iconst 1, 1) := by decide +kernel
theorem dX11_itemByte_76 : decode cX11_itemByte 76 = .ok (.iadd, 1) := by decide +kernel
theorem dX11_itemByte_77 : decode cX11_itemByte 77 = .ok (.putfield 130, 3) := by decide +kernel
theorem dX11_itemByte_80 : decode cX11_itemByte 80 = .ok (.aload_n 0, 1) := by decide +kernel
theorem dX11_itemByte_81 : decode cX11_itemByte 81 = .ok (.getfield 7, 3) := by decide +kernel
theorem dX11_itemByte_84 : decode cX11_itemByte 84 = .ok (.aload_n 0, 1) := by decide +kernel
theorem dX11_itemByte_85 : decode cX11_itemByte 85 = .ok (.getfield 130, 3) := by decide +kernel
theorem dX11_itemByte_88 : decode cX11_itemByte 88 = .ok (.iconst 1, 1) := by decide +kernel
theorem dX11_itemByte_89 : decode cX11_itemByte 89 = .ok (.isub, 1) := by decide +kernel
theorem dX11_itemByte_90 : decode cX11_itemByte 90 = .ok (.iaload, 1) := by decide +kernel
theorem dX11_itemByte_91 : decode cX11_itemByte 91 = .ok (.ireturn, 1) := by decide +kernel
theorem dX11_bracket_0 : decode cX11_bracket 0 = .ok (.aload_n 0, 1) := by decide +kernel
theorem dX11_bracket_1 : decode cX11_bracket 1 = .ok (.dup, 1) := by decide +kernel
theorem dX11_bracket_2 : decode cX11_bracket 2 = .ok (.getfield 130, 3) := by decide +kernel
theorem dX11_bracket_5 : decode cX11_bracket 5 = .ok (.iconst 1, 1) := by decide +kernel
theorem dX11_bracket_6 : decode cX11_bracket 6 = .ok (.iadd, 1) := by decide +kernel
theorem dX11_bracket_7 : decode cX11_bracket 7 = .ok (.putfield 130, 3) := by decide +kernel
theorem dX11_bracket_10 : decode cX11_bracket 10 = .ok (.aload_n 0, 1) := by decide +kernel
theorem dX11_bracket_11 : decode cX11_bracket 11 = .ok (.getfield 130, 3) := by decide +kernel
theorem dX11_bracket_14 : decode cX11_bracket 14 = .ok (.aload_n 0, 1) := by decide +kernel
theorem dX11_bracket_15 : decode cX11_bracket 15 = .ok (.getfield 110, 3) := by decide +kernel
theorem dX11_bracket_18 : decode cX11_bracket 18 = .ok (.if_icmp .ge 21, 3) := by decide +kernel
theorem dX11_bracket_21 : decode cX11_bracket 21 = .ok (.aload_n 0, 1) := by decide +kernel
theorem dX11_bracket_22 : decode cX11_bracket 22 = .ok (.getfield 7, 3) := by decide +kernel
theorem dX11_bracket_25 : decode cX11_bracket 25 = .ok (.aload_n 0, 1) := by decide +kernel
theorem dX11_bracket_26 : decode cX11_bracket 26 = .ok (.getfield 130, 3) := by decide +kernel
theorem dX11_bracket_29 : decode cX11_bracket 29 = .ok (.iaload, 1) := by decide +kernel
theorem dX11_bracket_30 : decode cX11_bracket 30 = .ok (.bipush 94, 2) := by decide +kernel
theorem dX11_bracket_32 : decode cX11_bracket 32 = .ok (.if_icmp .ne 7, 3) := by decide +kernel
theorem dX11_bracket_35 : decode cX11_bracket 35 = .ok (.iconst 1, 1) := by decide +kernel
theorem dX11_bracket_36 : decode cX11_bracket 36 = .ok (.goto 4, 3) := by decide +kernel
theorem dX11_bracket_39 : decode cX11_bracket 39 = .ok (.iconst 0, 1) := by decide +kernel
theorem dX11_bracket_40 : decode cX11_bracket 40 = .ok (.istore_n 1, 1) := by decide +kernel
theorem dX11_bracket_41 : decode cX11_bracket 41 = .ok (.aload_n 0, 1) := by decide +kernel
theorem dX11_bracket_42 : decode cX11_bracket 42 = .ok (.dup, 1) := by decide +kernel
theorem dX11_bracket_43 : decode cX11_bracket 43 = .ok (.getfield 130, 3) := by decide +kernel
theorem dX11_bracket_46 : decode cX11_bracket 46 = .ok (.iload_n 1, 1) := by decide +kernel
theorem dX11_bracket_47 : decode cX11_bracket 47 = .ok (.ifCond .eq 7, 3) := by decide +kernel
theorem dX11_bracket_50 : decode cX11_bracket 50 = .ok (.iconst 1, 1) := by decide +kernel
theorem dX11_bracket_51 : decode cX11_bracket 51 = .ok (.goto 4, 3) := by decide +kernel
theorem dX11_bracket_54 : decode cX11_bracket 54 = .ok (.iconst 0, 1) := by decide +kernel
theorem dX11_bracket_55 : decode cX11_bracket 55 = .ok (.iadd, 1) := by decide +kernel
theorem dX11_bracket_56 : decode cX11_bracket 56 = .ok (.putfield 130, 3) := by decide +kernel
theorem dX11_bracket_59 : decode cX11_bracket 59 = .ok (.aload_n 0, 1) := by decide +kernel
theorem dX11_bracket_60 : decode cX11_bracket 60 = .ok (.getfield 130, 3) := by decide +kernel
theorem dX11_bracket_63 : decode cX11_bracket 63 = .ok (.aload_n 0, 1) := by decide +kernel
theorem dX11_bracket_64 : decode cX11_bracket 64 = .ok (.getfield 110, 3) := by decide +kernel
theorem dX11_bracket_67 : decode cX11_bracket 67 = .ok (.if_icmp .ge 28, 3) := by decide +kernel
theorem dX11_bracket_70 : decode cX11_bracket 70 = .ok (.aload_n 0, 1) := by decide +kernel
theorem dX11_bracket_71 : decode cX11_bracket 71 = .ok (.getfield 7, 3) := by decide +kernel
theorem dX11_bracket_74 : decode cX11_bracket 74 = .ok (.aload_n 0, 1) := by decide +kernel
theorem dX11_bracket_75 : decode cX11_bracket 75 = .ok (.getfield 130, 3) := by decide +kernel
theorem dX11_bracket_78 : decode cX11_bracket 78 = .ok (.iaload, 1) := by decide +kernel
theorem dX11_bracket_79 : decode cX11_bracket 79 = .ok (.bipush 93, 2) := by decide +kernel
theorem dX11_bracket_81 : decode cX11_bracket 81 = .ok (.if_icmp .ne 14, 3) := by decide +kernel
theorem dX11_bracket_84 : decode cX11_bracket 84 = .ok (.aload_n 0, 1) := by decide +kernel
theorem dX11_bracket_85 : decode cX11_bracket 85 = .ok (.iconst 2, 1) := by decide +kernel
theorem dX11_bracket_86 : decode cX11_bracket 86 = .ok (.aload_n 0, 1) := by decide +kernel
theorem dX11_bracket_87 : decode cX11_bracket 87 = .ok (.getfield 130, 3) := by decide +kernel
theorem dX11_bracket_90 : decode cX11_bracket 90 = .ok (.invokevirtual 133, 3) := by decide +kernel
theorem dX11_bracket_93 : decode cX11_bracket 93 = .ok (.istore_n 2, 1) := by decide +kernel
theorem dX11_bracket_94 : decode cX11_bracket 94 = .ok (.return_, 1) := by decide +kernel
theorem dX11_bracket_95 : decode cX11_bracket 95 = .ok (.iconst 1, 1) := by decide +kernel
theorem dX11_bracket_96 : decode cX11_bracket 96 = .ok (.istore_n 2, 1) := by decide +kernel
theorem dX11_bracket_97 : decode cX11_bracket 97 = .ok (.iload_n 2, 1) := by decide +kernel
theorem dX11_bracket_98 : decode cX11_bracket 98 = .ok (.ifCond .eq 157, 3) := by decide +kernel
theorem dX11_bracket_101 : decode cX11_bracket 101 = .ok (.aload_n 0, 1) := by decide +kernel
theorem dX11_bracket_102 : decode cX11_bracket 102 = .ok (.getfield 113, 3) := by decide +kernel
theorem dX11_bracket_105 : decode cX11_bracket 105 = .ok (.ifCond .ne 150, 3) := by decide +kernel
theorem dX11_bracket_108 : decode cX11_bracket 108 = .ok (.aload_n 0, 1) := by decide +kernel
theorem dX11_bracket_109 : decode cX11_bracket 109 = .ok (.invokevirtual 137, 3) := by decide +kernel
theorem dX11_bracket_112 : decode cX11_bracket 112 = .ok (.istore_n 3, 1) := by decide +kernel
theorem dX11_bracket_113 : decode cX11_bracket 113 = .ok (.iload_n 3, 1) := by decide +kernel
theorem dX11_bracket_114 : decode cX11_bracket 114 = .ok (.istore 4, 2) := by decide +kernel
theorem dX11_bracket_116 : decode cX11_bracket 116 = .ok (.aload_n 0, 1) := by decide +kernel
theorem dX11_bracket_117 : decode cX11_bracket 117 = .ok (.getfield 113, 3) := by decide +kernel
theorem dX11_bracket_120 : decode cX11_bracket 120 = .ok (.ifCond .ne 73, 3) := by decide +kernel
theorem dX11_bracket_123 : decode cX11_bracket 123 = .ok (.aload_n 0, 1) := by decide +kernel
theorem dX11_bracket_124 : decode cX11_bracket 124 = .ok (.getfield 130, 3) := by decide +kernel
theorem dX11_bracket_127 : decode cX11_bracket 127 = .ok (.aload_n 0, 1) := by decide +kernel
theorem dX11_bracket_128 : decode cX11_bracket 128 = .ok (.getfield 110, 3) := by decide +kernel
theorem dX11_bracket_131 : decode cX11_bracket 131 = .ok (.if_icmp .ge 62, 3) := by decide +kernel
theorem dX11_bracket_134 : decode cX11_bracket 134 = .ok (.aload_n 0, 1) := by decide +kernel
theorem dX11_bracket_135 : decode cX11_bracket 135 = .ok (.getfield 7, 3) := by decide +kernel
theorem dX11_bracket_138 : decode cX11_bracket 138 = .ok (.aload_n 0, 1) := by decide +kernel
theorem dX11_bracket_139 : decode cX11_bracket 139 = .ok (.getfield 130, 3) := by decide +kernel
theorem dX11_bracket_142 : decode cX11_bracket 142 = .ok (.iaload, 1) := by decide +kernel
theorem dX11_bracket_143 : decode cX11_bracket 143 = .ok (.bipush 45, 2) := by decide +kernel
theorem dX11_bracket_145 : decode cX11_bracket 145 = .ok (.if_icmp .ne 48, 3) := by decide +kernel
theorem dX11_bracket_148 : decode cX11_bracket 148 = .ok (.aload_n 0, 1) := by decide +kernel
theorem dX11_bracket_149 : decode cX11_bracket 149 = .ok (.getfield 130, 3) := by decide +kernel
theorem dX11_bracket_152 : decode cX11_bracket 152 = .ok (.iconst 1, 1) := by decide +kernel
theorem dX11_bracket_153 : decode cX11_bracket 153 = .ok (.iadd, 1) := by decide +kernel
theorem dX11_bracket_154 : decode cX11_bracket 154 = .ok (.aload_n 0, 1) := by decide +kernel
theorem dX11_bracket_155 : decode cX11_bracket 155 = .ok (.getfield 110, 3) := by decide +kernel
theorem dX11_bracket_158 : decode cX11_bracket 158 = .ok (.if_icmp .ge 19, 3) := by decide +kernel
theorem dX11_bracket_161 : decode cX11_bracket 161 = .ok (.aload_n 0, 1) := by decide +kernel
theorem dX11_bracket_162 : decode cX11_bracket 162 = .ok (.getfield 7, 3) := by decide +kernel
theorem dX11_bracket_165 : decode cX11_bracket 165 = .ok (.aload_n 0, 1) := by decide +kernel
theorem dX11_bracket_166 : decode cX11_bracket 166 = .ok (.getfield 130, 3) := by decide +kernel
theorem dX11_bracket_169 : decode cX11_bracket 169 = .ok (.iconst 1, 1) := by decide +kernel
theorem dX11_bracket_170 : decode cX11_bracket 170 = .ok (.iadd, 1) := by decide +kernel
theorem dX11_bracket_171 : decode cX11_bracket 171 = .ok (.iaload, 1) := by decide +kernel
theorem dX11_bracket_172 : decode cX11_bracket 172 = .ok (.bipush 93, 2) := by decide +kernel
theorem dX11_bracket_174 : decode cX11_bracket 174 = .ok (.if_icmp .eq 19, 3) := by decide +kernel
theorem dX11_bracket_177 : decode cX11_bracket 177 = .ok (.aload_n 0, 1) := by decide +kernel
theorem dX11_bracket_178 : decode cX11_bracket 178 = .ok (.dup, 1) := by decide +kernel
theorem dX11_bracket_179 : decode cX11_bracket 179 = .ok (.getfield 130, 3) := by decide +kernel
theorem dX11_bracket_182 : decode cX11_bracket 182 = .ok (.iconst 1, 1) := by decide +kernel
theorem dX11_bracket_183 : decode cX11_bracket 183 = .ok (.iadd, 1) := by decide +kernel
theorem dX11_bracket_184 : decode cX11_bracket 184 = .ok (.putfield 130, 3) := by decide +kernel
theorem dX11_bracket_187 : decode cX11_bracket 187 = .ok (.aload_n 0, 1) := by decide +kernel
theorem dX11_bracket_188 : decode cX11_bracket 188 = .ok (.invokevirtual 137, 3) := by decide +kernel
theorem dX11_bracket_191 : decode cX11_bracket 191 = .ok (.istore 4, 2) := by decide +kernel
theorem dX11_bracket_193 : decode cX11_bracket 193 = .ok (.aload_n 0, 1) := by decide +kernel
theorem dX11_bracket_194 : decode cX11_bracket 194 = .ok (.getfield 113, 3) := by decide +kernel
theorem dX11_bracket_197 : decode cX11_bracket 197 = .ok (.ifCond .ne 55, 3) := by decide +kernel
theorem dX11_bracket_200 : decode cX11_bracket 200 = .ok (.aload_n 0, 1) := by decide +kernel
theorem dX11_bracket_201 : decode cX11_bracket 201 = .ok (.iload_n 3, 1) := by decide +kernel
theorem dX11_bracket_202 : decode cX11_bracket 202 = .ok (.iload 4, 2) := by decide +kernel
theorem dX11_bracket_204 : decode cX11_bracket 204 = .ok (.invokevirtual 141, 3) := by decide +kernel
theorem dX11_bracket_207 : decode cX11_bracket 207 = .ok (.aload_n 0, 1) := by decide +kernel
theorem dX11_bracket_208 : decode cX11_bracket 208 = .ok (.getfield 130, 3) := by decide +kernel
theorem dX11_bracket_211 : decode cX11_bracket 211 = .ok (.aload_n 0, 1) := by decide +kernel
theorem dX11_bracket_212 : decode cX11_bracket 212 = .ok (.getfield 110, 3) := by decide +kernel
theorem dX11_bracket_215 : decode cX11_bracket 215 = .ok (.if_icmp .lt 17, 3) := by decide +kernel
theorem dX11_bracket_218 : decode cX11_bracket 218 = .ok (.aload_n 0, 1) := by decide +kernel
theorem dX11_bracket_219 : decode cX11_bracket 219 = .ok (.iconst 3, 1) := by decide +kernel
theorem dX11_bracket_220 : decode cX11_bracket 220 = .ok (.aload_n 0, 1) := by decide +kernel
theorem dX11_bracket_221 : decode cX11_bracket 221 = .ok (.getfield 110, 3) := by decide +kernel
theorem dX11_bracket_224 : decode cX11_bracket 224 = .ok (.invokevirtual 133, 3) := by decide +kernel
theorem dX11_bracket_227 : decode cX11_bracket 227 = .ok (.istore 5, 2) := by decide +kernel
theorem dX11_bracket_229 : decode cX11_bracket 229 = .ok (.goto 23, 3) := by decide +kernel
theorem dX11_bracket_232 : decode cX11_bracket 232 = .ok (.aload_n 0, 1) := by decide +kernel
theorem dX11_bracket_233 : decode cX11_bracket 233 = .ok (.getfield 7, 3) := by decide +kernel
theorem dX11_bracket_236 : decode cX11_bracket 236 = .ok (.aload_n 0, 1) := by decide +kernel
theorem dX11_bracket_237 : decode cX11_bracket 237 = .ok (.getfield 130, 3) := by decide +kernel
theorem dX11_bracket_240 : decode cX11_bracket 240 = .ok (.iaload, 1) := by decide +kernel
theorem dX11_bracket_241 : decode cX11_bracket 241 = .ok (.bipush 93, 2) := by decide +kernel
theorem dX11_bracket_243 : decode cX11_bracket 243 = .ok (.if_icmp .eq 7, 3) := by decide +kernel
theorem dX11_bracket_246 : decode cX11_bracket 246 = .ok (.iconst 1, 1) := by decide +kernel
theorem dX11_bracket_247 : decode cX11_bracket 247 = .ok (.goto 4, 3) := by decide +kernel
theorem dX11_bracket_250 : decode cX11_bracket 250 = .ok (.iconst 0, 1) := by decide +kernel
theorem dX11_bracket_251 : decode cX11_bracket 251 = .ok (.istore_n 2, 1) := by decide +kernel
theorem dX11_bracket_252 : decode cX11_bracket 252 = .ok (.goto (-155), 3) := by decide +kernel
theorem dX11_bracket_255 : decode cX11_bracket 255 = .ok (.aload_n 0, 1) := by decide +kernel
theorem dX11_bracket_256 : decode cX11_bracket 256 = .ok (.dup, 1) := by decide +kernel
theorem dX11_bracket_257 : decode cX11_bracket 257 = .ok (.getfield 130, 3) := by decide +kernel
theorem dX11_bracket_260 : decode cX11_bracket 260 = .ok (.iconst 1, 1) := by decide +kernel
theorem dX11_bracket_261 : decode cX11_bracket 261 = .ok (.iadd, 1) := by decide +kernel
theorem dX11_bracket_262 : decode cX11_bracket 262 = .ok (.putfield 130, 3) := by decide +kernel
theorem dX11_bracket_265 : decode cX11_bracket 265 = .ok (.iload_n 1, 1) := by decide +kernel
theorem dX11_bracket_266 : decode cX11_bracket 266 = .ok (.ifCond .eq 60, 3) := by decide +kernel
theorem dX11_bracket_269 : decode cX11_bracket 269 = .ok (.aload_n 0, 1) := by decide +kernel
theorem dX11_bracket_270 : decode cX11_bracket 270 = .ok (.getfield 119, 3) := by decide +kernel
theorem dX11_bracket_273 : decode cX11_bracket 273 = .ok (.lstore_n 3, 1) := by decide +kernel
theorem dX11_bracket_274 : decode cX11_bracket 274 = .ok (.aload_n 0, 1) := by decide +kernel
theorem dX11_bracket_275 : decode cX11_bracket 275 = .ok (.getfield 123, 3) := by decide +kernel
theorem dX11_bracket_278 : decode cX11_bracket 278 = .ok (.lstore 5, 2) := by decide +kernel
theorem dX11_bracket_280 : decode cX11_bracket 280 = .ok (.aload_n 0, 1) := by decide +kernel
theorem dX11_bracket_281 : decode cX11_bracket 281 = .ok (.lconst 0, 1) := by decide +kernel
theorem dX11_bracket_282 : decode cX11_bracket 282 = .ok (.putfield 119, 3) := by decide +kernel
theorem dX11_bracket_285 : decode cX11_bracket 285 = .ok (.aload_n 0, 1) := by decide +kernel
theorem dX11_bracket_286 : decode cX11_bracket 286 = .ok (.lconst 0, 1) := by decide +kernel
theorem dX11_bracket_287 : decode cX11_bracket 287 = .ok (.putfield 123, 3) := by decide +kernel
theorem dX11_bracket_290 : decode cX11_bracket 290 = .ok (.aload_n 0, 1) := by decide +kernel
theorem dX11_bracket_291 : decode cX11_bracket 291 = .ok (.iconst 0, 1) := by decide +kernel
theorem dX11_bracket_292 : decode cX11_bracket 292 = .ok (.bipush 126, 2) := by decide +kernel
theorem dX11_bracket_294 : decode cX11_bracket 294 = .ok (.invokevirtual 141, 3) := by decide +kernel
theorem dX11_bracket_297 : decode cX11_bracket 297 = .ok (.aload_n 0, 1) := by decide +kernel
theorem dX11_bracket_298 : decode cX11_bracket 298 = .ok (.dup, 1) := by decide +kernel
theorem dX11_bracket_299 : decode cX11_bracket 299 = .ok (.getfield 119, 3) := by decide +kernel
theorem dX11_bracket_302 : decode cX11_bracket 302 = .ok (.lload_n 3, 1) := by decide +kernel
theorem dX11_bracket_303 : decode cX11_bracket 303 = .ok (.ldc2_w 145, 3) := by decide +kernel
theorem dX11_bracket_306 : decode cX11_bracket 306 = .ok (.lxor, 1) := by decide +kernel
theorem dX11_bracket_307 : decode cX11_bracket 307 = .ok (.land, 1) := by decide +kernel
theorem dX11_bracket_308 : decode cX11_bracket 308 = .ok (.putfield 119, 3) := by decide +kernel
theorem dX11_bracket_311 : decode cX11_bracket 311 = .ok (.aload_n 0, 1) := by decide +kernel
theorem dX11_bracket_312 : decode cX11_bracket 312 = .ok (.dup, 1) := by decide +kernel
theorem dX11_bracket_313 : decode cX11_bracket 313 = .ok (.getfield 123, 3) := by decide +kernel
theorem dX11_bracket_316 : decode cX11_bracket 316 = .ok (.lload 5, 2) := by decide +kernel
theorem dX11_bracket_318 : decode cX11_bracket 318 = .ok (.ldc2_w 145, 3) := by decide +kernel
theorem dX11_bracket_321 : decode cX11_bracket 321 = .ok (.lxor, 1) := by decide +kernel
theorem dX11_bracket_322 : decode cX11_bracket 322 = .ok (.land, 1) := by decide +kernel
theorem dX11_bracket_323 : decode cX11_bracket 323 = .ok (.putfield 123, 3) := by decide +kernel
theorem dX11_bracket_326 : decode cX11_bracket 326 = .ok (.return_, 1) := by decide +kernel
theorem dX11_element_0 : decode cX11_element 0 = .ok (.aload_n 0, 1) := by decide +kernel
theorem dX11_element_1 : decode cX11_element 1 = .ok (.getfield 7, 3) := by decide +kernel
theorem dX11_element_4 : decode cX11_element 4 = .ok (.aload_n 0, 1) := by decide +kernel
theorem dX11_element_5 : decode cX11_element 5 = .ok (.getfield 130, 3) := by decide +kernel
theorem dX11_element_8 : decode cX11_element 8 = .ok (.iaload, 1) := by decide +kernel
theorem dX11_element_9 : decode cX11_element 9 = .ok (.istore_n 1, 1) := by decide +kernel
theorem dX11_element_10 : decode cX11_element 10 = .ok (.iload_n 1, 1) := by decide +kernel
theorem dX11_element_11 : decode cX11_element 11 = .ok (.bipush 93, 2) := by decide +kernel
theorem dX11_element_13 : decode cX11_element 13 = .ok (.if_icmp .ne 14, 3) := by decide +kernel
theorem dX11_element_16 : decode cX11_element 16 = .ok (.aload_n 0, 1) := by decide +kernel
theorem dX11_element_17 : decode cX11_element 17 = .ok (.iconst 1, 1) := by decide +kernel
theorem dX11_element_18 : decode cX11_element 18 = .ok (.aload_n 0, 1) := by decide +kernel
theorem dX11_element_19 : decode cX11_element 19 = .ok (.getfield 130, 3) := by decide +kernel
theorem dX11_element_22 : decode cX11_element 22 = .ok (.invokevirtual 133, 3) := by decide +kernel
theorem dX11_element_25 : decode cX11_element 25 = .ok (.istore_n 2, 1) := by decide +kernel
theorem dX11_element_26 : decode cX11_element 26 = .ok (.return_, 1) := by decide +kernel
theorem dX11_element_27 : decode cX11_element 27 = .ok (.aload_n 0, 1) := by decide +kernel
theorem dX11_element_28 : decode cX11_element 28 = .ok (.getfield 147, 3) := by decide +kernel
theorem dX11_element_31 : decode cX11_element 31 = .ok (.sipush 200, 3) := by decide +kernel
theorem dX11_element_34 : decode cX11_element 34 = .ok (.if_icmp .ne 14, 3) := by decide +kernel
theorem dX11_element_37 : decode cX11_element 37 = .ok (.aload_n 0, 1) := by decide +kernel
theorem dX11_element_38 : decode cX11_element 38 = .ok (.iconst 4, 1) := by decide +kernel
theorem dX11_element_39 : decode cX11_element 39 = .ok (.aload_n 0, 1) := by decide +kernel
theorem dX11_element_40 : decode cX11_element 40 = .ok (.getfield 130, 3) := by decide +kernel
theorem dX11_element_43 : decode cX11_element 43 = .ok (.invokevirtual 133, 3) := by decide +kernel
theorem dX11_element_46 : decode cX11_element 46 = .ok (.istore_n 2, 1) := by decide +kernel
theorem dX11_element_47 : decode cX11_element 47 = .ok (.return_, 1) := by decide +kernel
theorem dX11_element_48 : decode cX11_element 48 = .ok (.aload_n 0, 1) := by decide +kernel
theorem dX11_element_49 : decode cX11_element 49 = .ok (.lconst 0, 1) := by decide +kernel
theorem dX11_element_50 : decode cX11_element 50 = .ok (.putfield 119, 3) := by decide +kernel
theorem dX11_element_53 : decode cX11_element 53 = .ok (.aload_n 0, 1) := by decide +kernel
theorem dX11_element_54 : decode cX11_element 54 = .ok (.lconst 0, 1) := by decide +kernel
theorem dX11_element_55 : decode cX11_element 55 = .ok (.putfield 123, 3) := by decide +kernel
theorem dX11_element_58 : decode cX11_element 58 = .ok (.iload_n 1, 1) := by decide +kernel
theorem dX11_element_59 : decode cX11_element 59 = .ok (.bipush 46, 2) := by decide +kernel
theorem dX11_element_61 : decode cX11_element 61 = .ok (.if_icmp .ne 24, 3) := by decide +kernel
theorem dX11_element_64 : decode cX11_element 64 = .ok (.aload_n 0, 1) := by decide +kernel
theorem dX11_element_65 : decode cX11_element 65 = .ok (.bipush 32, 2) := by decide +kernel
theorem dX11_element_67 : decode cX11_element 67 = .ok (.bipush 126, 2) := by decide +kernel
theorem dX11_element_69 : decode cX11_element 69 = .ok (.invokevirtual 141, 3) := by decide +kernel
theorem dX11_element_72 : decode cX11_element 72 = .ok (.aload_n 0, 1) := by decide +kernel
theorem dX11_element_73 : decode cX11_element 73 = .ok (.dup, 1) := by decide +kernel
theorem dX11_element_74 : decode cX11_element 74 = .ok (.getfield 130, 3) := by decide +kernel
theorem dX11_element_77 : decode cX11_element 77 = .ok (.iconst 1, 1) := by decide +kernel
theorem dX11_element_78 : decode cX11_element 78 = .ok (.iadd, 1) := by decide +kernel
theorem dX11_element_79 : decode cX11_element 79 = .ok (.putfield 130, 3) := by decide +kernel
theorem dX11_element_82 : decode cX11_element 82 = .ok (.goto 24, 3) := by decide +kernel
theorem dX11_element_85 : decode cX11_element 85 = .ok (.iload_n 1, 1) := by decide +kernel
theorem dX11_element_86 : decode cX11_element 86 = .ok (.bipush 91, 2) := by decide +kernel
theorem dX11_element_88 : decode cX11_element 88 = .ok (.if_icmp .ne 10, 3) := by decide +kernel
theorem dX11_element_91 : decode cX11_element 91 = .ok (.aload_n 0, 1) := by decide +kernel
theorem dX11_element_92 : decode cX11_element 92 = .ok (.invokevirtual 150, 3) := by decide +kernel
theorem dX11_element_95 : decode cX11_element 95 = .ok (.goto 11, 3) := by decide +kernel
theorem dX11_element_98 : decode cX11_element 98 = .ok (.aload_n 0, 1) := by decide +kernel
theorem dX11_element_99 : decode cX11_element 99 = .ok (.aload_n 0, 1) := by decide +kernel
theorem dX11_element_100 : decode cX11_element 100 = .ok (.invokevirtual 137, 3) := by decide +kernel
theorem dX11_element_103 : decode cX11_element 103 = .ok (.invokevirtual 126, 3) := by decide +kernel
theorem dX11_element_106 : decode cX11_element 106 = .ok (.aload_n 0, 1) := by decide +kernel
theorem dX11_element_107 : decode cX11_element 107 = .ok (.getfield 113, 3) := by decide +kernel
theorem dX11_element_110 : decode cX11_element 110 = .ok (.ifCond .ne 39, 3) := by decide +kernel
theorem dX11_element_113 : decode cX11_element 113 = .ok (.aload_n 0, 1) := by decide +kernel
theorem dX11_element_114 : decode cX11_element 114 = .ok (.getfield 36, 3) := by decide +kernel
theorem dX11_element_117 : decode cX11_element 117 = .ok (.aload_n 0, 1) := by decide +kernel
theorem dX11_element_118 : decode cX11_element 118 = .ok (.getfield 147, 3) := by decide +kernel
theorem dX11_element_121 : decode cX11_element 121 = .ok (.aload_n 0, 1) := by decide +kernel
theorem dX11_element_122 : decode cX11_element 122 = .ok (.getfield 119, 3) := by decide +kernel
theorem dX11_element_125 : decode cX11_element 125 = .ok (.lastore, 1) := by decide +kernel
theorem dX11_element_126 : decode cX11_element 126 = .ok (.aload_n 0, 1) := by decide +kernel
theorem dX11_element_127 : decode cX11_element 127 = .ok (.getfield 39, 3) := by decide +kernel
theorem dX11_element_130 : decode cX11_element 130 = .ok (.aload_n 0, 1) := by decide +kernel
theorem dX11_element_131 : decode cX11_element 131 = .ok (.getfield 147, 3) := by decide +kernel
theorem dX11_element_134 : decode cX11_element 134 = .ok (.aload_n 0, 1) := by decide +kernel
theorem dX11_element_135 : decode cX11_element 135 = .ok (.getfield 123, 3) := by decide +kernel
theorem dX11_element_138 : decode cX11_element 138 = .ok (.lastore, 1) := by decide +kernel
theorem dX11_element_139 : decode cX11_element 139 = .ok (.aload_n 0, 1) := by decide +kernel
theorem dX11_element_140 : decode cX11_element 140 = .ok (.dup, 1) := by decide +kernel
theorem dX11_element_141 : decode cX11_element 141 = .ok (.getfield 147, 3) := by decide +kernel
theorem dX11_element_144 : decode cX11_element 144 = .ok (.iconst 1, 1) := by decide +kernel
theorem dX11_element_145 : decode cX11_element 145 = .ok (.iadd, 1) := by decide +kernel
theorem dX11_element_146 : decode cX11_element 146 = .ok (.putfield 147, 3) := by decide +kernel
theorem dX11_element_149 : decode cX11_element 149 = .ok (.return_, 1) := by decide +kernel
theorem dX11_pattern_0 : decode cX11_pattern 0 = .ok (.iload_n 1, 1) := by decide +kernel
theorem dX11_pattern_1 : decode cX11_pattern 1 = .ok (.iconst 0, 1) := by decide +kernel
theorem dX11_pattern_2 : decode cX11_pattern 2 = .ok (.bipush 7, 2) := by decide +kernel
theorem dX11_pattern_4 : decode cX11_pattern 4 = .ok (.invokestatic 100, 3) := by decide +kernel
theorem dX11_pattern_7 : decode cX11_pattern 7 = .ok (.ifCond .ne 6, 3) := by decide +kernel
theorem dX11_pattern_10 : decode cX11_pattern 10 = .ok (.bipush (-2), 2) := by decide +kernel
theorem dX11_pattern_12 : decode cX11_pattern 12 = .ok (.ireturn, 1) := by decide +kernel
theorem dX11_pattern_13 : decode cX11_pattern 13 = .ok (.aload_n 0, 1) := by decide +kernel
theorem dX11_pattern_14 : decode cX11_pattern 14 = .ok (.iconst 0, 1) := by decide +kernel
theorem dX11_pattern_15 : decode cX11_pattern 15 = .ok (.putfield 130, 3) := by decide +kernel
theorem dX11_pattern_18 : decode cX11_pattern 18 = .ok (.aload_n 0, 1) := by decide +kernel
theorem dX11_pattern_19 : decode cX11_pattern 19 = .ok (.iconst 0, 1) := by decide +kernel
theorem dX11_pattern_20 : decode cX11_pattern 20 = .ok (.putfield 113, 3) := by decide +kernel
theorem dX11_pattern_23 : decode cX11_pattern 23 = .ok (.aload_n 0, 1) := by decide +kernel
theorem dX11_pattern_24 : decode cX11_pattern 24 = .ok (.iconst 0, 1) := by decide +kernel
theorem dX11_pattern_25 : decode cX11_pattern 25 = .ok (.putfield 147, 3) := by decide +kernel
theorem dX11_pattern_28 : decode cX11_pattern 28 = .ok (.aload_n 0, 1) := by decide +kernel
theorem dX11_pattern_29 : decode cX11_pattern 29 = .ok (.getfield 110, 3) := by decide +kernel
theorem dX11_pattern_32 : decode cX11_pattern 32 = .ok (.ifCond .ne 10, 3) := by decide +kernel
theorem dX11_pattern_35 : decode cX11_pattern 35 = .ok (.aload_n 0, 1) := by decide +kernel
theorem dX11_pattern_36 : decode cX11_pattern 36 = .ok (.iconst 3, 1) := by decide +kernel
theorem dX11_pattern_37 : decode cX11_pattern 37 = .ok (.iconst 0, 1) := by decide +kernel
theorem dX11_pattern_38 : decode cX11_pattern 38 = .ok (.invokevirtual 133, 3) := by decide +kernel
theorem dX11_pattern_41 : decode cX11_pattern 41 = .ok (.istore_n 2, 1) := by decide +kernel
theorem dX11_pattern_42 : decode cX11_pattern 42 = .ok (.aload_n 0, 1) := by decide +kernel
theorem dX11_pattern_43 : decode cX11_pattern 43 = .ok (.getfield 113, 3) := by decide +kernel
theorem dX11_pattern_46 : decode cX11_pattern 46 = .ok (.ifCond .ne 21, 3) := by decide +kernel
theorem dX11_pattern_49 : decode cX11_pattern 49 = .ok (.aload_n 0, 1) := by decide +kernel
theorem dX11_pattern_50 : decode cX11_pattern 50 = .ok (.getfield 130, 3) := by decide +kernel
theorem dX11_pattern_53 : decode cX11_pattern 53 = .ok (.aload_n 0, 1) := by decide +kernel
theorem dX11_pattern_54 : decode cX11_pattern 54 = .ok (.getfield 110, 3) := by decide +kernel
theorem dX11_pattern_57 : decode cX11_pattern 57 = .ok (.if_icmp .ge 10, 3) := by decide +kernel
theorem dX11_pattern_60 : decode cX11_pattern 60 = .ok (.aload_n 0, 1) := by decide +kernel
theorem dX11_pattern_61 : decode cX11_pattern 61 = .ok (.invokevirtual 153, 3) := by decide +kernel
theorem dX11_pattern_64 : decode cX11_pattern 64 = .ok (.goto (-22), 3) := by decide +kernel
theorem dX11_pattern_67 : decode cX11_pattern 67 = .ok (.aload_n 0, 1) := by decide +kernel
theorem dX11_pattern_68 : decode cX11_pattern 68 = .ok (.iconst 0, 1) := by decide +kernel
theorem dX11_pattern_69 : decode cX11_pattern 69 = .ok (.putfield 110, 3) := by decide +kernel
theorem dX11_pattern_72 : decode cX11_pattern 72 = .ok (.aload_n 0, 1) := by decide +kernel
theorem dX11_pattern_73 : decode cX11_pattern 73 = .ok (.getfield 113, 3) := by decide +kernel
theorem dX11_pattern_76 : decode cX11_pattern 76 = .ok (.ifCond .le 19, 3) := by decide +kernel
theorem dX11_pattern_79 : decode cX11_pattern 79 = .ok (.aload_n 0, 1) := by decide +kernel
theorem dX11_pattern_80 : decode cX11_pattern 80 = .ok (.aload_n 0, 1) := by decide +kernel
theorem dX11_pattern_81 : decode cX11_pattern 81 = .ok (.getfield 116, 3) := by decide +kernel
theorem dX11_pattern_84 : decode cX11_pattern 84 = .ok (.putfield 32, 3) := by decide +kernel
theorem dX11_pattern_87 : decode cX11_pattern 87 = .ok (.bipush (-10), 2) := by decide +kernel
theorem dX11_pattern_89 : decode cX11_pattern 89 = .ok (.aload_n 0, 1) := by decide +kernel
theorem dX11_pattern_90 : decode cX11_pattern 90 = .ok (.getfield 113, 3) := by decide +kernel
theorem dX11_pattern_93 : decode cX11_pattern 93 = .ok (.isub, 1) := by decide +kernel
theorem dX11_pattern_94 : decode cX11_pattern 94 = .ok (.ireturn, 1) := by decide +kernel
theorem dX11_pattern_95 : decode cX11_pattern 95 = .ok (.aload_n 0, 1) := by decide +kernel
theorem dX11_pattern_96 : decode cX11_pattern 96 = .ok (.iconst (-1), 1) := by decide +kernel
theorem dX11_pattern_97 : decode cX11_pattern 97 = .ok (.putfield 32, 3) := by decide +kernel
theorem dX11_pattern_100 : decode cX11_pattern 100 = .ok (.iconst 0, 1) := by decide +kernel
theorem dX11_pattern_101 : decode cX11_pattern 101 = .ok (.istore_n 2, 1) := by decide +kernel
theorem dX11_pattern_102 : decode cX11_pattern 102 = .ok (.iload_n 2, 1) := by decide +kernel
theorem dX11_pattern_103 : decode cX11_pattern 103 = .ok (.aload_n 0, 1) := by decide +kernel
theorem dX11_pattern_104 : decode cX11_pattern 104 = .ok (.getfield 147, 3) := by decide +kernel
theorem dX11_pattern_107 : decode cX11_pattern 107 = .ok (.if_icmp .ge 45, 3) := by decide +kernel
theorem dX11_pattern_110 : decode cX11_pattern 110 = .ok (.aload_n 0, 1) := by decide +kernel
theorem dX11_pattern_111 : decode cX11_pattern 111 = .ok (.getfield 22, 3) := by decide +kernel
theorem dX11_pattern_114 : decode cX11_pattern 114 = .ok (.sipush 200, 3) := by decide +kernel
theorem dX11_pattern_117 : decode cX11_pattern 117 = .ok (.iload_n 1, 1) := by decide +kernel
theorem dX11_pattern_118 : decode cX11_pattern 118 = .ok (.imul, 1) := by decide +kernel
theorem dX11_pattern_119 : decode cX11_pattern 119 = .ok (.iload_n 2, 1) := by decide +kernel
theorem dX11_pattern_120 : decode cX11_pattern 120 = .ok (.iadd, 1) := by decide +kernel
theorem dX11_pattern_121 : decode cX11_pattern 121 = .ok (.aload_n 0, 1) := by decide +kernel
theorem dX11_pattern_122 : decode cX11_pattern 122 = .ok (.getfield 36, 3) := by decide +kernel
theorem dX11_pattern_125 : decode cX11_pattern 125 = .ok (.iload_n 2, 1) := by decide +kernel
theorem dX11_pattern_126 : decode cX11_pattern 126 = .ok (.laload, 1) := by decide +kernel
theorem dX11_pattern_127 : decode cX11_pattern 127 = .ok (.lastore, 1) := by decide +kernel
theorem dX11_pattern_128 : decode cX11_pattern 128 = .ok (.aload_n 0, 1) := by decide +kernel
theorem dX11_pattern_129 : decode cX11_pattern 129 = .ok (.getfield 26, 3) := by decide +kernel
theorem dX11_pattern_132 : decode cX11_pattern 132 = .ok (.sipush 200, 3) := by decide +kernel
theorem dX11_pattern_135 : decode cX11_pattern 135 = .ok (.iload_n 1, 1) := by decide +kernel
theorem dX11_pattern_136 : decode cX11_pattern 136 = .ok (.imul, 1) := by decide +kernel
theorem dX11_pattern_137 : decode cX11_pattern 137 = .ok (.iload_n 2, 1) := by decide +kernel
theorem dX11_pattern_138 : decode cX11_pattern 138 = .ok (.iadd, 1) := by decide +kernel
theorem dX11_pattern_139 : decode cX11_pattern 139 = .ok (.aload_n 0, 1) := by decide +kernel
theorem dX11_pattern_140 : decode cX11_pattern 140 = .ok (.getfield 39, 3) := by decide +kernel
theorem dX11_pattern_143 : decode cX11_pattern 143 = .ok (.iload_n 2, 1) := by decide +kernel
theorem dX11_pattern_144 : decode cX11_pattern 144 = .ok (.laload, 1) := by decide +kernel
theorem dX11_pattern_145 : decode cX11_pattern 145 = .ok (.lastore, 1) := by decide +kernel
theorem dX11_pattern_146 : decode cX11_pattern 146 = .ok (.iinc 2 1, 3) := by decide +kernel
theorem dX11_pattern_149 : decode cX11_pattern 149 = .ok (.goto (-47), 3) := by decide +kernel
theorem dX11_pattern_152 : decode cX11_pattern 152 = .ok (.aload_n 0, 1) := by decide +kernel
theorem dX11_pattern_153 : decode cX11_pattern 153 = .ok (.getfield 29, 3) := by decide +kernel
theorem dX11_pattern_156 : decode cX11_pattern 156 = .ok (.iload_n 1, 1) := by decide +kernel
theorem dX11_pattern_157 : decode cX11_pattern 157 = .ok (.aload_n 0, 1) := by decide +kernel
theorem dX11_pattern_158 : decode cX11_pattern 158 = .ok (.getfield 147, 3) := by decide +kernel
theorem dX11_pattern_161 : decode cX11_pattern 161 = .ok (.iastore, 1) := by decide +kernel
theorem dX11_pattern_162 : decode cX11_pattern 162 = .ok (.aload_n 0, 1) := by decide +kernel
theorem dX11_pattern_163 : decode cX11_pattern 163 = .ok (.getfield 147, 3) := by decide +kernel
theorem dX11_pattern_166 : decode cX11_pattern 166 = .ok (.ireturn, 1) := by decide +kernel
theorem dX11_place_0 : decode cX11_place 0 = .ok (.aload_n 0, 1) := by decide +kernel
theorem dX11_place_1 : decode cX11_place 1 = .ok (.getfield 32, 3) := by decide +kernel
theorem dX11_place_4 : decode cX11_place 4 = .ok (.ireturn, 1) := by decide +kernel
theorem dX11_isThere_0 : decode cX11_isThere 0 = .ok (.iload_n 1, 1) := by decide +kernel
theorem dX11_isThere_1 : decode cX11_isThere 1 = .ok (.iconst 0, 1) := by decide +kernel
theorem dX11_isThere_2 : decode cX11_isThere 2 = .ok (.bipush 7, 2) := by decide +kernel
theorem dX11_isThere_4 : decode cX11_isThere 4 = .ok (.invokestatic 100, 3) := by decide +kernel
theorem dX11_isThere_7 : decode cX11_isThere 7 = .ok (.ifCond .eq 16, 3) := by decide +kernel
theorem dX11_isThere_10 : decode cX11_isThere 10 = .ok (.aload_n 0, 1) := by decide +kernel
theorem dX11_isThere_11 : decode cX11_isThere 11 = .ok (.getfield 29, 3) := by decide +kernel
theorem dX11_isThere_14 : decode cX11_isThere 14 = .ok (.iload_n 1, 1) := by decide +kernel
theorem dX11_isThere_15 : decode cX11_isThere 15 = .ok (.iaload, 1) := by decide +kernel
theorem dX11_isThere_16 : decode cX11_isThere 16 = .ok (.ifCond .le 7, 3) := by decide +kernel
theorem dX11_isThere_19 : decode cX11_isThere 19 = .ok (.iconst 1, 1) := by decide +kernel
theorem dX11_isThere_20 : decode cX11_isThere 20 = .ok (.goto 4, 3) := by decide +kernel
theorem dX11_isThere_23 : decode cX11_isThere 23 = .ok (.iconst 0, 1) := by decide +kernel
theorem dX11_isThere_24 : decode cX11_isThere 24 = .ok (.ireturn, 1) := by decide +kernel
theorem dX11_has_0 : decode cX11_has 0 = .ok (.aload_n 0, 1) := by decide +kernel
theorem dX11_has_1 : decode cX11_has 1 = .ok (.iload_n 1, 1) := by decide +kernel
theorem dX11_has_2 : decode cX11_has 2 = .ok (.invokevirtual 156, 3) := by decide +kernel
theorem dX11_has_5 : decode cX11_has 5 = .ok (.ifCond .eq 40, 3) := by decide +kernel
theorem dX11_has_8 : decode cX11_has 8 = .ok (.iload_n 2, 1) := by decide +kernel
theorem dX11_has_9 : decode cX11_has 9 = .ok (.iconst 0, 1) := by decide +kernel
theorem dX11_has_10 : decode cX11_has 10 = .ok (.aload_n 0, 1) := by decide +kernel
theorem dX11_has_11 : decode cX11_has 11 = .ok (.getfield 29, 3) := by decide +kernel
theorem dX11_has_14 : decode cX11_has 14 = .ok (.iload_n 1, 1) := by decide +kernel
theorem dX11_has_15 : decode cX11_has 15 = .ok (.iconst 0, 1) := by decide +kernel
theorem dX11_has_16 : decode cX11_has 16 = .ok (.bipush 7, 2) := by decide +kernel
theorem dX11_has_18 : decode cX11_has 18 = .ok (.invokestatic 100, 3) := by decide +kernel
theorem dX11_has_21 : decode cX11_has 21 = .ok (.ifCond .eq 7, 3) := by decide +kernel
theorem dX11_has_24 : decode cX11_has 24 = .ok (.iload_n 1, 1) := by decide +kernel
theorem dX11_has_25 : decode cX11_has 25 = .ok (.goto 4, 3) := by decide +kernel
theorem dX11_has_28 : decode cX11_has 28 = .ok (.iconst 0, 1) := by decide +kernel
theorem dX11_has_29 : decode cX11_has 29 = .ok (.iaload, 1) := by decide +kernel
theorem dX11_has_30 : decode cX11_has 30 = .ok (.iconst 1, 1) := by decide +kernel
theorem dX11_has_31 : decode cX11_has 31 = .ok (.isub, 1) := by decide +kernel
theorem dX11_has_32 : decode cX11_has 32 = .ok (.invokestatic 100, 3) := by decide +kernel
theorem dX11_has_35 : decode cX11_has 35 = .ok (.ifCond .eq 10, 3) := by decide +kernel
theorem dX11_has_38 : decode cX11_has 38 = .ok (.iload_n 3, 1) := by decide +kernel
theorem dX11_has_39 : decode cX11_has 39 = .ok (.invokestatic 106, 3) := by decide +kernel
theorem dX11_has_42 : decode cX11_has 42 = .ok (.ifCond .ne 6, 3) := by decide +kernel
theorem dX11_has_45 : decode cX11_has 45 = .ok (.bipush (-2), 2) := by decide +kernel
theorem dX11_has_47 : decode cX11_has 47 = .ok (.ireturn, 1) := by decide +kernel
theorem dX11_has_48 : decode cX11_has 48 = .ok (.iload_n 3, 1) := by decide +kernel
theorem dX11_has_49 : decode cX11_has 49 = .ok (.bipush 64, 2) := by decide +kernel
theorem dX11_has_51 : decode cX11_has 51 = .ok (.if_icmp .ge 20, 3) := by decide +kernel
theorem dX11_has_54 : decode cX11_has 54 = .ok (.aload_n 0, 1) := by decide +kernel
theorem dX11_has_55 : decode cX11_has 55 = .ok (.getfield 22, 3) := by decide +kernel
theorem dX11_has_58 : decode cX11_has 58 = .ok (.sipush 200, 3) := by decide +kernel
theorem dX11_has_61 : decode cX11_has 61 = .ok (.iload_n 1, 1) := by decide +kernel
theorem dX11_has_62 : decode cX11_has 62 = .ok (.imul, 1) := by decide +kernel
theorem dX11_has_63 : decode cX11_has 63 = .ok (.iload_n 2, 1) := by decide +kernel
theorem dX11_has_64 : decode cX11_has 64 = .ok (.iadd, 1) := by decide +kernel
theorem dX11_has_65 : decode cX11_has 65 = .ok (.laload, 1) := by decide +kernel
theorem dX11_has_66 : decode cX11_has 66 = .ok (.iload_n 3, 1) := by decide +kernel
theorem dX11_has_67 : decode cX11_has 67 = .ok (.lshr, 1) := by decide +kernel
theorem dX11_has_68 : decode cX11_has 68 = .ok (.goto 20, 3) := by decide +kernel
theorem dX11_has_71 : decode cX11_has 71 = .ok (.aload_n 0, 1) := by decide +kernel
theorem dX11_has_72 : decode cX11_has 72 = .ok (.getfield 26, 3) := by decide +kernel
theorem dX11_has_75 : decode cX11_has 75 = .ok (.sipush 200, 3) := by decide +kernel
theorem dX11_has_78 : decode cX11_has 78 = .ok (.iload_n 1, 1) := by decide +kernel
theorem dX11_has_79 : decode cX11_has 79 = .ok (.imul, 1) := by decide +kernel
theorem dX11_has_80 : decode cX11_has 80 = .ok (.iload_n 2, 1) := by decide +kernel
theorem dX11_has_81 : decode cX11_has 81 = .ok (.iadd, 1) := by decide +kernel
theorem dX11_has_82 : decode cX11_has 82 = .ok (.laload, 1) := by decide +kernel
theorem dX11_has_83 : decode cX11_has 83 = .ok (.iload_n 3, 1) := by decide +kernel
theorem dX11_has_84 : decode cX11_has 84 = .ok (.bipush 64, 2) := by decide +kernel
theorem dX11_has_86 : decode cX11_has 86 = .ok (.isub, 1) := by decide +kernel
theorem dX11_has_87 : decode cX11_has 87 = .ok (.lshr, 1) := by decide +kernel
theorem dX11_has_88 : decode cX11_has 88 = .ok (.lstore 4, 2) := by decide +kernel
theorem dX11_has_90 : decode cX11_has 90 = .ok (.lload 4, 2) := by decide +kernel
theorem dX11_has_92 : decode cX11_has 92 = .ok (.lconst 1, 1) := by decide +kernel
theorem dX11_has_93 : decode cX11_has 93 = .ok (.land, 1) := by decide +kernel
theorem dX11_has_94 : decode cX11_has 94 = .ok (.l2i, 1) := by decide +kernel
theorem dX11_has_95 : decode cX11_has 95 = .ok (.ireturn, 1) := by decide +kernel
theorem dX11_remember_0 : decode cX11_remember 0 = .ok (.aload_n 0, 1) := by decide +kernel
theorem dX11_remember_1 : decode cX11_remember 1 = .ok (.getfield 159, 3) := by decide +kernel
theorem dX11_remember_4 : decode cX11_remember 4 = .ok (.iconst 5, 1) := by decide +kernel
theorem dX11_remember_5 : decode cX11_remember 5 = .ok (.if_icmp .ne 84, 3) := by decide +kernel
theorem dX11_remember_8 : decode cX11_remember 8 = .ok (.iconst 1, 1) := by decide +kernel
theorem dX11_remember_9 : decode cX11_remember 9 = .ok (.istore_n 1, 1) := by decide +kernel
theorem dX11_remember_10 : decode cX11_remember 10 = .ok (.iload_n 1, 1) := by decide +kernel
theorem dX11_remember_11 : decode cX11_remember 11 = .ok (.iconst 5, 1) := by decide +kernel
theorem dX11_remember_12 : decode cX11_remember 12 = .ok (.if_icmp .ge 67, 3) := by decide +kernel
theorem dX11_remember_15 : decode cX11_remember 15 = .ok (.aload_n 0, 1) := by decide +kernel
theorem dX11_remember_16 : decode cX11_remember 16 = .ok (.getfield 19, 3) := by decide +kernel
theorem dX11_remember_19 : decode cX11_remember 19 = .ok (.iload_n 1, 1) := by decide +kernel
theorem dX11_remember_20 : decode cX11_remember 20 = .ok (.iconst 1, 1) := by decide +kernel
theorem dX11_remember_21 : decode cX11_remember 21 = .ok (.isub, 1) := by decide +kernel
theorem dX11_remember_22 : decode cX11_remember 22 = .ok (.aload_n 0, 1) := by decide +kernel
theorem dX11_remember_23 : decode cX11_remember 23 = .ok (.getfield 19, 3) := by decide +kernel
theorem dX11_remember_26 : decode cX11_remember 26 = .ok (.iload_n 1, 1) := by decide +kernel
theorem dX11_remember_27 : decode cX11_remember 27 = .ok (.iaload, 1) := by decide +kernel
theorem dX11_remember_28 : decode cX11_remember 28 = .ok (.iastore, 1) := by decide +kernel
theorem dX11_remember_29 : decode cX11_remember 29 = .ok (.iconst 0, 1) := by decide +kernel
theorem dX11_remember_30 : decode cX11_remember 30 = .ok (.istore_n 2, 1) := by decide +kernel
theorem dX11_remember_31 : decode cX11_remember 31 = .ok (.iload_n 2, 1) := by decide +kernel
theorem dX11_remember_32 : decode cX11_remember 32 = .ok (.aload_n 0, 1) := by decide +kernel
theorem dX11_remember_33 : decode cX11_remember 33 = .ok (.getfield 19, 3) := by decide +kernel
theorem dX11_remember_36 : decode cX11_remember 36 = .ok (.iload_n 1, 1) := by decide +kernel
theorem dX11_remember_37 : decode cX11_remember 37 = .ok (.iaload, 1) := by decide +kernel
theorem dX11_remember_38 : decode cX11_remember 38 = .ok (.if_icmp .ge 35, 3) := by decide +kernel
theorem dX11_remember_41 : decode cX11_remember 41 = .ok (.aload_n 0, 1) := by decide +kernel
theorem dX11_remember_42 : decode cX11_remember 42 = .ok (.getfield 16, 3) := by decide +kernel
theorem dX11_remember_45 : decode cX11_remember 45 = .ok (.sipush 1500, 3) := by decide +kernel
theorem dX11_remember_48 : decode cX11_remember 48 = .ok (.iload_n 1, 1) := by decide +kernel
theorem dX11_remember_49 : decode cX11_remember 49 = .ok (.iconst 1, 1) := by decide +kernel
theorem dX11_remember_50 : decode cX11_remember 50 = .ok (.isub, 1) := by decide +kernel
theorem dX11_remember_51 : decode cX11_remember 51 = .ok (.imul, 1) := by decide +kernel
theorem dX11_remember_52 : decode cX11_remember 52 = .ok (.iload_n 2, 1) := by decide +kernel
theorem dX11_remember_53 : decode cX11_remember 53 = .ok (.iadd, 1) := by decide +kernel
theorem dX11_remember_54 : decode cX11_remember 54 = .ok (.aload_n 0, 1) := by decide +kernel
theorem dX11_remember_55 : decode cX11_remember 55 = .ok (.getfield 16, 3) := by decide +kernel
theorem dX11_remember_58 : decode cX11_remember 58 = .ok (.sipush 1500, 3) := by decide +kernel
theorem dX11_remember_61 : decode cX11_remember 61 = .ok (.iload_n 1, 1) := by decide +kernel
theorem dX11_remember_62 : decode cX11_remember 62 = .ok (.imul, 1) := by decide +kernel
theorem dX11_remember_63 : decode cX11_remember 63 = .ok (.iload_n 2, 1) := by decide +kernel
theorem dX11_remember_64 : decode cX11_remember 64 = .ok (.iadd, 1) := by decide +kernel
theorem dX11_remember_65 : decode cX11_remember 65 = .ok (.iaload, 1) := by decide +kernel
theorem dX11_remember_66 : decode cX11_remember 66 = .ok (.iastore, 1) := by decide +kernel
theorem dX11_remember_67 : decode cX11_remember 67 = .ok (.iinc 2 1, 3) := by decide +kernel
theorem dX11_remember_70 : decode cX11_remember 70 = .ok (.goto (-39), 3) := by decide +kernel
theorem dX11_remember_73 : decode cX11_remember 73 = .ok (.iinc 1 1, 3) := by decide +kernel
theorem dX11_remember_76 : decode cX11_remember 76 = .ok (.goto (-66), 3) := by decide +kernel
theorem dX11_remember_79 : decode cX11_remember 79 = .ok (.aload_n 0, 1) := by decide +kernel
theorem dX11_remember_80 : decode cX11_remember 80 = .ok (.dup, 1) := by decide +kernel
theorem dX11_remember_81 : decode cX11_remember 81 = .ok (.getfield 159, 3) := by decide +kernel
theorem dX11_remember_84 : decode cX11_remember 84 = .ok (.iconst 1, 1) := by decide +kernel
theorem dX11_remember_85 : decode cX11_remember 85 = .ok (.isub, 1) := by decide +kernel
theorem dX11_remember_86 : decode cX11_remember 86 = .ok (.putfield 159, 3) := by decide +kernel
theorem dX11_remember_89 : decode cX11_remember 89 = .ok (.iconst 0, 1) := by decide +kernel
theorem dX11_remember_90 : decode cX11_remember 90 = .ok (.istore_n 1, 1) := by decide +kernel
theorem dX11_remember_91 : decode cX11_remember 91 = .ok (.iload_n 1, 1) := by decide +kernel
theorem dX11_remember_92 : decode cX11_remember 92 = .ok (.aload_n 0, 1) := by decide +kernel
theorem dX11_remember_93 : decode cX11_remember 93 = .ok (.getfield 162, 3) := by decide +kernel
theorem dX11_remember_96 : decode cX11_remember 96 = .ok (.if_icmp .ge 30, 3) := by decide +kernel
theorem dX11_remember_99 : decode cX11_remember 99 = .ok (.aload_n 0, 1) := by decide +kernel
theorem dX11_remember_100 : decode cX11_remember 100 = .ok (.getfield 16, 3) := by decide +kernel
theorem dX11_remember_103 : decode cX11_remember 103 = .ok (.sipush 1500, 3) := by decide +kernel
theorem dX11_remember_106 : decode cX11_remember 106 = .ok (.aload_n 0, 1) := by decide +kernel
theorem dX11_remember_107 : decode cX11_remember 107 = .ok (.getfield 159, 3) := by decide +kernel
theorem dX11_remember_110 : decode cX11_remember 110 = .ok (.imul, 1) := by decide +kernel
theorem dX11_remember_111 : decode cX11_remember 111 = .ok (.iload_n 1, 1) := by decide +kernel
theorem dX11_remember_112 : decode cX11_remember 112 = .ok (.iadd, 1) := by decide +kernel
theorem dX11_remember_113 : decode cX11_remember 113 = .ok (.aload_n 0, 1) := by decide +kernel
theorem dX11_remember_114 : decode cX11_remember 114 = .ok (.getfield 13, 3) := by decide +kernel
theorem dX11_remember_117 : decode cX11_remember 117 = .ok (.iload_n 1, 1) := by decide +kernel
theorem dX11_remember_118 : decode cX11_remember 118 = .ok (.iaload, 1) := by decide +kernel
theorem dX11_remember_119 : decode cX11_remember 119 = .ok (.iastore, 1) := by decide +kernel
theorem dX11_remember_120 : decode cX11_remember 120 = .ok (.iinc 1 1, 3) := by decide +kernel
theorem dX11_remember_123 : decode cX11_remember 123 = .ok (.goto (-32), 3) := by decide +kernel
theorem dX11_remember_126 : decode cX11_remember 126 = .ok (.aload_n 0, 1) := by decide +kernel
theorem dX11_remember_127 : decode cX11_remember 127 = .ok (.getfield 19, 3) := by decide +kernel
theorem dX11_remember_130 : decode cX11_remember 130 = .ok (.aload_n 0, 1) := by decide +kernel
theorem dX11_remember_131 : decode cX11_remember 131 = .ok (.getfield 159, 3) := by decide +kernel
theorem dX11_remember_134 : decode cX11_remember 134 = .ok (.aload_n 0, 1) := by decide +kernel
theorem dX11_remember_135 : decode cX11_remember 135 = .ok (.getfield 162, 3) := by decide +kernel
theorem dX11_remember_138 : decode cX11_remember 138 = .ok (.iastore, 1) := by decide +kernel
theorem dX11_remember_139 : decode cX11_remember 139 = .ok (.aload_n 0, 1) := by decide +kernel
theorem dX11_remember_140 : decode cX11_remember 140 = .ok (.dup, 1) := by decide +kernel
theorem dX11_remember_141 : decode cX11_remember 141 = .ok (.getfield 159, 3) := by decide +kernel
theorem dX11_remember_144 : decode cX11_remember 144 = .ok (.iconst 1, 1) := by decide +kernel
