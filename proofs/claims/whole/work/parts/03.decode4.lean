theorem dX11_remember_145 : decode cX11_remember 145 = .ok (.iadd, 1) := by decide +kernel
theorem dX11_remember_146 : decode cX11_remember 146 = .ok (.putfield 159, 3) := by decide +kernel
theorem dX11_remember_149 : decode cX11_remember 149 = .ok (.return_, 1) := by decide +kernel
theorem dX11_insert_0 : decode cX11_insert 0 = .ok (.iload_n 1, 1) := by decide +kernel
theorem dX11_insert_1 : decode cX11_insert 1 = .ok (.iconst 0, 1) := by decide +kernel
theorem dX11_insert_2 : decode cX11_insert 2 = .ok (.aload_n 0, 1) := by decide +kernel
theorem dX11_insert_3 : decode cX11_insert 3 = .ok (.getfield 162, 3) := by decide +kernel
theorem dX11_insert_6 : decode cX11_insert 6 = .ok (.invokestatic 100, 3) := by decide +kernel
theorem dX11_insert_9 : decode cX11_insert 9 = .ok (.ifCond .ne 6, 3) := by decide +kernel
theorem dX11_insert_12 : decode cX11_insert 12 = .ok (.bipush (-2), 2) := by decide +kernel
theorem dX11_insert_14 : decode cX11_insert 14 = .ok (.ireturn, 1) := by decide +kernel
theorem dX11_insert_15 : decode cX11_insert 15 = .ok (.aload_n 0, 1) := by decide +kernel
theorem dX11_insert_16 : decode cX11_insert 16 = .ok (.getfield 162, 3) := by decide +kernel
theorem dX11_insert_19 : decode cX11_insert 19 = .ok (.aload_n 0, 1) := by decide +kernel
theorem dX11_insert_20 : decode cX11_insert 20 = .ok (.getfield 110, 3) := by decide +kernel
theorem dX11_insert_23 : decode cX11_insert 23 = .ok (.iadd, 1) := by decide +kernel
theorem dX11_insert_24 : decode cX11_insert 24 = .ok (.sipush 1500, 3) := by decide +kernel
theorem dX11_insert_27 : decode cX11_insert 27 = .ok (.if_icmp .le 6, 3) := by decide +kernel
theorem dX11_insert_30 : decode cX11_insert 30 = .ok (.bipush (-3), 2) := by decide +kernel
theorem dX11_insert_32 : decode cX11_insert 32 = .ok (.ireturn, 1) := by decide +kernel
theorem dX11_insert_33 : decode cX11_insert 33 = .ok (.aload_n 0, 1) := by decide +kernel
theorem dX11_insert_34 : decode cX11_insert 34 = .ok (.invokevirtual 165, 3) := by decide +kernel
theorem dX11_insert_37 : decode cX11_insert 37 = .ok (.aload_n 0, 1) := by decide +kernel
theorem dX11_insert_38 : decode cX11_insert 38 = .ok (.getfield 162, 3) := by decide +kernel
theorem dX11_insert_41 : decode cX11_insert 41 = .ok (.iconst 1, 1) := by decide +kernel
theorem dX11_insert_42 : decode cX11_insert 42 = .ok (.isub, 1) := by decide +kernel
theorem dX11_insert_43 : decode cX11_insert 43 = .ok (.istore_n 2, 1) := by decide +kernel
theorem dX11_insert_44 : decode cX11_insert 44 = .ok (.iload_n 2, 1) := by decide +kernel
theorem dX11_insert_45 : decode cX11_insert 45 = .ok (.iload_n 1, 1) := by decide +kernel
theorem dX11_insert_46 : decode cX11_insert 46 = .ok (.if_icmp .lt 26, 3) := by decide +kernel
theorem dX11_insert_49 : decode cX11_insert 49 = .ok (.aload_n 0, 1) := by decide +kernel
theorem dX11_insert_50 : decode cX11_insert 50 = .ok (.getfield 13, 3) := by decide +kernel
theorem dX11_insert_53 : decode cX11_insert 53 = .ok (.iload_n 2, 1) := by decide +kernel
theorem dX11_insert_54 : decode cX11_insert 54 = .ok (.aload_n 0, 1) := by decide +kernel
theorem dX11_insert_55 : decode cX11_insert 55 = .ok (.getfield 110, 3) := by decide +kernel
theorem dX11_insert_58 : decode cX11_insert 58 = .ok (.iadd, 1) := by decide +kernel
theorem dX11_insert_59 : decode cX11_insert 59 = .ok (.aload_n 0, 1) := by decide +kernel
theorem dX11_insert_60 : decode cX11_insert 60 = .ok (.getfield 13, 3) := by decide +kernel
theorem dX11_insert_63 : decode cX11_insert 63 = .ok (.iload_n 2, 1) := by decide +kernel
theorem dX11_insert_64 : decode cX11_insert 64 = .ok (.iaload, 1) := by decide +kernel
theorem dX11_insert_65 : decode cX11_insert 65 = .ok (.iastore, 1) := by decide +kernel
theorem dX11_insert_66 : decode cX11_insert 66 = .ok (.iinc 2 (-1), 3) := by decide +kernel
theorem dX11_insert_69 : decode cX11_insert 69 = .ok (.goto (-25), 3) := by decide +kernel
theorem dX11_insert_72 : decode cX11_insert 72 = .ok (.iconst 0, 1) := by decide +kernel
theorem dX11_insert_73 : decode cX11_insert 73 = .ok (.istore_n 2, 1) := by decide +kernel
theorem dX11_insert_74 : decode cX11_insert 74 = .ok (.iload_n 2, 1) := by decide +kernel
theorem dX11_insert_75 : decode cX11_insert 75 = .ok (.aload_n 0, 1) := by decide +kernel
theorem dX11_insert_76 : decode cX11_insert 76 = .ok (.getfield 110, 3) := by decide +kernel
theorem dX11_insert_79 : decode cX11_insert 79 = .ok (.if_icmp .ge 23, 3) := by decide +kernel
theorem dX11_insert_82 : decode cX11_insert 82 = .ok (.aload_n 0, 1) := by decide +kernel
theorem dX11_insert_83 : decode cX11_insert 83 = .ok (.getfield 13, 3) := by decide +kernel
theorem dX11_insert_86 : decode cX11_insert 86 = .ok (.iload_n 1, 1) := by decide +kernel
theorem dX11_insert_87 : decode cX11_insert 87 = .ok (.iload_n 2, 1) := by decide +kernel
theorem dX11_insert_88 : decode cX11_insert 88 = .ok (.iadd, 1) := by decide +kernel
theorem dX11_insert_89 : decode cX11_insert 89 = .ok (.aload_n 0, 1) := by decide +kernel
theorem dX11_insert_90 : decode cX11_insert 90 = .ok (.getfield 7, 3) := by decide +kernel
theorem dX11_insert_93 : decode cX11_insert 93 = .ok (.iload_n 2, 1) := by decide +kernel
theorem dX11_insert_94 : decode cX11_insert 94 = .ok (.iaload, 1) := by decide +kernel
theorem dX11_insert_95 : decode cX11_insert 95 = .ok (.iastore, 1) := by decide +kernel
theorem dX11_insert_96 : decode cX11_insert 96 = .ok (.iinc 2 1, 3) := by decide +kernel
theorem dX11_insert_99 : decode cX11_insert 99 = .ok (.goto (-25), 3) := by decide +kernel
theorem dX11_insert_102 : decode cX11_insert 102 = .ok (.aload_n 0, 1) := by decide +kernel
theorem dX11_insert_103 : decode cX11_insert 103 = .ok (.dup, 1) := by decide +kernel
theorem dX11_insert_104 : decode cX11_insert 104 = .ok (.getfield 162, 3) := by decide +kernel
theorem dX11_insert_107 : decode cX11_insert 107 = .ok (.aload_n 0, 1) := by decide +kernel
theorem dX11_insert_108 : decode cX11_insert 108 = .ok (.getfield 110, 3) := by decide +kernel
theorem dX11_insert_111 : decode cX11_insert 111 = .ok (.iadd, 1) := by decide +kernel
theorem dX11_insert_112 : decode cX11_insert 112 = .ok (.putfield 162, 3) := by decide +kernel
theorem dX11_insert_115 : decode cX11_insert 115 = .ok (.aload_n 0, 1) := by decide +kernel
theorem dX11_insert_116 : decode cX11_insert 116 = .ok (.iconst 0, 1) := by decide +kernel
theorem dX11_insert_117 : decode cX11_insert 117 = .ok (.putfield 110, 3) := by decide +kernel
theorem dX11_insert_120 : decode cX11_insert 120 = .ok (.aload_n 0, 1) := by decide +kernel
theorem dX11_insert_121 : decode cX11_insert 121 = .ok (.getfield 162, 3) := by decide +kernel
theorem dX11_insert_124 : decode cX11_insert 124 = .ok (.ireturn, 1) := by decide +kernel
theorem dX11_isPart_0 : decode cX11_isPart 0 = .ok (.iload_n 1, 1) := by decide +kernel
theorem dX11_isPart_1 : decode cX11_isPart 1 = .ok (.ifCond .lt 20, 3) := by decide +kernel
theorem dX11_isPart_4 : decode cX11_isPart 4 = .ok (.iload_n 1, 1) := by decide +kernel
theorem dX11_isPart_5 : decode cX11_isPart 5 = .ok (.iload_n 2, 1) := by decide +kernel
theorem dX11_isPart_6 : decode cX11_isPart 6 = .ok (.if_icmp .gt 15, 3) := by decide +kernel
theorem dX11_isPart_9 : decode cX11_isPart 9 = .ok (.iload_n 2, 1) := by decide +kernel
theorem dX11_isPart_10 : decode cX11_isPart 10 = .ok (.aload_n 0, 1) := by decide +kernel
theorem dX11_isPart_11 : decode cX11_isPart 11 = .ok (.getfield 162, 3) := by decide +kernel
theorem dX11_isPart_14 : decode cX11_isPart 14 = .ok (.if_icmp .gt 7, 3) := by decide +kernel
theorem dX11_isPart_17 : decode cX11_isPart 17 = .ok (.iconst 1, 1) := by decide +kernel
theorem dX11_isPart_18 : decode cX11_isPart 18 = .ok (.goto 4, 3) := by decide +kernel
theorem dX11_isPart_21 : decode cX11_isPart 21 = .ok (.iconst 0, 1) := by decide +kernel
theorem dX11_isPart_22 : decode cX11_isPart 22 = .ok (.ireturn, 1) := by decide +kernel
theorem dX11_cut_0 : decode cX11_cut 0 = .ok (.aload_n 0, 1) := by decide +kernel
theorem dX11_cut_1 : decode cX11_cut 1 = .ok (.iload_n 1, 1) := by decide +kernel
theorem dX11_cut_2 : decode cX11_cut 2 = .ok (.iload_n 2, 1) := by decide +kernel
theorem dX11_cut_3 : decode cX11_cut 3 = .ok (.invokevirtual 168, 3) := by decide +kernel
theorem dX11_cut_6 : decode cX11_cut 6 = .ok (.ifCond .ne 6, 3) := by decide +kernel
theorem dX11_cut_9 : decode cX11_cut 9 = .ok (.bipush (-2), 2) := by decide +kernel
theorem dX11_cut_11 : decode cX11_cut 11 = .ok (.ireturn, 1) := by decide +kernel
theorem dX11_cut_12 : decode cX11_cut 12 = .ok (.aload_n 0, 1) := by decide +kernel
theorem dX11_cut_13 : decode cX11_cut 13 = .ok (.invokevirtual 165, 3) := by decide +kernel
theorem dX11_cut_16 : decode cX11_cut 16 = .ok (.iload_n 2, 1) := by decide +kernel
theorem dX11_cut_17 : decode cX11_cut 17 = .ok (.istore_n 3, 1) := by decide +kernel
theorem dX11_cut_18 : decode cX11_cut 18 = .ok (.iload_n 3, 1) := by decide +kernel
theorem dX11_cut_19 : decode cX11_cut 19 = .ok (.aload_n 0, 1) := by decide +kernel
theorem dX11_cut_20 : decode cX11_cut 20 = .ok (.getfield 162, 3) := by decide +kernel
theorem dX11_cut_23 : decode cX11_cut 23 = .ok (.if_icmp .ge 25, 3) := by decide +kernel
theorem dX11_cut_26 : decode cX11_cut 26 = .ok (.aload_n 0, 1) := by decide +kernel
theorem dX11_cut_27 : decode cX11_cut 27 = .ok (.getfield 13, 3) := by decide +kernel
theorem dX11_cut_30 : decode cX11_cut 30 = .ok (.iload_n 3, 1) := by decide +kernel
theorem dX11_cut_31 : decode cX11_cut 31 = .ok (.iload_n 2, 1) := by decide +kernel
theorem dX11_cut_32 : decode cX11_cut 32 = .ok (.isub, 1) := by decide +kernel
theorem dX11_cut_33 : decode cX11_cut 33 = .ok (.iload_n 1, 1) := by decide +kernel
theorem dX11_cut_34 : decode cX11_cut 34 = .ok (.iadd, 1) := by decide +kernel
theorem dX11_cut_35 : decode cX11_cut 35 = .ok (.aload_n 0, 1) := by decide +kernel
theorem dX11_cut_36 : decode cX11_cut 36 = .ok (.getfield 13, 3) := by decide +kernel
theorem dX11_cut_39 : decode cX11_cut 39 = .ok (.iload_n 3, 1) := by decide +kernel
theorem dX11_cut_40 : decode cX11_cut 40 = .ok (.iaload, 1) := by decide +kernel
theorem dX11_cut_41 : decode cX11_cut 41 = .ok (.iastore, 1) := by decide +kernel
theorem dX11_cut_42 : decode cX11_cut 42 = .ok (.iinc 3 1, 3) := by decide +kernel
theorem dX11_cut_45 : decode cX11_cut 45 = .ok (.goto (-27), 3) := by decide +kernel
theorem dX11_cut_48 : decode cX11_cut 48 = .ok (.aload_n 0, 1) := by decide +kernel
theorem dX11_cut_49 : decode cX11_cut 49 = .ok (.dup, 1) := by decide +kernel
theorem dX11_cut_50 : decode cX11_cut 50 = .ok (.getfield 162, 3) := by decide +kernel
theorem dX11_cut_53 : decode cX11_cut 53 = .ok (.iload_n 2, 1) := by decide +kernel
theorem dX11_cut_54 : decode cX11_cut 54 = .ok (.iload_n 1, 1) := by decide +kernel
theorem dX11_cut_55 : decode cX11_cut 55 = .ok (.isub, 1) := by decide +kernel
theorem dX11_cut_56 : decode cX11_cut 56 = .ok (.isub, 1) := by decide +kernel
theorem dX11_cut_57 : decode cX11_cut 57 = .ok (.putfield 162, 3) := by decide +kernel
theorem dX11_cut_60 : decode cX11_cut 60 = .ok (.aload_n 0, 1) := by decide +kernel
theorem dX11_cut_61 : decode cX11_cut 61 = .ok (.getfield 162, 3) := by decide +kernel
theorem dX11_cut_64 : decode cX11_cut 64 = .ok (.ireturn, 1) := by decide +kernel
theorem dX11_undo_0 : decode cX11_undo 0 = .ok (.aload_n 0, 1) := by decide +kernel
theorem dX11_undo_1 : decode cX11_undo 1 = .ok (.getfield 159, 3) := by decide +kernel
theorem dX11_undo_4 : decode cX11_undo 4 = .ok (.ifCond .ne 5, 3) := by decide +kernel
theorem dX11_undo_7 : decode cX11_undo 7 = .ok (.iconst (-1), 1) := by decide +kernel
theorem dX11_undo_8 : decode cX11_undo 8 = .ok (.ireturn, 1) := by decide +kernel
theorem dX11_undo_9 : decode cX11_undo 9 = .ok (.aload_n 0, 1) := by decide +kernel
theorem dX11_undo_10 : decode cX11_undo 10 = .ok (.dup, 1) := by decide +kernel
theorem dX11_undo_11 : decode cX11_undo 11 = .ok (.getfield 159, 3) := by decide +kernel
theorem dX11_undo_14 : decode cX11_undo 14 = .ok (.iconst 1, 1) := by decide +kernel
theorem dX11_undo_15 : decode cX11_undo 15 = .ok (.isub, 1) := by decide +kernel
theorem dX11_undo_16 : decode cX11_undo 16 = .ok (.putfield 159, 3) := by decide +kernel
theorem dX11_undo_19 : decode cX11_undo 19 = .ok (.aload_n 0, 1) := by decide +kernel
theorem dX11_undo_20 : decode cX11_undo 20 = .ok (.aload_n 0, 1) := by decide +kernel
theorem dX11_undo_21 : decode cX11_undo 21 = .ok (.getfield 19, 3) := by decide +kernel
theorem dX11_undo_24 : decode cX11_undo 24 = .ok (.aload_n 0, 1) := by decide +kernel
theorem dX11_undo_25 : decode cX11_undo 25 = .ok (.getfield 159, 3) := by decide +kernel
theorem dX11_undo_28 : decode cX11_undo 28 = .ok (.iaload, 1) := by decide +kernel
theorem dX11_undo_29 : decode cX11_undo 29 = .ok (.putfield 162, 3) := by decide +kernel
theorem dX11_undo_32 : decode cX11_undo 32 = .ok (.iconst 0, 1) := by decide +kernel
theorem dX11_undo_33 : decode cX11_undo 33 = .ok (.istore_n 1, 1) := by decide +kernel
theorem dX11_undo_34 : decode cX11_undo 34 = .ok (.iload_n 1, 1) := by decide +kernel
theorem dX11_undo_35 : decode cX11_undo 35 = .ok (.aload_n 0, 1) := by decide +kernel
theorem dX11_undo_36 : decode cX11_undo 36 = .ok (.getfield 162, 3) := by decide +kernel
theorem dX11_undo_39 : decode cX11_undo 39 = .ok (.if_icmp .ge 30, 3) := by decide +kernel
theorem dX11_undo_42 : decode cX11_undo 42 = .ok (.aload_n 0, 1) := by decide +kernel
theorem dX11_undo_43 : decode cX11_undo 43 = .ok (.getfield 13, 3) := by decide +kernel
theorem dX11_undo_46 : decode cX11_undo 46 = .ok (.iload_n 1, 1) := by decide +kernel
theorem dX11_undo_47 : decode cX11_undo 47 = .ok (.aload_n 0, 1) := by decide +kernel
theorem dX11_undo_48 : decode cX11_undo 48 = .ok (.getfield 16, 3) := by decide +kernel
theorem dX11_undo_51 : decode cX11_undo 51 = .ok (.sipush 1500, 3) := by decide +kernel
theorem dX11_undo_54 : decode cX11_undo 54 = .ok (.aload_n 0, 1) := by decide +kernel
theorem dX11_undo_55 : decode cX11_undo 55 = .ok (.getfield 159, 3) := by decide +kernel
theorem dX11_undo_58 : decode cX11_undo 58 = .ok (.imul, 1) := by decide +kernel
theorem dX11_undo_59 : decode cX11_undo 59 = .ok (.iload_n 1, 1) := by decide +kernel
theorem dX11_undo_60 : decode cX11_undo 60 = .ok (.iadd, 1) := by decide +kernel
theorem dX11_undo_61 : decode cX11_undo 61 = .ok (.iaload, 1) := by decide +kernel
theorem dX11_undo_62 : decode cX11_undo 62 = .ok (.iastore, 1) := by decide +kernel
theorem dX11_undo_63 : decode cX11_undo 63 = .ok (.iinc 1 1, 3) := by decide +kernel
theorem dX11_undo_66 : decode cX11_undo 66 = .ok (.goto (-32), 3) := by decide +kernel
theorem dX11_undo_69 : decode cX11_undo 69 = .ok (.aload_n 0, 1) := by decide +kernel
theorem dX11_undo_70 : decode cX11_undo 70 = .ok (.getfield 162, 3) := by decide +kernel
theorem dX11_undo_73 : decode cX11_undo 73 = .ok (.ireturn, 1) := by decide +kernel
theorem dX11_byteAt_0 : decode cX11_byteAt 0 = .ok (.iload_n 1, 1) := by decide +kernel
theorem dX11_byteAt_1 : decode cX11_byteAt 1 = .ok (.iconst 0, 1) := by decide +kernel
theorem dX11_byteAt_2 : decode cX11_byteAt 2 = .ok (.aload_n 0, 1) := by decide +kernel
theorem dX11_byteAt_3 : decode cX11_byteAt 3 = .ok (.getfield 162, 3) := by decide +kernel
theorem dX11_byteAt_6 : decode cX11_byteAt 6 = .ok (.iconst 1, 1) := by decide +kernel
theorem dX11_byteAt_7 : decode cX11_byteAt 7 = .ok (.isub, 1) := by decide +kernel
theorem dX11_byteAt_8 : decode cX11_byteAt 8 = .ok (.invokestatic 100, 3) := by decide +kernel
theorem dX11_byteAt_11 : decode cX11_byteAt 11 = .ok (.ifCond .eq 12, 3) := by decide +kernel
theorem dX11_byteAt_14 : decode cX11_byteAt 14 = .ok (.aload_n 0, 1) := by decide +kernel
theorem dX11_byteAt_15 : decode cX11_byteAt 15 = .ok (.getfield 13, 3) := by decide +kernel
theorem dX11_byteAt_18 : decode cX11_byteAt 18 = .ok (.iload_n 1, 1) := by decide +kernel
theorem dX11_byteAt_19 : decode cX11_byteAt 19 = .ok (.iaload, 1) := by decide +kernel
theorem dX11_byteAt_20 : decode cX11_byteAt 20 = .ok (.goto 4, 3) := by decide +kernel
theorem dX11_byteAt_23 : decode cX11_byteAt 23 = .ok (.iconst (-1), 1) := by decide +kernel
theorem dX11_byteAt_24 : decode cX11_byteAt 24 = .ok (.ireturn, 1) := by decide +kernel
theorem dX11_length_0 : decode cX11_length 0 = .ok (.aload_n 0, 1) := by decide +kernel
theorem dX11_length_1 : decode cX11_length 1 = .ok (.getfield 162, 3) := by decide +kernel
theorem dX11_length_4 : decode cX11_length 4 = .ok (.ireturn, 1) := by decide +kernel
theorem dX11_loadPattern_0 : decode cX11_loadPattern 0 = .ok (.aload_n 0, 1) := by decide +kernel
theorem dX11_loadPattern_1 : decode cX11_loadPattern 1 = .ok (.aload_n 0, 1) := by decide +kernel
theorem dX11_loadPattern_2 : decode cX11_loadPattern 2 = .ok (.getfield 29, 3) := by decide +kernel
theorem dX11_loadPattern_5 : decode cX11_loadPattern 5 = .ok (.iload_n 1, 1) := by decide +kernel
theorem dX11_loadPattern_6 : decode cX11_loadPattern 6 = .ok (.iaload, 1) := by decide +kernel
theorem dX11_loadPattern_7 : decode cX11_loadPattern 7 = .ok (.putfield 172, 3) := by decide +kernel
theorem dX11_loadPattern_10 : decode cX11_loadPattern 10 = .ok (.iconst 0, 1) := by decide +kernel
theorem dX11_loadPattern_11 : decode cX11_loadPattern 11 = .ok (.istore_n 2, 1) := by decide +kernel
theorem dX11_loadPattern_12 : decode cX11_loadPattern 12 = .ok (.iload_n 2, 1) := by decide +kernel
theorem dX11_loadPattern_13 : decode cX11_loadPattern 13 = .ok (.aload_n 0, 1) := by decide +kernel
theorem dX11_loadPattern_14 : decode cX11_loadPattern 14 = .ok (.getfield 172, 3) := by decide +kernel
theorem dX11_loadPattern_17 : decode cX11_loadPattern 17 = .ok (.if_icmp .ge 45, 3) := by decide +kernel
theorem dX11_loadPattern_20 : decode cX11_loadPattern 20 = .ok (.aload_n 0, 1) := by decide +kernel
theorem dX11_loadPattern_21 : decode cX11_loadPattern 21 = .ok (.getfield 42, 3) := by decide +kernel
theorem dX11_loadPattern_24 : decode cX11_loadPattern 24 = .ok (.iload_n 2, 1) := by decide +kernel
theorem dX11_loadPattern_25 : decode cX11_loadPattern 25 = .ok (.aload_n 0, 1) := by decide +kernel
theorem dX11_loadPattern_26 : decode cX11_loadPattern 26 = .ok (.getfield 22, 3) := by decide +kernel
theorem dX11_loadPattern_29 : decode cX11_loadPattern 29 = .ok (.sipush 200, 3) := by decide +kernel
theorem dX11_loadPattern_32 : decode cX11_loadPattern 32 = .ok (.iload_n 1, 1) := by decide +kernel
theorem dX11_loadPattern_33 : decode cX11_loadPattern 33 = .ok (.imul, 1) := by decide +kernel
theorem dX11_loadPattern_34 : decode cX11_loadPattern 34 = .ok (.iload_n 2, 1) := by decide +kernel
theorem dX11_loadPattern_35 : decode cX11_loadPattern 35 = .ok (.iadd, 1) := by decide +kernel
theorem dX11_loadPattern_36 : decode cX11_loadPattern 36 = .ok (.laload, 1) := by decide +kernel
theorem dX11_loadPattern_37 : decode cX11_loadPattern 37 = .ok (.lastore, 1) := by decide +kernel
theorem dX11_loadPattern_38 : decode cX11_loadPattern 38 = .ok (.aload_n 0, 1) := by decide +kernel
theorem dX11_loadPattern_39 : decode cX11_loadPattern 39 = .ok (.getfield 45, 3) := by decide +kernel
theorem dX11_loadPattern_42 : decode cX11_loadPattern 42 = .ok (.iload_n 2, 1) := by decide +kernel
theorem dX11_loadPattern_43 : decode cX11_loadPattern 43 = .ok (.aload_n 0, 1) := by decide +kernel
theorem dX11_loadPattern_44 : decode cX11_loadPattern 44 = .ok (.getfield 26, 3) := by decide +kernel
theorem dX11_loadPattern_47 : decode cX11_loadPattern 47 = .ok (.sipush 200, 3) := by decide +kernel
theorem dX11_loadPattern_50 : decode cX11_loadPattern 50 = .ok (.iload_n 1, 1) := by decide +kernel
theorem dX11_loadPattern_51 : decode cX11_loadPattern 51 = .ok (.imul, 1) := by decide +kernel
theorem dX11_loadPattern_52 : decode cX11_loadPattern 52 = .ok (.iload_n 2, 1) := by decide +kernel
theorem dX11_loadPattern_53 : decode cX11_loadPattern 53 = .ok (.iadd, 1) := by decide +kernel
theorem dX11_loadPattern_54 : decode cX11_loadPattern 54 = .ok (.laload, 1) := by decide +kernel
theorem dX11_loadPattern_55 : decode cX11_loadPattern 55 = .ok (.lastore, 1) := by decide +kernel
theorem dX11_loadPattern_56 : decode cX11_loadPattern 56 = .ok (.iinc 2 1, 3) := by decide +kernel
theorem dX11_loadPattern_59 : decode cX11_loadPattern 59 = .ok (.goto (-47), 3) := by decide +kernel
theorem dX11_loadPattern_62 : decode cX11_loadPattern 62 = .ok (.return_, 1) := by decide +kernel
theorem dX11_loadBytes_0 : decode cX11_loadBytes 0 = .ok (.aload_n 0, 1) := by decide +kernel
theorem dX11_loadBytes_1 : decode cX11_loadBytes 1 = .ok (.iload_n 2, 1) := by decide +kernel
theorem dX11_loadBytes_2 : decode cX11_loadBytes 2 = .ok (.iload_n 1, 1) := by decide +kernel
theorem dX11_loadBytes_3 : decode cX11_loadBytes 3 = .ok (.isub, 1) := by decide +kernel
theorem dX11_loadBytes_4 : decode cX11_loadBytes 4 = .ok (.putfield 175, 3) := by decide +kernel
theorem dX11_loadBytes_7 : decode cX11_loadBytes 7 = .ok (.iconst 0, 1) := by decide +kernel
theorem dX11_loadBytes_8 : decode cX11_loadBytes 8 = .ok (.istore_n 3, 1) := by decide +kernel
theorem dX11_loadBytes_9 : decode cX11_loadBytes 9 = .ok (.iload_n 3, 1) := by decide +kernel
theorem dX11_loadBytes_10 : decode cX11_loadBytes 10 = .ok (.aload_n 0, 1) := by decide +kernel
theorem dX11_loadBytes_11 : decode cX11_loadBytes 11 = .ok (.getfield 175, 3) := by decide +kernel
theorem dX11_loadBytes_14 : decode cX11_loadBytes 14 = .ok (.if_icmp .ge 23, 3) := by decide +kernel
theorem dX11_loadBytes_17 : decode cX11_loadBytes 17 = .ok (.aload_n 0, 1) := by decide +kernel
theorem dX11_loadBytes_18 : decode cX11_loadBytes 18 = .ok (.getfield 48, 3) := by decide +kernel
theorem dX11_loadBytes_21 : decode cX11_loadBytes 21 = .ok (.iload_n 3, 1) := by decide +kernel
theorem dX11_loadBytes_22 : decode cX11_loadBytes 22 = .ok (.aload_n 0, 1) := by decide +kernel
theorem dX11_loadBytes_23 : decode cX11_loadBytes 23 = .ok (.getfield 13, 3) := by decide +kernel
theorem dX11_loadBytes_26 : decode cX11_loadBytes 26 = .ok (.iload_n 1, 1) := by decide +kernel
theorem dX11_loadBytes_27 : decode cX11_loadBytes 27 = .ok (.iload_n 3, 1) := by decide +kernel
theorem dX11_loadBytes_28 : decode cX11_loadBytes 28 = .ok (.iadd, 1) := by decide +kernel
theorem dX11_loadBytes_29 : decode cX11_loadBytes 29 = .ok (.iaload, 1) := by decide +kernel
theorem dX11_loadBytes_30 : decode cX11_loadBytes 30 = .ok (.iastore, 1) := by decide +kernel
theorem dX11_loadBytes_31 : decode cX11_loadBytes 31 = .ok (.iinc 3 1, 3) := by decide +kernel
theorem dX11_loadBytes_34 : decode cX11_loadBytes 34 = .ok (.goto (-25), 3) := by decide +kernel
theorem dX11_loadBytes_37 : decode cX11_loadBytes 37 = .ok (.return_, 1) := by decide +kernel
theorem dX11_fits_0 : decode cX11_fits 0 = .ok (.iload_n 2, 1) := by decide +kernel
theorem dX11_fits_1 : decode cX11_fits 1 = .ok (.bipush 64, 2) := by decide +kernel
theorem dX11_fits_3 : decode cX11_fits 3 = .ok (.if_icmp .ge 14, 3) := by decide +kernel
theorem dX11_fits_6 : decode cX11_fits 6 = .ok (.aload_n 0, 1) := by decide +kernel
theorem dX11_fits_7 : decode cX11_fits 7 = .ok (.getfield 42, 3) := by decide +kernel
theorem dX11_fits_10 : decode cX11_fits 10 = .ok (.iload_n 1, 1) := by decide +kernel
theorem dX11_fits_11 : decode cX11_fits 11 = .ok (.laload, 1) := by decide +kernel
theorem dX11_fits_12 : decode cX11_fits 12 = .ok (.iload_n 2, 1) := by decide +kernel
theorem dX11_fits_13 : decode cX11_fits 13 = .ok (.lshr, 1) := by decide +kernel
theorem dX11_fits_14 : decode cX11_fits 14 = .ok (.goto 14, 3) := by decide +kernel
theorem dX11_fits_17 : decode cX11_fits 17 = .ok (.aload_n 0, 1) := by decide +kernel
theorem dX11_fits_18 : decode cX11_fits 18 = .ok (.getfield 45, 3) := by decide +kernel
theorem dX11_fits_21 : decode cX11_fits 21 = .ok (.iload_n 1, 1) := by decide +kernel
theorem dX11_fits_22 : decode cX11_fits 22 = .ok (.laload, 1) := by decide +kernel
theorem dX11_fits_23 : decode cX11_fits 23 = .ok (.iload_n 2, 1) := by decide +kernel
theorem dX11_fits_24 : decode cX11_fits 24 = .ok (.bipush 64, 2) := by decide +kernel
theorem dX11_fits_26 : decode cX11_fits 26 = .ok (.isub, 1) := by decide +kernel
theorem dX11_fits_27 : decode cX11_fits 27 = .ok (.lshr, 1) := by decide +kernel
theorem dX11_fits_28 : decode cX11_fits 28 = .ok (.lconst 1, 1) := by decide +kernel
theorem dX11_fits_29 : decode cX11_fits 29 = .ok (.land, 1) := by decide +kernel
theorem dX11_fits_30 : decode cX11_fits 30 = .ok (.lconst 1, 1) := by decide +kernel
theorem dX11_fits_31 : decode cX11_fits 31 = .ok (.lcmp, 1) := by decide +kernel
theorem dX11_fits_32 : decode cX11_fits 32 = .ok (.ifCond .ne 7, 3) := by decide +kernel
theorem dX11_fits_35 : decode cX11_fits 35 = .ok (.iconst 1, 1) := by decide +kernel
theorem dX11_fits_36 : decode cX11_fits 36 = .ok (.goto 4, 3) := by decide +kernel
theorem dX11_fits_39 : decode cX11_fits 39 = .ok (.iconst 0, 1) := by decide +kernel
theorem dX11_fits_40 : decode cX11_fits 40 = .ok (.ireturn, 1) := by decide +kernel
theorem dX11_firstColumn_0 : decode cX11_firstColumn 0 = .ok (.iconst 0, 1) := by decide +kernel
theorem dX11_firstColumn_1 : decode cX11_firstColumn 1 = .ok (.istore_n 1, 1) := by decide +kernel
theorem dX11_firstColumn_2 : decode cX11_firstColumn 2 = .ok (.iload_n 1, 1) := by decide +kernel
theorem dX11_firstColumn_3 : decode cX11_firstColumn 3 = .ok (.aload_n 0, 1) := by decide +kernel
theorem dX11_firstColumn_4 : decode cX11_firstColumn 4 = .ok (.getfield 172, 3) := by decide +kernel
theorem dX11_firstColumn_7 : decode cX11_firstColumn 7 = .ok (.if_icmp .gt 23, 3) := by decide +kernel
theorem dX11_firstColumn_10 : decode cX11_firstColumn 10 = .ok (.aload_n 0, 1) := by decide +kernel
theorem dX11_firstColumn_11 : decode cX11_firstColumn 11 = .ok (.getfield 51, 3) := by decide +kernel
theorem dX11_firstColumn_14 : decode cX11_firstColumn 14 = .ok (.iload_n 1, 1) := by decide +kernel
theorem dX11_firstColumn_15 : decode cX11_firstColumn 15 = .ok (.iload_n 1, 1) := by decide +kernel
theorem dX11_firstColumn_16 : decode cX11_firstColumn 16 = .ok (.iastore, 1) := by decide +kernel
theorem dX11_firstColumn_17 : decode cX11_firstColumn 17 = .ok (.aload_n 0, 1) := by decide +kernel
theorem dX11_firstColumn_18 : decode cX11_firstColumn 18 = .ok (.getfield 60, 3) := by decide +kernel
theorem dX11_firstColumn_21 : decode cX11_firstColumn 21 = .ok (.iload_n 1, 1) := by decide +kernel
theorem dX11_firstColumn_22 : decode cX11_firstColumn 22 = .ok (.iconst 0, 1) := by decide +kernel
theorem dX11_firstColumn_23 : decode cX11_firstColumn 23 = .ok (.iastore, 1) := by decide +kernel
theorem dX11_firstColumn_24 : decode cX11_firstColumn 24 = .ok (.iinc 1 1, 3) := by decide +kernel
theorem dX11_firstColumn_27 : decode cX11_firstColumn 27 = .ok (.goto (-25), 3) := by decide +kernel
theorem dX11_firstColumn_30 : decode cX11_firstColumn 30 = .ok (.return_, 1) := by decide +kernel
theorem dX11_better_0 : decode cX11_better 0 = .ok (.iload_n 2, 1) := by decide +kernel
theorem dX11_better_1 : decode cX11_better 1 = .ok (.aload_n 0, 1) := by decide +kernel
theorem dX11_better_2 : decode cX11_better 2 = .ok (.getfield 51, 3) := by decide +kernel
theorem dX11_better_5 : decode cX11_better 5 = .ok (.iload_n 1, 1) := by decide +kernel
theorem dX11_better_6 : decode cX11_better 6 = .ok (.iaload, 1) := by decide +kernel
theorem dX11_better_7 : decode cX11_better 7 = .ok (.if_icmp .lt 23, 3) := by decide +kernel
theorem dX11_better_10 : decode cX11_better 10 = .ok (.iload_n 2, 1) := by decide +kernel
theorem dX11_better_11 : decode cX11_better 11 = .ok (.aload_n 0, 1) := by decide +kernel
theorem dX11_better_12 : decode cX11_better 12 = .ok (.getfield 51, 3) := by decide +kernel
theorem dX11_better_15 : decode cX11_better 15 = .ok (.iload_n 1, 1) := by decide +kernel
theorem dX11_better_16 : decode cX11_better 16 = .ok (.iaload, 1) := by decide +kernel
theorem dX11_better_17 : decode cX11_better 17 = .ok (.if_icmp .ne 27, 3) := by decide +kernel
theorem dX11_better_20 : decode cX11_better 20 = .ok (.iload_n 3, 1) := by decide +kernel
theorem dX11_better_21 : decode cX11_better 21 = .ok (.aload_n 0, 1) := by decide +kernel
theorem dX11_better_22 : decode cX11_better 22 = .ok (.getfield 60, 3) := by decide +kernel
theorem dX11_better_25 : decode cX11_better 25 = .ok (.iload_n 1, 1) := by decide +kernel
theorem dX11_better_26 : decode cX11_better 26 = .ok (.iaload, 1) := by decide +kernel
theorem dX11_better_27 : decode cX11_better 27 = .ok (.if_icmp .le 17, 3) := by decide +kernel
theorem dX11_better_30 : decode cX11_better 30 = .ok (.aload_n 0, 1) := by decide +kernel
theorem dX11_better_31 : decode cX11_better 31 = .ok (.getfield 51, 3) := by decide +kernel
theorem dX11_better_34 : decode cX11_better 34 = .ok (.iload_n 1, 1) := by decide +kernel
theorem dX11_better_35 : decode cX11_better 35 = .ok (.iload_n 2, 1) := by decide +kernel
theorem dX11_better_36 : decode cX11_better 36 = .ok (.iastore, 1) := by decide +kernel
theorem dX11_better_37 : decode cX11_better 37 = .ok (.aload_n 0, 1) := by decide +kernel
theorem dX11_better_38 : decode cX11_better 38 = .ok (.getfield 60, 3) := by decide +kernel
theorem dX11_better_41 : decode cX11_better 41 = .ok (.iload_n 1, 1) := by decide +kernel
theorem dX11_better_42 : decode cX11_better 42 = .ok (.iload_n 3, 1) := by decide +kernel
theorem dX11_better_43 : decode cX11_better 43 = .ok (.iastore, 1) := by decide +kernel
theorem dX11_better_44 : decode cX11_better 44 = .ok (.return_, 1) := by decide +kernel
theorem dX11_column_0 : decode cX11_column 0 = .ok (.iconst 0, 1) := by decide +kernel
theorem dX11_column_1 : decode cX11_column 1 = .ok (.istore_n 3, 1) := by decide +kernel
theorem dX11_column_2 : decode cX11_column 2 = .ok (.iload_n 3, 1) := by decide +kernel
theorem dX11_column_3 : decode cX11_column 3 = .ok (.aload_n 0, 1) := by decide +kernel
theorem dX11_column_4 : decode cX11_column 4 = .ok (.getfield 172, 3) := by decide +kernel
theorem dX11_column_7 : decode cX11_column 7 = .ok (.if_icmp .gt 57, 3) := by decide +kernel
theorem dX11_column_10 : decode cX11_column 10 = .ok (.aload_n 0, 1) := by decide +kernel
theorem dX11_column_11 : decode cX11_column 11 = .ok (.getfield 57, 3) := by decide +kernel
theorem dX11_column_14 : decode cX11_column 14 = .ok (.iload_n 3, 1) := by decide +kernel
theorem dX11_column_15 : decode cX11_column 15 = .ok (.aload_n 0, 1) := by decide +kernel
theorem dX11_column_16 : decode cX11_column 16 = .ok (.getfield 54, 3) := by decide +kernel
theorem dX11_column_19 : decode cX11_column 19 = .ok (.iload_n 3, 1) := by decide +kernel
theorem dX11_column_20 : decode cX11_column 20 = .ok (.iaload, 1) := by decide +kernel
theorem dX11_column_21 : decode cX11_column 21 = .ok (.iastore, 1) := by decide +kernel
theorem dX11_column_22 : decode cX11_column 22 = .ok (.aload_n 0, 1) := by decide +kernel
theorem dX11_column_23 : decode cX11_column 23 = .ok (.getfield 66, 3) := by decide +kernel
theorem dX11_column_26 : decode cX11_column 26 = .ok (.iload_n 3, 1) := by decide +kernel
theorem dX11_column_27 : decode cX11_column 27 = .ok (.aload_n 0, 1) := by decide +kernel
theorem dX11_column_28 : decode cX11_column 28 = .ok (.getfield 63, 3) := by decide +kernel
theorem dX11_column_31 : decode cX11_column 31 = .ok (.iload_n 3, 1) := by decide +kernel
theorem dX11_column_32 : decode cX11_column 32 = .ok (.iaload, 1) := by decide +kernel
theorem dX11_column_33 : decode cX11_column 33 = .ok (.iastore, 1) := by decide +kernel
theorem dX11_column_34 : decode cX11_column 34 = .ok (.aload_n 0, 1) := by decide +kernel
theorem dX11_column_35 : decode cX11_column 35 = .ok (.getfield 54, 3) := by decide +kernel
theorem dX11_column_38 : decode cX11_column 38 = .ok (.iload_n 3, 1) := by decide +kernel
theorem dX11_column_39 : decode cX11_column 39 = .ok (.aload_n 0, 1) := by decide +kernel
theorem dX11_column_40 : decode cX11_column 40 = .ok (.getfield 51, 3) := by decide +kernel
theorem dX11_column_43 : decode cX11_column 43 = .ok (.iload_n 3, 1) := by decide +kernel
theorem dX11_column_44 : decode cX11_column 44 = .ok (.iaload, 1) := by decide +kernel
theorem dX11_column_45 : decode cX11_column 45 = .ok (.iastore, 1) := by decide +kernel
theorem dX11_column_46 : decode cX11_column 46 = .ok (.aload_n 0, 1) := by decide +kernel
theorem dX11_column_47 : decode cX11_column 47 = .ok (.getfield 63, 3) := by decide +kernel
theorem dX11_column_50 : decode cX11_column 50 = .ok (.iload_n 3, 1) := by decide +kernel
theorem dX11_column_51 : decode cX11_column 51 = .ok (.aload_n 0, 1) := by decide +kernel
theorem dX11_column_52 : decode cX11_column 52 = .ok (.getfield 60, 3) := by decide +kernel
theorem dX11_column_55 : decode cX11_column 55 = .ok (.iload_n 3, 1) := by decide +kernel
theorem dX11_column_56 : decode cX11_column 56 = .ok (.iaload, 1) := by decide +kernel
theorem dX11_column_57 : decode cX11_column 57 = .ok (.iastore, 1) := by decide +kernel
theorem dX11_column_58 : decode cX11_column 58 = .ok (.iinc 3 1, 3) := by decide +kernel
theorem dX11_column_61 : decode cX11_column 61 = .ok (.goto (-59), 3) := by decide +kernel
theorem dX11_column_64 : decode cX11_column 64 = .ok (.aload_n 0, 1) := by decide +kernel
theorem dX11_column_65 : decode cX11_column 65 = .ok (.getfield 51, 3) := by decide +kernel
theorem dX11_column_68 : decode cX11_column 68 = .ok (.iconst 0, 1) := by decide +kernel
theorem dX11_column_69 : decode cX11_column 69 = .ok (.iload_n 2, 1) := by decide +kernel
theorem dX11_column_70 : decode cX11_column 70 = .ok (.ifCond .eq 7, 3) := by decide +kernel
theorem dX11_column_73 : decode cX11_column 73 = .ok (.iconst 0, 1) := by decide +kernel
theorem dX11_column_74 : decode cX11_column 74 = .ok (.goto 6, 3) := by decide +kernel
theorem dX11_column_77 : decode cX11_column 77 = .ok (.iload_n 1, 1) := by decide +kernel
theorem dX11_column_78 : decode cX11_column 78 = .ok (.iconst 1, 1) := by decide +kernel
theorem dX11_column_79 : decode cX11_column 79 = .ok (.iadd, 1) := by decide +kernel
theorem dX11_column_80 : decode cX11_column 80 = .ok (.iastore, 1) := by decide +kernel
theorem dX11_column_81 : decode cX11_column 81 = .ok (.aload_n 0, 1) := by decide +kernel
theorem dX11_column_82 : decode cX11_column 82 = .ok (.getfield 60, 3) := by decide +kernel
theorem dX11_column_85 : decode cX11_column 85 = .ok (.iconst 0, 1) := by decide +kernel
theorem dX11_column_86 : decode cX11_column 86 = .ok (.iload_n 2, 1) := by decide +kernel
theorem dX11_column_87 : decode cX11_column 87 = .ok (.ifCond .eq 9, 3) := by decide +kernel
theorem dX11_column_90 : decode cX11_column 90 = .ok (.iload_n 1, 1) := by decide +kernel
theorem dX11_column_91 : decode cX11_column 91 = .ok (.iconst 1, 1) := by decide +kernel
theorem dX11_column_92 : decode cX11_column 92 = .ok (.iadd, 1) := by decide +kernel
theorem dX11_column_93 : decode cX11_column 93 = .ok (.goto 4, 3) := by decide +kernel
theorem dX11_column_96 : decode cX11_column 96 = .ok (.iconst 0, 1) := by decide +kernel
theorem dX11_column_97 : decode cX11_column 97 = .ok (.iastore, 1) := by decide +kernel
theorem dX11_column_98 : decode cX11_column 98 = .ok (.iconst 1, 1) := by decide +kernel
theorem dX11_column_99 : decode cX11_column 99 = .ok (.istore_n 3, 1) := by decide +kernel
theorem dX11_column_100 : decode cX11_column 100 = .ok (.iload_n 3, 1) := by decide +kernel
theorem dX11_column_101 : decode cX11_column 101 = .ok (.aload_n 0, 1) := by decide +kernel
theorem dX11_column_102 : decode cX11_column 102 = .ok (.getfield 172, 3) := by decide +kernel
theorem dX11_column_105 : decode cX11_column 105 = .ok (.if_icmp .gt 174, 3) := by decide +kernel
theorem dX11_column_108 : decode cX11_column 108 = .ok (.aload_n 0, 1) := by decide +kernel
theorem dX11_column_109 : decode cX11_column 109 = .ok (.getfield 51, 3) := by decide +kernel
theorem dX11_column_112 : decode cX11_column 112 = .ok (.iload_n 3, 1) := by decide +kernel
theorem dX11_column_113 : decode cX11_column 113 = .ok (.aload_n 0, 1) := by decide +kernel
theorem dX11_column_114 : decode cX11_column 114 = .ok (.getfield 54, 3) := by decide +kernel
theorem dX11_column_117 : decode cX11_column 117 = .ok (.iload_n 3, 1) := by decide +kernel
theorem dX11_column_118 : decode cX11_column 118 = .ok (.iconst 1, 1) := by decide +kernel
theorem dX11_column_119 : decode cX11_column 119 = .ok (.isub, 1) := by decide +kernel
theorem dX11_column_120 : decode cX11_column 120 = .ok (.iaload, 1) := by decide +kernel
theorem dX11_column_121 : decode cX11_column 121 = .ok (.aload_n 0, 1) := by decide +kernel
theorem dX11_column_122 : decode cX11_column 122 = .ok (.iload_n 3, 1) := by decide +kernel
theorem dX11_column_123 : decode cX11_column 123 = .ok (.iconst 1, 1) := by decide +kernel
theorem dX11_column_124 : decode cX11_column 124 = .ok (.isub, 1) := by decide +kernel
theorem dX11_column_125 : decode cX11_column 125 = .ok (.aload_n 0, 1) := by decide +kernel
theorem dX11_column_126 : decode cX11_column 126 = .ok (.getfield 48, 3) := by decide +kernel
theorem dX11_column_129 : decode cX11_column 129 = .ok (.iload_n 1, 1) := by decide +kernel
theorem dX11_column_130 : decode cX11_column 130 = .ok (.iaload, 1) := by decide +kernel
theorem dX11_column_131 : decode cX11_column 131 = .ok (.invokevirtual 178, 3) := by decide +kernel
theorem dX11_column_134 : decode cX11_column 134 = .ok (.ifCond .eq 7, 3) := by decide +kernel
theorem dX11_column_137 : decode cX11_column 137 = .ok (.iconst 0, 1) := by decide +kernel
theorem dX11_column_138 : decode cX11_column 138 = .ok (.goto 4, 3) := by decide +kernel
theorem dX11_column_141 : decode cX11_column 141 = .ok (.iconst 1, 1) := by decide +kernel
theorem dX11_column_142 : decode cX11_column 142 = .ok (.iadd, 1) := by decide +kernel
theorem dX11_column_143 : decode cX11_column 143 = .ok (.iastore, 1) := by decide +kernel
theorem dX11_column_144 : decode cX11_column 144 = .ok (.aload_n 0, 1) := by decide +kernel
theorem dX11_column_145 : decode cX11_column 145 = .ok (.getfield 60, 3) := by decide +kernel
theorem dX11_column_148 : decode cX11_column 148 = .ok (.iload_n 3, 1) := by decide +kernel
theorem dX11_column_149 : decode cX11_column 149 = .ok (.aload_n 0, 1) := by decide +kernel
theorem dX11_column_150 : decode cX11_column 150 = .ok (.getfield 63, 3) := by decide +kernel
theorem dX11_column_153 : decode cX11_column 153 = .ok (.iload_n 3, 1) := by decide +kernel
theorem dX11_column_154 : decode cX11_column 154 = .ok (.iconst 1, 1) := by decide +kernel
theorem dX11_column_155 : decode cX11_column 155 = .ok (.isub, 1) := by decide +kernel
theorem dX11_column_156 : decode cX11_column 156 = .ok (.iaload, 1) := by decide +kernel
theorem dX11_column_157 : decode cX11_column 157 = .ok (.iastore, 1) := by decide +kernel
theorem dX11_column_158 : decode cX11_column 158 = .ok (.aload_n 0, 1) := by decide +kernel
theorem dX11_column_159 : decode cX11_column 159 = .ok (.iload_n 3, 1) := by decide +kernel
theorem dX11_column_160 : decode cX11_column 160 = .ok (.aload_n 0, 1) := by decide +kernel
theorem dX11_column_161 : decode cX11_column 161 = .ok (.getfield 54, 3) := by decide +kernel
theorem dX11_column_164 : decode cX11_column 164 = .ok (.iload_n 3, 1) := by decide +kernel
theorem dX11_column_165 : decode cX11_column 165 = .ok (.iaload, 1) := by decide +kernel
theorem dX11_column_166 : decode cX11_column 166 = .ok (.iconst 1, 1) := by decide +kernel
theorem dX11_column_167 : decode cX11_column 167 = .ok (.iadd, 1) := by decide +kernel
theorem dX11_column_168 : decode cX11_column 168 = .ok (.aload_n 0, 1) := by decide +kernel
theorem dX11_column_169 : decode cX11_column 169 = .ok (.getfield 63, 3) := by decide +kernel
theorem dX11_column_172 : decode cX11_column 172 = .ok (.iload_n 3, 1) := by decide +kernel
theorem dX11_column_173 : decode cX11_column 173 = .ok (.iaload, 1) := by decide +kernel
theorem dX11_column_174 : decode cX11_column 174 = .ok (.invokevirtual 181, 3) := by decide +kernel
theorem dX11_column_177 : decode cX11_column 177 = .ok (.aload_n 0, 1) := by decide +kernel
theorem dX11_column_178 : decode cX11_column 178 = .ok (.iload_n 3, 1) := by decide +kernel
theorem dX11_column_179 : decode cX11_column 179 = .ok (.aload_n 0, 1) := by decide +kernel
theorem dX11_column_180 : decode cX11_column 180 = .ok (.getfield 51, 3) := by decide +kernel
theorem dX11_column_183 : decode cX11_column 183 = .ok (.iload_n 3, 1) := by decide +kernel
theorem dX11_column_184 : decode cX11_column 184 = .ok (.iconst 1, 1) := by decide +kernel
theorem dX11_column_185 : decode cX11_column 185 = .ok (.isub, 1) := by decide +kernel
theorem dX11_column_186 : decode cX11_column 186 = .ok (.iaload, 1) := by decide +kernel
theorem dX11_column_187 : decode cX11_column 187 = .ok (.iconst 1, 1) := by decide +kernel
theorem dX11_column_188 : decode cX11_column 188 = .ok (.iadd, 1) := by decide +kernel
theorem dX11_column_189 : decode cX11_column 189 = .ok (.aload_n 0, 1) := by decide +kernel
theorem dX11_column_190 : decode cX11_column 190 = .ok (.getfield 60, 3) := by decide +kernel
theorem dX11_column_193 : decode cX11_column 193 = .ok (.iload_n 3, 1) := by decide +kernel
theorem dX11_column_194 : decode cX11_column 194 = .ok (.iconst 1, 1) := by decide +kernel
theorem dX11_column_195 : decode cX11_column 195 = .ok (.isub, 1) := by decide +kernel
theorem dX11_column_196 : decode cX11_column 196 = .ok (.iaload, 1) := by decide +kernel
theorem dX11_column_197 : decode cX11_column 197 = .ok (.invokevirtual 181, 3) := by decide +kernel
theorem dX11_column_200 : decode cX11_column 200 = .ok (.aload_n 0, 1) := by decide +kernel
theorem dX11_column_201 : decode cX11_column 201 = .ok (.getfield 185, 3) := by decide +kernel
theorem dX11_column_204 : decode cX11_column 204 = .ok (.ifCond .eq 69, 3) := by decide +kernel
theorem dX11_column_207 : decode cX11_column 207 = .ok (.iload_n 3, 1) := by decide +kernel
theorem dX11_column_208 : decode cX11_column 208 = .ok (.iconst 1, 1) := by decide +kernel
theorem dX11_column_209 : decode cX11_column 209 = .ok (.if_icmp .le 64, 3) := by decide +kernel
theorem dX11_column_212 : decode cX11_column 212 = .ok (.iload_n 1, 1) := by decide +kernel
theorem dX11_column_213 : decode cX11_column 213 = .ok (.ifCond .le 60, 3) := by decide +kernel
theorem dX11_column_216 : decode cX11_column 216 = .ok (.aload_n 0, 1) := by decide +kernel
theorem dX11_column_217 : decode cX11_column 217 = .ok (.iload_n 3, 1) := by decide +kernel
theorem dX11_column_218 : decode cX11_column 218 = .ok (.iconst 2, 1) := by decide +kernel
theorem dX11_column_219 : decode cX11_column 219 = .ok (.isub, 1) := by decide +kernel
theorem dX11_column_220 : decode cX11_column 220 = .ok (.aload_n 0, 1) := by decide +kernel
theorem dX11_column_221 : decode cX11_column 221 = .ok (.getfield 48, 3) := by decide +kernel
theorem dX11_column_224 : decode cX11_column 224 = .ok (.iload_n 1, 1) := by decide +kernel
theorem dX11_column_225 : decode cX11_column 225 = .ok (.iaload, 1) := by decide +kernel
theorem dX11_column_226 : decode cX11_column 226 = .ok (.invokevirtual 178, 3) := by decide +kernel
theorem dX11_column_229 : decode cX11_column 229 = .ok (.ifCond .eq 44, 3) := by decide +kernel
theorem dX11_column_232 : decode cX11_column 232 = .ok (.aload_n 0, 1) := by decide +kernel
theorem dX11_column_233 : decode cX11_column 233 = .ok (.iload_n 3, 1) := by decide +kernel
theorem dX11_column_234 : decode cX11_column 234 = .ok (.iconst 1, 1) := by decide +kernel
theorem dX11_column_235 : decode cX11_column 235 = .ok (.isub, 1) := by decide +kernel
theorem dX11_column_236 : decode cX11_column 236 = .ok (.aload_n 0, 1) := by decide +kernel
theorem dX11_column_237 : decode cX11_column 237 = .ok (.getfield 48, 3) := by decide +kernel
theorem dX11_column_240 : decode cX11_column 240 = .ok (.iload_n 1, 1) := by decide +kernel
theorem dX11_column_241 : decode cX11_column 241 = .ok (.iconst 1, 1) := by decide +kernel
theorem dX11_column_242 : decode cX11_column 242 = .ok (.isub, 1) := by decide +kernel
theorem dX11_column_243 : decode cX11_column 243 = .ok (.iaload, 1) := by decide +kernel
theorem dX11_column_244 : decode cX11_column 244 = .ok (.invokevirtual 178, 3) := by decide +kernel
theorem dX11_column_247 : decode cX11_column 247 = .ok (.ifCond .eq 26, 3) := by decide +kernel
theorem dX11_column_250 : decode cX11_column 250 = .ok (.aload_n 0, 1) := by decide +kernel
theorem dX11_column_251 : decode cX11_column 251 = .ok (.iload_n 3, 1) := by decide +kernel
theorem dX11_column_252 : decode cX11_column 252 = .ok (.aload_n 0, 1) := by decide +kernel
theorem dX11_column_253 : decode cX11_column 253 = .ok (.getfield 57, 3) := by decide +kernel
theorem dX11_column_256 : decode cX11_column 256 = .ok (.iload_n 3, 1) := by decide +kernel
theorem dX11_column_257 : decode cX11_column 257 = .ok (.iconst 2, 1) := by decide +kernel
theorem dX11_column_258 : decode cX11_column 258 = .ok (.isub, 1) := by decide +kernel
theorem dX11_column_259 : decode cX11_column 259 = .ok (.iaload, 1) := by decide +kernel
theorem dX11_column_260 : decode cX11_column 260 = .ok (.iconst 1, 1) := by decide +kernel
theorem dX11_column_261 : decode cX11_column 261 = .ok (.iadd, 1) := by decide +kernel
theorem dX11_column_262 : decode cX11_column 262 = .ok (.aload_n 0, 1) := by decide +kernel
theorem dX11_column_263 : decode cX11_column 263 = .ok (.getfield 66, 3) := by decide +kernel
theorem dX11_column_266 : decode cX11_column 266 = .ok (.iload_n 3, 1) := by decide +kernel
theorem dX11_column_267 : decode cX11_column 267 = .ok (.iconst 2, 1) := by decide +kernel
theorem dX11_column_268 : decode cX11_column 268 = .ok (.isub, 1) := by decide +kernel
theorem dX11_column_269 : decode cX11_column 269 = .ok (.iaload, 1) := by decide +kernel
theorem dX11_column_270 : decode cX11_column 270 = .ok (.invokevirtual 181, 3) := by decide +kernel
theorem dX11_column_273 : decode cX11_column 273 = .ok (.iinc 3 1, 3) := by decide +kernel
theorem dX11_column_276 : decode cX11_column 276 = .ok (.goto (-176), 3) := by decide +kernel
theorem dX11_column_279 : decode cX11_column 279 = .ok (.return_, 1) := by decide +kernel
theorem dX11_distance_0 : decode cX11_distance 0 = .ok (.aload_n 0, 1) := by decide +kernel
theorem dX11_distance_1 : decode cX11_distance 1 = .ok (.invokevirtual 189, 3) := by decide +kernel
theorem dX11_distance_4 : decode cX11_distance 4 = .ok (.iconst 0, 1) := by decide +kernel
theorem dX11_distance_5 : decode cX11_distance 5 = .ok (.istore_n 1, 1) := by decide +kernel
theorem dX11_distance_6 : decode cX11_distance 6 = .ok (.iload_n 1, 1) := by decide +kernel
theorem dX11_distance_7 : decode cX11_distance 7 = .ok (.aload_n 0, 1) := by decide +kernel
theorem dX11_distance_8 : decode cX11_distance 8 = .ok (.getfield 175, 3) := by decide +kernel
theorem dX11_distance_11 : decode cX11_distance 11 = .ok (.if_icmp .ge 15, 3) := by decide +kernel
theorem dX11_distance_14 : decode cX11_distance 14 = .ok (.aload_n 0, 1) := by decide +kernel
theorem dX11_distance_15 : decode cX11_distance 15 = .ok (.iload_n 1, 1) := by decide +kernel
theorem dX11_distance_16 : decode cX11_distance 16 = .ok (.iconst 0, 1) := by decide +kernel
theorem dX11_distance_17 : decode cX11_distance 17 = .ok (.invokevirtual 192, 3) := by decide +kernel
theorem dX11_distance_20 : decode cX11_distance 20 = .ok (.iinc 1 1, 3) := by decide +kernel
theorem dX11_distance_23 : decode cX11_distance 23 = .ok (.goto (-17), 3) := by decide +kernel
theorem dX11_distance_26 : decode cX11_distance 26 = .ok (.aload_n 0, 1) := by decide +kernel
theorem dX11_distance_27 : decode cX11_distance 27 = .ok (.getfield 51, 3) := by decide +kernel
theorem dX11_distance_30 : decode cX11_distance 30 = .ok (.aload_n 0, 1) := by decide +kernel
theorem dX11_distance_31 : decode cX11_distance 31 = .ok (.getfield 172, 3) := by decide +kernel
theorem dX11_distance_34 : decode cX11_distance 34 = .ok (.iaload, 1) := by decide +kernel
theorem dX11_distance_35 : decode cX11_distance 35 = .ok (.ireturn, 1) := by decide +kernel
theorem dX11_firstHit_0 : decode cX11_firstHit 0 = .ok (.aload_n 0, 1) := by decide +kernel
theorem dX11_firstHit_1 : decode cX11_firstHit 1 = .ok (.invokevirtual 189, 3) := by decide +kernel
theorem dX11_firstHit_4 : decode cX11_firstHit 4 = .ok (.iconst 0, 1) := by decide +kernel
theorem dX11_firstHit_5 : decode cX11_firstHit 5 = .ok (.istore_n 3, 1) := by decide +kernel
theorem dX11_firstHit_6 : decode cX11_firstHit 6 = .ok (.iload_n 3, 1) := by decide +kernel
theorem dX11_firstHit_7 : decode cX11_firstHit 7 = .ok (.aload_n 0, 1) := by decide +kernel
theorem dX11_firstHit_8 : decode cX11_firstHit 8 = .ok (.getfield 175, 3) := by decide +kernel
theorem dX11_firstHit_11 : decode cX11_firstHit 11 = .ok (.if_icmp .ge 49, 3) := by decide +kernel
theorem dX11_firstHit_14 : decode cX11_firstHit 14 = .ok (.aload_n 0, 1) := by decide +kernel
theorem dX11_firstHit_15 : decode cX11_firstHit 15 = .ok (.iload_n 3, 1) := by decide +kernel
theorem dX11_firstHit_16 : decode cX11_firstHit 16 = .ok (.iconst 1, 1) := by decide +kernel
theorem dX11_firstHit_17 : decode cX11_firstHit 17 = .ok (.invokevirtual 192, 3) := by decide +kernel
theorem dX11_firstHit_20 : decode cX11_firstHit 20 = .ok (.aload_n 0, 1) := by decide +kernel
theorem dX11_firstHit_21 : decode cX11_firstHit 21 = .ok (.getfield 51, 3) := by decide +kernel
theorem dX11_firstHit_24 : decode cX11_firstHit 24 = .ok (.aload_n 0, 1) := by decide +kernel
theorem dX11_firstHit_25 : decode cX11_firstHit 25 = .ok (.getfield 172, 3) := by decide +kernel
theorem dX11_firstHit_28 : decode cX11_firstHit 28 = .ok (.iaload, 1) := by decide +kernel
theorem dX11_firstHit_29 : decode cX11_firstHit 29 = .ok (.iload_n 1, 1) := by decide +kernel
theorem dX11_firstHit_30 : decode cX11_firstHit 30 = .ok (.if_icmp .gt 24, 3) := by decide +kernel
theorem dX11_firstHit_33 : decode cX11_firstHit 33 = .ok (.iload_n 2, 1) := by decide +kernel
theorem dX11_firstHit_34 : decode cX11_firstHit 34 = .ok (.ifCond .eq 16, 3) := by decide +kernel
theorem dX11_firstHit_37 : decode cX11_firstHit 37 = .ok (.aload_n 0, 1) := by decide +kernel
theorem dX11_firstHit_38 : decode cX11_firstHit 38 = .ok (.getfield 60, 3) := by decide +kernel
theorem dX11_firstHit_41 : decode cX11_firstHit 41 = .ok (.aload_n 0, 1) := by decide +kernel
theorem dX11_firstHit_42 : decode cX11_firstHit 42 = .ok (.getfield 172, 3) := by decide +kernel
theorem dX11_firstHit_45 : decode cX11_firstHit 45 = .ok (.iaload, 1) := by decide +kernel
theorem dX11_firstHit_46 : decode cX11_firstHit 46 = .ok (.iload_n 3, 1) := by decide +kernel
theorem dX11_firstHit_47 : decode cX11_firstHit 47 = .ok (.if_icmp .gt 7, 3) := by decide +kernel
theorem dX11_firstHit_50 : decode cX11_firstHit 50 = .ok (.iload_n 3, 1) := by decide +kernel
theorem dX11_firstHit_51 : decode cX11_firstHit 51 = .ok (.iconst 1, 1) := by decide +kernel
theorem dX11_firstHit_52 : decode cX11_firstHit 52 = .ok (.iadd, 1) := by decide +kernel
theorem dX11_firstHit_53 : decode cX11_firstHit 53 = .ok (.ireturn, 1) := by decide +kernel
theorem dX11_firstHit_54 : decode cX11_firstHit 54 = .ok (.iinc 3 1, 3) := by decide +kernel
theorem dX11_firstHit_57 : decode cX11_firstHit 57 = .ok (.goto (-51), 3) := by decide +kernel
theorem dX11_firstHit_60 : decode cX11_firstHit 60 = .ok (.iconst (-1), 1) := by decide +kernel
theorem dX11_firstHit_61 : decode cX11_firstHit 61 = .ok (.ireturn, 1) := by decide +kernel
theorem dX11_isEdits_0 : decode cX11_isEdits 0 = .ok (.iload_n 0, 1) := by decide +kernel
theorem dX11_isEdits_1 : decode cX11_isEdits 1 = .ok (.iconst 0, 1) := by decide +kernel
theorem dX11_isEdits_2 : decode cX11_isEdits 2 = .ok (.sipush 200, 3) := by decide +kernel
theorem dX11_isEdits_5 : decode cX11_isEdits 5 = .ok (.invokestatic 100, 3) := by decide +kernel
theorem dX11_isEdits_8 : decode cX11_isEdits 8 = .ok (.ireturn, 1) := by decide +kernel
theorem dX11_find_0 : decode cX11_find 0 = .ok (.aload_n 0, 1) := by decide +kernel
theorem dX11_find_1 : decode cX11_find 1 = .ok (.iload_n 1, 1) := by decide +kernel
theorem dX11_find_2 : decode cX11_find 2 = .ok (.invokevirtual 156, 3) := by decide +kernel
theorem dX11_find_5 : decode cX11_find 5 = .ok (.ifCond .eq 10, 3) := by decide +kernel
theorem dX11_find_8 : decode cX11_find 8 = .ok (.iload_n 2, 1) := by decide +kernel
theorem dX11_find_9 : decode cX11_find 9 = .ok (.invokestatic 196, 3) := by decide +kernel
theorem dX11_find_12 : decode cX11_find 12 = .ok (.ifCond .ne 6, 3) := by decide +kernel
theorem dX11_find_15 : decode cX11_find 15 = .ok (.bipush (-2), 2) := by decide +kernel
theorem dX11_find_17 : decode cX11_find 17 = .ok (.ireturn, 1) := by decide +kernel
theorem dX11_find_18 : decode cX11_find 18 = .ok (.aload_n 0, 1) := by decide +kernel
theorem dX11_find_19 : decode cX11_find 19 = .ok (.iload_n 1, 1) := by decide +kernel
theorem dX11_find_20 : decode cX11_find 20 = .ok (.invokevirtual 199, 3) := by decide +kernel
theorem dX11_find_23 : decode cX11_find 23 = .ok (.aload_n 0, 1) := by decide +kernel
theorem dX11_find_24 : decode cX11_find 24 = .ok (.iconst 0, 1) := by decide +kernel
theorem dX11_find_25 : decode cX11_find 25 = .ok (.aload_n 0, 1) := by decide +kernel
theorem dX11_find_26 : decode cX11_find 26 = .ok (.getfield 162, 3) := by decide +kernel
theorem dX11_find_29 : decode cX11_find 29 = .ok (.invokevirtual 202, 3) := by decide +kernel
theorem dX11_find_32 : decode cX11_find 32 = .ok (.aload_n 0, 1) := by decide +kernel
theorem dX11_find_33 : decode cX11_find 33 = .ok (.iload_n 3, 1) := by decide +kernel
theorem dX11_find_34 : decode cX11_find 34 = .ok (.putfield 185, 3) := by decide +kernel
theorem dX11_find_37 : decode cX11_find 37 = .ok (.aload_n 0, 1) := by decide +kernel
theorem dX11_find_38 : decode cX11_find 38 = .ok (.iconst 0, 1) := by decide +kernel
theorem dX11_find_39 : decode cX11_find 39 = .ok (.putfield 205, 3) := by decide +kernel
theorem dX11_find_42 : decode cX11_find 42 = .ok (.aload_n 0, 1) := by decide +kernel
theorem dX11_find_43 : decode cX11_find 43 = .ok (.iload_n 3, 1) := by decide +kernel
theorem dX11_find_44 : decode cX11_find 44 = .ok (.putfield 208, 3) := by decide +kernel
theorem dX11_find_47 : decode cX11_find 47 = .ok (.aload_n 0, 1) := by decide +kernel
theorem dX11_find_48 : decode cX11_find 48 = .ok (.aload_n 0, 1) := by decide +kernel
theorem dX11_find_49 : decode cX11_find 49 = .ok (.getfield 172, 3) := by decide +kernel
theorem dX11_find_52 : decode cX11_find 52 = .ok (.putfield 211, 3) := by decide +kernel
theorem dX11_find_55 : decode cX11_find 55 = .ok (.iconst 0, 1) := by decide +kernel
theorem dX11_find_56 : decode cX11_find 56 = .ok (.istore 4, 2) := by decide +kernel
theorem dX11_find_58 : decode cX11_find 58 = .ok (.iload 4, 2) := by decide +kernel
theorem dX11_find_60 : decode cX11_find 60 = .ok (.aload_n 0, 1) := by decide +kernel
theorem dX11_find_61 : decode cX11_find 61 = .ok (.getfield 172, 3) := by decide +kernel
theorem dX11_find_64 : decode cX11_find 64 = .ok (.if_icmp .ge 37, 3) := by decide +kernel
theorem dX11_find_67 : decode cX11_find 67 = .ok (.aload_n 0, 1) := by decide +kernel
theorem dX11_find_68 : decode cX11_find 68 = .ok (.getfield 81, 3) := by decide +kernel
theorem dX11_find_71 : decode cX11_find 71 = .ok (.iload 4, 2) := by decide +kernel
theorem dX11_find_73 : decode cX11_find 73 = .ok (.aload_n 0, 1) := by decide +kernel
theorem dX11_find_74 : decode cX11_find 74 = .ok (.getfield 42, 3) := by decide +kernel
theorem dX11_find_77 : decode cX11_find 77 = .ok (.iload 4, 2) := by decide +kernel
theorem dX11_find_79 : decode cX11_find 79 = .ok (.laload, 1) := by decide +kernel
theorem dX11_find_80 : decode cX11_find 80 = .ok (.lastore, 1) := by decide +kernel
theorem dX11_find_81 : decode cX11_find 81 = .ok (.aload_n 0, 1) := by decide +kernel
theorem dX11_find_82 : decode cX11_find 82 = .ok (.getfield 84, 3) := by decide +kernel
theorem dX11_find_85 : decode cX11_find 85 = .ok (.iload 4, 2) := by decide +kernel
theorem dX11_find_87 : decode cX11_find 87 = .ok (.aload_n 0, 1) := by decide +kernel
theorem dX11_find_88 : decode cX11_find 88 = .ok (.getfield 45, 3) := by decide +kernel
theorem dX11_find_91 : decode cX11_find 91 = .ok (.iload 4, 2) := by decide +kernel
theorem dX11_find_93 : decode cX11_find 93 = .ok (.laload, 1) := by decide +kernel
theorem dX11_find_94 : decode cX11_find 94 = .ok (.lastore, 1) := by decide +kernel
theorem dX11_find_95 : decode cX11_find 95 = .ok (.iinc 4 1, 3) := by decide +kernel
theorem dX11_find_98 : decode cX11_find 98 = .ok (.goto (-40), 3) := by decide +kernel
theorem dX11_find_101 : decode cX11_find 101 = .ok (.iconst 0, 1) := by decide +kernel
theorem dX11_find_102 : decode cX11_find 102 = .ok (.istore 4, 2) := by decide +kernel
theorem dX11_find_104 : decode cX11_find 104 = .ok (.iload 4, 2) := by decide +kernel
theorem dX11_find_106 : decode cX11_find 106 = .ok (.aload_n 0, 1) := by decide +kernel
theorem dX11_find_107 : decode cX11_find 107 = .ok (.getfield 162, 3) := by decide +kernel
theorem dX11_find_110 : decode cX11_find 110 = .ok (.if_icmp .ge 23, 3) := by decide +kernel
theorem dX11_find_113 : decode cX11_find 113 = .ok (.aload_n 0, 1) := by decide +kernel
theorem dX11_find_114 : decode cX11_find 114 = .ok (.getfield 78, 3) := by decide +kernel
theorem dX11_find_117 : decode cX11_find 117 = .ok (.iload 4, 2) := by decide +kernel
theorem dX11_find_119 : decode cX11_find 119 = .ok (.aload_n 0, 1) := by decide +kernel
theorem dX11_find_120 : decode cX11_find 120 = .ok (.getfield 13, 3) := by decide +kernel
theorem dX11_find_123 : decode cX11_find 123 = .ok (.iload 4, 2) := by decide +kernel
theorem dX11_find_125 : decode cX11_find 125 = .ok (.iaload, 1) := by decide +kernel
theorem dX11_find_126 : decode cX11_find 126 = .ok (.iastore, 1) := by decide +kernel
theorem dX11_find_127 : decode cX11_find 127 = .ok (.iinc 4 1, 3) := by decide +kernel
theorem dX11_find_130 : decode cX11_find 130 = .ok (.goto (-26), 3) := by decide +kernel
theorem dX11_find_133 : decode cX11_find 133 = .ok (.aload_n 0, 1) := by decide +kernel
theorem dX11_find_134 : decode cX11_find 134 = .ok (.invokevirtual 189, 3) := by decide +kernel
theorem dX11_find_137 : decode cX11_find 137 = .ok (.iconst 0, 1) := by decide +kernel
theorem dX11_find_138 : decode cX11_find 138 = .ok (.istore 4, 2) := by decide +kernel
theorem dX11_find_140 : decode cX11_find 140 = .ok (.iload 4, 2) := by decide +kernel
theorem dX11_find_142 : decode cX11_find 142 = .ok (.aload_n 0, 1) := by decide +kernel
theorem dX11_find_143 : decode cX11_find 143 = .ok (.getfield 175, 3) := by decide +kernel
theorem dX11_find_146 : decode cX11_find 146 = .ok (.if_icmp .ge 88, 3) := by decide +kernel
theorem dX11_find_149 : decode cX11_find 149 = .ok (.aload_n 0, 1) := by decide +kernel
theorem dX11_find_150 : decode cX11_find 150 = .ok (.iload 4, 2) := by decide +kernel
theorem dX11_find_152 : decode cX11_find 152 = .ok (.iconst 1, 1) := by decide +kernel
theorem dX11_find_153 : decode cX11_find 153 = .ok (.invokevirtual 192, 3) := by decide +kernel
theorem dX11_find_156 : decode cX11_find 156 = .ok (.aload_n 0, 1) := by decide +kernel
theorem dX11_find_157 : decode cX11_find 157 = .ok (.getfield 51, 3) := by decide +kernel
theorem dX11_find_160 : decode cX11_find 160 = .ok (.aload_n 0, 1) := by decide +kernel
theorem dX11_find_161 : decode cX11_find 161 = .ok (.getfield 172, 3) := by decide +kernel
theorem dX11_find_164 : decode cX11_find 164 = .ok (.iaload, 1) := by decide +kernel
theorem dX11_find_165 : decode cX11_find 165 = .ok (.iload_n 2, 1) := by decide +kernel
theorem dX11_find_166 : decode cX11_find 166 = .ok (.if_icmp .gt 62, 3) := by decide +kernel
theorem dX11_find_169 : decode cX11_find 169 = .ok (.aload_n 0, 1) := by decide +kernel
theorem dX11_find_170 : decode cX11_find 170 = .ok (.getfield 69, 3) := by decide +kernel
theorem dX11_find_173 : decode cX11_find 173 = .ok (.aload_n 0, 1) := by decide +kernel
theorem dX11_find_174 : decode cX11_find 174 = .ok (.getfield 205, 3) := by decide +kernel
theorem dX11_find_177 : decode cX11_find 177 = .ok (.iload 4, 2) := by decide +kernel
theorem dX11_find_179 : decode cX11_find 179 = .ok (.iconst 1, 1) := by decide +kernel
theorem dX11_find_180 : decode cX11_find 180 = .ok (.iadd, 1) := by decide +kernel
theorem dX11_find_181 : decode cX11_find 181 = .ok (.iastore, 1) := by decide +kernel
theorem dX11_find_182 : decode cX11_find 182 = .ok (.aload_n 0, 1) := by decide +kernel
theorem dX11_find_183 : decode cX11_find 183 = .ok (.getfield 72, 3) := by decide +kernel
theorem dX11_find_186 : decode cX11_find 186 = .ok (.aload_n 0, 1) := by decide +kernel
theorem dX11_find_187 : decode cX11_find 187 = .ok (.getfield 205, 3) := by decide +kernel
theorem dX11_find_190 : decode cX11_find 190 = .ok (.aload_n 0, 1) := by decide +kernel
theorem dX11_find_191 : decode cX11_find 191 = .ok (.getfield 51, 3) := by decide +kernel
theorem dX11_find_194 : decode cX11_find 194 = .ok (.aload_n 0, 1) := by decide +kernel
theorem dX11_find_195 : decode cX11_find 195 = .ok (.getfield 172, 3) := by decide +kernel
theorem dX11_find_198 : decode cX11_find 198 = .ok (.iaload, 1) := by decide +kernel
theorem dX11_find_199 : decode cX11_find 199 = .ok (.iastore, 1) := by decide +kernel
theorem dX11_find_200 : decode cX11_find 200 = .ok (.aload_n 0, 1) := by decide +kernel
theorem dX11_find_201 : decode cX11_find 201 = .ok (.getfield 75, 3) := by decide +kernel
theorem dX11_find_204 : decode cX11_find 204 = .ok (.aload_n 0, 1) := by decide +kernel
theorem dX11_find_205 : decode cX11_find 205 = .ok (.getfield 205, 3) := by decide +kernel
theorem dX11_find_208 : decode cX11_find 208 = .ok (.aload_n 0, 1) := by decide +kernel
theorem dX11_find_209 : decode cX11_find 209 = .ok (.getfield 60, 3) := by decide +kernel
theorem dX11_find_212 : decode cX11_find 212 = .ok (.aload_n 0, 1) := by decide +kernel
theorem dX11_find_213 : decode cX11_find 213 = .ok (.getfield 172, 3) := by decide +kernel
theorem dX11_find_216 : decode cX11_find 216 = .ok (.iaload, 1) := by decide +kernel
theorem dX11_find_217 : decode cX11_find 217 = .ok (.iastore, 1) := by decide +kernel
theorem dX11_find_218 : decode cX11_find 218 = .ok (.aload_n 0, 1) := by decide +kernel
theorem dX11_find_219 : decode cX11_find 219 = .ok (.dup, 1) := by decide +kernel
theorem dX11_find_220 : decode cX11_find 220 = .ok (.getfield 205, 3) := by decide +kernel
theorem dX11_find_223 : decode cX11_find 223 = .ok (.iconst 1, 1) := by decide +kernel
theorem dX11_find_224 : decode cX11_find 224 = .ok (.iadd, 1) := by decide +kernel
theorem dX11_find_225 : decode cX11_find 225 = .ok (.putfield 205, 3) := by decide +kernel
theorem dX11_find_228 : decode cX11_find 228 = .ok (.iinc 4 1, 3) := by decide +kernel
theorem dX11_find_231 : decode cX11_find 231 = .ok (.goto (-91), 3) := by decide +kernel
theorem dX11_find_234 : decode cX11_find 234 = .ok (.aload_n 0, 1) := by decide +kernel
theorem dX11_find_235 : decode cX11_find 235 = .ok (.getfield 205, 3) := by decide +kernel
theorem dX11_find_238 : decode cX11_find 238 = .ok (.ireturn, 1) := by decide +kernel
theorem dX11_findSteps_0 : decode cX11_findSteps 0 = .ok (.aload_n 0, 1) := by decide +kernel
theorem dX11_findSteps_1 : decode cX11_findSteps 1 = .ok (.aload_n 0, 1) := by decide +kernel
theorem dX11_findSteps_2 : decode cX11_findSteps 2 = .ok (.getfield 211, 3) := by decide +kernel
theorem dX11_findSteps_5 : decode cX11_findSteps 5 = .ok (.putfield 172, 3) := by decide +kernel
theorem dX11_findSteps_8 : decode cX11_findSteps 8 = .ok (.aload_n 0, 1) := by decide +kernel
theorem dX11_findSteps_9 : decode cX11_findSteps 9 = .ok (.aload_n 0, 1) := by decide +kernel
theorem dX11_findSteps_10 : decode cX11_findSteps 10 = .ok (.getfield 208, 3) := by decide +kernel
theorem dX11_findSteps_13 : decode cX11_findSteps 13 = .ok (.putfield 185, 3) := by decide +kernel
theorem dX11_findSteps_16 : decode cX11_findSteps 16 = .ok (.iconst 0, 1) := by decide +kernel
theorem dX11_findSteps_17 : decode cX11_findSteps 17 = .ok (.istore_n 2, 1) := by decide +kernel
theorem dX11_findSteps_18 : decode cX11_findSteps 18 = .ok (.iload_n 2, 1) := by decide +kernel
theorem dX11_findSteps_19 : decode cX11_findSteps 19 = .ok (.aload_n 0, 1) := by decide +kernel
theorem dX11_findSteps_20 : decode cX11_findSteps 20 = .ok (.getfield 172, 3) := by decide +kernel
theorem dX11_findSteps_23 : decode cX11_findSteps 23 = .ok (.if_icmp .ge 33, 3) := by decide +kernel
theorem dX11_findSteps_26 : decode cX11_findSteps 26 = .ok (.aload_n 0, 1) := by decide +kernel
theorem dX11_findSteps_27 : decode cX11_findSteps 27 = .ok (.getfield 42, 3) := by decide +kernel
theorem dX11_findSteps_30 : decode cX11_findSteps 30 = .ok (.iload_n 2, 1) := by decide +kernel
theorem dX11_findSteps_31 : decode cX11_findSteps 31 = .ok (.aload_n 0, 1) := by decide +kernel
theorem dX11_findSteps_32 : decode cX11_findSteps 32 = .ok (.getfield 81, 3) := by decide +kernel
theorem dX11_findSteps_35 : decode cX11_findSteps 35 = .ok (.iload_n 2, 1) := by decide +kernel
theorem dX11_findSteps_36 : decode cX11_findSteps 36 = .ok (.laload, 1) := by decide +kernel
theorem dX11_findSteps_37 : decode cX11_findSteps 37 = .ok (.lastore, 1) := by decide +kernel
theorem dX11_findSteps_38 : decode cX11_findSteps 38 = .ok (.aload_n 0, 1) := by decide +kernel
theorem dX11_findSteps_39 : decode cX11_findSteps 39 = .ok (.getfield 45, 3) := by decide +kernel
theorem dX11_findSteps_42 : decode cX11_findSteps 42 = .ok (.iload_n 2, 1) := by decide +kernel
theorem dX11_findSteps_43 : decode cX11_findSteps 43 = .ok (.aload_n 0, 1) := by decide +kernel
theorem dX11_findSteps_44 : decode cX11_findSteps 44 = .ok (.getfield 84, 3) := by decide +kernel
theorem dX11_findSteps_47 : decode cX11_findSteps 47 = .ok (.iload_n 2, 1) := by decide +kernel
theorem dX11_findSteps_48 : decode cX11_findSteps 48 = .ok (.laload, 1) := by decide +kernel
theorem dX11_findSteps_49 : decode cX11_findSteps 49 = .ok (.lastore, 1) := by decide +kernel
theorem dX11_findSteps_50 : decode cX11_findSteps 50 = .ok (.iinc 2 1, 3) := by decide +kernel
theorem dX11_findSteps_53 : decode cX11_findSteps 53 = .ok (.goto (-35), 3) := by decide +kernel
theorem dX11_findSteps_56 : decode cX11_findSteps 56 = .ok (.aload_n 0, 1) := by decide +kernel
theorem dX11_findSteps_57 : decode cX11_findSteps 57 = .ok (.aload_n 0, 1) := by decide +kernel
theorem dX11_findSteps_58 : decode cX11_findSteps 58 = .ok (.getfield 69, 3) := by decide +kernel
theorem dX11_findSteps_61 : decode cX11_findSteps 61 = .ok (.iload_n 1, 1) := by decide +kernel
theorem dX11_findSteps_62 : decode cX11_findSteps 62 = .ok (.iaload, 1) := by decide +kernel
theorem dX11_findSteps_63 : decode cX11_findSteps 63 = .ok (.aload_n 0, 1) := by decide +kernel
theorem dX11_findSteps_64 : decode cX11_findSteps 64 = .ok (.getfield 75, 3) := by decide +kernel
theorem dX11_findSteps_67 : decode cX11_findSteps 67 = .ok (.iload_n 1, 1) := by decide +kernel
theorem dX11_findSteps_68 : decode cX11_findSteps 68 = .ok (.iaload, 1) := by decide +kernel
theorem dX11_findSteps_69 : decode cX11_findSteps 69 = .ok (.isub, 1) := by decide +kernel
theorem dX11_findSteps_70 : decode cX11_findSteps 70 = .ok (.putfield 175, 3) := by decide +kernel
theorem dX11_findSteps_73 : decode cX11_findSteps 73 = .ok (.iconst 0, 1) := by decide +kernel
theorem dX11_findSteps_74 : decode cX11_findSteps 74 = .ok (.istore_n 2, 1) := by decide +kernel
theorem dX11_findSteps_75 : decode cX11_findSteps 75 = .ok (.iload_n 2, 1) := by decide +kernel
theorem dX11_findSteps_76 : decode cX11_findSteps 76 = .ok (.aload_n 0, 1) := by decide +kernel
theorem dX11_findSteps_77 : decode cX11_findSteps 77 = .ok (.getfield 175, 3) := by decide +kernel
theorem dX11_findSteps_80 : decode cX11_findSteps 80 = .ok (.if_icmp .ge 28, 3) := by decide +kernel
theorem dX11_findSteps_83 : decode cX11_findSteps 83 = .ok (.aload_n 0, 1) := by decide +kernel
theorem dX11_findSteps_84 : decode cX11_findSteps 84 = .ok (.getfield 48, 3) := by decide +kernel
theorem dX11_findSteps_87 : decode cX11_findSteps 87 = .ok (.iload_n 2, 1) := by decide +kernel
theorem dX11_findSteps_88 : decode cX11_findSteps 88 = .ok (.aload_n 0, 1) := by decide +kernel
theorem dX11_findSteps_89 : decode cX11_findSteps 89 = .ok (.getfield 78, 3) := by decide +kernel
theorem dX11_findSteps_92 : decode cX11_findSteps 92 = .ok (.aload_n 0, 1) := by decide +kernel
theorem dX11_findSteps_93 : decode cX11_findSteps 93 = .ok (.getfield 75, 3) := by decide +kernel
theorem dX11_findSteps_96 : decode cX11_findSteps 96 = .ok (.iload_n 1, 1) := by decide +kernel
theorem dX11_findSteps_97 : decode cX11_findSteps 97 = .ok (.iaload, 1) := by decide +kernel
theorem dX11_findSteps_98 : decode cX11_findSteps 98 = .ok (.iload_n 2, 1) := by decide +kernel
theorem dX11_findSteps_99 : decode cX11_findSteps 99 = .ok (.iadd, 1) := by decide +kernel
theorem dX11_findSteps_100 : decode cX11_findSteps 100 = .ok (.iaload, 1) := by decide +kernel
theorem dX11_findSteps_101 : decode cX11_findSteps 101 = .ok (.iastore, 1) := by decide +kernel
theorem dX11_findSteps_102 : decode cX11_findSteps 102 = .ok (.iinc 2 1, 3) := by decide +kernel
theorem dX11_findSteps_105 : decode cX11_findSteps 105 = .ok (.goto (-30), 3) := by decide +kernel
theorem dX11_findSteps_108 : decode cX11_findSteps 108 = .ok (.aload_n 0, 1) := by decide +kernel
theorem dX11_findSteps_109 : decode cX11_findSteps 109 = .ok (.invokevirtual 189, 3) := by decide +kernel
theorem dX11_findSteps_112 : decode cX11_findSteps 112 = .ok (.iconst 0, 1) := by decide +kernel
theorem dX11_findSteps_113 : decode cX11_findSteps 113 = .ok (.istore_n 2, 1) := by decide +kernel
theorem dX11_findSteps_114 : decode cX11_findSteps 114 = .ok (.iload_n 2, 1) := by decide +kernel
theorem dX11_findSteps_115 : decode cX11_findSteps 115 = .ok (.aload_n 0, 1) := by decide +kernel
theorem dX11_findSteps_116 : decode cX11_findSteps 116 = .ok (.getfield 172, 3) := by decide +kernel
theorem dX11_findSteps_119 : decode cX11_findSteps 119 = .ok (.if_icmp .gt 25, 3) := by decide +kernel
theorem dX11_findSteps_122 : decode cX11_findSteps 122 = .ok (.aload_n 0, 1) := by decide +kernel
theorem dX11_findSteps_123 : decode cX11_findSteps 123 = .ok (.getfield 88, 3) := by decide +kernel
theorem dX11_findSteps_126 : decode cX11_findSteps 126 = .ok (.sipush 401, 3) := by decide +kernel
theorem dX11_findSteps_129 : decode cX11_findSteps 129 = .ok (.iload_n 2, 1) := by decide +kernel
theorem dX11_findSteps_130 : decode cX11_findSteps 130 = .ok (.imul, 1) := by decide +kernel
theorem dX11_findSteps_131 : decode cX11_findSteps 131 = .ok (.aload_n 0, 1) := by decide +kernel
theorem dX11_findSteps_132 : decode cX11_findSteps 132 = .ok (.getfield 51, 3) := by decide +kernel
theorem dX11_findSteps_135 : decode cX11_findSteps 135 = .ok (.iload_n 2, 1) := by decide +kernel
theorem dX11_findSteps_136 : decode cX11_findSteps 136 = .ok (.iaload, 1) := by decide +kernel
theorem dX11_findSteps_137 : decode cX11_findSteps 137 = .ok (.iastore, 1) := by decide +kernel
theorem dX11_findSteps_138 : decode cX11_findSteps 138 = .ok (.iinc 2 1, 3) := by decide +kernel
theorem dX11_findSteps_141 : decode cX11_findSteps 141 = .ok (.goto (-27), 3) := by decide +kernel
theorem dX11_findSteps_144 : decode cX11_findSteps 144 = .ok (.iconst 0, 1) := by decide +kernel
theorem dX11_findSteps_145 : decode cX11_findSteps 145 = .ok (.istore_n 2, 1) := by decide +kernel
theorem dX11_findSteps_146 : decode cX11_findSteps 146 = .ok (.iload_n 2, 1) := by decide +kernel
theorem dX11_findSteps_147 : decode cX11_findSteps 147 = .ok (.aload_n 0, 1) := by decide +kernel
theorem dX11_findSteps_148 : decode cX11_findSteps 148 = .ok (.getfield 175, 3) := by decide +kernel
theorem dX11_findSteps_151 : decode cX11_findSteps 151 = .ok (.if_icmp .ge 51, 3) := by decide +kernel
theorem dX11_findSteps_154 : decode cX11_findSteps 154 = .ok (.aload_n 0, 1) := by decide +kernel
theorem dX11_findSteps_155 : decode cX11_findSteps 155 = .ok (.iload_n 2, 1) := by decide +kernel
theorem dX11_findSteps_156 : decode cX11_findSteps 156 = .ok (.iconst 0, 1) := by decide +kernel
theorem dX11_findSteps_157 : decode cX11_findSteps 157 = .ok (.invokevirtual 192, 3) := by decide +kernel
theorem dX11_findSteps_160 : decode cX11_findSteps 160 = .ok (.iconst 0, 1) := by decide +kernel
theorem dX11_findSteps_161 : decode cX11_findSteps 161 = .ok (.istore_n 3, 1) := by decide +kernel
theorem dX11_findSteps_162 : decode cX11_findSteps 162 = .ok (.iload_n 3, 1) := by decide +kernel
theorem dX11_findSteps_163 : decode cX11_findSteps 163 = .ok (.aload_n 0, 1) := by decide +kernel
theorem dX11_findSteps_164 : decode cX11_findSteps 164 = .ok (.getfield 172, 3) := by decide +kernel
theorem dX11_findSteps_167 : decode cX11_findSteps 167 = .ok (.if_icmp .gt 29, 3) := by decide +kernel
theorem dX11_findSteps_170 : decode cX11_findSteps 170 = .ok (.aload_n 0, 1) := by decide +kernel
theorem dX11_findSteps_171 : decode cX11_findSteps 171 = .ok (.getfield 88, 3) := by decide +kernel
theorem dX11_findSteps_174 : decode cX11_findSteps 174 = .ok (.sipush 401, 3) := by decide +kernel
theorem dX11_findSteps_177 : decode cX11_findSteps 177 = .ok (.iload_n 3, 1) := by decide +kernel
theorem dX11_findSteps_178 : decode cX11_findSteps 178 = .ok (.imul, 1) := by decide +kernel
theorem dX11_findSteps_179 : decode cX11_findSteps 179 = .ok (.iload_n 2, 1) := by decide +kernel
theorem dX11_findSteps_180 : decode cX11_findSteps 180 = .ok (.iadd, 1) := by decide +kernel
theorem dX11_findSteps_181 : decode cX11_findSteps 181 = .ok (.iconst 1, 1) := by decide +kernel
theorem dX11_findSteps_182 : decode cX11_findSteps 182 = .ok (.iadd, 1) := by decide +kernel
theorem dX11_findSteps_183 : decode cX11_findSteps 183 = .ok (.aload_n 0, 1) := by decide +kernel
theorem dX11_findSteps_184 : decode cX11_findSteps 184 = .ok (.getfield 51, 3) := by decide +kernel
theorem dX11_findSteps_187 : decode cX11_findSteps 187 = .ok (.iload_n 3, 1) := by decide +kernel
theorem dX11_findSteps_188 : decode cX11_findSteps 188 = .ok (.iaload, 1) := by decide +kernel
theorem dX11_findSteps_189 : decode cX11_findSteps 189 = .ok (.iastore, 1) := by decide +kernel
theorem dX11_findSteps_190 : decode cX11_findSteps 190 = .ok (.iinc 3 1, 3) := by decide +kernel
theorem dX11_findSteps_193 : decode cX11_findSteps 193 = .ok (.goto (-31), 3) := by decide +kernel
theorem dX11_findSteps_196 : decode cX11_findSteps 196 = .ok (.iinc 2 1, 3) := by decide +kernel
theorem dX11_findSteps_199 : decode cX11_findSteps 199 = .ok (.goto (-53), 3) := by decide +kernel
theorem dX11_findSteps_202 : decode cX11_findSteps 202 = .ok (.aload_n 0, 1) := by decide +kernel
theorem dX11_findSteps_203 : decode cX11_findSteps 203 = .ok (.iconst 0, 1) := by decide +kernel
theorem dX11_findSteps_204 : decode cX11_findSteps 204 = .ok (.putfield 214, 3) := by decide +kernel
theorem dX11_findSteps_207 : decode cX11_findSteps 207 = .ok (.aload_n 0, 1) := by decide +kernel
theorem dX11_findSteps_208 : decode cX11_findSteps 208 = .ok (.getfield 172, 3) := by decide +kernel
theorem dX11_findSteps_211 : decode cX11_findSteps 211 = .ok (.istore_n 2, 1) := by decide +kernel
theorem dX11_findSteps_212 : decode cX11_findSteps 212 = .ok (.aload_n 0, 1) := by decide +kernel
theorem dX11_findSteps_213 : decode cX11_findSteps 213 = .ok (.getfield 175, 3) := by decide +kernel
theorem dX11_findSteps_216 : decode cX11_findSteps 216 = .ok (.istore_n 3, 1) := by decide +kernel
theorem dX11_findSteps_217 : decode cX11_findSteps 217 = .ok (.iload_n 2, 1) := by decide +kernel
theorem dX11_findSteps_218 : decode cX11_findSteps 218 = .ok (.ifCond .gt 7, 3) := by decide +kernel
theorem dX11_findSteps_221 : decode cX11_findSteps 221 = .ok (.iload_n 3, 1) := by decide +kernel
theorem dX11_findSteps_222 : decode cX11_findSteps 222 = .ok (.ifCond .le 256, 3) := by decide +kernel
theorem dX11_findSteps_225 : decode cX11_findSteps 225 = .ok (.aload_n 0, 1) := by decide +kernel
theorem dX11_findSteps_226 : decode cX11_findSteps 226 = .ok (.getfield 88, 3) := by decide +kernel
theorem dX11_findSteps_229 : decode cX11_findSteps 229 = .ok (.sipush 401, 3) := by decide +kernel
theorem dX11_findSteps_232 : decode cX11_findSteps 232 = .ok (.iload_n 2, 1) := by decide +kernel
theorem dX11_findSteps_233 : decode cX11_findSteps 233 = .ok (.imul, 1) := by decide +kernel
theorem dX11_findSteps_234 : decode cX11_findSteps 234 = .ok (.iload_n 3, 1) := by decide +kernel
theorem dX11_findSteps_235 : decode cX11_findSteps 235 = .ok (.iadd, 1) := by decide +kernel
theorem dX11_findSteps_236 : decode cX11_findSteps 236 = .ok (.iaload, 1) := by decide +kernel
theorem dX11_findSteps_237 : decode cX11_findSteps 237 = .ok (.istore 4, 2) := by decide +kernel
theorem dX11_findSteps_239 : decode cX11_findSteps 239 = .ok (.iload_n 2, 1) := by decide +kernel
theorem dX11_findSteps_240 : decode cX11_findSteps 240 = .ok (.ifCond .le 86, 3) := by decide +kernel
theorem dX11_findSteps_243 : decode cX11_findSteps 243 = .ok (.iload_n 3, 1) := by decide +kernel
theorem dX11_findSteps_244 : decode cX11_findSteps 244 = .ok (.ifCond .le 82, 3) := by decide +kernel
theorem dX11_findSteps_247 : decode cX11_findSteps 247 = .ok (.aload_n 0, 1) := by decide +kernel
theorem dX11_findSteps_248 : decode cX11_findSteps 248 = .ok (.getfield 88, 3) := by decide +kernel
theorem dX11_findSteps_251 : decode cX11_findSteps 251 = .ok (.sipush 401, 3) := by decide +kernel
theorem dX11_findSteps_254 : decode cX11_findSteps 254 = .ok (.iload_n 2, 1) := by decide +kernel
theorem dX11_findSteps_255 : decode cX11_findSteps 255 = .ok (.iconst 1, 1) := by decide +kernel
theorem dX11_findSteps_256 : decode cX11_findSteps 256 = .ok (.isub, 1) := by decide +kernel
theorem dX11_findSteps_257 : decode cX11_findSteps 257 = .ok (.imul, 1) := by decide +kernel
theorem dX11_findSteps_258 : decode cX11_findSteps 258 = .ok (.iload_n 3, 1) := by decide +kernel
theorem dX11_findSteps_259 : decode cX11_findSteps 259 = .ok (.iadd, 1) := by decide +kernel
theorem dX11_findSteps_260 : decode cX11_findSteps 260 = .ok (.iconst 1, 1) := by decide +kernel
theorem dX11_findSteps_261 : decode cX11_findSteps 261 = .ok (.isub, 1) := by decide +kernel
theorem dX11_findSteps_262 : decode cX11_findSteps 262 = .ok (.iaload, 1) := by decide +kernel
theorem dX11_findSteps_263 : decode cX11_findSteps 263 = .ok (.aload_n 0, 1) := by decide +kernel
theorem dX11_findSteps_264 : decode cX11_findSteps 264 = .ok (.iload_n 2, 1) := by decide +kernel
theorem dX11_findSteps_265 : decode cX11_findSteps 265 = .ok (.iconst 1, 1) := by decide +kernel
theorem dX11_findSteps_266 : decode cX11_findSteps 266 = .ok (.isub, 1) := by decide +kernel
theorem dX11_findSteps_267 : decode cX11_findSteps 267 = .ok (.aload_n 0, 1) := by decide +kernel
theorem dX11_findSteps_268 : decode cX11_findSteps 268 = .ok (.getfield 48, 3) := by decide +kernel
theorem dX11_findSteps_271 : decode cX11_findSteps 271 = .ok (.iload_n 3, 1) := by decide +kernel
theorem dX11_findSteps_272 : decode cX11_findSteps 272 = .ok (.iconst 1, 1) := by decide +kernel
theorem dX11_findSteps_273 : decode cX11_findSteps 273 = .ok (.isub, 1) := by decide +kernel
theorem dX11_findSteps_274 : decode cX11_findSteps 274 = .ok (.iaload, 1) := by decide +kernel
theorem dX11_findSteps_275 : decode cX11_findSteps 275 = .ok (.invokevirtual 178, 3) := by decide +kernel
theorem dX11_findSteps_278 : decode cX11_findSteps 278 = .ok (.ifCond .eq 7, 3) := by decide +kernel
theorem dX11_findSteps_281 : decode cX11_findSteps 281 = .ok (.iconst 0, 1) := by decide +kernel
theorem dX11_findSteps_282 : decode cX11_findSteps 282 = .ok (.goto 4, 3) := by decide +kernel
theorem dX11_findSteps_285 : decode cX11_findSteps 285 = .ok (.iconst 1, 1) := by decide +kernel
theorem dX11_findSteps_286 : decode cX11_findSteps 286 = .ok (.iadd, 1) := by decide +kernel
theorem dX11_findSteps_287 : decode cX11_findSteps 287 = .ok (.iload 4, 2) := by decide +kernel
theorem dX11_findSteps_289 : decode cX11_findSteps 289 = .ok (.if_icmp .ne 37, 3) := by decide +kernel
theorem dX11_findSteps_292 : decode cX11_findSteps 292 = .ok (.aload_n 0, 1) := by decide +kernel
theorem dX11_findSteps_293 : decode cX11_findSteps 293 = .ok (.iload_n 2, 1) := by decide +kernel
theorem dX11_findSteps_294 : decode cX11_findSteps 294 = .ok (.iconst 1, 1) := by decide +kernel
theorem dX11_findSteps_295 : decode cX11_findSteps 295 = .ok (.isub, 1) := by decide +kernel
theorem dX11_findSteps_296 : decode cX11_findSteps 296 = .ok (.aload_n 0, 1) := by decide +kernel
theorem dX11_findSteps_297 : decode cX11_findSteps 297 = .ok (.getfield 48, 3) := by decide +kernel
theorem dX11_findSteps_300 : decode cX11_findSteps 300 = .ok (.iload_n 3, 1) := by decide +kernel
theorem dX11_findSteps_301 : decode cX11_findSteps 301 = .ok (.iconst 1, 1) := by decide +kernel
theorem dX11_findSteps_302 : decode cX11_findSteps 302 = .ok (.isub, 1) := by decide +kernel
theorem dX11_findSteps_303 : decode cX11_findSteps 303 = .ok (.iaload, 1) := by decide +kernel
theorem dX11_findSteps_304 : decode cX11_findSteps 304 = .ok (.invokevirtual 178, 3) := by decide +kernel
theorem dX11_findSteps_307 : decode cX11_findSteps 307 = .ok (.ifCond .eq 7, 3) := by decide +kernel
theorem dX11_findSteps_310 : decode cX11_findSteps 310 = .ok (.iconst 0, 1) := by decide +kernel
theorem dX11_findSteps_311 : decode cX11_findSteps 311 = .ok (.goto 4, 3) := by decide +kernel
theorem dX11_findSteps_314 : decode cX11_findSteps 314 = .ok (.iconst 1, 1) := by decide +kernel
theorem dX11_findSteps_315 : decode cX11_findSteps 315 = .ok (.istore 5, 2) := by decide +kernel
theorem dX11_findSteps_317 : decode cX11_findSteps 317 = .ok (.iinc 2 (-1), 3) := by decide +kernel
theorem dX11_findSteps_320 : decode cX11_findSteps 320 = .ok (.iinc 3 (-1), 3) := by decide +kernel
theorem dX11_findSteps_323 : decode cX11_findSteps 323 = .ok (.goto 131, 3) := by decide +kernel
theorem dX11_findSteps_326 : decode cX11_findSteps 326 = .ok (.aload_n 0, 1) := by decide +kernel
theorem dX11_findSteps_327 : decode cX11_findSteps 327 = .ok (.getfield 185, 3) := by decide +kernel
theorem dX11_findSteps_330 : decode cX11_findSteps 330 = .ok (.ifCond .eq 84, 3) := by decide +kernel
theorem dX11_findSteps_333 : decode cX11_findSteps 333 = .ok (.iload_n 2, 1) := by decide +kernel
theorem dX11_findSteps_334 : decode cX11_findSteps 334 = .ok (.iconst 1, 1) := by decide +kernel
theorem dX11_findSteps_335 : decode cX11_findSteps 335 = .ok (.if_icmp .le 79, 3) := by decide +kernel
theorem dX11_findSteps_338 : decode cX11_findSteps 338 = .ok (.iload_n 3, 1) := by decide +kernel
theorem dX11_findSteps_339 : decode cX11_findSteps 339 = .ok (.iconst 1, 1) := by decide +kernel
theorem dX11_findSteps_340 : decode cX11_findSteps 340 = .ok (.if_icmp .le 74, 3) := by decide +kernel
theorem dX11_findSteps_343 : decode cX11_findSteps 343 = .ok (.aload_n 0, 1) := by decide +kernel
theorem dX11_findSteps_344 : decode cX11_findSteps 344 = .ok (.iload_n 2, 1) := by decide +kernel
theorem dX11_findSteps_345 : decode cX11_findSteps 345 = .ok (.iconst 2, 1) := by decide +kernel
theorem dX11_findSteps_346 : decode cX11_findSteps 346 = .ok (.isub, 1) := by decide +kernel
theorem dX11_findSteps_347 : decode cX11_findSteps 347 = .ok (.aload_n 0, 1) := by decide +kernel
theorem dX11_findSteps_348 : decode cX11_findSteps 348 = .ok (.getfield 48, 3) := by decide +kernel
theorem dX11_findSteps_351 : decode cX11_findSteps 351 = .ok (.iload_n 3, 1) := by decide +kernel
theorem dX11_findSteps_352 : decode cX11_findSteps 352 = .ok (.iconst 1, 1) := by decide +kernel
theorem dX11_findSteps_353 : decode cX11_findSteps 353 = .ok (.isub, 1) := by decide +kernel
theorem dX11_findSteps_354 : decode cX11_findSteps 354 = .ok (.iaload, 1) := by decide +kernel
theorem dX11_findSteps_355 : decode cX11_findSteps 355 = .ok (.invokevirtual 178, 3) := by decide +kernel
theorem dX11_findSteps_358 : decode cX11_findSteps 358 = .ok (.ifCond .eq 56, 3) := by decide +kernel
theorem dX11_findSteps_361 : decode cX11_findSteps 361 = .ok (.aload_n 0, 1) := by decide +kernel
theorem dX11_findSteps_362 : decode cX11_findSteps 362 = .ok (.iload_n 2, 1) := by decide +kernel
theorem dX11_findSteps_363 : decode cX11_findSteps 363 = .ok (.iconst 1, 1) := by decide +kernel
theorem dX11_findSteps_364 : decode cX11_findSteps 364 = .ok (.isub, 1) := by decide +kernel
theorem dX11_findSteps_365 : decode cX11_findSteps 365 = .ok (.aload_n 0, 1) := by decide +kernel
theorem dX11_findSteps_366 : decode cX11_findSteps 366 = .ok (.getfield 48, 3) := by decide +kernel
theorem dX11_findSteps_369 : decode cX11_findSteps 369 = .ok (.iload_n 3, 1) := by decide +kernel
theorem dX11_findSteps_370 : decode cX11_findSteps 370 = .ok (.iconst 2, 1) := by decide +kernel
theorem dX11_findSteps_371 : decode cX11_findSteps 371 = .ok (.isub, 1) := by decide +kernel
theorem dX11_findSteps_372 : decode cX11_findSteps 372 = .ok (.iaload, 1) := by decide +kernel
theorem dX11_findSteps_373 : decode cX11_findSteps 373 = .ok (.invokevirtual 178, 3) := by decide +kernel
theorem dX11_findSteps_376 : decode cX11_findSteps 376 = .ok (.ifCond .eq 38, 3) := by decide +kernel
theorem dX11_findSteps_379 : decode cX11_findSteps 379 = .ok (.aload_n 0, 1) := by decide +kernel
theorem dX11_findSteps_380 : decode cX11_findSteps 380 = .ok (.getfield 88, 3) := by decide +kernel
theorem dX11_findSteps_383 : decode cX11_findSteps 383 = .ok (.sipush 401, 3) := by decide +kernel
theorem dX11_findSteps_386 : decode cX11_findSteps 386 = .ok (.iload_n 2, 1) := by decide +kernel
theorem dX11_findSteps_387 : decode cX11_findSteps 387 = .ok (.iconst 2, 1) := by decide +kernel
theorem dX11_findSteps_388 : decode cX11_findSteps 388 = .ok (.isub, 1) := by decide +kernel
theorem dX11_findSteps_389 : decode cX11_findSteps 389 = .ok (.imul, 1) := by decide +kernel
theorem dX11_findSteps_390 : decode cX11_findSteps 390 = .ok (.iload_n 3, 1) := by decide +kernel
theorem dX11_findSteps_391 : decode cX11_findSteps 391 = .ok (.iadd, 1) := by decide +kernel
theorem dX11_findSteps_392 : decode cX11_findSteps 392 = .ok (.iconst 2, 1) := by decide +kernel
theorem dX11_findSteps_393 : decode cX11_findSteps 393 = .ok (.isub, 1) := by decide +kernel
theorem dX11_findSteps_394 : decode cX11_findSteps 394 = .ok (.iaload, 1) := by decide +kernel
theorem dX11_findSteps_395 : decode cX11_findSteps 395 = .ok (.iconst 1, 1) := by decide +kernel
theorem dX11_findSteps_396 : decode cX11_findSteps 396 = .ok (.iadd, 1) := by decide +kernel
theorem dX11_findSteps_397 : decode cX11_findSteps 397 = .ok (.iload 4, 2) := by decide +kernel
theorem dX11_findSteps_399 : decode cX11_findSteps 399 = .ok (.if_icmp .ne 15, 3) := by decide +kernel
theorem dX11_findSteps_402 : decode cX11_findSteps 402 = .ok (.iconst 4, 1) := by decide +kernel
theorem dX11_findSteps_403 : decode cX11_findSteps 403 = .ok (.istore 5, 2) := by decide +kernel
theorem dX11_findSteps_405 : decode cX11_findSteps 405 = .ok (.iinc 2 (-2), 3) := by decide +kernel
theorem dX11_findSteps_408 : decode cX11_findSteps 408 = .ok (.iinc 3 (-2), 3) := by decide +kernel
theorem dX11_findSteps_411 : decode cX11_findSteps 411 = .ok (.goto 43, 3) := by decide +kernel
theorem dX11_findSteps_414 : decode cX11_findSteps 414 = .ok (.iload_n 3, 1) := by decide +kernel
theorem dX11_findSteps_415 : decode cX11_findSteps 415 = .ok (.ifCond .le 33, 3) := by decide +kernel
theorem dX11_findSteps_418 : decode cX11_findSteps 418 = .ok (.aload_n 0, 1) := by decide +kernel
theorem dX11_findSteps_419 : decode cX11_findSteps 419 = .ok (.getfield 88, 3) := by decide +kernel
theorem dX11_findSteps_422 : decode cX11_findSteps 422 = .ok (.sipush 401, 3) := by decide +kernel
theorem dX11_findSteps_425 : decode cX11_findSteps 425 = .ok (.iload_n 2, 1) := by decide +kernel
theorem dX11_findSteps_426 : decode cX11_findSteps 426 = .ok (.imul, 1) := by decide +kernel
theorem dX11_findSteps_427 : decode cX11_findSteps 427 = .ok (.iload_n 3, 1) := by decide +kernel
theorem dX11_findSteps_428 : decode cX11_findSteps 428 = .ok (.iadd, 1) := by decide +kernel
theorem dX11_findSteps_429 : decode cX11_findSteps 429 = .ok (.iconst 1, 1) := by decide +kernel
theorem dX11_findSteps_430 : decode cX11_findSteps 430 = .ok (.isub, 1) := by decide +kernel
theorem dX11_findSteps_431 : decode cX11_findSteps 431 = .ok (.iaload, 1) := by decide +kernel
theorem dX11_findSteps_432 : decode cX11_findSteps 432 = .ok (.iconst 1, 1) := by decide +kernel
theorem dX11_findSteps_433 : decode cX11_findSteps 433 = .ok (.iadd, 1) := by decide +kernel
theorem dX11_findSteps_434 : decode cX11_findSteps 434 = .ok (.iload 4, 2) := by decide +kernel
theorem dX11_findSteps_436 : decode cX11_findSteps 436 = .ok (.if_icmp .ne 12, 3) := by decide +kernel
theorem dX11_findSteps_439 : decode cX11_findSteps 439 = .ok (.iconst 2, 1) := by decide +kernel
theorem dX11_findSteps_440 : decode cX11_findSteps 440 = .ok (.istore 5, 2) := by decide +kernel
theorem dX11_findSteps_442 : decode cX11_findSteps 442 = .ok (.iinc 3 (-1), 3) := by decide +kernel
theorem dX11_findSteps_445 : decode cX11_findSteps 445 = .ok (.goto 9, 3) := by decide +kernel
theorem dX11_findSteps_448 : decode cX11_findSteps 448 = .ok (.iconst 3, 1) := by decide +kernel
theorem dX11_findSteps_449 : decode cX11_findSteps 449 = .ok (.istore 5, 2) := by decide +kernel
theorem dX11_findSteps_451 : decode cX11_findSteps 451 = .ok (.iinc 2 (-1), 3) := by decide +kernel
theorem dX11_findSteps_454 : decode cX11_findSteps 454 = .ok (.aload_n 0, 1) := by decide +kernel
theorem dX11_findSteps_455 : decode cX11_findSteps 455 = .ok (.getfield 91, 3) := by decide +kernel
theorem dX11_findSteps_458 : decode cX11_findSteps 458 = .ok (.aload_n 0, 1) := by decide +kernel
theorem dX11_findSteps_459 : decode cX11_findSteps 459 = .ok (.getfield 214, 3) := by decide +kernel
theorem dX11_findSteps_462 : decode cX11_findSteps 462 = .ok (.iload 5, 2) := by decide +kernel
theorem dX11_findSteps_464 : decode cX11_findSteps 464 = .ok (.iastore, 1) := by decide +kernel
theorem dX11_findSteps_465 : decode cX11_findSteps 465 = .ok (.aload_n 0, 1) := by decide +kernel
theorem dX11_findSteps_466 : decode cX11_findSteps 466 = .ok (.dup, 1) := by decide +kernel
theorem dX11_findSteps_467 : decode cX11_findSteps 467 = .ok (.getfield 214, 3) := by decide +kernel
theorem dX11_findSteps_470 : decode cX11_findSteps 470 = .ok (.iconst 1, 1) := by decide +kernel
theorem dX11_findSteps_471 : decode cX11_findSteps 471 = .ok (.iadd, 1) := by decide +kernel
theorem dX11_findSteps_472 : decode cX11_findSteps 472 = .ok (.putfield 214, 3) := by decide +kernel
theorem dX11_findSteps_475 : decode cX11_findSteps 475 = .ok (.goto (-258), 3) := by decide +kernel
theorem dX11_findSteps_478 : decode cX11_findSteps 478 = .ok (.return_, 1) := by decide +kernel
theorem dX11_hit_0 : decode cX11_hit 0 = .ok (.iload_n 1, 1) := by decide +kernel
theorem dX11_hit_1 : decode cX11_hit 1 = .ok (.iconst 0, 1) := by decide +kernel
theorem dX11_hit_2 : decode cX11_hit 2 = .ok (.aload_n 0, 1) := by decide +kernel
theorem dX11_hit_3 : decode cX11_hit 3 = .ok (.getfield 205, 3) := by decide +kernel
theorem dX11_hit_6 : decode cX11_hit 6 = .ok (.iconst 1, 1) := by decide +kernel
theorem dX11_hit_7 : decode cX11_hit 7 = .ok (.isub, 1) := by decide +kernel
theorem dX11_hit_8 : decode cX11_hit 8 = .ok (.invokestatic 100, 3) := by decide +kernel
theorem dX11_hit_11 : decode cX11_hit 11 = .ok (.ifCond .eq 12, 3) := by decide +kernel
theorem dX11_hit_14 : decode cX11_hit 14 = .ok (.iload_n 2, 1) := by decide +kernel
theorem dX11_hit_15 : decode cX11_hit 15 = .ok (.iconst 0, 1) := by decide +kernel
theorem dX11_hit_16 : decode cX11_hit 16 = .ok (.iconst 3, 1) := by decide +kernel
theorem dX11_hit_17 : decode cX11_hit 17 = .ok (.invokestatic 100, 3) := by decide +kernel
theorem dX11_hit_20 : decode cX11_hit 20 = .ok (.ifCond .ne 6, 3) := by decide +kernel
theorem dX11_hit_23 : decode cX11_hit 23 = .ok (.bipush (-2), 2) := by decide +kernel
theorem dX11_hit_25 : decode cX11_hit 25 = .ok (.ireturn, 1) := by decide +kernel
theorem dX11_hit_26 : decode cX11_hit 26 = .ok (.iload_n 2, 1) := by decide +kernel
theorem dX11_hit_27 : decode cX11_hit 27 = .ok (.iconst 3, 1) := by decide +kernel
theorem dX11_hit_28 : decode cX11_hit 28 = .ok (.if_icmp .ne 13, 3) := by decide +kernel
theorem dX11_hit_31 : decode cX11_hit 31 = .ok (.aload_n 0, 1) := by decide +kernel
theorem dX11_hit_32 : decode cX11_hit 32 = .ok (.iload_n 1, 1) := by decide +kernel
theorem dX11_hit_33 : decode cX11_hit 33 = .ok (.invokevirtual 217, 3) := by decide +kernel
theorem dX11_hit_36 : decode cX11_hit 36 = .ok (.aload_n 0, 1) := by decide +kernel
theorem dX11_hit_37 : decode cX11_hit 37 = .ok (.getfield 214, 3) := by decide +kernel
theorem dX11_hit_40 : decode cX11_hit 40 = .ok (.ireturn, 1) := by decide +kernel
theorem dX11_hit_41 : decode cX11_hit 41 = .ok (.iload_n 2, 1) := by decide +kernel
theorem dX11_hit_42 : decode cX11_hit 42 = .ok (.ifCond .ne 12, 3) := by decide +kernel
theorem dX11_hit_45 : decode cX11_hit 45 = .ok (.aload_n 0, 1) := by decide +kernel
theorem dX11_hit_46 : decode cX11_hit 46 = .ok (.getfield 69, 3) := by decide +kernel
theorem dX11_hit_49 : decode cX11_hit 49 = .ok (.iload_n 1, 1) := by decide +kernel
theorem dX11_hit_50 : decode cX11_hit 50 = .ok (.iaload, 1) := by decide +kernel
theorem dX11_hit_51 : decode cX11_hit 51 = .ok (.goto 23, 3) := by decide +kernel
theorem dX11_hit_54 : decode cX11_hit 54 = .ok (.iload_n 2, 1) := by decide +kernel
theorem dX11_hit_55 : decode cX11_hit 55 = .ok (.iconst 1, 1) := by decide +kernel
theorem dX11_hit_56 : decode cX11_hit 56 = .ok (.if_icmp .ne 12, 3) := by decide +kernel
theorem dX11_hit_59 : decode cX11_hit 59 = .ok (.aload_n 0, 1) := by decide +kernel
theorem dX11_hit_60 : decode cX11_hit 60 = .ok (.getfield 72, 3) := by decide +kernel
theorem dX11_hit_63 : decode cX11_hit 63 = .ok (.iload_n 1, 1) := by decide +kernel
theorem dX11_hit_64 : decode cX11_hit 64 = .ok (.iaload, 1) := by decide +kernel
theorem dX11_hit_65 : decode cX11_hit 65 = .ok (.goto 9, 3) := by decide +kernel
theorem dX11_hit_68 : decode cX11_hit 68 = .ok (.aload_n 0, 1) := by decide +kernel
theorem dX11_hit_69 : decode cX11_hit 69 = .ok (.getfield 75, 3) := by decide +kernel
theorem dX11_hit_72 : decode cX11_hit 72 = .ok (.iload_n 1, 1) := by decide +kernel
theorem dX11_hit_73 : decode cX11_hit 73 = .ok (.iaload, 1) := by decide +kernel
theorem dX11_hit_74 : decode cX11_hit 74 = .ok (.ireturn, 1) := by decide +kernel
theorem dX11_step_0 : decode cX11_step 0 = .ok (.iload_n 1, 1) := by decide +kernel
theorem dX11_step_1 : decode cX11_step 1 = .ok (.iconst 0, 1) := by decide +kernel
theorem dX11_step_2 : decode cX11_step 2 = .ok (.aload_n 0, 1) := by decide +kernel
theorem dX11_step_3 : decode cX11_step 3 = .ok (.getfield 205, 3) := by decide +kernel
theorem dX11_step_6 : decode cX11_step 6 = .ok (.iconst 1, 1) := by decide +kernel
theorem dX11_step_7 : decode cX11_step 7 = .ok (.isub, 1) := by decide +kernel
theorem dX11_step_8 : decode cX11_step 8 = .ok (.invokestatic 100, 3) := by decide +kernel
theorem dX11_step_11 : decode cX11_step 11 = .ok (.ifCond .ne 6, 3) := by decide +kernel
theorem dX11_step_14 : decode cX11_step 14 = .ok (.bipush (-2), 2) := by decide +kernel
theorem dX11_step_16 : decode cX11_step 16 = .ok (.ireturn, 1) := by decide +kernel
theorem dX11_step_17 : decode cX11_step 17 = .ok (.aload_n 0, 1) := by decide +kernel
theorem dX11_step_18 : decode cX11_step 18 = .ok (.iload_n 1, 1) := by decide +kernel
theorem dX11_step_19 : decode cX11_step 19 = .ok (.invokevirtual 217, 3) := by decide +kernel
theorem dX11_step_22 : decode cX11_step 22 = .ok (.iload_n 2, 1) := by decide +kernel
theorem dX11_step_23 : decode cX11_step 23 = .ok (.iconst 0, 1) := by decide +kernel
theorem dX11_step_24 : decode cX11_step 24 = .ok (.aload_n 0, 1) := by decide +kernel
theorem dX11_step_25 : decode cX11_step 25 = .ok (.getfield 214, 3) := by decide +kernel
theorem dX11_step_28 : decode cX11_step 28 = .ok (.iconst 1, 1) := by decide +kernel
theorem dX11_step_29 : decode cX11_step 29 = .ok (.isub, 1) := by decide +kernel
theorem dX11_step_30 : decode cX11_step 30 = .ok (.invokestatic 100, 3) := by decide +kernel
theorem dX11_step_33 : decode cX11_step 33 = .ok (.ifCond .eq 19, 3) := by decide +kernel
theorem dX11_step_36 : decode cX11_step 36 = .ok (.aload_n 0, 1) := by decide +kernel
theorem dX11_step_37 : decode cX11_step 37 = .ok (.getfield 91, 3) := by decide +kernel
theorem dX11_step_40 : decode cX11_step 40 = .ok (.aload_n 0, 1) := by decide +kernel
theorem dX11_step_41 : decode cX11_step 41 = .ok (.getfield 214, 3) := by decide +kernel
theorem dX11_step_44 : decode cX11_step 44 = .ok (.iconst 1, 1) := by decide +kernel
theorem dX11_step_45 : decode cX11_step 45 = .ok (.isub, 1) := by decide +kernel
theorem dX11_step_46 : decode cX11_step 46 = .ok (.iload_n 2, 1) := by decide +kernel
theorem dX11_step_47 : decode cX11_step 47 = .ok (.isub, 1) := by decide +kernel
theorem dX11_step_48 : decode cX11_step 48 = .ok (.iaload, 1) := by decide +kernel
theorem dX11_step_49 : decode cX11_step 49 = .ok (.goto 4, 3) := by decide +kernel
theorem dX11_step_52 : decode cX11_step 52 = .ok (.iconst (-1), 1) := by decide +kernel
theorem dX11_step_53 : decode cX11_step 53 = .ok (.ireturn, 1) := by decide +kernel
theorem dX11_nearest_0 : decode cX11_nearest 0 = .ok (.aload_n 0, 1) := by decide +kernel
theorem dX11_nearest_1 : decode cX11_nearest 1 = .ok (.iload_n 1, 1) := by decide +kernel
theorem dX11_nearest_2 : decode cX11_nearest 2 = .ok (.invokevirtual 156, 3) := by decide +kernel
theorem dX11_nearest_5 : decode cX11_nearest 5 = .ok (.ifCond .eq 12, 3) := by decide +kernel
theorem dX11_nearest_8 : decode cX11_nearest 8 = .ok (.iload_n 3, 1) := by decide +kernel
theorem dX11_nearest_9 : decode cX11_nearest 9 = .ok (.iconst 0, 1) := by decide +kernel
theorem dX11_nearest_10 : decode cX11_nearest 10 = .ok (.iconst 1, 1) := by decide +kernel
theorem dX11_nearest_11 : decode cX11_nearest 11 = .ok (.invokestatic 100, 3) := by decide +kernel
theorem dX11_nearest_14 : decode cX11_nearest 14 = .ok (.ifCond .ne 6, 3) := by decide +kernel
theorem dX11_nearest_17 : decode cX11_nearest 17 = .ok (.bipush (-2), 2) := by decide +kernel
theorem dX11_nearest_19 : decode cX11_nearest 19 = .ok (.ireturn, 1) := by decide +kernel
theorem dX11_nearest_20 : decode cX11_nearest 20 = .ok (.aload_n 0, 1) := by decide +kernel
theorem dX11_nearest_21 : decode cX11_nearest 21 = .ok (.getfield 162, 3) := by decide +kernel
theorem dX11_nearest_24 : decode cX11_nearest 24 = .ok (.ifCond .ne 5, 3) := by decide +kernel
theorem dX11_nearest_27 : decode cX11_nearest 27 = .ok (.iconst (-1), 1) := by decide +kernel
theorem dX11_nearest_28 : decode cX11_nearest 28 = .ok (.ireturn, 1) := by decide +kernel
theorem dX11_nearest_29 : decode cX11_nearest 29 = .ok (.aload_n 0, 1) := by decide +kernel
theorem dX11_nearest_30 : decode cX11_nearest 30 = .ok (.iload_n 1, 1) := by decide +kernel
theorem dX11_nearest_31 : decode cX11_nearest 31 = .ok (.invokevirtual 199, 3) := by decide +kernel
theorem dX11_nearest_34 : decode cX11_nearest 34 = .ok (.aload_n 0, 1) := by decide +kernel
theorem dX11_nearest_35 : decode cX11_nearest 35 = .ok (.iconst 0, 1) := by decide +kernel
theorem dX11_nearest_36 : decode cX11_nearest 36 = .ok (.aload_n 0, 1) := by decide +kernel
theorem dX11_nearest_37 : decode cX11_nearest 37 = .ok (.getfield 162, 3) := by decide +kernel
theorem dX11_nearest_40 : decode cX11_nearest 40 = .ok (.invokevirtual 202, 3) := by decide +kernel
theorem dX11_nearest_43 : decode cX11_nearest 43 = .ok (.aload_n 0, 1) := by decide +kernel
theorem dX11_nearest_44 : decode cX11_nearest 44 = .ok (.iload_n 2, 1) := by decide +kernel
theorem dX11_nearest_45 : decode cX11_nearest 45 = .ok (.putfield 185, 3) := by decide +kernel
theorem dX11_nearest_48 : decode cX11_nearest 48 = .ok (.sipush 10000, 3) := by decide +kernel
theorem dX11_nearest_51 : decode cX11_nearest 51 = .ok (.istore 4, 2) := by decide +kernel
theorem dX11_nearest_53 : decode cX11_nearest 53 = .ok (.iconst 0, 1) := by decide +kernel
theorem dX11_nearest_54 : decode cX11_nearest 54 = .ok (.istore 5, 2) := by decide +kernel
theorem dX11_nearest_56 : decode cX11_nearest 56 = .ok (.aload_n 0, 1) := by decide +kernel
theorem dX11_nearest_57 : decode cX11_nearest 57 = .ok (.invokevirtual 189, 3) := by decide +kernel
theorem dX11_nearest_60 : decode cX11_nearest 60 = .ok (.iconst 0, 1) := by decide +kernel
theorem dX11_nearest_61 : decode cX11_nearest 61 = .ok (.istore 6, 2) := by decide +kernel
theorem dX11_nearest_63 : decode cX11_nearest 63 = .ok (.iload 6, 2) := by decide +kernel
theorem dX11_nearest_65 : decode cX11_nearest 65 = .ok (.aload_n 0, 1) := by decide +kernel
theorem dX11_nearest_66 : decode cX11_nearest 66 = .ok (.getfield 175, 3) := by decide +kernel
theorem dX11_nearest_69 : decode cX11_nearest 69 = .ok (.if_icmp .ge 47, 3) := by decide +kernel
theorem dX11_nearest_72 : decode cX11_nearest 72 = .ok (.aload_n 0, 1) := by decide +kernel
theorem dX11_nearest_73 : decode cX11_nearest 73 = .ok (.iload 6, 2) := by decide +kernel
theorem dX11_nearest_75 : decode cX11_nearest 75 = .ok (.iconst 1, 1) := by decide +kernel
theorem dX11_nearest_76 : decode cX11_nearest 76 = .ok (.invokevirtual 192, 3) := by decide +kernel
theorem dX11_nearest_79 : decode cX11_nearest 79 = .ok (.aload_n 0, 1) := by decide +kernel
theorem dX11_nearest_80 : decode cX11_nearest 80 = .ok (.getfield 51, 3) := by decide +kernel
theorem dX11_nearest_83 : decode cX11_nearest 83 = .ok (.aload_n 0, 1) := by decide +kernel
theorem dX11_nearest_84 : decode cX11_nearest 84 = .ok (.getfield 172, 3) := by decide +kernel
theorem dX11_nearest_87 : decode cX11_nearest 87 = .ok (.iaload, 1) := by decide +kernel
theorem dX11_nearest_88 : decode cX11_nearest 88 = .ok (.iload 4, 2) := by decide +kernel
theorem dX11_nearest_90 : decode cX11_nearest 90 = .ok (.if_icmp .ge 20, 3) := by decide +kernel
theorem dX11_nearest_93 : decode cX11_nearest 93 = .ok (.aload_n 0, 1) := by decide +kernel
theorem dX11_nearest_94 : decode cX11_nearest 94 = .ok (.getfield 51, 3) := by decide +kernel
theorem dX11_nearest_97 : decode cX11_nearest 97 = .ok (.aload_n 0, 1) := by decide +kernel
theorem dX11_nearest_98 : decode cX11_nearest 98 = .ok (.getfield 172, 3) := by decide +kernel
theorem dX11_nearest_101 : decode cX11_nearest 101 = .ok (.iaload, 1) := by decide +kernel
theorem dX11_nearest_102 : decode cX11_nearest 102 = .ok (.istore 4, 2) := by decide +kernel
theorem dX11_nearest_104 : decode cX11_nearest 104 = .ok (.iload 6, 2) := by decide +kernel
theorem dX11_nearest_106 : decode cX11_nearest 106 = .ok (.iconst 1, 1) := by decide +kernel
theorem dX11_nearest_107 : decode cX11_nearest 107 = .ok (.iadd, 1) := by decide +kernel
theorem dX11_nearest_108 : decode cX11_nearest 108 = .ok (.istore 5, 2) := by decide +kernel
theorem dX11_nearest_110 : decode cX11_nearest 110 = .ok (.iinc 6 1, 3) := by decide +kernel
theorem dX11_nearest_113 : decode cX11_nearest 113 = .ok (.goto (-50), 3) := by decide +kernel
theorem dX11_nearest_116 : decode cX11_nearest 116 = .ok (.iload_n 3, 1) := by decide +kernel
theorem dX11_nearest_117 : decode cX11_nearest 117 = .ok (.ifCond .ne 8, 3) := by decide +kernel
theorem dX11_nearest_120 : decode cX11_nearest 120 = .ok (.iload 4, 2) := by decide +kernel
theorem dX11_nearest_122 : decode cX11_nearest 122 = .ok (.goto 5, 3) := by decide +kernel
theorem dX11_nearest_125 : decode cX11_nearest 125 = .ok (.iload 5, 2) := by decide +kernel
theorem dX11_nearest_127 : decode cX11_nearest 127 = .ok (.ireturn, 1) := by decide +kernel
theorem dX11_lines_0 : decode cX11_lines 0 = .ok (.aload_n 0, 1) := by decide +kernel
theorem dX11_lines_1 : decode cX11_lines 1 = .ok (.iload_n 1, 1) := by decide +kernel
theorem dX11_lines_2 : decode cX11_lines 2 = .ok (.invokevirtual 156, 3) := by decide +kernel
theorem dX11_lines_5 : decode cX11_lines 5 = .ok (.ifCond .eq 10, 3) := by decide +kernel
theorem dX11_lines_8 : decode cX11_lines 8 = .ok (.iload_n 2, 1) := by decide +kernel
theorem dX11_lines_9 : decode cX11_lines 9 = .ok (.invokestatic 196, 3) := by decide +kernel
theorem dX11_lines_12 : decode cX11_lines 12 = .ok (.ifCond .ne 6, 3) := by decide +kernel
theorem dX11_lines_15 : decode cX11_lines 15 = .ok (.bipush (-2), 2) := by decide +kernel
theorem dX11_lines_17 : decode cX11_lines 17 = .ok (.ireturn, 1) := by decide +kernel
theorem dX11_lines_18 : decode cX11_lines 18 = .ok (.aload_n 0, 1) := by decide +kernel
theorem dX11_lines_19 : decode cX11_lines 19 = .ok (.iload_n 1, 1) := by decide +kernel
theorem dX11_lines_20 : decode cX11_lines 20 = .ok (.invokevirtual 199, 3) := by decide +kernel
theorem dX11_lines_23 : decode cX11_lines 23 = .ok (.aload_n 0, 1) := by decide +kernel
theorem dX11_lines_24 : decode cX11_lines 24 = .ok (.iload_n 3, 1) := by decide +kernel
theorem dX11_lines_25 : decode cX11_lines 25 = .ok (.putfield 185, 3) := by decide +kernel
theorem dX11_lines_28 : decode cX11_lines 28 = .ok (.aload_n 0, 1) := by decide +kernel
theorem dX11_lines_29 : decode cX11_lines 29 = .ok (.iconst 0, 1) := by decide +kernel
theorem dX11_lines_30 : decode cX11_lines 30 = .ok (.putfield 220, 3) := by decide +kernel
theorem dX11_lines_33 : decode cX11_lines 33 = .ok (.iconst 0, 1) := by decide +kernel
theorem dX11_lines_34 : decode cX11_lines 34 = .ok (.istore 4, 2) := by decide +kernel
theorem dX11_lines_36 : decode cX11_lines 36 = .ok (.iconst 0, 1) := by decide +kernel
theorem dX11_lines_37 : decode cX11_lines 37 = .ok (.istore 5, 2) := by decide +kernel
theorem dX11_lines_39 : decode cX11_lines 39 = .ok (.iconst 0, 1) := by decide +kernel
theorem dX11_lines_40 : decode cX11_lines 40 = .ok (.istore 6, 2) := by decide +kernel
theorem dX11_lines_42 : decode cX11_lines 42 = .ok (.iload 6, 2) := by decide +kernel
theorem dX11_lines_44 : decode cX11_lines 44 = .ok (.aload_n 0, 1) := by decide +kernel
theorem dX11_lines_45 : decode cX11_lines 45 = .ok (.getfield 162, 3) := by decide +kernel
theorem dX11_lines_48 : decode cX11_lines 48 = .ok (.if_icmp .gt 77, 3) := by decide +kernel
theorem dX11_lines_51 : decode cX11_lines 51 = .ok (.iload 6, 2) := by decide +kernel
theorem dX11_lines_53 : decode cX11_lines 53 = .ok (.aload_n 0, 1) := by decide +kernel
theorem dX11_lines_54 : decode cX11_lines 54 = .ok (.getfield 162, 3) := by decide +kernel
theorem dX11_lines_57 : decode cX11_lines 57 = .ok (.if_icmp .eq 15, 3) := by decide +kernel
theorem dX11_lines_60 : decode cX11_lines 60 = .ok (.aload_n 0, 1) := by decide +kernel
theorem dX11_lines_61 : decode cX11_lines 61 = .ok (.getfield 13, 3) := by decide +kernel
theorem dX11_lines_64 : decode cX11_lines 64 = .ok (.iload 6, 2) := by decide +kernel
theorem dX11_lines_66 : decode cX11_lines 66 = .ok (.iaload, 1) := by decide +kernel
theorem dX11_lines_67 : decode cX11_lines 67 = .ok (.bipush 10, 2) := by decide +kernel
theorem dX11_lines_69 : decode cX11_lines 69 = .ok (.if_icmp .ne 50, 3) := by decide +kernel
theorem dX11_lines_72 : decode cX11_lines 72 = .ok (.aload_n 0, 1) := by decide +kernel
theorem dX11_lines_73 : decode cX11_lines 73 = .ok (.iload 5, 2) := by decide +kernel
theorem dX11_lines_75 : decode cX11_lines 75 = .ok (.iload 6, 2) := by decide +kernel
theorem dX11_lines_77 : decode cX11_lines 77 = .ok (.invokevirtual 202, 3) := by decide +kernel
theorem dX11_lines_80 : decode cX11_lines 80 = .ok (.aload_n 0, 1) := by decide +kernel
theorem dX11_lines_81 : decode cX11_lines 81 = .ok (.iload_n 2, 1) := by decide +kernel
theorem dX11_lines_82 : decode cX11_lines 82 = .ok (.iconst 0, 1) := by decide +kernel
theorem dX11_lines_83 : decode cX11_lines 83 = .ok (.invokevirtual 223, 3) := by decide +kernel
theorem dX11_lines_86 : decode cX11_lines 86 = .ok (.ifCond .le 24, 3) := by decide +kernel
theorem dX11_lines_89 : decode cX11_lines 89 = .ok (.aload_n 0, 1) := by decide +kernel
theorem dX11_lines_90 : decode cX11_lines 90 = .ok (.getfield 94, 3) := by decide +kernel
theorem dX11_lines_93 : decode cX11_lines 93 = .ok (.aload_n 0, 1) := by decide +kernel
theorem dX11_lines_94 : decode cX11_lines 94 = .ok (.getfield 220, 3) := by decide +kernel
theorem dX11_lines_97 : decode cX11_lines 97 = .ok (.iload 4, 2) := by decide +kernel
theorem dX11_lines_99 : decode cX11_lines 99 = .ok (.iastore, 1) := by decide +kernel
theorem dX11_lines_100 : decode cX11_lines 100 = .ok (.aload_n 0, 1) := by decide +kernel
theorem dX11_lines_101 : decode cX11_lines 101 = .ok (.dup, 1) := by decide +kernel
theorem dX11_lines_102 : decode cX11_lines 102 = .ok (.getfield 220, 3) := by decide +kernel
theorem dX11_lines_105 : decode cX11_lines 105 = .ok (.iconst 1, 1) := by decide +kernel
theorem dX11_lines_106 : decode cX11_lines 106 = .ok (.iadd, 1) := by decide +kernel
theorem dX11_lines_107 : decode cX11_lines 107 = .ok (.putfield 220, 3) := by decide +kernel
theorem dX11_lines_110 : decode cX11_lines 110 = .ok (.iinc 4 1, 3) := by decide +kernel
theorem dX11_lines_113 : decode cX11_lines 113 = .ok (.iload 6, 2) := by decide +kernel
theorem dX11_lines_115 : decode cX11_lines 115 = .ok (.iconst 1, 1) := by decide +kernel
theorem dX11_lines_116 : decode cX11_lines 116 = .ok (.iadd, 1) := by decide +kernel
theorem dX11_lines_117 : decode cX11_lines 117 = .ok (.istore 5, 2) := by decide +kernel
theorem dX11_lines_119 : decode cX11_lines 119 = .ok (.iinc 6 1, 3) := by decide +kernel
theorem dX11_lines_122 : decode cX11_lines 122 = .ok (.goto (-80), 3) := by decide +kernel
theorem dX11_lines_125 : decode cX11_lines 125 = .ok (.aload_n 0, 1) := by decide +kernel
theorem dX11_lines_126 : decode cX11_lines 126 = .ok (.getfield 220, 3) := by decide +kernel
theorem dX11_lines_129 : decode cX11_lines 129 = .ok (.ireturn, 1) := by decide +kernel
theorem dX11_line_0 : decode cX11_line 0 = .ok (.iload_n 1, 1) := by decide +kernel
theorem dX11_line_1 : decode cX11_line 1 = .ok (.iconst 0, 1) := by decide +kernel
theorem dX11_line_2 : decode cX11_line 2 = .ok (.aload_n 0, 1) := by decide +kernel
theorem dX11_line_3 : decode cX11_line 3 = .ok (.getfield 220, 3) := by decide +kernel
theorem dX11_line_6 : decode cX11_line 6 = .ok (.iconst 1, 1) := by decide +kernel
theorem dX11_line_7 : decode cX11_line 7 = .ok (.isub, 1) := by decide +kernel
