theorem dX5_best_167 : decode cX5_best 167 = .ok (.iaload, 1) := by decide +kernel
theorem dX5_best_168 : decode cX5_best 168 = .ok (.iconst 1, 1) := by decide +kernel
theorem dX5_best_169 : decode cX5_best 169 = .ok (.iadd, 1) := by decide +kernel
theorem dX5_best_170 : decode cX5_best 170 = .ok (.istore 4, 2) := by decide +kernel
theorem dX5_best_172 : decode cX5_best 172 = .ok (.iconst 3, 1) := by decide +kernel
theorem dX5_best_173 : decode cX5_best 173 = .ok (.istore 5, 2) := by decide +kernel
theorem dX5_best_175 : decode cX5_best 175 = .ok (.aload_n 0, 1) := by decide +kernel
theorem dX5_best_176 : decode cX5_best 176 = .ok (.getfield 65, 3) := by decide +kernel
theorem dX5_best_179 : decode cX5_best 179 = .ok (.ifCond .eq 14, 3) := by decide +kernel
theorem dX5_best_182 : decode cX5_best 182 = .ok (.aload_n 0, 1) := by decide +kernel
theorem dX5_best_183 : decode cX5_best 183 = .ok (.getfield 57, 3) := by decide +kernel
theorem dX5_best_186 : decode cX5_best 186 = .ok (.iload_n 1, 1) := by decide +kernel
theorem dX5_best_187 : decode cX5_best 187 = .ok (.iload_n 2, 1) := by decide +kernel
theorem dX5_best_188 : decode cX5_best 188 = .ok (.iload 5, 2) := by decide +kernel
theorem dX5_best_190 : decode cX5_best 190 = .ok (.invokevirtual 142, 3) := by decide +kernel
theorem dX5_best_193 : decode cX5_best 193 = .ok (.iload 4, 2) := by decide +kernel
theorem dX5_best_195 : decode cX5_best 195 = .ok (.ireturn, 1) := by decide +kernel
theorem dX5_isSwap_0 : decode cX5_isSwap 0 = .ok (.aload_n 0, 1) := by decide +kernel
theorem dX5_isSwap_1 : decode cX5_isSwap 1 = .ok (.getfield 48, 3) := by decide +kernel
theorem dX5_isSwap_4 : decode cX5_isSwap 4 = .ok (.iload_n 1, 1) := by decide +kernel
theorem dX5_isSwap_5 : decode cX5_isSwap 5 = .ok (.iconst 2, 1) := by decide +kernel
theorem dX5_isSwap_6 : decode cX5_isSwap 6 = .ok (.isub, 1) := by decide +kernel
theorem dX5_isSwap_7 : decode cX5_isSwap 7 = .ok (.laload, 1) := by decide +kernel
theorem dX5_isSwap_8 : decode cX5_isSwap 8 = .ok (.aload_n 0, 1) := by decide +kernel
theorem dX5_isSwap_9 : decode cX5_isSwap 9 = .ok (.getfield 37, 3) := by decide +kernel
theorem dX5_isSwap_12 : decode cX5_isSwap 12 = .ok (.lushr, 1) := by decide +kernel
theorem dX5_isSwap_13 : decode cX5_isSwap 13 = .ok (.lconst 1, 1) := by decide +kernel
theorem dX5_isSwap_14 : decode cX5_isSwap 14 = .ok (.land, 1) := by decide +kernel
theorem dX5_isSwap_15 : decode cX5_isSwap 15 = .ok (.lconst 0, 1) := by decide +kernel
theorem dX5_isSwap_16 : decode cX5_isSwap 16 = .ok (.lcmp, 1) := by decide +kernel
theorem dX5_isSwap_17 : decode cX5_isSwap 17 = .ok (.ifCond .eq 27, 3) := by decide +kernel
theorem dX5_isSwap_20 : decode cX5_isSwap 20 = .ok (.aload_n 0, 1) := by decide +kernel
theorem dX5_isSwap_21 : decode cX5_isSwap 21 = .ok (.getfield 51, 3) := by decide +kernel
theorem dX5_isSwap_24 : decode cX5_isSwap 24 = .ok (.iload_n 1, 1) := by decide +kernel
theorem dX5_isSwap_25 : decode cX5_isSwap 25 = .ok (.iconst 1, 1) := by decide +kernel
theorem dX5_isSwap_26 : decode cX5_isSwap 26 = .ok (.isub, 1) := by decide +kernel
theorem dX5_isSwap_27 : decode cX5_isSwap 27 = .ok (.laload, 1) := by decide +kernel
theorem dX5_isSwap_28 : decode cX5_isSwap 28 = .ok (.aload_n 0, 1) := by decide +kernel
theorem dX5_isSwap_29 : decode cX5_isSwap 29 = .ok (.getfield 41, 3) := by decide +kernel
theorem dX5_isSwap_32 : decode cX5_isSwap 32 = .ok (.lushr, 1) := by decide +kernel
theorem dX5_isSwap_33 : decode cX5_isSwap 33 = .ok (.lconst 1, 1) := by decide +kernel
theorem dX5_isSwap_34 : decode cX5_isSwap 34 = .ok (.land, 1) := by decide +kernel
theorem dX5_isSwap_35 : decode cX5_isSwap 35 = .ok (.lconst 0, 1) := by decide +kernel
theorem dX5_isSwap_36 : decode cX5_isSwap 36 = .ok (.lcmp, 1) := by decide +kernel
theorem dX5_isSwap_37 : decode cX5_isSwap 37 = .ok (.ifCond .eq 7, 3) := by decide +kernel
theorem dX5_isSwap_40 : decode cX5_isSwap 40 = .ok (.iconst 1, 1) := by decide +kernel
theorem dX5_isSwap_41 : decode cX5_isSwap 41 = .ok (.goto 4, 3) := by decide +kernel
theorem dX5_isSwap_44 : decode cX5_isSwap 44 = .ok (.iconst 0, 1) := by decide +kernel
theorem dX5_isSwap_45 : decode cX5_isSwap 45 = .ok (.ireturn, 1) := by decide +kernel
theorem dX5_walkBack_0 : decode cX5_walkBack 0 = .ok (.aload_n 1, 1) := by decide +kernel
theorem dX5_walkBack_1 : decode cX5_walkBack 1 = .ok (.invokevirtual 146, 3) := by decide +kernel
theorem dX5_walkBack_4 : decode cX5_walkBack 4 = .ok (.aload_n 0, 1) := by decide +kernel
theorem dX5_walkBack_5 : decode cX5_walkBack 5 = .ok (.getfield 14, 3) := by decide +kernel
theorem dX5_walkBack_8 : decode cX5_walkBack 8 = .ok (.getfield 90, 3) := by decide +kernel
theorem dX5_walkBack_11 : decode cX5_walkBack 11 = .ok (.istore_n 2, 1) := by decide +kernel
theorem dX5_walkBack_12 : decode cX5_walkBack 12 = .ok (.aload_n 0, 1) := by decide +kernel
theorem dX5_walkBack_13 : decode cX5_walkBack 13 = .ok (.getfield 84, 3) := by decide +kernel
theorem dX5_walkBack_16 : decode cX5_walkBack 16 = .ok (.istore_n 3, 1) := by decide +kernel
theorem dX5_walkBack_17 : decode cX5_walkBack 17 = .ok (.iconst 0, 1) := by decide +kernel
theorem dX5_walkBack_18 : decode cX5_walkBack 18 = .ok (.istore 4, 2) := by decide +kernel
theorem dX5_walkBack_20 : decode cX5_walkBack 20 = .ok (.iload 4, 2) := by decide +kernel
theorem dX5_walkBack_22 : decode cX5_walkBack 22 = .ok (.sipush 400, 3) := by decide +kernel
theorem dX5_walkBack_25 : decode cX5_walkBack 25 = .ok (.if_icmp .ge 85, 3) := by decide +kernel
theorem dX5_walkBack_28 : decode cX5_walkBack 28 = .ok (.iload_n 2, 1) := by decide +kernel
theorem dX5_walkBack_29 : decode cX5_walkBack 29 = .ok (.ifCond .gt 7, 3) := by decide +kernel
theorem dX5_walkBack_32 : decode cX5_walkBack 32 = .ok (.iload_n 3, 1) := by decide +kernel
theorem dX5_walkBack_33 : decode cX5_walkBack 33 = .ok (.ifCond .le 77, 3) := by decide +kernel
theorem dX5_walkBack_36 : decode cX5_walkBack 36 = .ok (.iload_n 2, 1) := by decide +kernel
theorem dX5_walkBack_37 : decode cX5_walkBack 37 = .ok (.ifCond .gt 7, 3) := by decide +kernel
theorem dX5_walkBack_40 : decode cX5_walkBack 40 = .ok (.iconst 2, 1) := by decide +kernel
theorem dX5_walkBack_41 : decode cX5_walkBack 41 = .ok (.goto 20, 3) := by decide +kernel
theorem dX5_walkBack_44 : decode cX5_walkBack 44 = .ok (.iload_n 3, 1) := by decide +kernel
theorem dX5_walkBack_45 : decode cX5_walkBack 45 = .ok (.ifCond .gt 7, 3) := by decide +kernel
theorem dX5_walkBack_48 : decode cX5_walkBack 48 = .ok (.iconst 3, 1) := by decide +kernel
theorem dX5_walkBack_49 : decode cX5_walkBack 49 = .ok (.goto 12, 3) := by decide +kernel
theorem dX5_walkBack_52 : decode cX5_walkBack 52 = .ok (.aload_n 0, 1) := by decide +kernel
theorem dX5_walkBack_53 : decode cX5_walkBack 53 = .ok (.getfield 57, 3) := by decide +kernel
theorem dX5_walkBack_56 : decode cX5_walkBack 56 = .ok (.iload_n 2, 1) := by decide +kernel
theorem dX5_walkBack_57 : decode cX5_walkBack 57 = .ok (.iload_n 3, 1) := by decide +kernel
theorem dX5_walkBack_58 : decode cX5_walkBack 58 = .ok (.invokevirtual 151, 3) := by decide +kernel
theorem dX5_walkBack_61 : decode cX5_walkBack 61 = .ok (.istore 5, 2) := by decide +kernel
theorem dX5_walkBack_63 : decode cX5_walkBack 63 = .ok (.iload 5, 2) := by decide +kernel
theorem dX5_walkBack_65 : decode cX5_walkBack 65 = .ok (.iconst 4, 1) := by decide +kernel
theorem dX5_walkBack_66 : decode cX5_walkBack 66 = .ok (.if_icmp .ne 7, 3) := by decide +kernel
theorem dX5_walkBack_69 : decode cX5_walkBack 69 = .ok (.iconst 2, 1) := by decide +kernel
theorem dX5_walkBack_70 : decode cX5_walkBack 70 = .ok (.goto 4, 3) := by decide +kernel
theorem dX5_walkBack_73 : decode cX5_walkBack 73 = .ok (.iconst 1, 1) := by decide +kernel
theorem dX5_walkBack_74 : decode cX5_walkBack 74 = .ok (.istore 6, 2) := by decide +kernel
theorem dX5_walkBack_76 : decode cX5_walkBack 76 = .ok (.iload 5, 2) := by decide +kernel
theorem dX5_walkBack_78 : decode cX5_walkBack 78 = .ok (.iconst 2, 1) := by decide +kernel
theorem dX5_walkBack_79 : decode cX5_walkBack 79 = .ok (.if_icmp .eq 8, 3) := by decide +kernel
theorem dX5_walkBack_82 : decode cX5_walkBack 82 = .ok (.iload_n 2, 1) := by decide +kernel
theorem dX5_walkBack_83 : decode cX5_walkBack 83 = .ok (.iload 6, 2) := by decide +kernel
theorem dX5_walkBack_85 : decode cX5_walkBack 85 = .ok (.isub, 1) := by decide +kernel
theorem dX5_walkBack_86 : decode cX5_walkBack 86 = .ok (.istore_n 2, 1) := by decide +kernel
theorem dX5_walkBack_87 : decode cX5_walkBack 87 = .ok (.iload 5, 2) := by decide +kernel
theorem dX5_walkBack_89 : decode cX5_walkBack 89 = .ok (.iconst 3, 1) := by decide +kernel
theorem dX5_walkBack_90 : decode cX5_walkBack 90 = .ok (.if_icmp .eq 8, 3) := by decide +kernel
theorem dX5_walkBack_93 : decode cX5_walkBack 93 = .ok (.iload_n 3, 1) := by decide +kernel
theorem dX5_walkBack_94 : decode cX5_walkBack 94 = .ok (.iload 6, 2) := by decide +kernel
theorem dX5_walkBack_96 : decode cX5_walkBack 96 = .ok (.isub, 1) := by decide +kernel
theorem dX5_walkBack_97 : decode cX5_walkBack 97 = .ok (.istore_n 3, 1) := by decide +kernel
theorem dX5_walkBack_98 : decode cX5_walkBack 98 = .ok (.aload_n 1, 1) := by decide +kernel
theorem dX5_walkBack_99 : decode cX5_walkBack 99 = .ok (.iload 5, 2) := by decide +kernel
theorem dX5_walkBack_101 : decode cX5_walkBack 101 = .ok (.invokevirtual 153, 3) := by decide +kernel
theorem dX5_walkBack_104 : decode cX5_walkBack 104 = .ok (.iinc 4 1, 3) := by decide +kernel
theorem dX5_walkBack_107 : decode cX5_walkBack 107 = .ok (.goto (-87), 3) := by decide +kernel
theorem dX5_walkBack_110 : decode cX5_walkBack 110 = .ok (.return_, 1) := by decide +kernel
theorem dX6_init_0 : decode cX6_init 0 = .ok (.aload_n 0, 1) := by decide +kernel
theorem dX6_init_1 : decode cX6_init 1 = .ok (.invokespecial 3, 3) := by decide +kernel
theorem dX6_init_4 : decode cX6_init 4 = .ok (.aload_n 0, 1) := by decide +kernel
theorem dX6_init_5 : decode cX6_init 5 = .ok (.new 9, 3) := by decide +kernel
theorem dX6_init_8 : decode cX6_init 8 = .ok (.dup, 1) := by decide +kernel
theorem dX6_init_9 : decode cX6_init 9 = .ok (.iconst 0, 1) := by decide +kernel
theorem dX6_init_10 : decode cX6_init 10 = .ok (.invokespecial 11, 3) := by decide +kernel
theorem dX6_init_13 : decode cX6_init 13 = .ok (.putfield 14, 3) := by decide +kernel
theorem dX6_init_16 : decode cX6_init 16 = .ok (.aload_n 0, 1) := by decide +kernel
theorem dX6_init_17 : decode cX6_init 17 = .ok (.sipush 201, 3) := by decide +kernel
theorem dX6_init_20 : decode cX6_init 20 = .ok (.newarray .int, 2) := by decide +kernel
theorem dX6_init_22 : decode cX6_init 22 = .ok (.putfield 20, 3) := by decide +kernel
theorem dX6_init_25 : decode cX6_init 25 = .ok (.aload_n 0, 1) := by decide +kernel
theorem dX6_init_26 : decode cX6_init 26 = .ok (.sipush 201, 3) := by decide +kernel
theorem dX6_init_29 : decode cX6_init 29 = .ok (.newarray .int, 2) := by decide +kernel
theorem dX6_init_31 : decode cX6_init 31 = .ok (.putfield 24, 3) := by decide +kernel
theorem dX6_init_34 : decode cX6_init 34 = .ok (.aload_n 0, 1) := by decide +kernel
theorem dX6_init_35 : decode cX6_init 35 = .ok (.sipush 201, 3) := by decide +kernel
theorem dX6_init_38 : decode cX6_init 38 = .ok (.newarray .int, 2) := by decide +kernel
theorem dX6_init_40 : decode cX6_init 40 = .ok (.putfield 27, 3) := by decide +kernel
theorem dX6_init_43 : decode cX6_init 43 = .ok (.aload_n 0, 1) := by decide +kernel
theorem dX6_init_44 : decode cX6_init 44 = .ok (.bipush 10, 2) := by decide +kernel
theorem dX6_init_46 : decode cX6_init 46 = .ok (.putfield 30, 3) := by decide +kernel
theorem dX6_init_49 : decode cX6_init 49 = .ok (.return_, 1) := by decide +kernel
theorem dX6_aim_0 : decode cX6_aim 0 = .ok (.aload_n 0, 1) := by decide +kernel
theorem dX6_aim_1 : decode cX6_aim 1 = .ok (.aload_n 1, 1) := by decide +kernel
theorem dX6_aim_2 : decode cX6_aim 2 = .ok (.putfield 14, 3) := by decide +kernel
theorem dX6_aim_5 : decode cX6_aim 5 = .ok (.aload_n 0, 1) := by decide +kernel
theorem dX6_aim_6 : decode cX6_aim 6 = .ok (.aload_n 1, 1) := by decide +kernel
theorem dX6_aim_7 : decode cX6_aim 7 = .ok (.getfield 34, 3) := by decide +kernel
theorem dX6_aim_10 : decode cX6_aim 10 = .ok (.sipush 200, 3) := by decide +kernel
theorem dX6_aim_13 : decode cX6_aim 13 = .ok (.invokestatic 37, 3) := by decide +kernel
theorem dX6_aim_16 : decode cX6_aim 16 = .ok (.putfield 43, 3) := by decide +kernel
theorem dX6_aim_19 : decode cX6_aim 19 = .ok (.aload_n 0, 1) := by decide +kernel
theorem dX6_aim_20 : decode cX6_aim 20 = .ok (.iload_n 2, 1) := by decide +kernel
theorem dX6_aim_21 : decode cX6_aim 21 = .ok (.putfield 46, 3) := by decide +kernel
theorem dX6_aim_24 : decode cX6_aim 24 = .ok (.aload_n 0, 1) := by decide +kernel
theorem dX6_aim_25 : decode cX6_aim 25 = .ok (.iload_n 3, 1) := by decide +kernel
theorem dX6_aim_26 : decode cX6_aim 26 = .ok (.putfield 49, 3) := by decide +kernel
theorem dX6_aim_29 : decode cX6_aim 29 = .ok (.return_, 1) := by decide +kernel
theorem dX6_tighten_0 : decode cX6_tighten 0 = .ok (.aload_n 0, 1) := by decide +kernel
theorem dX6_tighten_1 : decode cX6_tighten 1 = .ok (.iload_n 1, 1) := by decide +kernel
theorem dX6_tighten_2 : decode cX6_tighten 2 = .ok (.putfield 46, 3) := by decide +kernel
theorem dX6_tighten_5 : decode cX6_tighten 5 = .ok (.return_, 1) := by decide +kernel
theorem dX6_restart_0 : decode cX6_restart 0 = .ok (.aload_n 0, 1) := by decide +kernel
theorem dX6_restart_1 : decode cX6_restart 1 = .ok (.iload_n 1, 1) := by decide +kernel
theorem dX6_restart_2 : decode cX6_restart 2 = .ok (.putfield 53, 3) := by decide +kernel
theorem dX6_restart_5 : decode cX6_restart 5 = .ok (.aload_n 0, 1) := by decide +kernel
theorem dX6_restart_6 : decode cX6_restart 6 = .ok (.iconst 0, 1) := by decide +kernel
theorem dX6_restart_7 : decode cX6_restart 7 = .ok (.putfield 56, 3) := by decide +kernel
theorem dX6_restart_10 : decode cX6_restart 10 = .ok (.aload_n 0, 1) := by decide +kernel
theorem dX6_restart_11 : decode cX6_restart 11 = .ok (.iconst 0, 1) := by decide +kernel
theorem dX6_restart_12 : decode cX6_restart 12 = .ok (.aload_n 0, 1) := by decide +kernel
theorem dX6_restart_13 : decode cX6_restart 13 = .ok (.getfield 43, 3) := by decide +kernel
theorem dX6_restart_16 : decode cX6_restart 16 = .ok (.aload_n 0, 1) := by decide +kernel
theorem dX6_restart_17 : decode cX6_restart 17 = .ok (.getfield 46, 3) := by decide +kernel
theorem dX6_restart_20 : decode cX6_restart 20 = .ok (.invokestatic 37, 3) := by decide +kernel
theorem dX6_restart_23 : decode cX6_restart 23 = .ok (.invokestatic 59, 3) := by decide +kernel
theorem dX6_restart_26 : decode cX6_restart 26 = .ok (.putfield 62, 3) := by decide +kernel
theorem dX6_restart_29 : decode cX6_restart 29 = .ok (.iconst 0, 1) := by decide +kernel
theorem dX6_restart_30 : decode cX6_restart 30 = .ok (.istore_n 2, 1) := by decide +kernel
theorem dX6_restart_31 : decode cX6_restart 31 = .ok (.iload_n 2, 1) := by decide +kernel
theorem dX6_restart_32 : decode cX6_restart 32 = .ok (.aload_n 0, 1) := by decide +kernel
theorem dX6_restart_33 : decode cX6_restart 33 = .ok (.getfield 62, 3) := by decide +kernel
theorem dX6_restart_36 : decode cX6_restart 36 = .ok (.if_icmp .gt 20, 3) := by decide +kernel
theorem dX6_restart_39 : decode cX6_restart 39 = .ok (.aload_n 0, 1) := by decide +kernel
theorem dX6_restart_40 : decode cX6_restart 40 = .ok (.getfield 20, 3) := by decide +kernel
theorem dX6_restart_43 : decode cX6_restart 43 = .ok (.iload_n 2, 1) := by decide +kernel
theorem dX6_restart_44 : decode cX6_restart 44 = .ok (.iload_n 2, 1) := by decide +kernel
theorem dX6_restart_45 : decode cX6_restart 45 = .ok (.iload_n 1, 1) := by decide +kernel
theorem dX6_restart_46 : decode cX6_restart 46 = .ok (.invokestatic 65, 3) := by decide +kernel
theorem dX6_restart_49 : decode cX6_restart 49 = .ok (.iastore, 1) := by decide +kernel
theorem dX6_restart_50 : decode cX6_restart 50 = .ok (.iinc 2 1, 3) := by decide +kernel
theorem dX6_restart_53 : decode cX6_restart 53 = .ok (.goto (-22), 3) := by decide +kernel
theorem dX6_restart_56 : decode cX6_restart 56 = .ok (.aload_n 0, 1) := by decide +kernel
theorem dX6_restart_57 : decode cX6_restart 57 = .ok (.aload_n 0, 1) := by decide +kernel
theorem dX6_restart_58 : decode cX6_restart 58 = .ok (.getfield 62, 3) := by decide +kernel
theorem dX6_restart_61 : decode cX6_restart 61 = .ok (.invokevirtual 68, 3) := by decide +kernel
theorem dX6_restart_64 : decode cX6_restart 64 = .ok (.return_, 1) := by decide +kernel
theorem dX6_feed_0 : decode cX6_feed 0 = .ok (.aload_n 0, 1) := by decide +kernel
theorem dX6_feed_1 : decode cX6_feed 1 = .ok (.getfield 27, 3) := by decide +kernel
theorem dX6_feed_4 : decode cX6_feed 4 = .ok (.astore_n 2, 1) := by decide +kernel
theorem dX6_feed_5 : decode cX6_feed 5 = .ok (.aload_n 0, 1) := by decide +kernel
theorem dX6_feed_6 : decode cX6_feed 6 = .ok (.aload_n 0, 1) := by decide +kernel
theorem dX6_feed_7 : decode cX6_feed 7 = .ok (.getfield 24, 3) := by decide +kernel
theorem dX6_feed_10 : decode cX6_feed 10 = .ok (.putfield 27, 3) := by decide +kernel
theorem dX6_feed_13 : decode cX6_feed 13 = .ok (.aload_n 0, 1) := by decide +kernel
theorem dX6_feed_14 : decode cX6_feed 14 = .ok (.aload_n 0, 1) := by decide +kernel
theorem dX6_feed_15 : decode cX6_feed 15 = .ok (.getfield 20, 3) := by decide +kernel
theorem dX6_feed_18 : decode cX6_feed 18 = .ok (.putfield 24, 3) := by decide +kernel
theorem dX6_feed_21 : decode cX6_feed 21 = .ok (.aload_n 0, 1) := by decide +kernel
theorem dX6_feed_22 : decode cX6_feed 22 = .ok (.aload_n 2, 1) := by decide +kernel
theorem dX6_feed_23 : decode cX6_feed 23 = .ok (.putfield 20, 3) := by decide +kernel
theorem dX6_feed_26 : decode cX6_feed 26 = .ok (.aload_n 0, 1) := by decide +kernel
theorem dX6_feed_27 : decode cX6_feed 27 = .ok (.dup, 1) := by decide +kernel
theorem dX6_feed_28 : decode cX6_feed 28 = .ok (.getfield 53, 3) := by decide +kernel
theorem dX6_feed_31 : decode cX6_feed 31 = .ok (.iconst 1, 1) := by decide +kernel
theorem dX6_feed_32 : decode cX6_feed 32 = .ok (.iadd, 1) := by decide +kernel
theorem dX6_feed_33 : decode cX6_feed 33 = .ok (.putfield 53, 3) := by decide +kernel
theorem dX6_feed_36 : decode cX6_feed 36 = .ok (.aload_n 0, 1) := by decide +kernel
theorem dX6_feed_37 : decode cX6_feed 37 = .ok (.dup, 1) := by decide +kernel
theorem dX6_feed_38 : decode cX6_feed 38 = .ok (.getfield 56, 3) := by decide +kernel
theorem dX6_feed_41 : decode cX6_feed 41 = .ok (.iconst 1, 1) := by decide +kernel
theorem dX6_feed_42 : decode cX6_feed 42 = .ok (.iadd, 1) := by decide +kernel
theorem dX6_feed_43 : decode cX6_feed 43 = .ok (.putfield 56, 3) := by decide +kernel
theorem dX6_feed_46 : decode cX6_feed 46 = .ok (.aload_n 0, 1) := by decide +kernel
theorem dX6_feed_47 : decode cX6_feed 47 = .ok (.getfield 43, 3) := by decide +kernel
theorem dX6_feed_50 : decode cX6_feed 50 = .ok (.aload_n 0, 1) := by decide +kernel
theorem dX6_feed_51 : decode cX6_feed 51 = .ok (.getfield 62, 3) := by decide +kernel
theorem dX6_feed_54 : decode cX6_feed 54 = .ok (.iconst 1, 1) := by decide +kernel
theorem dX6_feed_55 : decode cX6_feed 55 = .ok (.iadd, 1) := by decide +kernel
theorem dX6_feed_56 : decode cX6_feed 56 = .ok (.invokestatic 37, 3) := by decide +kernel
theorem dX6_feed_59 : decode cX6_feed 59 = .ok (.istore_n 3, 1) := by decide +kernel
theorem dX6_feed_60 : decode cX6_feed 60 = .ok (.aload_n 0, 1) := by decide +kernel
theorem dX6_feed_61 : decode cX6_feed 61 = .ok (.iload_n 1, 1) := by decide +kernel
theorem dX6_feed_62 : decode cX6_feed 62 = .ok (.iload_n 3, 1) := by decide +kernel
theorem dX6_feed_63 : decode cX6_feed 63 = .ok (.invokevirtual 71, 3) := by decide +kernel
theorem dX6_feed_66 : decode cX6_feed 66 = .ok (.aload_n 0, 1) := by decide +kernel
theorem dX6_feed_67 : decode cX6_feed 67 = .ok (.iload_n 3, 1) := by decide +kernel
theorem dX6_feed_68 : decode cX6_feed 68 = .ok (.invokevirtual 68, 3) := by decide +kernel
theorem dX6_feed_71 : decode cX6_feed 71 = .ok (.aload_n 0, 1) := by decide +kernel
theorem dX6_feed_72 : decode cX6_feed 72 = .ok (.iload_n 3, 1) := by decide +kernel
theorem dX6_feed_73 : decode cX6_feed 73 = .ok (.invokevirtual 75, 3) := by decide +kernel
theorem dX6_feed_76 : decode cX6_feed 76 = .ok (.aload_n 0, 1) := by decide +kernel
theorem dX6_feed_77 : decode cX6_feed 77 = .ok (.iload_n 1, 1) := by decide +kernel
theorem dX6_feed_78 : decode cX6_feed 78 = .ok (.putfield 30, 3) := by decide +kernel
theorem dX6_feed_81 : decode cX6_feed 81 = .ok (.return_, 1) := by decide +kernel
theorem dX6_isHit_0 : decode cX6_isHit 0 = .ok (.aload_n 0, 1) := by decide +kernel
theorem dX6_isHit_1 : decode cX6_isHit 1 = .ok (.getfield 62, 3) := by decide +kernel
theorem dX6_isHit_4 : decode cX6_isHit 4 = .ok (.aload_n 0, 1) := by decide +kernel
theorem dX6_isHit_5 : decode cX6_isHit 5 = .ok (.getfield 43, 3) := by decide +kernel
theorem dX6_isHit_8 : decode cX6_isHit 8 = .ok (.if_icmp .ne 7, 3) := by decide +kernel
theorem dX6_isHit_11 : decode cX6_isHit 11 = .ok (.iconst 1, 1) := by decide +kernel
theorem dX6_isHit_12 : decode cX6_isHit 12 = .ok (.goto 4, 3) := by decide +kernel
theorem dX6_isHit_15 : decode cX6_isHit 15 = .ok (.iconst 0, 1) := by decide +kernel
theorem dX6_isHit_16 : decode cX6_isHit 16 = .ok (.ireturn, 1) := by decide +kernel
theorem dX6_edits_0 : decode cX6_edits 0 = .ok (.aload_n 0, 1) := by decide +kernel
theorem dX6_edits_1 : decode cX6_edits 1 = .ok (.getfield 20, 3) := by decide +kernel
theorem dX6_edits_4 : decode cX6_edits 4 = .ok (.aload_n 0, 1) := by decide +kernel
theorem dX6_edits_5 : decode cX6_edits 5 = .ok (.getfield 43, 3) := by decide +kernel
theorem dX6_edits_8 : decode cX6_edits 8 = .ok (.iaload, 1) := by decide +kernel
theorem dX6_edits_9 : decode cX6_edits 9 = .ok (.sipush 2048, 3) := by decide +kernel
theorem dX6_edits_12 : decode cX6_edits 12 = .ok (.idiv, 1) := by decide +kernel
theorem dX6_edits_13 : decode cX6_edits 13 = .ok (.ireturn, 1) := by decide +kernel
theorem dX6_beginning_0 : decode cX6_beginning 0 = .ok (.sipush 2047, 3) := by decide +kernel
theorem dX6_beginning_3 : decode cX6_beginning 3 = .ok (.aload_n 0, 1) := by decide +kernel
theorem dX6_beginning_4 : decode cX6_beginning 4 = .ok (.getfield 20, 3) := by decide +kernel
theorem dX6_beginning_7 : decode cX6_beginning 7 = .ok (.aload_n 0, 1) := by decide +kernel
theorem dX6_beginning_8 : decode cX6_beginning 8 = .ok (.getfield 43, 3) := by decide +kernel
theorem dX6_beginning_11 : decode cX6_beginning 11 = .ok (.iaload, 1) := by decide +kernel
theorem dX6_beginning_12 : decode cX6_beginning 12 = .ok (.sipush 2048, 3) := by decide +kernel
theorem dX6_beginning_15 : decode cX6_beginning 15 = .ok (.irem, 1) := by decide +kernel
theorem dX6_beginning_16 : decode cX6_beginning 16 = .ok (.isub, 1) := by decide +kernel
theorem dX6_beginning_17 : decode cX6_beginning 17 = .ok (.ireturn, 1) := by decide +kernel
theorem dX6_number_0 : decode cX6_number 0 = .ok (.iload_n 0, 1) := by decide +kernel
theorem dX6_number_1 : decode cX6_number 1 = .ok (.sipush 2048, 3) := by decide +kernel
theorem dX6_number_4 : decode cX6_number 4 = .ok (.imul, 1) := by decide +kernel
theorem dX6_number_5 : decode cX6_number 5 = .ok (.sipush 2047, 3) := by decide +kernel
theorem dX6_number_8 : decode cX6_number 8 = .ok (.iload_n 1, 1) := by decide +kernel
theorem dX6_number_9 : decode cX6_number 9 = .ok (.isub, 1) := by decide +kernel
theorem dX6_number_10 : decode cX6_number 10 = .ok (.iadd, 1) := by decide +kernel
theorem dX6_number_11 : decode cX6_number 11 = .ok (.ireturn, 1) := by decide +kernel
theorem dX6_fillColumn_0 : decode cX6_fillColumn 0 = .ok (.aload_n 0, 1) := by decide +kernel
theorem dX6_fillColumn_1 : decode cX6_fillColumn 1 = .ok (.getfield 14, 3) := by decide +kernel
theorem dX6_fillColumn_4 : decode cX6_fillColumn 4 = .ok (.iload_n 1, 1) := by decide +kernel
theorem dX6_fillColumn_5 : decode cX6_fillColumn 5 = .ok (.invokevirtual 78, 3) := by decide +kernel
theorem dX6_fillColumn_8 : decode cX6_fillColumn 8 = .ok (.astore_n 3, 1) := by decide +kernel
theorem dX6_fillColumn_9 : decode cX6_fillColumn 9 = .ok (.aload_n 0, 1) := by decide +kernel
theorem dX6_fillColumn_10 : decode cX6_fillColumn 10 = .ok (.getfield 14, 3) := by decide +kernel
theorem dX6_fillColumn_13 : decode cX6_fillColumn 13 = .ok (.aload_n 0, 1) := by decide +kernel
theorem dX6_fillColumn_14 : decode cX6_fillColumn 14 = .ok (.getfield 30, 3) := by decide +kernel
theorem dX6_fillColumn_17 : decode cX6_fillColumn 17 = .ok (.invokevirtual 78, 3) := by decide +kernel
theorem dX6_fillColumn_20 : decode cX6_fillColumn 20 = .ok (.astore 4, 2) := by decide +kernel
theorem dX6_fillColumn_22 : decode cX6_fillColumn 22 = .ok (.aload_n 0, 1) := by decide +kernel
theorem dX6_fillColumn_23 : decode cX6_fillColumn 23 = .ok (.getfield 49, 3) := by decide +kernel
theorem dX6_fillColumn_26 : decode cX6_fillColumn 26 = .ok (.ifCond .eq 15, 3) := by decide +kernel
theorem dX6_fillColumn_29 : decode cX6_fillColumn 29 = .ok (.aload_n 0, 1) := by decide +kernel
theorem dX6_fillColumn_30 : decode cX6_fillColumn 30 = .ok (.getfield 56, 3) := by decide +kernel
theorem dX6_fillColumn_33 : decode cX6_fillColumn 33 = .ok (.iconst 1, 1) := by decide +kernel
theorem dX6_fillColumn_34 : decode cX6_fillColumn 34 = .ok (.if_icmp .le 7, 3) := by decide +kernel
theorem dX6_fillColumn_37 : decode cX6_fillColumn 37 = .ok (.iconst 1, 1) := by decide +kernel
theorem dX6_fillColumn_38 : decode cX6_fillColumn 38 = .ok (.goto 4, 3) := by decide +kernel
theorem dX6_fillColumn_41 : decode cX6_fillColumn 41 = .ok (.iconst 0, 1) := by decide +kernel
theorem dX6_fillColumn_42 : decode cX6_fillColumn 42 = .ok (.istore 5, 2) := by decide +kernel
theorem dX6_fillColumn_44 : decode cX6_fillColumn 44 = .ok (.aload_n 0, 1) := by decide +kernel
theorem dX6_fillColumn_45 : decode cX6_fillColumn 45 = .ok (.getfield 20, 3) := by decide +kernel
theorem dX6_fillColumn_48 : decode cX6_fillColumn 48 = .ok (.iconst 0, 1) := by decide +kernel
theorem dX6_fillColumn_49 : decode cX6_fillColumn 49 = .ok (.iconst 0, 1) := by decide +kernel
theorem dX6_fillColumn_50 : decode cX6_fillColumn 50 = .ok (.aload_n 0, 1) := by decide +kernel
theorem dX6_fillColumn_51 : decode cX6_fillColumn 51 = .ok (.getfield 53, 3) := by decide +kernel
theorem dX6_fillColumn_54 : decode cX6_fillColumn 54 = .ok (.invokestatic 65, 3) := by decide +kernel
theorem dX6_fillColumn_57 : decode cX6_fillColumn 57 = .ok (.iastore, 1) := by decide +kernel
theorem dX6_fillColumn_58 : decode cX6_fillColumn 58 = .ok (.iconst 1, 1) := by decide +kernel
theorem dX6_fillColumn_59 : decode cX6_fillColumn 59 = .ok (.istore 6, 2) := by decide +kernel
theorem dX6_fillColumn_61 : decode cX6_fillColumn 61 = .ok (.iload 6, 2) := by decide +kernel
theorem dX6_fillColumn_63 : decode cX6_fillColumn 63 = .ok (.iload_n 2, 1) := by decide +kernel
theorem dX6_fillColumn_64 : decode cX6_fillColumn 64 = .ok (.if_icmp .gt 155, 3) := by decide +kernel
theorem dX6_fillColumn_67 : decode cX6_fillColumn 67 = .ok (.aload_n 0, 1) := by decide +kernel
theorem dX6_fillColumn_68 : decode cX6_fillColumn 68 = .ok (.getfield 24, 3) := by decide +kernel
theorem dX6_fillColumn_71 : decode cX6_fillColumn 71 = .ok (.iload 6, 2) := by decide +kernel
theorem dX6_fillColumn_73 : decode cX6_fillColumn 73 = .ok (.iaload, 1) := by decide +kernel
theorem dX6_fillColumn_74 : decode cX6_fillColumn 74 = .ok (.aload_n 0, 1) := by decide +kernel
theorem dX6_fillColumn_75 : decode cX6_fillColumn 75 = .ok (.getfield 20, 3) := by decide +kernel
theorem dX6_fillColumn_78 : decode cX6_fillColumn 78 = .ok (.iload 6, 2) := by decide +kernel
theorem dX6_fillColumn_80 : decode cX6_fillColumn 80 = .ok (.iconst 1, 1) := by decide +kernel
theorem dX6_fillColumn_81 : decode cX6_fillColumn 81 = .ok (.isub, 1) := by decide +kernel
theorem dX6_fillColumn_82 : decode cX6_fillColumn 82 = .ok (.iaload, 1) := by decide +kernel
theorem dX6_fillColumn_83 : decode cX6_fillColumn 83 = .ok (.invokestatic 37, 3) := by decide +kernel
theorem dX6_fillColumn_86 : decode cX6_fillColumn 86 = .ok (.sipush 2048, 3) := by decide +kernel
theorem dX6_fillColumn_89 : decode cX6_fillColumn 89 = .ok (.iadd, 1) := by decide +kernel
theorem dX6_fillColumn_90 : decode cX6_fillColumn 90 = .ok (.istore 7, 2) := by decide +kernel
theorem dX6_fillColumn_92 : decode cX6_fillColumn 92 = .ok (.iload 7, 2) := by decide +kernel
theorem dX6_fillColumn_94 : decode cX6_fillColumn 94 = .ok (.aload_n 3, 1) := by decide +kernel
theorem dX6_fillColumn_95 : decode cX6_fillColumn 95 = .ok (.iload 6, 2) := by decide +kernel
theorem dX6_fillColumn_97 : decode cX6_fillColumn 97 = .ok (.iconst 1, 1) := by decide +kernel
theorem dX6_fillColumn_98 : decode cX6_fillColumn 98 = .ok (.isub, 1) := by decide +kernel
theorem dX6_fillColumn_99 : decode cX6_fillColumn 99 = .ok (.laload, 1) := by decide +kernel
theorem dX6_fillColumn_100 : decode cX6_fillColumn 100 = .ok (.iload_n 1, 1) := by decide +kernel
theorem dX6_fillColumn_101 : decode cX6_fillColumn 101 = .ok (.lushr, 1) := by decide +kernel
theorem dX6_fillColumn_102 : decode cX6_fillColumn 102 = .ok (.lconst 1, 1) := by decide +kernel
theorem dX6_fillColumn_103 : decode cX6_fillColumn 103 = .ok (.land, 1) := by decide +kernel
theorem dX6_fillColumn_104 : decode cX6_fillColumn 104 = .ok (.lconst 0, 1) := by decide +kernel
theorem dX6_fillColumn_105 : decode cX6_fillColumn 105 = .ok (.lcmp, 1) := by decide +kernel
theorem dX6_fillColumn_106 : decode cX6_fillColumn 106 = .ok (.ifCond .eq 15, 3) := by decide +kernel
theorem dX6_fillColumn_109 : decode cX6_fillColumn 109 = .ok (.aload_n 0, 1) := by decide +kernel
theorem dX6_fillColumn_110 : decode cX6_fillColumn 110 = .ok (.getfield 24, 3) := by decide +kernel
theorem dX6_fillColumn_113 : decode cX6_fillColumn 113 = .ok (.iload 6, 2) := by decide +kernel
theorem dX6_fillColumn_115 : decode cX6_fillColumn 115 = .ok (.iconst 1, 1) := by decide +kernel
theorem dX6_fillColumn_116 : decode cX6_fillColumn 116 = .ok (.isub, 1) := by decide +kernel
theorem dX6_fillColumn_117 : decode cX6_fillColumn 117 = .ok (.iaload, 1) := by decide +kernel
theorem dX6_fillColumn_118 : decode cX6_fillColumn 118 = .ok (.goto 16, 3) := by decide +kernel
theorem dX6_fillColumn_121 : decode cX6_fillColumn 121 = .ok (.aload_n 0, 1) := by decide +kernel
theorem dX6_fillColumn_122 : decode cX6_fillColumn 122 = .ok (.getfield 24, 3) := by decide +kernel
theorem dX6_fillColumn_125 : decode cX6_fillColumn 125 = .ok (.iload 6, 2) := by decide +kernel
theorem dX6_fillColumn_127 : decode cX6_fillColumn 127 = .ok (.iconst 1, 1) := by decide +kernel
theorem dX6_fillColumn_128 : decode cX6_fillColumn 128 = .ok (.isub, 1) := by decide +kernel
theorem dX6_fillColumn_129 : decode cX6_fillColumn 129 = .ok (.iaload, 1) := by decide +kernel
theorem dX6_fillColumn_130 : decode cX6_fillColumn 130 = .ok (.sipush 2048, 3) := by decide +kernel
theorem dX6_fillColumn_133 : decode cX6_fillColumn 133 = .ok (.iadd, 1) := by decide +kernel
theorem dX6_fillColumn_134 : decode cX6_fillColumn 134 = .ok (.invokestatic 37, 3) := by decide +kernel
theorem dX6_fillColumn_137 : decode cX6_fillColumn 137 = .ok (.istore 7, 2) := by decide +kernel
theorem dX6_fillColumn_139 : decode cX6_fillColumn 139 = .ok (.iload 5, 2) := by decide +kernel
theorem dX6_fillColumn_141 : decode cX6_fillColumn 141 = .ok (.ifCond .eq 63, 3) := by decide +kernel
theorem dX6_fillColumn_144 : decode cX6_fillColumn 144 = .ok (.iload 6, 2) := by decide +kernel
theorem dX6_fillColumn_146 : decode cX6_fillColumn 146 = .ok (.iconst 1, 1) := by decide +kernel
theorem dX6_fillColumn_147 : decode cX6_fillColumn 147 = .ok (.if_icmp .le 57, 3) := by decide +kernel
theorem dX6_fillColumn_150 : decode cX6_fillColumn 150 = .ok (.aload_n 3, 1) := by decide +kernel
theorem dX6_fillColumn_151 : decode cX6_fillColumn 151 = .ok (.iload 6, 2) := by decide +kernel
theorem dX6_fillColumn_153 : decode cX6_fillColumn 153 = .ok (.iconst 2, 1) := by decide +kernel
theorem dX6_fillColumn_154 : decode cX6_fillColumn 154 = .ok (.isub, 1) := by decide +kernel
theorem dX6_fillColumn_155 : decode cX6_fillColumn 155 = .ok (.laload, 1) := by decide +kernel
theorem dX6_fillColumn_156 : decode cX6_fillColumn 156 = .ok (.iload_n 1, 1) := by decide +kernel
theorem dX6_fillColumn_157 : decode cX6_fillColumn 157 = .ok (.lushr, 1) := by decide +kernel
theorem dX6_fillColumn_158 : decode cX6_fillColumn 158 = .ok (.lconst 1, 1) := by decide +kernel
theorem dX6_fillColumn_159 : decode cX6_fillColumn 159 = .ok (.land, 1) := by decide +kernel
theorem dX6_fillColumn_160 : decode cX6_fillColumn 160 = .ok (.lconst 0, 1) := by decide +kernel
theorem dX6_fillColumn_161 : decode cX6_fillColumn 161 = .ok (.lcmp, 1) := by decide +kernel
theorem dX6_fillColumn_162 : decode cX6_fillColumn 162 = .ok (.ifCond .eq 42, 3) := by decide +kernel
theorem dX6_fillColumn_165 : decode cX6_fillColumn 165 = .ok (.aload 4, 2) := by decide +kernel
theorem dX6_fillColumn_167 : decode cX6_fillColumn 167 = .ok (.iload 6, 2) := by decide +kernel
theorem dX6_fillColumn_169 : decode cX6_fillColumn 169 = .ok (.iconst 1, 1) := by decide +kernel
theorem dX6_fillColumn_170 : decode cX6_fillColumn 170 = .ok (.isub, 1) := by decide +kernel
theorem dX6_fillColumn_171 : decode cX6_fillColumn 171 = .ok (.laload, 1) := by decide +kernel
theorem dX6_fillColumn_172 : decode cX6_fillColumn 172 = .ok (.aload_n 0, 1) := by decide +kernel
theorem dX6_fillColumn_173 : decode cX6_fillColumn 173 = .ok (.getfield 30, 3) := by decide +kernel
theorem dX6_fillColumn_176 : decode cX6_fillColumn 176 = .ok (.lushr, 1) := by decide +kernel
theorem dX6_fillColumn_177 : decode cX6_fillColumn 177 = .ok (.lconst 1, 1) := by decide +kernel
theorem dX6_fillColumn_178 : decode cX6_fillColumn 178 = .ok (.land, 1) := by decide +kernel
theorem dX6_fillColumn_179 : decode cX6_fillColumn 179 = .ok (.lconst 0, 1) := by decide +kernel
theorem dX6_fillColumn_180 : decode cX6_fillColumn 180 = .ok (.lcmp, 1) := by decide +kernel
theorem dX6_fillColumn_181 : decode cX6_fillColumn 181 = .ok (.ifCond .eq 23, 3) := by decide +kernel
theorem dX6_fillColumn_184 : decode cX6_fillColumn 184 = .ok (.iload 7, 2) := by decide +kernel
theorem dX6_fillColumn_186 : decode cX6_fillColumn 186 = .ok (.aload_n 0, 1) := by decide +kernel
theorem dX6_fillColumn_187 : decode cX6_fillColumn 187 = .ok (.getfield 27, 3) := by decide +kernel
theorem dX6_fillColumn_190 : decode cX6_fillColumn 190 = .ok (.iload 6, 2) := by decide +kernel
theorem dX6_fillColumn_192 : decode cX6_fillColumn 192 = .ok (.iconst 2, 1) := by decide +kernel
theorem dX6_fillColumn_193 : decode cX6_fillColumn 193 = .ok (.isub, 1) := by decide +kernel
theorem dX6_fillColumn_194 : decode cX6_fillColumn 194 = .ok (.iaload, 1) := by decide +kernel
theorem dX6_fillColumn_195 : decode cX6_fillColumn 195 = .ok (.sipush 2048, 3) := by decide +kernel
theorem dX6_fillColumn_198 : decode cX6_fillColumn 198 = .ok (.iadd, 1) := by decide +kernel
theorem dX6_fillColumn_199 : decode cX6_fillColumn 199 = .ok (.invokestatic 37, 3) := by decide +kernel
theorem dX6_fillColumn_202 : decode cX6_fillColumn 202 = .ok (.istore 7, 2) := by decide +kernel
theorem dX6_fillColumn_204 : decode cX6_fillColumn 204 = .ok (.aload_n 0, 1) := by decide +kernel
theorem dX6_fillColumn_205 : decode cX6_fillColumn 205 = .ok (.getfield 20, 3) := by decide +kernel
theorem dX6_fillColumn_208 : decode cX6_fillColumn 208 = .ok (.iload 6, 2) := by decide +kernel
theorem dX6_fillColumn_210 : decode cX6_fillColumn 210 = .ok (.iload 7, 2) := by decide +kernel
theorem dX6_fillColumn_212 : decode cX6_fillColumn 212 = .ok (.iastore, 1) := by decide +kernel
theorem dX6_fillColumn_213 : decode cX6_fillColumn 213 = .ok (.iinc 6 1, 3) := by decide +kernel
theorem dX6_fillColumn_216 : decode cX6_fillColumn 216 = .ok (.goto (-155), 3) := by decide +kernel
theorem dX6_fillColumn_219 : decode cX6_fillColumn 219 = .ok (.return_, 1) := by decide +kernel
theorem dX6_closeAbove_0 : decode cX6_closeAbove 0 = .ok (.iload_n 1, 1) := by decide +kernel
theorem dX6_closeAbove_1 : decode cX6_closeAbove 1 = .ok (.aload_n 0, 1) := by decide +kernel
theorem dX6_closeAbove_2 : decode cX6_closeAbove 2 = .ok (.getfield 43, 3) := by decide +kernel
theorem dX6_closeAbove_5 : decode cX6_closeAbove 5 = .ok (.if_icmp .ge 13, 3) := by decide +kernel
theorem dX6_closeAbove_8 : decode cX6_closeAbove 8 = .ok (.aload_n 0, 1) := by decide +kernel
theorem dX6_closeAbove_9 : decode cX6_closeAbove 9 = .ok (.getfield 20, 3) := by decide +kernel
theorem dX6_closeAbove_12 : decode cX6_closeAbove 12 = .ok (.iload_n 1, 1) := by decide +kernel
theorem dX6_closeAbove_13 : decode cX6_closeAbove 13 = .ok (.iconst 1, 1) := by decide +kernel
theorem dX6_closeAbove_14 : decode cX6_closeAbove 14 = .ok (.iadd, 1) := by decide +kernel
theorem dX6_closeAbove_15 : decode cX6_closeAbove 15 = .ok (.ldc 82, 2) := by decide +kernel
theorem dX6_closeAbove_17 : decode cX6_closeAbove 17 = .ok (.iastore, 1) := by decide +kernel
theorem dX6_closeAbove_18 : decode cX6_closeAbove 18 = .ok (.return_, 1) := by decide +kernel
theorem dX6_lowerTop_0 : decode cX6_lowerTop 0 = .ok (.aload_n 0, 1) := by decide +kernel
theorem dX6_lowerTop_1 : decode cX6_lowerTop 1 = .ok (.iload_n 1, 1) := by decide +kernel
theorem dX6_lowerTop_2 : decode cX6_lowerTop 2 = .ok (.putfield 62, 3) := by decide +kernel
theorem dX6_lowerTop_5 : decode cX6_lowerTop 5 = .ok (.aload_n 0, 1) := by decide +kernel
theorem dX6_lowerTop_6 : decode cX6_lowerTop 6 = .ok (.getfield 62, 3) := by decide +kernel
theorem dX6_lowerTop_9 : decode cX6_lowerTop 9 = .ok (.ifCond .le 36, 3) := by decide +kernel
theorem dX6_lowerTop_12 : decode cX6_lowerTop 12 = .ok (.aload_n 0, 1) := by decide +kernel
theorem dX6_lowerTop_13 : decode cX6_lowerTop 13 = .ok (.getfield 20, 3) := by decide +kernel
theorem dX6_lowerTop_16 : decode cX6_lowerTop 16 = .ok (.aload_n 0, 1) := by decide +kernel
theorem dX6_lowerTop_17 : decode cX6_lowerTop 17 = .ok (.getfield 62, 3) := by decide +kernel
theorem dX6_lowerTop_20 : decode cX6_lowerTop 20 = .ok (.iaload, 1) := by decide +kernel
theorem dX6_lowerTop_21 : decode cX6_lowerTop 21 = .ok (.sipush 2048, 3) := by decide +kernel
theorem dX6_lowerTop_24 : decode cX6_lowerTop 24 = .ok (.idiv, 1) := by decide +kernel
theorem dX6_lowerTop_25 : decode cX6_lowerTop 25 = .ok (.aload_n 0, 1) := by decide +kernel
theorem dX6_lowerTop_26 : decode cX6_lowerTop 26 = .ok (.getfield 46, 3) := by decide +kernel
theorem dX6_lowerTop_29 : decode cX6_lowerTop 29 = .ok (.if_icmp .le 16, 3) := by decide +kernel
theorem dX6_lowerTop_32 : decode cX6_lowerTop 32 = .ok (.aload_n 0, 1) := by decide +kernel
theorem dX6_lowerTop_33 : decode cX6_lowerTop 33 = .ok (.dup, 1) := by decide +kernel
theorem dX6_lowerTop_34 : decode cX6_lowerTop 34 = .ok (.getfield 62, 3) := by decide +kernel
theorem dX6_lowerTop_37 : decode cX6_lowerTop 37 = .ok (.iconst 1, 1) := by decide +kernel
theorem dX6_lowerTop_38 : decode cX6_lowerTop 38 = .ok (.isub, 1) := by decide +kernel
theorem dX6_lowerTop_39 : decode cX6_lowerTop 39 = .ok (.putfield 62, 3) := by decide +kernel
theorem dX6_lowerTop_42 : decode cX6_lowerTop 42 = .ok (.goto (-37), 3) := by decide +kernel
theorem dX6_lowerTop_45 : decode cX6_lowerTop 45 = .ok (.return_, 1) := by decide +kernel
theorem dX7_init_0 : decode cX7_init 0 = .ok (.aload_n 0, 1) := by decide +kernel
theorem dX7_init_1 : decode cX7_init 1 = .ok (.invokespecial 1, 3) := by decide +kernel
theorem dX7_init_4 : decode cX7_init 4 = .ok (.aload_n 0, 1) := by decide +kernel
theorem dX7_init_5 : decode cX7_init 5 = .ok (.iload_n 1, 1) := by decide +kernel
theorem dX7_init_6 : decode cX7_init 6 = .ok (.iconst 0, 1) := by decide +kernel
theorem dX7_init_7 : decode cX7_init 7 = .ok (.invokestatic 7, 3) := by decide +kernel
theorem dX7_init_10 : decode cX7_init 10 = .ok (.newarray .long, 2) := by decide +kernel
theorem dX7_init_12 : decode cX7_init 12 = .ok (.putfield 13, 3) := by decide +kernel
theorem dX7_init_15 : decode cX7_init 15 = .ok (.aload_n 0, 1) := by decide +kernel
theorem dX7_init_16 : decode cX7_init 16 = .ok (.iload_n 1, 1) := by decide +kernel
theorem dX7_init_17 : decode cX7_init 17 = .ok (.iconst 0, 1) := by decide +kernel
theorem dX7_init_18 : decode cX7_init 18 = .ok (.invokestatic 7, 3) := by decide +kernel
theorem dX7_init_21 : decode cX7_init 21 = .ok (.newarray .long, 2) := by decide +kernel
theorem dX7_init_23 : decode cX7_init 23 = .ok (.putfield 19, 3) := by decide +kernel
theorem dX7_init_26 : decode cX7_init 26 = .ok (.return_, 1) := by decide +kernel
theorem dX7_clear_0 : decode cX7_clear 0 = .ok (.aload_n 0, 1) := by decide +kernel
theorem dX7_clear_1 : decode cX7_clear 1 = .ok (.iconst 0, 1) := by decide +kernel
theorem dX7_clear_2 : decode cX7_clear 2 = .ok (.putfield 22, 3) := by decide +kernel
theorem dX7_clear_5 : decode cX7_clear 5 = .ok (.return_, 1) := by decide +kernel
theorem dX7_add_0 : decode cX7_add 0 = .ok (.aload_n 0, 1) := by decide +kernel
theorem dX7_add_1 : decode cX7_add 1 = .ok (.getfield 22, 3) := by decide +kernel
theorem dX7_add_4 : decode cX7_add 4 = .ok (.aload_n 0, 1) := by decide +kernel
theorem dX7_add_5 : decode cX7_add 5 = .ok (.getfield 13, 3) := by decide +kernel
theorem dX7_add_8 : decode cX7_add 8 = .ok (.arraylength, 1) := by decide +kernel
theorem dX7_add_9 : decode cX7_add 9 = .ok (.if_icmp .ge 33, 3) := by decide +kernel
theorem dX7_add_12 : decode cX7_add 12 = .ok (.aload_n 0, 1) := by decide +kernel
theorem dX7_add_13 : decode cX7_add 13 = .ok (.getfield 13, 3) := by decide +kernel
theorem dX7_add_16 : decode cX7_add 16 = .ok (.aload_n 0, 1) := by decide +kernel
theorem dX7_add_17 : decode cX7_add 17 = .ok (.getfield 22, 3) := by decide +kernel
theorem dX7_add_20 : decode cX7_add 20 = .ok (.lload_n 1, 1) := by decide +kernel
theorem dX7_add_21 : decode cX7_add 21 = .ok (.lastore, 1) := by decide +kernel
theorem dX7_add_22 : decode cX7_add 22 = .ok (.aload_n 0, 1) := by decide +kernel
theorem dX7_add_23 : decode cX7_add 23 = .ok (.getfield 19, 3) := by decide +kernel
theorem dX7_add_26 : decode cX7_add 26 = .ok (.aload_n 0, 1) := by decide +kernel
theorem dX7_add_27 : decode cX7_add 27 = .ok (.getfield 22, 3) := by decide +kernel
theorem dX7_add_30 : decode cX7_add 30 = .ok (.lload_n 3, 1) := by decide +kernel
theorem dX7_add_31 : decode cX7_add 31 = .ok (.lastore, 1) := by decide +kernel
theorem dX7_add_32 : decode cX7_add 32 = .ok (.aload_n 0, 1) := by decide +kernel
theorem dX7_add_33 : decode cX7_add 33 = .ok (.dup, 1) := by decide +kernel
theorem dX7_add_34 : decode cX7_add 34 = .ok (.getfield 22, 3) := by decide +kernel
theorem dX7_add_37 : decode cX7_add 37 = .ok (.iconst 1, 1) := by decide +kernel
theorem dX7_add_38 : decode cX7_add 38 = .ok (.iadd, 1) := by decide +kernel
theorem dX7_add_39 : decode cX7_add 39 = .ok (.putfield 22, 3) := by decide +kernel
theorem dX7_add_42 : decode cX7_add 42 = .ok (.return_, 1) := by decide +kernel
theorem dX7_holds_0 : decode cX7_holds 0 = .ok (.iload_n 1, 1) := by decide +kernel
theorem dX7_holds_1 : decode cX7_holds 1 = .ok (.ifCond .lt 31, 3) := by decide +kernel
theorem dX7_holds_4 : decode cX7_holds 4 = .ok (.iload_n 1, 1) := by decide +kernel
theorem dX7_holds_5 : decode cX7_holds 5 = .ok (.aload_n 0, 1) := by decide +kernel
theorem dX7_holds_6 : decode cX7_holds 6 = .ok (.getfield 22, 3) := by decide +kernel
theorem dX7_holds_9 : decode cX7_holds 9 = .ok (.if_icmp .ge 23, 3) := by decide +kernel
theorem dX7_holds_12 : decode cX7_holds 12 = .ok (.aload_n 0, 1) := by decide +kernel
theorem dX7_holds_13 : decode cX7_holds 13 = .ok (.iload_n 2, 1) := by decide +kernel
theorem dX7_holds_14 : decode cX7_holds 14 = .ok (.invokevirtual 26, 3) := by decide +kernel
theorem dX7_holds_17 : decode cX7_holds 17 = .ok (.iload_n 1, 1) := by decide +kernel
theorem dX7_holds_18 : decode cX7_holds 18 = .ok (.laload, 1) := by decide +kernel
theorem dX7_holds_19 : decode cX7_holds 19 = .ok (.iload_n 2, 1) := by decide +kernel
theorem dX7_holds_20 : decode cX7_holds 20 = .ok (.lushr, 1) := by decide +kernel
theorem dX7_holds_21 : decode cX7_holds 21 = .ok (.lconst 1, 1) := by decide +kernel
theorem dX7_holds_22 : decode cX7_holds 22 = .ok (.land, 1) := by decide +kernel
theorem dX7_holds_23 : decode cX7_holds 23 = .ok (.lconst 0, 1) := by decide +kernel
theorem dX7_holds_24 : decode cX7_holds 24 = .ok (.lcmp, 1) := by decide +kernel
theorem dX7_holds_25 : decode cX7_holds 25 = .ok (.ifCond .eq 7, 3) := by decide +kernel
theorem dX7_holds_28 : decode cX7_holds 28 = .ok (.iconst 1, 1) := by decide +kernel
theorem dX7_holds_29 : decode cX7_holds 29 = .ok (.goto 4, 3) := by decide +kernel
theorem dX7_holds_32 : decode cX7_holds 32 = .ok (.iconst 0, 1) := by decide +kernel
theorem dX7_holds_33 : decode cX7_holds 33 = .ok (.ireturn, 1) := by decide +kernel
theorem dX7_half_0 : decode cX7_half 0 = .ok (.iload_n 1, 1) := by decide +kernel
theorem dX7_half_1 : decode cX7_half 1 = .ok (.bipush 64, 2) := by decide +kernel
theorem dX7_half_3 : decode cX7_half 3 = .ok (.if_icmp .ge 10, 3) := by decide +kernel
theorem dX7_half_6 : decode cX7_half 6 = .ok (.aload_n 0, 1) := by decide +kernel
theorem dX7_half_7 : decode cX7_half 7 = .ok (.getfield 13, 3) := by decide +kernel
theorem dX7_half_10 : decode cX7_half 10 = .ok (.goto 7, 3) := by decide +kernel
theorem dX7_half_13 : decode cX7_half 13 = .ok (.aload_n 0, 1) := by decide +kernel
theorem dX7_half_14 : decode cX7_half 14 = .ok (.getfield 19, 3) := by decide +kernel
theorem dX7_half_17 : decode cX7_half 17 = .ok (.areturn, 1) := by decide +kernel
theorem dX7_copyFrom_0 : decode cX7_copyFrom 0 = .ok (.aload_n 0, 1) := by decide +kernel
theorem dX7_copyFrom_1 : decode cX7_copyFrom 1 = .ok (.invokevirtual 30, 3) := by decide +kernel
theorem dX7_copyFrom_4 : decode cX7_copyFrom 4 = .ok (.iconst 0, 1) := by decide +kernel
theorem dX7_copyFrom_5 : decode cX7_copyFrom 5 = .ok (.istore_n 2, 1) := by decide +kernel
theorem dX7_copyFrom_6 : decode cX7_copyFrom 6 = .ok (.iload_n 2, 1) := by decide +kernel
theorem dX7_copyFrom_7 : decode cX7_copyFrom 7 = .ok (.aload_n 1, 1) := by decide +kernel
theorem dX7_copyFrom_8 : decode cX7_copyFrom 8 = .ok (.getfield 22, 3) := by decide +kernel
theorem dX7_copyFrom_11 : decode cX7_copyFrom 11 = .ok (.if_icmp .ge 25, 3) := by decide +kernel
theorem dX7_copyFrom_14 : decode cX7_copyFrom 14 = .ok (.aload_n 0, 1) := by decide +kernel
theorem dX7_copyFrom_15 : decode cX7_copyFrom 15 = .ok (.aload_n 1, 1) := by decide +kernel
theorem dX7_copyFrom_16 : decode cX7_copyFrom 16 = .ok (.getfield 13, 3) := by decide +kernel
theorem dX7_copyFrom_19 : decode cX7_copyFrom 19 = .ok (.iload_n 2, 1) := by decide +kernel
theorem dX7_copyFrom_20 : decode cX7_copyFrom 20 = .ok (.laload, 1) := by decide +kernel
theorem dX7_copyFrom_21 : decode cX7_copyFrom 21 = .ok (.aload_n 1, 1) := by decide +kernel
theorem dX7_copyFrom_22 : decode cX7_copyFrom 22 = .ok (.getfield 19, 3) := by decide +kernel
theorem dX7_copyFrom_25 : decode cX7_copyFrom 25 = .ok (.iload_n 2, 1) := by decide +kernel
theorem dX7_copyFrom_26 : decode cX7_copyFrom 26 = .ok (.laload, 1) := by decide +kernel
theorem dX7_copyFrom_27 : decode cX7_copyFrom 27 = .ok (.invokevirtual 33, 3) := by decide +kernel
theorem dX7_copyFrom_30 : decode cX7_copyFrom 30 = .ok (.iinc 2 1, 3) := by decide +kernel
theorem dX7_copyFrom_33 : decode cX7_copyFrom 33 = .ok (.goto (-27), 3) := by decide +kernel
theorem dX7_copyFrom_36 : decode cX7_copyFrom 36 = .ok (.return_, 1) := by decide +kernel
theorem dX7_copyBytes_0 : decode cX7_copyBytes 0 = .ok (.aload_n 0, 1) := by decide +kernel
theorem dX7_copyBytes_1 : decode cX7_copyBytes 1 = .ok (.invokevirtual 30, 3) := by decide +kernel
theorem dX7_copyBytes_4 : decode cX7_copyBytes 4 = .ok (.iload_n 2, 1) := by decide +kernel
theorem dX7_copyBytes_5 : decode cX7_copyBytes 5 = .ok (.istore 4, 2) := by decide +kernel
theorem dX7_copyBytes_7 : decode cX7_copyBytes 7 = .ok (.iload 4, 2) := by decide +kernel
theorem dX7_copyBytes_9 : decode cX7_copyBytes 9 = .ok (.iload_n 3, 1) := by decide +kernel
theorem dX7_copyBytes_10 : decode cX7_copyBytes 10 = .ok (.if_icmp .ge 51, 3) := by decide +kernel
theorem dX7_copyBytes_13 : decode cX7_copyBytes 13 = .ok (.aload_n 1, 1) := by decide +kernel
theorem dX7_copyBytes_14 : decode cX7_copyBytes 14 = .ok (.iload 4, 2) := by decide +kernel
theorem dX7_copyBytes_16 : decode cX7_copyBytes 16 = .ok (.invokevirtual 37, 3) := by decide +kernel
theorem dX7_copyBytes_19 : decode cX7_copyBytes 19 = .ok (.istore 5, 2) := by decide +kernel
theorem dX7_copyBytes_21 : decode cX7_copyBytes 21 = .ok (.aload_n 0, 1) := by decide +kernel
theorem dX7_copyBytes_22 : decode cX7_copyBytes 22 = .ok (.iload 5, 2) := by decide +kernel
theorem dX7_copyBytes_24 : decode cX7_copyBytes 24 = .ok (.bipush 64, 2) := by decide +kernel
theorem dX7_copyBytes_26 : decode cX7_copyBytes 26 = .ok (.if_icmp .ge 10, 3) := by decide +kernel
theorem dX7_copyBytes_29 : decode cX7_copyBytes 29 = .ok (.lconst 1, 1) := by decide +kernel
theorem dX7_copyBytes_30 : decode cX7_copyBytes 30 = .ok (.iload 5, 2) := by decide +kernel
theorem dX7_copyBytes_32 : decode cX7_copyBytes 32 = .ok (.lshl, 1) := by decide +kernel
theorem dX7_copyBytes_33 : decode cX7_copyBytes 33 = .ok (.goto 4, 3) := by decide +kernel
theorem dX7_copyBytes_36 : decode cX7_copyBytes 36 = .ok (.lconst 0, 1) := by decide +kernel
theorem dX7_copyBytes_37 : decode cX7_copyBytes 37 = .ok (.iload 5, 2) := by decide +kernel
theorem dX7_copyBytes_39 : decode cX7_copyBytes 39 = .ok (.bipush 64, 2) := by decide +kernel
theorem dX7_copyBytes_41 : decode cX7_copyBytes 41 = .ok (.if_icmp .ge 7, 3) := by decide +kernel
theorem dX7_copyBytes_44 : decode cX7_copyBytes 44 = .ok (.lconst 0, 1) := by decide +kernel
theorem dX7_copyBytes_45 : decode cX7_copyBytes 45 = .ok (.goto 7, 3) := by decide +kernel
theorem dX7_copyBytes_48 : decode cX7_copyBytes 48 = .ok (.lconst 1, 1) := by decide +kernel
theorem dX7_copyBytes_49 : decode cX7_copyBytes 49 = .ok (.iload 5, 2) := by decide +kernel
theorem dX7_copyBytes_51 : decode cX7_copyBytes 51 = .ok (.lshl, 1) := by decide +kernel
theorem dX7_copyBytes_52 : decode cX7_copyBytes 52 = .ok (.invokevirtual 33, 3) := by decide +kernel
theorem dX7_copyBytes_55 : decode cX7_copyBytes 55 = .ok (.iinc 4 1, 3) := by decide +kernel
theorem dX7_copyBytes_58 : decode cX7_copyBytes 58 = .ok (.goto (-51), 3) := by decide +kernel
theorem dX7_copyBytes_61 : decode cX7_copyBytes 61 = .ok (.return_, 1) := by decide +kernel
theorem dX8_init_0 : decode cX8_init 0 = .ok (.aload_n 0, 1) := by decide +kernel
theorem dX8_init_1 : decode cX8_init 1 = .ok (.invokespecial 3, 3) := by decide +kernel
theorem dX8_init_4 : decode cX8_init 4 = .ok (.aload_n 0, 1) := by decide +kernel
theorem dX8_init_5 : decode cX8_init 5 = .ok (.sipush 5038, 3) := by decide +kernel
theorem dX8_init_8 : decode cX8_init 8 = .ok (.newarray .long, 2) := by decide +kernel
theorem dX8_init_10 : decode cX8_init 10 = .ok (.putfield 11, 3) := by decide +kernel
theorem dX8_init_13 : decode cX8_init 13 = .ok (.return_, 1) := by decide +kernel
theorem dX8_widen_0 : decode cX8_widen 0 = .ok (.aload_n 0, 1) := by decide +kernel
theorem dX8_widen_1 : decode cX8_widen 1 = .ok (.iload_n 1, 1) := by decide +kernel
theorem dX8_widen_2 : decode cX8_widen 2 = .ok (.putfield 15, 3) := by decide +kernel
theorem dX8_widen_5 : decode cX8_widen 5 = .ok (.aload_n 0, 1) := by decide +kernel
theorem dX8_widen_6 : decode cX8_widen 6 = .ok (.iload_n 2, 1) := by decide +kernel
theorem dX8_widen_7 : decode cX8_widen 7 = .ok (.iload_n 1, 1) := by decide +kernel
theorem dX8_widen_8 : decode cX8_widen 8 = .ok (.isub, 1) := by decide +kernel
theorem dX8_widen_9 : decode cX8_widen 9 = .ok (.iconst 1, 1) := by decide +kernel
theorem dX8_widen_10 : decode cX8_widen 10 = .ok (.iadd, 1) := by decide +kernel
theorem dX8_widen_11 : decode cX8_widen 11 = .ok (.putfield 19, 3) := by decide +kernel
theorem dX8_widen_14 : decode cX8_widen 14 = .ok (.return_, 1) := by decide +kernel
theorem dX8_put_0 : decode cX8_put 0 = .ok (.aload_n 0, 1) := by decide +kernel
theorem dX8_put_1 : decode cX8_put 1 = .ok (.iload_n 1, 1) := by decide +kernel
theorem dX8_put_2 : decode cX8_put 2 = .ok (.iload_n 2, 1) := by decide +kernel
theorem dX8_put_3 : decode cX8_put 3 = .ok (.invokevirtual 22, 3) := by decide +kernel
theorem dX8_put_6 : decode cX8_put 6 = .ok (.istore 4, 2) := by decide +kernel
theorem dX8_put_8 : decode cX8_put 8 = .ok (.iload 4, 2) := by decide +kernel
theorem dX8_put_10 : decode cX8_put 10 = .ok (.ifCond .lt 62, 3) := by decide +kernel
theorem dX8_put_13 : decode cX8_put 13 = .ok (.iload 4, 2) := by decide +kernel
theorem dX8_put_15 : decode cX8_put 15 = .ok (.bipush 16, 2) := by decide +kernel
theorem dX8_put_17 : decode cX8_put 17 = .ok (.idiv, 1) := by decide +kernel
theorem dX8_put_18 : decode cX8_put 18 = .ok (.aload_n 0, 1) := by decide +kernel
theorem dX8_put_19 : decode cX8_put 19 = .ok (.getfield 11, 3) := by decide +kernel
theorem dX8_put_22 : decode cX8_put 22 = .ok (.arraylength, 1) := by decide +kernel
theorem dX8_put_23 : decode cX8_put 23 = .ok (.if_icmp .ge 49, 3) := by decide +kernel
theorem dX8_put_26 : decode cX8_put 26 = .ok (.iload 4, 2) := by decide +kernel
theorem dX8_put_28 : decode cX8_put 28 = .ok (.bipush 16, 2) := by decide +kernel
theorem dX8_put_30 : decode cX8_put 30 = .ok (.irem, 1) := by decide +kernel
theorem dX8_put_31 : decode cX8_put 31 = .ok (.iconst 4, 1) := by decide +kernel
theorem dX8_put_32 : decode cX8_put 32 = .ok (.imul, 1) := by decide +kernel
theorem dX8_put_33 : decode cX8_put 33 = .ok (.istore 5, 2) := by decide +kernel
theorem dX8_put_35 : decode cX8_put 35 = .ok (.aload_n 0, 1) := by decide +kernel
theorem dX8_put_36 : decode cX8_put 36 = .ok (.getfield 11, 3) := by decide +kernel
theorem dX8_put_39 : decode cX8_put 39 = .ok (.iload 4, 2) := by decide +kernel
theorem dX8_put_41 : decode cX8_put 41 = .ok (.bipush 16, 2) := by decide +kernel
theorem dX8_put_43 : decode cX8_put 43 = .ok (.idiv, 1) := by decide +kernel
theorem dX8_put_44 : decode cX8_put 44 = .ok (.aload_n 0, 1) := by decide +kernel
theorem dX8_put_45 : decode cX8_put 45 = .ok (.getfield 11, 3) := by decide +kernel
theorem dX8_put_48 : decode cX8_put 48 = .ok (.iload 4, 2) := by decide +kernel
theorem dX8_put_50 : decode cX8_put 50 = .ok (.bipush 16, 2) := by decide +kernel
theorem dX8_put_52 : decode cX8_put 52 = .ok (.idiv, 1) := by decide +kernel
theorem dX8_put_53 : decode cX8_put 53 = .ok (.laload, 1) := by decide +kernel
theorem dX8_put_54 : decode cX8_put 54 = .ok (.ldc2_w 26, 3) := by decide +kernel
theorem dX8_put_57 : decode cX8_put 57 = .ok (.iload 5, 2) := by decide +kernel
theorem dX8_put_59 : decode cX8_put 59 = .ok (.lshl, 1) := by decide +kernel
theorem dX8_put_60 : decode cX8_put 60 = .ok (.ldc2_w 28, 3) := by decide +kernel
theorem dX8_put_63 : decode cX8_put 63 = .ok (.lxor, 1) := by decide +kernel
theorem dX8_put_64 : decode cX8_put 64 = .ok (.land, 1) := by decide +kernel
theorem dX8_put_65 : decode cX8_put 65 = .ok (.iload_n 3, 1) := by decide +kernel
theorem dX8_put_66 : decode cX8_put 66 = .ok (.i2l, 1) := by decide +kernel
theorem dX8_put_67 : decode cX8_put 67 = .ok (.iload 5, 2) := by decide +kernel
theorem dX8_put_69 : decode cX8_put 69 = .ok (.lshl, 1) := by decide +kernel
theorem dX8_put_70 : decode cX8_put 70 = .ok (.lor, 1) := by decide +kernel
theorem dX8_put_71 : decode cX8_put 71 = .ok (.lastore, 1) := by decide +kernel
theorem dX8_put_72 : decode cX8_put 72 = .ok (.return_, 1) := by decide +kernel
theorem dX8_get_0 : decode cX8_get 0 = .ok (.aload_n 0, 1) := by decide +kernel
theorem dX8_get_1 : decode cX8_get 1 = .ok (.iload_n 1, 1) := by decide +kernel
theorem dX8_get_2 : decode cX8_get 2 = .ok (.iload_n 2, 1) := by decide +kernel
theorem dX8_get_3 : decode cX8_get 3 = .ok (.invokevirtual 22, 3) := by decide +kernel
theorem dX8_get_6 : decode cX8_get 6 = .ok (.istore_n 3, 1) := by decide +kernel
theorem dX8_get_7 : decode cX8_get 7 = .ok (.iload_n 3, 1) := by decide +kernel
theorem dX8_get_8 : decode cX8_get 8 = .ok (.ifCond .lt 15, 3) := by decide +kernel
theorem dX8_get_11 : decode cX8_get 11 = .ok (.iload_n 3, 1) := by decide +kernel
theorem dX8_get_12 : decode cX8_get 12 = .ok (.bipush 16, 2) := by decide +kernel
theorem dX8_get_14 : decode cX8_get 14 = .ok (.idiv, 1) := by decide +kernel
theorem dX8_get_15 : decode cX8_get 15 = .ok (.aload_n 0, 1) := by decide +kernel
theorem dX8_get_16 : decode cX8_get 16 = .ok (.getfield 11, 3) := by decide +kernel
theorem dX8_get_19 : decode cX8_get 19 = .ok (.arraylength, 1) := by decide +kernel
theorem dX8_get_20 : decode cX8_get 20 = .ok (.if_icmp .lt 5, 3) := by decide +kernel
theorem dX8_get_23 : decode cX8_get 23 = .ok (.iconst 0, 1) := by decide +kernel
theorem dX8_get_24 : decode cX8_get 24 = .ok (.ireturn, 1) := by decide +kernel
theorem dX8_get_25 : decode cX8_get 25 = .ok (.aload_n 0, 1) := by decide +kernel
theorem dX8_get_26 : decode cX8_get 26 = .ok (.getfield 11, 3) := by decide +kernel
theorem dX8_get_29 : decode cX8_get 29 = .ok (.iload_n 3, 1) := by decide +kernel
theorem dX8_get_30 : decode cX8_get 30 = .ok (.bipush 16, 2) := by decide +kernel
theorem dX8_get_32 : decode cX8_get 32 = .ok (.idiv, 1) := by decide +kernel
theorem dX8_get_33 : decode cX8_get 33 = .ok (.laload, 1) := by decide +kernel
theorem dX8_get_34 : decode cX8_get 34 = .ok (.iload_n 3, 1) := by decide +kernel
theorem dX8_get_35 : decode cX8_get 35 = .ok (.bipush 16, 2) := by decide +kernel
theorem dX8_get_37 : decode cX8_get 37 = .ok (.irem, 1) := by decide +kernel
theorem dX8_get_38 : decode cX8_get 38 = .ok (.iconst 4, 1) := by decide +kernel
theorem dX8_get_39 : decode cX8_get 39 = .ok (.imul, 1) := by decide +kernel
theorem dX8_get_40 : decode cX8_get 40 = .ok (.lushr, 1) := by decide +kernel
theorem dX8_get_41 : decode cX8_get 41 = .ok (.ldc2_w 26, 3) := by decide +kernel
theorem dX8_get_44 : decode cX8_get 44 = .ok (.land, 1) := by decide +kernel
theorem dX8_get_45 : decode cX8_get 45 = .ok (.l2i, 1) := by decide +kernel
theorem dX8_get_46 : decode cX8_get 46 = .ok (.ireturn, 1) := by decide +kernel
theorem dX8_cellOf_0 : decode cX8_cellOf 0 = .ok (.iload_n 2, 1) := by decide +kernel
theorem dX8_cellOf_1 : decode cX8_cellOf 1 = .ok (.aload_n 0, 1) := by decide +kernel
theorem dX8_cellOf_2 : decode cX8_cellOf 2 = .ok (.getfield 19, 3) := by decide +kernel
theorem dX8_cellOf_5 : decode cX8_cellOf 5 = .ok (.imul, 1) := by decide +kernel
theorem dX8_cellOf_6 : decode cX8_cellOf 6 = .ok (.iload_n 1, 1) := by decide +kernel
theorem dX8_cellOf_7 : decode cX8_cellOf 7 = .ok (.iload_n 2, 1) := by decide +kernel
theorem dX8_cellOf_8 : decode cX8_cellOf 8 = .ok (.isub, 1) := by decide +kernel
theorem dX8_cellOf_9 : decode cX8_cellOf 9 = .ok (.aload_n 0, 1) := by decide +kernel
theorem dX8_cellOf_10 : decode cX8_cellOf 10 = .ok (.getfield 15, 3) := by decide +kernel
theorem dX8_cellOf_13 : decode cX8_cellOf 13 = .ok (.isub, 1) := by decide +kernel
theorem dX8_cellOf_14 : decode cX8_cellOf 14 = .ok (.iadd, 1) := by decide +kernel
theorem dX8_cellOf_15 : decode cX8_cellOf 15 = .ok (.ireturn, 1) := by decide +kernel
theorem dX9_init_0 : decode cX9_init 0 = .ok (.aload_n 0, 1) := by decide +kernel
theorem dX9_init_1 : decode cX9_init 1 = .ok (.invokespecial 3, 3) := by decide +kernel
theorem dX9_init_4 : decode cX9_init 4 = .ok (.aload_n 0, 1) := by decide +kernel
theorem dX9_init_5 : decode cX9_init 5 = .ok (.sipush 400, 3) := by decide +kernel
theorem dX9_init_8 : decode cX9_init 8 = .ok (.newarray .byte, 2) := by decide +kernel
theorem dX9_init_10 : decode cX9_init 10 = .ok (.putfield 9, 3) := by decide +kernel
theorem dX9_init_13 : decode cX9_init 13 = .ok (.return_, 1) := by decide +kernel
theorem dX9_clear_0 : decode cX9_clear 0 = .ok (.aload_n 0, 1) := by decide +kernel
theorem dX9_clear_1 : decode cX9_clear 1 = .ok (.iconst 0, 1) := by decide +kernel
theorem dX9_clear_2 : decode cX9_clear 2 = .ok (.putfield 15, 3) := by decide +kernel
theorem dX9_clear_5 : decode cX9_clear 5 = .ok (.return_, 1) := by decide +kernel
theorem dX9_addBefore_0 : decode cX9_addBefore 0 = .ok (.aload_n 0, 1) := by decide +kernel
theorem dX9_addBefore_1 : decode cX9_addBefore 1 = .ok (.getfield 15, 3) := by decide +kernel
theorem dX9_addBefore_4 : decode cX9_addBefore 4 = .ok (.aload_n 0, 1) := by decide +kernel
theorem dX9_addBefore_5 : decode cX9_addBefore 5 = .ok (.getfield 9, 3) := by decide +kernel
theorem dX9_addBefore_8 : decode cX9_addBefore 8 = .ok (.arraylength, 1) := by decide +kernel
theorem dX9_addBefore_9 : decode cX9_addBefore 9 = .ok (.if_icmp .ge 24, 3) := by decide +kernel
theorem dX9_addBefore_12 : decode cX9_addBefore 12 = .ok (.aload_n 0, 1) := by decide +kernel
theorem dX9_addBefore_13 : decode cX9_addBefore 13 = .ok (.getfield 9, 3) := by decide +kernel
theorem dX9_addBefore_16 : decode cX9_addBefore 16 = .ok (.aload_n 0, 1) := by decide +kernel
theorem dX9_addBefore_17 : decode cX9_addBefore 17 = .ok (.getfield 15, 3) := by decide +kernel
theorem dX9_addBefore_20 : decode cX9_addBefore 20 = .ok (.iload_n 1, 1) := by decide +kernel
theorem dX9_addBefore_21 : decode cX9_addBefore 21 = .ok (.i2b, 1) := by decide +kernel
theorem dX9_addBefore_22 : decode cX9_addBefore 22 = .ok (.bastore, 1) := by decide +kernel
theorem dX9_addBefore_23 : decode cX9_addBefore 23 = .ok (.aload_n 0, 1) := by decide +kernel
theorem dX9_addBefore_24 : decode cX9_addBefore 24 = .ok (.dup, 1) := by decide +kernel
theorem dX9_addBefore_25 : decode cX9_addBefore 25 = .ok (.getfield 15, 3) := by decide +kernel
theorem dX9_addBefore_28 : decode cX9_addBefore 28 = .ok (.iconst 1, 1) := by decide +kernel
theorem dX9_addBefore_29 : decode cX9_addBefore 29 = .ok (.iadd, 1) := by decide +kernel
theorem dX9_addBefore_30 : decode cX9_addBefore 30 = .ok (.putfield 15, 3) := by decide +kernel
theorem dX9_addBefore_33 : decode cX9_addBefore 33 = .ok (.return_, 1) := by decide +kernel
theorem dX9_get_0 : decode cX9_get 0 = .ok (.iload_n 1, 1) := by decide +kernel
theorem dX9_get_1 : decode cX9_get 1 = .ok (.ifCond .lt 27, 3) := by decide +kernel
theorem dX9_get_4 : decode cX9_get 4 = .ok (.iload_n 1, 1) := by decide +kernel
theorem dX9_get_5 : decode cX9_get 5 = .ok (.aload_n 0, 1) := by decide +kernel
theorem dX9_get_6 : decode cX9_get 6 = .ok (.getfield 15, 3) := by decide +kernel
theorem dX9_get_9 : decode cX9_get 9 = .ok (.if_icmp .ge 19, 3) := by decide +kernel
theorem dX9_get_12 : decode cX9_get 12 = .ok (.aload_n 0, 1) := by decide +kernel
theorem dX9_get_13 : decode cX9_get 13 = .ok (.getfield 9, 3) := by decide +kernel
theorem dX9_get_16 : decode cX9_get 16 = .ok (.aload_n 0, 1) := by decide +kernel
theorem dX9_get_17 : decode cX9_get 17 = .ok (.getfield 15, 3) := by decide +kernel
theorem dX9_get_20 : decode cX9_get 20 = .ok (.iconst 1, 1) := by decide +kernel
theorem dX9_get_21 : decode cX9_get 21 = .ok (.isub, 1) := by decide +kernel
theorem dX9_get_22 : decode cX9_get 22 = .ok (.iload_n 1, 1) := by decide +kernel
theorem dX9_get_23 : decode cX9_get 23 = .ok (.isub, 1) := by decide +kernel
theorem dX9_get_24 : decode cX9_get 24 = .ok (.baload, 1) := by decide +kernel
theorem dX9_get_25 : decode cX9_get 25 = .ok (.goto 4, 3) := by decide +kernel
theorem dX9_get_28 : decode cX9_get 28 = .ok (.iconst (-1), 1) := by decide +kernel
theorem dX9_get_29 : decode cX9_get 29 = .ok (.ireturn, 1) := by decide +kernel
theorem dX10_init_0 : decode cX10_init 0 = .ok (.aload_n 0, 1) := by decide +kernel
theorem dX10_init_1 : decode cX10_init 1 = .ok (.invokespecial 3, 3) := by decide +kernel
theorem dX10_init_4 : decode cX10_init 4 = .ok (.aload_n 0, 1) := by decide +kernel
theorem dX10_init_5 : decode cX10_init 5 = .ok (.new 9, 3) := by decide +kernel
theorem dX10_init_8 : decode cX10_init 8 = .ok (.dup, 1) := by decide +kernel
theorem dX10_init_9 : decode cX10_init 9 = .ok (.sipush 400, 3) := by decide +kernel
theorem dX10_init_12 : decode cX10_init 12 = .ok (.invokespecial 11, 3) := by decide +kernel
theorem dX10_init_15 : decode cX10_init 15 = .ok (.putfield 14, 3) := by decide +kernel
theorem dX10_init_18 : decode cX10_init 18 = .ok (.aload_n 0, 1) := by decide +kernel
theorem dX10_init_19 : decode cX10_init 19 = .ok (.new 9, 3) := by decide +kernel
theorem dX10_init_22 : decode cX10_init 22 = .ok (.dup, 1) := by decide +kernel
theorem dX10_init_23 : decode cX10_init 23 = .ok (.sipush 1500, 3) := by decide +kernel
theorem dX10_init_26 : decode cX10_init 26 = .ok (.invokespecial 11, 3) := by decide +kernel
theorem dX10_init_29 : decode cX10_init 29 = .ok (.putfield 18, 3) := by decide +kernel
theorem dX10_init_32 : decode cX10_init 32 = .ok (.aload_n 0, 1) := by decide +kernel
theorem dX10_init_33 : decode cX10_init 33 = .ok (.new 9, 3) := by decide +kernel
theorem dX10_init_36 : decode cX10_init 36 = .ok (.dup, 1) := by decide +kernel
theorem dX10_init_37 : decode cX10_init 37 = .ok (.sipush 1500, 3) := by decide +kernel
theorem dX10_init_40 : decode cX10_init 40 = .ok (.invokespecial 11, 3) := by decide +kernel
theorem dX10_init_43 : decode cX10_init 43 = .ok (.putfield 21, 3) := by decide +kernel
theorem dX10_init_46 : decode cX10_init 46 = .ok (.aload_n 0, 1) := by decide +kernel
theorem dX10_init_47 : decode cX10_init 47 = .ok (.new 24, 3) := by decide +kernel
theorem dX10_init_50 : decode cX10_init 50 = .ok (.dup, 1) := by decide +kernel
theorem dX10_init_51 : decode cX10_init 51 = .ok (.invokespecial 26, 3) := by decide +kernel
theorem dX10_init_54 : decode cX10_init 54 = .ok (.putfield 27, 3) := by decide +kernel
theorem dX10_init_57 : decode cX10_init 57 = .ok (.aload_n 0, 1) := by decide +kernel
theorem dX10_init_58 : decode cX10_init 58 = .ok (.bipush 8, 2) := by decide +kernel
theorem dX10_init_60 : decode cX10_init 60 = .ok (.anewarray 31, 3) := by decide +kernel
theorem dX10_init_63 : decode cX10_init 63 = .ok (.putfield 33, 3) := by decide +kernel
theorem dX10_init_66 : decode cX10_init 66 = .ok (.iconst 0, 1) := by decide +kernel
theorem dX10_init_67 : decode cX10_init 67 = .ok (.istore_n 1, 1) := by decide +kernel
theorem dX10_init_68 : decode cX10_init 68 = .ok (.iload_n 1, 1) := by decide +kernel
theorem dX10_init_69 : decode cX10_init 69 = .ok (.bipush 8, 2) := by decide +kernel
theorem dX10_init_71 : decode cX10_init 71 = .ok (.if_icmp .ge 25, 3) := by decide +kernel
theorem dX10_init_74 : decode cX10_init 74 = .ok (.aload_n 0, 1) := by decide +kernel
theorem dX10_init_75 : decode cX10_init 75 = .ok (.getfield 33, 3) := by decide +kernel
theorem dX10_init_78 : decode cX10_init 78 = .ok (.iload_n 1, 1) := by decide +kernel
theorem dX10_init_79 : decode cX10_init 79 = .ok (.new 31, 3) := by decide +kernel
theorem dX10_init_82 : decode cX10_init 82 = .ok (.dup, 1) := by decide +kernel
theorem dX10_init_83 : decode cX10_init 83 = .ok (.sipush 200, 3) := by decide +kernel
theorem dX10_init_86 : decode cX10_init 86 = .ok (.invokespecial 37, 3) := by decide +kernel
theorem dX10_init_89 : decode cX10_init 89 = .ok (.aastore, 1) := by decide +kernel
theorem dX10_init_90 : decode cX10_init 90 = .ok (.iinc 1 1, 3) := by decide +kernel
theorem dX10_init_93 : decode cX10_init 93 = .ok (.goto (-25), 3) := by decide +kernel
theorem dX10_init_96 : decode cX10_init 96 = .ok (.aload_n 0, 1) := by decide +kernel
theorem dX10_init_97 : decode cX10_init 97 = .ok (.new 31, 3) := by decide +kernel
theorem dX10_init_100 : decode cX10_init 100 = .ok (.dup, 1) := by decide +kernel
theorem dX10_init_101 : decode cX10_init 101 = .ok (.sipush 1500, 3) := by decide +kernel
theorem dX10_init_104 : decode cX10_init 104 = .ok (.invokespecial 37, 3) := by decide +kernel
theorem dX10_init_107 : decode cX10_init 107 = .ok (.putfield 38, 3) := by decide +kernel
theorem dX10_init_110 : decode cX10_init 110 = .ok (.aload_n 0, 1) := by decide +kernel
theorem dX10_init_111 : decode cX10_init 111 = .ok (.new 42, 3) := by decide +kernel
theorem dX10_init_114 : decode cX10_init 114 = .ok (.dup, 1) := by decide +kernel
theorem dX10_init_115 : decode cX10_init 115 = .ok (.invokespecial 44, 3) := by decide +kernel
theorem dX10_init_118 : decode cX10_init 118 = .ok (.putfield 45, 3) := by decide +kernel
theorem dX10_init_121 : decode cX10_init 121 = .ok (.aload_n 0, 1) := by decide +kernel
theorem dX10_init_122 : decode cX10_init 122 = .ok (.new 49, 3) := by decide +kernel
theorem dX10_init_125 : decode cX10_init 125 = .ok (.dup, 1) := by decide +kernel
theorem dX10_init_126 : decode cX10_init 126 = .ok (.invokespecial 51, 3) := by decide +kernel
theorem dX10_init_129 : decode cX10_init 129 = .ok (.putfield 52, 3) := by decide +kernel
theorem dX10_init_132 : decode cX10_init 132 = .ok (.aload_n 0, 1) := by decide +kernel
theorem dX10_init_133 : decode cX10_init 133 = .ok (.new 56, 3) := by decide +kernel
theorem dX10_init_136 : decode cX10_init 136 = .ok (.dup, 1) := by decide +kernel
theorem dX10_init_137 : decode cX10_init 137 = .ok (.invokespecial 58, 3) := by decide +kernel
theorem dX10_init_140 : decode cX10_init 140 = .ok (.putfield 59, 3) := by decide +kernel
theorem dX10_init_143 : decode cX10_init 143 = .ok (.aload_n 0, 1) := by decide +kernel
theorem dX10_init_144 : decode cX10_init 144 = .ok (.new 63, 3) := by decide +kernel
theorem dX10_init_147 : decode cX10_init 147 = .ok (.dup, 1) := by decide +kernel
theorem dX10_init_148 : decode cX10_init 148 = .ok (.invokespecial 65, 3) := by decide +kernel
theorem dX10_init_151 : decode cX10_init 151 = .ok (.putfield 66, 3) := by decide +kernel
theorem dX10_init_154 : decode cX10_init 154 = .ok (.aload_n 0, 1) := by decide +kernel
theorem dX10_init_155 : decode cX10_init 155 = .ok (.new 70, 3) := by decide +kernel
theorem dX10_init_158 : decode cX10_init 158 = .ok (.dup, 1) := by decide +kernel
theorem dX10_init_159 : decode cX10_init 159 = .ok (.invokespecial 72, 3) := by decide +kernel
theorem dX10_init_162 : decode cX10_init 162 = .ok (.putfield 73, 3) := by decide +kernel
theorem dX10_init_165 : decode cX10_init 165 = .ok (.return_, 1) := by decide +kernel
theorem dX10_type_0 : decode cX10_type 0 = .ok (.iload_n 3, 1) := by decide +kernel
theorem dX10_type_1 : decode cX10_type 1 = .ok (.iconst 1, 1) := by decide +kernel
theorem dX10_type_2 : decode cX10_type 2 = .ok (.if_icmp .lt 9, 3) := by decide +kernel
theorem dX10_type_5 : decode cX10_type 5 = .ok (.iload_n 3, 1) := by decide +kernel
theorem dX10_type_6 : decode cX10_type 6 = .ok (.bipush 8, 2) := by decide +kernel
theorem dX10_type_8 : decode cX10_type 8 = .ok (.if_icmp .le 6, 3) := by decide +kernel
theorem dX10_type_11 : decode cX10_type 11 = .ok (.bipush (-2), 2) := by decide +kernel
theorem dX10_type_13 : decode cX10_type 13 = .ok (.ireturn, 1) := by decide +kernel
theorem dX10_type_14 : decode cX10_type 14 = .ok (.iconst 0, 1) := by decide +kernel
theorem dX10_type_15 : decode cX10_type 15 = .ok (.istore 4, 2) := by decide +kernel
theorem dX10_type_17 : decode cX10_type 17 = .ok (.iload 4, 2) := by decide +kernel
theorem dX10_type_19 : decode cX10_type 19 = .ok (.iload_n 3, 1) := by decide +kernel
theorem dX10_type_20 : decode cX10_type 20 = .ok (.if_icmp .ge 24, 3) := by decide +kernel
theorem dX10_type_23 : decode cX10_type 23 = .ok (.lload_n 1, 1) := by decide +kernel
theorem dX10_type_24 : decode cX10_type 24 = .ok (.iload 4, 2) := by decide +kernel
theorem dX10_type_26 : decode cX10_type 26 = .ok (.invokestatic 77, 3) := by decide +kernel
theorem dX10_type_29 : decode cX10_type 29 = .ok (.invokestatic 81, 3) := by decide +kernel
theorem dX10_type_32 : decode cX10_type 32 = .ok (.ifCond .ne 6, 3) := by decide +kernel
theorem dX10_type_35 : decode cX10_type 35 = .ok (.bipush (-2), 2) := by decide +kernel
theorem dX10_type_37 : decode cX10_type 37 = .ok (.ireturn, 1) := by decide +kernel
theorem dX10_type_38 : decode cX10_type 38 = .ok (.iinc 4 1, 3) := by decide +kernel
theorem dX10_type_41 : decode cX10_type 41 = .ok (.goto (-24), 3) := by decide +kernel
theorem dX10_type_44 : decode cX10_type 44 = .ok (.aload_n 0, 1) := by decide +kernel
theorem dX10_type_45 : decode cX10_type 45 = .ok (.getfield 14, 3) := by decide +kernel
theorem dX10_type_48 : decode cX10_type 48 = .ok (.getfield 85, 3) := by decide +kernel
theorem dX10_type_51 : decode cX10_type 51 = .ok (.iload_n 3, 1) := by decide +kernel
theorem dX10_type_52 : decode cX10_type 52 = .ok (.iadd, 1) := by decide +kernel
theorem dX10_type_53 : decode cX10_type 53 = .ok (.sipush 400, 3) := by decide +kernel
theorem dX10_type_56 : decode cX10_type 56 = .ok (.if_icmp .le 6, 3) := by decide +kernel
theorem dX10_type_59 : decode cX10_type 59 = .ok (.bipush (-3), 2) := by decide +kernel
theorem dX10_type_61 : decode cX10_type 61 = .ok (.ireturn, 1) := by decide +kernel
theorem dX10_type_62 : decode cX10_type 62 = .ok (.iconst 0, 1) := by decide +kernel
theorem dX10_type_63 : decode cX10_type 63 = .ok (.istore 4, 2) := by decide +kernel
theorem dX10_type_65 : decode cX10_type 65 = .ok (.iload 4, 2) := by decide +kernel
theorem dX10_type_67 : decode cX10_type 67 = .ok (.iload_n 3, 1) := by decide +kernel
theorem dX10_type_68 : decode cX10_type 68 = .ok (.if_icmp .ge 22, 3) := by decide +kernel
theorem dX10_type_71 : decode cX10_type 71 = .ok (.aload_n 0, 1) := by decide +kernel
theorem dX10_type_72 : decode cX10_type 72 = .ok (.getfield 14, 3) := by decide +kernel
theorem dX10_type_75 : decode cX10_type 75 = .ok (.lload_n 1, 1) := by decide +kernel
theorem dX10_type_76 : decode cX10_type 76 = .ok (.iload 4, 2) := by decide +kernel
theorem dX10_type_78 : decode cX10_type 78 = .ok (.invokestatic 77, 3) := by decide +kernel
theorem dX10_type_81 : decode cX10_type 81 = .ok (.invokevirtual 89, 3) := by decide +kernel
theorem dX10_type_84 : decode cX10_type 84 = .ok (.iinc 4 1, 3) := by decide +kernel
theorem dX10_type_87 : decode cX10_type 87 = .ok (.goto (-22), 3) := by decide +kernel
theorem dX10_type_90 : decode cX10_type 90 = .ok (.aload_n 0, 1) := by decide +kernel
theorem dX10_type_91 : decode cX10_type 91 = .ok (.getfield 14, 3) := by decide +kernel
theorem dX10_type_94 : decode cX10_type 94 = .ok (.getfield 85, 3) := by decide +kernel
theorem dX10_type_97 : decode cX10_type 97 = .ok (.ireturn, 1) := by decide +kernel
theorem dX10_pattern_0 : decode cX10_pattern 0 = .ok (.iload_n 1, 1) := by decide +kernel
theorem dX10_pattern_1 : decode cX10_pattern 1 = .ok (.ifCond .lt 9, 3) := by decide +kernel
theorem dX10_pattern_4 : decode cX10_pattern 4 = .ok (.iload_n 1, 1) := by decide +kernel
theorem dX10_pattern_5 : decode cX10_pattern 5 = .ok (.bipush 8, 2) := by decide +kernel
theorem dX10_pattern_7 : decode cX10_pattern 7 = .ok (.if_icmp .lt 6, 3) := by decide +kernel
theorem dX10_pattern_10 : decode cX10_pattern 10 = .ok (.bipush (-2), 2) := by decide +kernel
theorem dX10_pattern_12 : decode cX10_pattern 12 = .ok (.ireturn, 1) := by decide +kernel
theorem dX10_pattern_13 : decode cX10_pattern 13 = .ok (.aload_n 0, 1) := by decide +kernel
theorem dX10_pattern_14 : decode cX10_pattern 14 = .ok (.getfield 45, 3) := by decide +kernel
theorem dX10_pattern_17 : decode cX10_pattern 17 = .ok (.aload_n 0, 1) := by decide +kernel
theorem dX10_pattern_18 : decode cX10_pattern 18 = .ok (.getfield 14, 3) := by decide +kernel
theorem dX10_pattern_21 : decode cX10_pattern 21 = .ok (.invokevirtual 92, 3) := by decide +kernel
theorem dX10_pattern_24 : decode cX10_pattern 24 = .ok (.aload_n 0, 1) := by decide +kernel
theorem dX10_pattern_25 : decode cX10_pattern 25 = .ok (.getfield 14, 3) := by decide +kernel
theorem dX10_pattern_28 : decode cX10_pattern 28 = .ok (.invokevirtual 96, 3) := by decide +kernel
theorem dX10_pattern_31 : decode cX10_pattern 31 = .ok (.aload_n 0, 1) := by decide +kernel
theorem dX10_pattern_32 : decode cX10_pattern 32 = .ok (.getfield 45, 3) := by decide +kernel
theorem dX10_pattern_35 : decode cX10_pattern 35 = .ok (.getfield 99, 3) := by decide +kernel
theorem dX10_pattern_38 : decode cX10_pattern 38 = .ok (.ifCond .eq 14, 3) := by decide +kernel
theorem dX10_pattern_41 : decode cX10_pattern 41 = .ok (.bipush (-10), 2) := by decide +kernel
theorem dX10_pattern_43 : decode cX10_pattern 43 = .ok (.aload_n 0, 1) := by decide +kernel
theorem dX10_pattern_44 : decode cX10_pattern 44 = .ok (.getfield 45, 3) := by decide +kernel
theorem dX10_pattern_47 : decode cX10_pattern 47 = .ok (.getfield 99, 3) := by decide +kernel
theorem dX10_pattern_50 : decode cX10_pattern 50 = .ok (.isub, 1) := by decide +kernel
theorem dX10_pattern_51 : decode cX10_pattern 51 = .ok (.ireturn, 1) := by decide +kernel
theorem dX10_pattern_52 : decode cX10_pattern 52 = .ok (.aload_n 0, 1) := by decide +kernel
theorem dX10_pattern_53 : decode cX10_pattern 53 = .ok (.getfield 33, 3) := by decide +kernel
theorem dX10_pattern_56 : decode cX10_pattern 56 = .ok (.iload_n 1, 1) := by decide +kernel
theorem dX10_pattern_57 : decode cX10_pattern 57 = .ok (.aaload, 1) := by decide +kernel
theorem dX10_pattern_58 : decode cX10_pattern 58 = .ok (.aload_n 0, 1) := by decide +kernel
theorem dX10_pattern_59 : decode cX10_pattern 59 = .ok (.getfield 45, 3) := by decide +kernel
theorem dX10_pattern_62 : decode cX10_pattern 62 = .ok (.getfield 102, 3) := by decide +kernel
theorem dX10_pattern_65 : decode cX10_pattern 65 = .ok (.invokevirtual 105, 3) := by decide +kernel
theorem dX10_pattern_68 : decode cX10_pattern 68 = .ok (.aload_n 0, 1) := by decide +kernel
theorem dX10_pattern_69 : decode cX10_pattern 69 = .ok (.getfield 33, 3) := by decide +kernel
theorem dX10_pattern_72 : decode cX10_pattern 72 = .ok (.iload_n 1, 1) := by decide +kernel
theorem dX10_pattern_73 : decode cX10_pattern 73 = .ok (.aaload, 1) := by decide +kernel
theorem dX10_pattern_74 : decode cX10_pattern 74 = .ok (.getfield 109, 3) := by decide +kernel
theorem dX10_pattern_77 : decode cX10_pattern 77 = .ok (.ireturn, 1) := by decide +kernel
theorem dX10_place_0 : decode cX10_place 0 = .ok (.aload_n 0, 1) := by decide +kernel
theorem dX10_place_1 : decode cX10_place 1 = .ok (.getfield 45, 3) := by decide +kernel
theorem dX10_place_4 : decode cX10_place 4 = .ok (.getfield 110, 3) := by decide +kernel
theorem dX10_place_7 : decode cX10_place 7 = .ok (.ireturn, 1) := by decide +kernel
theorem dX10_has_0 : decode cX10_has 0 = .ok (.aload_n 0, 1) := by decide +kernel
theorem dX10_has_1 : decode cX10_has 1 = .ok (.iload_n 1, 1) := by decide +kernel
theorem dX10_has_2 : decode cX10_has 2 = .ok (.invokevirtual 113, 3) := by decide +kernel
theorem dX10_has_5 : decode cX10_has 5 = .ok (.ifCond .eq 27, 3) := by decide +kernel
theorem dX10_has_8 : decode cX10_has 8 = .ok (.iload_n 2, 1) := by decide +kernel
theorem dX10_has_9 : decode cX10_has 9 = .ok (.ifCond .lt 23, 3) := by decide +kernel
theorem dX10_has_12 : decode cX10_has 12 = .ok (.iload_n 2, 1) := by decide +kernel
theorem dX10_has_13 : decode cX10_has 13 = .ok (.aload_n 0, 1) := by decide +kernel
theorem dX10_has_14 : decode cX10_has 14 = .ok (.getfield 33, 3) := by decide +kernel
theorem dX10_has_17 : decode cX10_has 17 = .ok (.iload_n 1, 1) := by decide +kernel
theorem dX10_has_18 : decode cX10_has 18 = .ok (.aaload, 1) := by decide +kernel
theorem dX10_has_19 : decode cX10_has 19 = .ok (.getfield 109, 3) := by decide +kernel
theorem dX10_has_22 : decode cX10_has 22 = .ok (.if_icmp .ge 10, 3) := by decide +kernel
theorem dX10_has_25 : decode cX10_has 25 = .ok (.iload_n 3, 1) := by decide +kernel
theorem dX10_has_26 : decode cX10_has 26 = .ok (.invokestatic 81, 3) := by decide +kernel
theorem dX10_has_29 : decode cX10_has 29 = .ok (.ifCond .ne 6, 3) := by decide +kernel
theorem dX10_has_32 : decode cX10_has 32 = .ok (.bipush (-2), 2) := by decide +kernel
theorem dX10_has_34 : decode cX10_has 34 = .ok (.ireturn, 1) := by decide +kernel
theorem dX10_has_35 : decode cX10_has 35 = .ok (.aload_n 0, 1) := by decide +kernel
theorem dX10_has_36 : decode cX10_has 36 = .ok (.getfield 33, 3) := by decide +kernel
theorem dX10_has_39 : decode cX10_has 39 = .ok (.iload_n 1, 1) := by decide +kernel
theorem dX10_has_40 : decode cX10_has 40 = .ok (.aaload, 1) := by decide +kernel
theorem dX10_has_41 : decode cX10_has 41 = .ok (.iload_n 2, 1) := by decide +kernel
theorem dX10_has_42 : decode cX10_has 42 = .ok (.iload_n 3, 1) := by decide +kernel
theorem dX10_has_43 : decode cX10_has 43 = .ok (.invokevirtual 116, 3) := by decide +kernel
theorem dX10_has_46 : decode cX10_has 46 = .ok (.ifCond .eq 7, 3) := by decide +kernel
theorem dX10_has_49 : decode cX10_has 49 = .ok (.iconst 1, 1) := by decide +kernel
theorem dX10_has_50 : decode cX10_has 50 = .ok (.goto 4, 3) := by decide +kernel
theorem dX10_has_53 : decode cX10_has 53 = .ok (.iconst 0, 1) := by decide +kernel
theorem dX10_has_54 : decode cX10_has 54 = .ok (.ireturn, 1) := by decide +kernel
theorem dX10_insert_0 : decode cX10_insert 0 = .ok (.iload_n 1, 1) := by decide +kernel
theorem dX10_insert_1 : decode cX10_insert 1 = .ok (.ifCond .lt 14, 3) := by decide +kernel
theorem dX10_insert_4 : decode cX10_insert 4 = .ok (.iload_n 1, 1) := by decide +kernel
theorem dX10_insert_5 : decode cX10_insert 5 = .ok (.aload_n 0, 1) := by decide +kernel
theorem dX10_insert_6 : decode cX10_insert 6 = .ok (.getfield 18, 3) := by decide +kernel
theorem dX10_insert_9 : decode cX10_insert 9 = .ok (.getfield 85, 3) := by decide +kernel
theorem dX10_insert_12 : decode cX10_insert 12 = .ok (.if_icmp .le 6, 3) := by decide +kernel
theorem dX10_insert_15 : decode cX10_insert 15 = .ok (.bipush (-2), 2) := by decide +kernel
theorem dX10_insert_17 : decode cX10_insert 17 = .ok (.ireturn, 1) := by decide +kernel
theorem dX10_insert_18 : decode cX10_insert 18 = .ok (.aload_n 0, 1) := by decide +kernel
theorem dX10_insert_19 : decode cX10_insert 19 = .ok (.getfield 18, 3) := by decide +kernel
theorem dX10_insert_22 : decode cX10_insert 22 = .ok (.getfield 85, 3) := by decide +kernel
theorem dX10_insert_25 : decode cX10_insert 25 = .ok (.aload_n 0, 1) := by decide +kernel
theorem dX10_insert_26 : decode cX10_insert 26 = .ok (.getfield 14, 3) := by decide +kernel
theorem dX10_insert_29 : decode cX10_insert 29 = .ok (.getfield 85, 3) := by decide +kernel
theorem dX10_insert_32 : decode cX10_insert 32 = .ok (.iadd, 1) := by decide +kernel
theorem dX10_insert_33 : decode cX10_insert 33 = .ok (.sipush 1500, 3) := by decide +kernel
theorem dX10_insert_36 : decode cX10_insert 36 = .ok (.if_icmp .le 6, 3) := by decide +kernel
theorem dX10_insert_39 : decode cX10_insert 39 = .ok (.bipush (-3), 2) := by decide +kernel
theorem dX10_insert_41 : decode cX10_insert 41 = .ok (.ireturn, 1) := by decide +kernel
theorem dX10_insert_42 : decode cX10_insert 42 = .ok (.aload_n 0, 1) := by decide +kernel
theorem dX10_insert_43 : decode cX10_insert 43 = .ok (.getfield 27, 3) := by decide +kernel
theorem dX10_insert_46 : decode cX10_insert 46 = .ok (.aload_n 0, 1) := by decide +kernel
theorem dX10_insert_47 : decode cX10_insert 47 = .ok (.getfield 18, 3) := by decide +kernel
theorem dX10_insert_50 : decode cX10_insert 50 = .ok (.invokevirtual 120, 3) := by decide +kernel
theorem dX10_insert_53 : decode cX10_insert 53 = .ok (.aload_n 0, 1) := by decide +kernel
theorem dX10_insert_54 : decode cX10_insert 54 = .ok (.getfield 18, 3) := by decide +kernel
theorem dX10_insert_57 : decode cX10_insert 57 = .ok (.iload_n 1, 1) := by decide +kernel
theorem dX10_insert_58 : decode cX10_insert 58 = .ok (.aload_n 0, 1) := by decide +kernel
theorem dX10_insert_59 : decode cX10_insert 59 = .ok (.getfield 14, 3) := by decide +kernel
theorem dX10_insert_62 : decode cX10_insert 62 = .ok (.invokevirtual 123, 3) := by decide +kernel
theorem dX10_insert_65 : decode cX10_insert 65 = .ok (.aload_n 0, 1) := by decide +kernel
theorem dX10_insert_66 : decode cX10_insert 66 = .ok (.getfield 14, 3) := by decide +kernel
theorem dX10_insert_69 : decode cX10_insert 69 = .ok (.invokevirtual 96, 3) := by decide +kernel
theorem dX10_insert_72 : decode cX10_insert 72 = .ok (.aload_n 0, 1) := by decide +kernel
theorem dX10_insert_73 : decode cX10_insert 73 = .ok (.getfield 18, 3) := by decide +kernel
theorem dX10_insert_76 : decode cX10_insert 76 = .ok (.getfield 85, 3) := by decide +kernel
theorem dX10_insert_79 : decode cX10_insert 79 = .ok (.ireturn, 1) := by decide +kernel
theorem dX10_cut_0 : decode cX10_cut 0 = .ok (.aload_n 0, 1) := by decide +kernel
theorem dX10_cut_1 : decode cX10_cut 1 = .ok (.getfield 18, 3) := by decide +kernel
theorem dX10_cut_4 : decode cX10_cut 4 = .ok (.iload_n 1, 1) := by decide +kernel
theorem dX10_cut_5 : decode cX10_cut 5 = .ok (.iload_n 2, 1) := by decide +kernel
theorem dX10_cut_6 : decode cX10_cut 6 = .ok (.invokevirtual 127, 3) := by decide +kernel
theorem dX10_cut_9 : decode cX10_cut 9 = .ok (.ifCond .ne 6, 3) := by decide +kernel
theorem dX10_cut_12 : decode cX10_cut 12 = .ok (.bipush (-2), 2) := by decide +kernel
theorem dX10_cut_14 : decode cX10_cut 14 = .ok (.ireturn, 1) := by decide +kernel
theorem dX10_cut_15 : decode cX10_cut 15 = .ok (.aload_n 0, 1) := by decide +kernel
theorem dX10_cut_16 : decode cX10_cut 16 = .ok (.getfield 27, 3) := by decide +kernel
theorem dX10_cut_19 : decode cX10_cut 19 = .ok (.aload_n 0, 1) := by decide +kernel
theorem dX10_cut_20 : decode cX10_cut 20 = .ok (.getfield 18, 3) := by decide +kernel
theorem dX10_cut_23 : decode cX10_cut 23 = .ok (.invokevirtual 120, 3) := by decide +kernel
theorem dX10_cut_26 : decode cX10_cut 26 = .ok (.aload_n 0, 1) := by decide +kernel
theorem dX10_cut_27 : decode cX10_cut 27 = .ok (.getfield 18, 3) := by decide +kernel
theorem dX10_cut_30 : decode cX10_cut 30 = .ok (.iload_n 1, 1) := by decide +kernel
theorem dX10_cut_31 : decode cX10_cut 31 = .ok (.iload_n 2, 1) := by decide +kernel
theorem dX10_cut_32 : decode cX10_cut 32 = .ok (.invokevirtual 130, 3) := by decide +kernel
theorem dX10_cut_35 : decode cX10_cut 35 = .ok (.aload_n 0, 1) := by decide +kernel
theorem dX10_cut_36 : decode cX10_cut 36 = .ok (.getfield 18, 3) := by decide +kernel
theorem dX10_cut_39 : decode cX10_cut 39 = .ok (.getfield 85, 3) := by decide +kernel
theorem dX10_cut_42 : decode cX10_cut 42 = .ok (.ireturn, 1) := by decide +kernel
theorem dX10_undo_0 : decode cX10_undo 0 = .ok (.aload_n 0, 1) := by decide +kernel
theorem dX10_undo_1 : decode cX10_undo 1 = .ok (.getfield 27, 3) := by decide +kernel
theorem dX10_undo_4 : decode cX10_undo 4 = .ok (.aload_n 0, 1) := by decide +kernel
theorem dX10_undo_5 : decode cX10_undo 5 = .ok (.getfield 18, 3) := by decide +kernel
theorem dX10_undo_8 : decode cX10_undo 8 = .ok (.invokevirtual 134, 3) := by decide +kernel
theorem dX10_undo_11 : decode cX10_undo 11 = .ok (.ifCond .eq 13, 3) := by decide +kernel
theorem dX10_undo_14 : decode cX10_undo 14 = .ok (.aload_n 0, 1) := by decide +kernel
theorem dX10_undo_15 : decode cX10_undo 15 = .ok (.getfield 18, 3) := by decide +kernel
theorem dX10_undo_18 : decode cX10_undo 18 = .ok (.getfield 85, 3) := by decide +kernel
theorem dX10_undo_21 : decode cX10_undo 21 = .ok (.goto 4, 3) := by decide +kernel
theorem dX10_undo_24 : decode cX10_undo 24 = .ok (.iconst (-1), 1) := by decide +kernel
theorem dX10_undo_25 : decode cX10_undo 25 = .ok (.ireturn, 1) := by decide +kernel
theorem dX10_byteAt_0 : decode cX10_byteAt 0 = .ok (.aload_n 0, 1) := by decide +kernel
theorem dX10_byteAt_1 : decode cX10_byteAt 1 = .ok (.getfield 18, 3) := by decide +kernel
theorem dX10_byteAt_4 : decode cX10_byteAt 4 = .ok (.iload_n 1, 1) := by decide +kernel
theorem dX10_byteAt_5 : decode cX10_byteAt 5 = .ok (.invokevirtual 138, 3) := by decide +kernel
theorem dX10_byteAt_8 : decode cX10_byteAt 8 = .ok (.ireturn, 1) := by decide +kernel
theorem dX10_length_0 : decode cX10_length 0 = .ok (.aload_n 0, 1) := by decide +kernel
theorem dX10_length_1 : decode cX10_length 1 = .ok (.getfield 18, 3) := by decide +kernel
theorem dX10_length_4 : decode cX10_length 4 = .ok (.getfield 85, 3) := by decide +kernel
theorem dX10_length_7 : decode cX10_length 7 = .ok (.ireturn, 1) := by decide +kernel
theorem dX10_find_0 : decode cX10_find 0 = .ok (.aload_n 0, 1) := by decide +kernel
theorem dX10_find_1 : decode cX10_find 1 = .ok (.iload_n 1, 1) := by decide +kernel
theorem dX10_find_2 : decode cX10_find 2 = .ok (.invokevirtual 113, 3) := by decide +kernel
theorem dX10_find_5 : decode cX10_find 5 = .ok (.ifCond .eq 10, 3) := by decide +kernel
theorem dX10_find_8 : decode cX10_find 8 = .ok (.iload_n 2, 1) := by decide +kernel
theorem dX10_find_9 : decode cX10_find 9 = .ok (.invokestatic 142, 3) := by decide +kernel
theorem dX10_find_12 : decode cX10_find 12 = .ok (.ifCond .ne 6, 3) := by decide +kernel
theorem dX10_find_15 : decode cX10_find 15 = .ok (.bipush (-2), 2) := by decide +kernel
theorem dX10_find_17 : decode cX10_find 17 = .ok (.ireturn, 1) := by decide +kernel
theorem dX10_find_18 : decode cX10_find 18 = .ok (.aload_n 0, 1) := by decide +kernel
theorem dX10_find_19 : decode cX10_find 19 = .ok (.getfield 66, 3) := by decide +kernel
theorem dX10_find_22 : decode cX10_find 22 = .ok (.aload_n 0, 1) := by decide +kernel
theorem dX10_find_23 : decode cX10_find 23 = .ok (.getfield 33, 3) := by decide +kernel
theorem dX10_find_26 : decode cX10_find 26 = .ok (.iload_n 1, 1) := by decide +kernel
theorem dX10_find_27 : decode cX10_find 27 = .ok (.aaload, 1) := by decide +kernel
theorem dX10_find_28 : decode cX10_find 28 = .ok (.aload_n 0, 1) := by decide +kernel
theorem dX10_find_29 : decode cX10_find 29 = .ok (.getfield 18, 3) := by decide +kernel
theorem dX10_find_32 : decode cX10_find 32 = .ok (.iload_n 3, 1) := by decide +kernel
theorem dX10_find_33 : decode cX10_find 33 = .ok (.invokevirtual 145, 3) := by decide +kernel
theorem dX10_find_36 : decode cX10_find 36 = .ok (.aload_n 0, 1) := by decide +kernel
theorem dX10_find_37 : decode cX10_find 37 = .ok (.getfield 52, 3) := by decide +kernel
theorem dX10_find_40 : decode cX10_find 40 = .ok (.aload_n 0, 1) := by decide +kernel
theorem dX10_find_41 : decode cX10_find 41 = .ok (.getfield 33, 3) := by decide +kernel
theorem dX10_find_44 : decode cX10_find 44 = .ok (.iload_n 1, 1) := by decide +kernel
theorem dX10_find_45 : decode cX10_find 45 = .ok (.aaload, 1) := by decide +kernel
theorem dX10_find_46 : decode cX10_find 46 = .ok (.iload_n 2, 1) := by decide +kernel
theorem dX10_find_47 : decode cX10_find 47 = .ok (.iload_n 3, 1) := by decide +kernel
theorem dX10_find_48 : decode cX10_find 48 = .ok (.invokevirtual 149, 3) := by decide +kernel
theorem dX10_find_51 : decode cX10_find 51 = .ok (.aload_n 0, 1) := by decide +kernel
theorem dX10_find_52 : decode cX10_find 52 = .ok (.getfield 52, 3) := by decide +kernel
theorem dX10_find_55 : decode cX10_find 55 = .ok (.iconst 0, 1) := by decide +kernel
theorem dX10_find_56 : decode cX10_find 56 = .ok (.invokevirtual 153, 3) := by decide +kernel
theorem dX10_find_59 : decode cX10_find 59 = .ok (.iconst 1, 1) := by decide +kernel
theorem dX10_find_60 : decode cX10_find 60 = .ok (.istore 4, 2) := by decide +kernel
theorem dX10_find_62 : decode cX10_find 62 = .ok (.iload 4, 2) := by decide +kernel
theorem dX10_find_64 : decode cX10_find 64 = .ok (.aload_n 0, 1) := by decide +kernel
theorem dX10_find_65 : decode cX10_find 65 = .ok (.getfield 18, 3) := by decide +kernel
theorem dX10_find_68 : decode cX10_find 68 = .ok (.getfield 85, 3) := by decide +kernel
theorem dX10_find_71 : decode cX10_find 71 = .ok (.if_icmp .gt 60, 3) := by decide +kernel
theorem dX10_find_74 : decode cX10_find 74 = .ok (.aload_n 0, 1) := by decide +kernel
theorem dX10_find_75 : decode cX10_find 75 = .ok (.getfield 52, 3) := by decide +kernel
theorem dX10_find_78 : decode cX10_find 78 = .ok (.aload_n 0, 1) := by decide +kernel
theorem dX10_find_79 : decode cX10_find 79 = .ok (.getfield 18, 3) := by decide +kernel
theorem dX10_find_82 : decode cX10_find 82 = .ok (.iload 4, 2) := by decide +kernel
theorem dX10_find_84 : decode cX10_find 84 = .ok (.iconst 1, 1) := by decide +kernel
theorem dX10_find_85 : decode cX10_find 85 = .ok (.isub, 1) := by decide +kernel
theorem dX10_find_86 : decode cX10_find 86 = .ok (.invokevirtual 138, 3) := by decide +kernel
theorem dX10_find_89 : decode cX10_find 89 = .ok (.invokevirtual 156, 3) := by decide +kernel
theorem dX10_find_92 : decode cX10_find 92 = .ok (.aload_n 0, 1) := by decide +kernel
theorem dX10_find_93 : decode cX10_find 93 = .ok (.getfield 52, 3) := by decide +kernel
theorem dX10_find_96 : decode cX10_find 96 = .ok (.invokevirtual 159, 3) := by decide +kernel
theorem dX10_find_99 : decode cX10_find 99 = .ok (.ifCond .eq 26, 3) := by decide +kernel
theorem dX10_find_102 : decode cX10_find 102 = .ok (.aload_n 0, 1) := by decide +kernel
theorem dX10_find_103 : decode cX10_find 103 = .ok (.getfield 66, 3) := by decide +kernel
theorem dX10_find_106 : decode cX10_find 106 = .ok (.iload 4, 2) := by decide +kernel
theorem dX10_find_108 : decode cX10_find 108 = .ok (.aload_n 0, 1) := by decide +kernel
theorem dX10_find_109 : decode cX10_find 109 = .ok (.getfield 52, 3) := by decide +kernel
theorem dX10_find_112 : decode cX10_find 112 = .ok (.invokevirtual 163, 3) := by decide +kernel
theorem dX10_find_115 : decode cX10_find 115 = .ok (.aload_n 0, 1) := by decide +kernel
theorem dX10_find_116 : decode cX10_find 116 = .ok (.getfield 52, 3) := by decide +kernel
theorem dX10_find_119 : decode cX10_find 119 = .ok (.invokevirtual 167, 3) := by decide +kernel
theorem dX10_find_122 : decode cX10_find 122 = .ok (.invokevirtual 170, 3) := by decide +kernel
theorem dX10_find_125 : decode cX10_find 125 = .ok (.iinc 4 1, 3) := by decide +kernel
theorem dX10_find_128 : decode cX10_find 128 = .ok (.goto (-66), 3) := by decide +kernel
theorem dX10_find_131 : decode cX10_find 131 = .ok (.aload_n 0, 1) := by decide +kernel
theorem dX10_find_132 : decode cX10_find 132 = .ok (.getfield 66, 3) := by decide +kernel
theorem dX10_find_135 : decode cX10_find 135 = .ok (.getfield 173, 3) := by decide +kernel
theorem dX10_find_138 : decode cX10_find 138 = .ok (.ireturn, 1) := by decide +kernel
theorem dX10_hit_0 : decode cX10_hit 0 = .ok (.iload_n 1, 1) := by decide +kernel
theorem dX10_hit_1 : decode cX10_hit 1 = .ok (.ifCond .lt 14, 3) := by decide +kernel
theorem dX10_hit_4 : decode cX10_hit 4 = .ok (.iload_n 1, 1) := by decide +kernel
theorem dX10_hit_5 : decode cX10_hit 5 = .ok (.aload_n 0, 1) := by decide +kernel
theorem dX10_hit_6 : decode cX10_hit 6 = .ok (.getfield 66, 3) := by decide +kernel
theorem dX10_hit_9 : decode cX10_hit 9 = .ok (.getfield 173, 3) := by decide +kernel
theorem dX10_hit_12 : decode cX10_hit 12 = .ok (.if_icmp .lt 6, 3) := by decide +kernel
theorem dX10_hit_15 : decode cX10_hit 15 = .ok (.bipush (-2), 2) := by decide +kernel
theorem dX10_hit_17 : decode cX10_hit 17 = .ok (.ireturn, 1) := by decide +kernel
theorem dX10_hit_18 : decode cX10_hit 18 = .ok (.iload_n 2, 1) := by decide +kernel
theorem dX10_hit_19 : decode cX10_hit 19 = .ok (.tableswitch 82 0 3 #[29, 39, 49, 59], 29) := by decide +kernel
theorem dX10_hit_48 : decode cX10_hit 48 = .ok (.aload_n 0, 1) := by decide +kernel
theorem dX10_hit_49 : decode cX10_hit 49 = .ok (.getfield 66, 3) := by decide +kernel
theorem dX10_hit_52 : decode cX10_hit 52 = .ok (.getfield 176, 3) := by decide +kernel
theorem dX10_hit_55 : decode cX10_hit 55 = .ok (.iload_n 1, 1) := by decide +kernel
theorem dX10_hit_56 : decode cX10_hit 56 = .ok (.iaload, 1) := by decide +kernel
theorem dX10_hit_57 : decode cX10_hit 57 = .ok (.ireturn, 1) := by decide +kernel
theorem dX10_hit_58 : decode cX10_hit 58 = .ok (.aload_n 0, 1) := by decide +kernel
theorem dX10_hit_59 : decode cX10_hit 59 = .ok (.getfield 66, 3) := by decide +kernel
theorem dX10_hit_62 : decode cX10_hit 62 = .ok (.getfield 180, 3) := by decide +kernel
theorem dX10_hit_65 : decode cX10_hit 65 = .ok (.iload_n 1, 1) := by decide +kernel
theorem dX10_hit_66 : decode cX10_hit 66 = .ok (.iaload, 1) := by decide +kernel
theorem dX10_hit_67 : decode cX10_hit 67 = .ok (.ireturn, 1) := by decide +kernel
theorem dX10_hit_68 : decode cX10_hit 68 = .ok (.aload_n 0, 1) := by decide +kernel
theorem dX10_hit_69 : decode cX10_hit 69 = .ok (.getfield 66, 3) := by decide +kernel
theorem dX10_hit_72 : decode cX10_hit 72 = .ok (.getfield 182, 3) := by decide +kernel
theorem dX10_hit_75 : decode cX10_hit 75 = .ok (.iload_n 1, 1) := by decide +kernel
theorem dX10_hit_76 : decode cX10_hit 76 = .ok (.iaload, 1) := by decide +kernel
theorem dX10_hit_77 : decode cX10_hit 77 = .ok (.ireturn, 1) := by decide +kernel
theorem dX10_hit_78 : decode cX10_hit 78 = .ok (.aload_n 0, 1) := by decide +kernel
theorem dX10_hit_79 : decode cX10_hit 79 = .ok (.getfield 66, 3) := by decide +kernel
theorem dX10_hit_82 : decode cX10_hit 82 = .ok (.iload_n 1, 1) := by decide +kernel
theorem dX10_hit_83 : decode cX10_hit 83 = .ok (.aload_n 0, 1) := by decide +kernel
theorem dX10_hit_84 : decode cX10_hit 84 = .ok (.getfield 59, 3) := by decide +kernel
theorem dX10_hit_87 : decode cX10_hit 87 = .ok (.invokevirtual 185, 3) := by decide +kernel
theorem dX10_hit_90 : decode cX10_hit 90 = .ok (.aload_n 0, 1) := by decide +kernel
theorem dX10_hit_91 : decode cX10_hit 91 = .ok (.getfield 66, 3) := by decide +kernel
theorem dX10_hit_94 : decode cX10_hit 94 = .ok (.getfield 189, 3) := by decide +kernel
theorem dX10_hit_97 : decode cX10_hit 97 = .ok (.getfield 193, 3) := by decide +kernel
theorem dX10_hit_100 : decode cX10_hit 100 = .ok (.ireturn, 1) := by decide +kernel
theorem dX10_hit_101 : decode cX10_hit 101 = .ok (.bipush (-2), 2) := by decide +kernel
theorem dX10_hit_103 : decode cX10_hit 103 = .ok (.ireturn, 1) := by decide +kernel
theorem dX10_step_0 : decode cX10_step 0 = .ok (.iload_n 1, 1) := by decide +kernel
theorem dX10_step_1 : decode cX10_step 1 = .ok (.ifCond .lt 14, 3) := by decide +kernel
theorem dX10_step_4 : decode cX10_step 4 = .ok (.iload_n 1, 1) := by decide +kernel
theorem dX10_step_5 : decode cX10_step 5 = .ok (.aload_n 0, 1) := by decide +kernel
theorem dX10_step_6 : decode cX10_step 6 = .ok (.getfield 66, 3) := by decide +kernel
theorem dX10_step_9 : decode cX10_step 9 = .ok (.getfield 173, 3) := by decide +kernel
theorem dX10_step_12 : decode cX10_step 12 = .ok (.if_icmp .lt 6, 3) := by decide +kernel
theorem dX10_step_15 : decode cX10_step 15 = .ok (.bipush (-2), 2) := by decide +kernel
theorem dX10_step_17 : decode cX10_step 17 = .ok (.ireturn, 1) := by decide +kernel
theorem dX10_step_18 : decode cX10_step 18 = .ok (.aload_n 0, 1) := by decide +kernel
theorem dX10_step_19 : decode cX10_step 19 = .ok (.getfield 66, 3) := by decide +kernel
theorem dX10_step_22 : decode cX10_step 22 = .ok (.iload_n 1, 1) := by decide +kernel
theorem dX10_step_23 : decode cX10_step 23 = .ok (.aload_n 0, 1) := by decide +kernel
theorem dX10_step_24 : decode cX10_step 24 = .ok (.getfield 59, 3) := by decide +kernel
theorem dX10_step_27 : decode cX10_step 27 = .ok (.invokevirtual 185, 3) := by decide +kernel
theorem dX10_step_30 : decode cX10_step 30 = .ok (.aload_n 0, 1) := by decide +kernel
theorem dX10_step_31 : decode cX10_step 31 = .ok (.getfield 66, 3) := by decide +kernel
theorem dX10_step_34 : decode cX10_step 34 = .ok (.getfield 189, 3) := by decide +kernel
theorem dX10_step_37 : decode cX10_step 37 = .ok (.iload_n 2, 1) := by decide +kernel
theorem dX10_step_38 : decode cX10_step 38 = .ok (.invokevirtual 196, 3) := by decide +kernel
theorem dX10_step_41 : decode cX10_step 41 = .ok (.ireturn, 1) := by decide +kernel
theorem dX10_nearest_0 : decode cX10_nearest 0 = .ok (.aload_n 0, 1) := by decide +kernel
theorem dX10_nearest_1 : decode cX10_nearest 1 = .ok (.iload_n 1, 1) := by decide +kernel
theorem dX10_nearest_2 : decode cX10_nearest 2 = .ok (.invokevirtual 113, 3) := by decide +kernel
theorem dX10_nearest_5 : decode cX10_nearest 5 = .ok (.ifCond .eq 12, 3) := by decide +kernel
theorem dX10_nearest_8 : decode cX10_nearest 8 = .ok (.iload_n 3, 1) := by decide +kernel
theorem dX10_nearest_9 : decode cX10_nearest 9 = .ok (.ifCond .lt 8, 3) := by decide +kernel
theorem dX10_nearest_12 : decode cX10_nearest 12 = .ok (.iload_n 3, 1) := by decide +kernel
theorem dX10_nearest_13 : decode cX10_nearest 13 = .ok (.iconst 1, 1) := by decide +kernel
theorem dX10_nearest_14 : decode cX10_nearest 14 = .ok (.if_icmp .le 6, 3) := by decide +kernel
theorem dX10_nearest_17 : decode cX10_nearest 17 = .ok (.bipush (-2), 2) := by decide +kernel
theorem dX10_nearest_19 : decode cX10_nearest 19 = .ok (.ireturn, 1) := by decide +kernel
theorem dX10_nearest_20 : decode cX10_nearest 20 = .ok (.aload_n 0, 1) := by decide +kernel
theorem dX10_nearest_21 : decode cX10_nearest 21 = .ok (.getfield 52, 3) := by decide +kernel
theorem dX10_nearest_24 : decode cX10_nearest 24 = .ok (.aload_n 0, 1) := by decide +kernel
theorem dX10_nearest_25 : decode cX10_nearest 25 = .ok (.getfield 33, 3) := by decide +kernel
theorem dX10_nearest_28 : decode cX10_nearest 28 = .ok (.iload_n 1, 1) := by decide +kernel
theorem dX10_nearest_29 : decode cX10_nearest 29 = .ok (.aaload, 1) := by decide +kernel
theorem dX10_nearest_30 : decode cX10_nearest 30 = .ok (.aload_n 0, 1) := by decide +kernel
theorem dX10_nearest_31 : decode cX10_nearest 31 = .ok (.getfield 33, 3) := by decide +kernel
theorem dX10_nearest_34 : decode cX10_nearest 34 = .ok (.iload_n 1, 1) := by decide +kernel
theorem dX10_nearest_35 : decode cX10_nearest 35 = .ok (.aaload, 1) := by decide +kernel
theorem dX10_nearest_36 : decode cX10_nearest 36 = .ok (.getfield 109, 3) := by decide +kernel
theorem dX10_nearest_39 : decode cX10_nearest 39 = .ok (.iload_n 2, 1) := by decide +kernel
theorem dX10_nearest_40 : decode cX10_nearest 40 = .ok (.invokevirtual 149, 3) := by decide +kernel
theorem dX10_nearest_43 : decode cX10_nearest 43 = .ok (.aload_n 0, 1) := by decide +kernel
theorem dX10_nearest_44 : decode cX10_nearest 44 = .ok (.getfield 52, 3) := by decide +kernel
theorem dX10_nearest_47 : decode cX10_nearest 47 = .ok (.iconst 0, 1) := by decide +kernel
theorem dX10_nearest_48 : decode cX10_nearest 48 = .ok (.invokevirtual 153, 3) := by decide +kernel
theorem dX10_nearest_51 : decode cX10_nearest 51 = .ok (.iconst (-1), 1) := by decide +kernel
theorem dX10_nearest_52 : decode cX10_nearest 52 = .ok (.istore 4, 2) := by decide +kernel
theorem dX10_nearest_54 : decode cX10_nearest 54 = .ok (.iconst (-1), 1) := by decide +kernel
theorem dX10_nearest_55 : decode cX10_nearest 55 = .ok (.istore 5, 2) := by decide +kernel
theorem dX10_nearest_57 : decode cX10_nearest 57 = .ok (.iconst 1, 1) := by decide +kernel
theorem dX10_nearest_58 : decode cX10_nearest 58 = .ok (.istore 6, 2) := by decide +kernel
theorem dX10_nearest_60 : decode cX10_nearest 60 = .ok (.iload 6, 2) := by decide +kernel
theorem dX10_nearest_62 : decode cX10_nearest 62 = .ok (.aload_n 0, 1) := by decide +kernel
theorem dX10_nearest_63 : decode cX10_nearest 63 = .ok (.getfield 18, 3) := by decide +kernel
theorem dX10_nearest_66 : decode cX10_nearest 66 = .ok (.getfield 85, 3) := by decide +kernel
theorem dX10_nearest_69 : decode cX10_nearest 69 = .ok (.if_icmp .gt 66, 3) := by decide +kernel
theorem dX10_nearest_72 : decode cX10_nearest 72 = .ok (.iload 4, 2) := by decide +kernel
theorem dX10_nearest_74 : decode cX10_nearest 74 = .ok (.ifCond .eq 61, 3) := by decide +kernel
theorem dX10_nearest_77 : decode cX10_nearest 77 = .ok (.aload_n 0, 1) := by decide +kernel
theorem dX10_nearest_78 : decode cX10_nearest 78 = .ok (.getfield 52, 3) := by decide +kernel
theorem dX10_nearest_81 : decode cX10_nearest 81 = .ok (.aload_n 0, 1) := by decide +kernel
theorem dX10_nearest_82 : decode cX10_nearest 82 = .ok (.getfield 18, 3) := by decide +kernel
theorem dX10_nearest_85 : decode cX10_nearest 85 = .ok (.iload 6, 2) := by decide +kernel
theorem dX10_nearest_87 : decode cX10_nearest 87 = .ok (.iconst 1, 1) := by decide +kernel
theorem dX10_nearest_88 : decode cX10_nearest 88 = .ok (.isub, 1) := by decide +kernel
theorem dX10_nearest_89 : decode cX10_nearest 89 = .ok (.invokevirtual 138, 3) := by decide +kernel
theorem dX10_nearest_92 : decode cX10_nearest 92 = .ok (.invokevirtual 156, 3) := by decide +kernel
theorem dX10_nearest_95 : decode cX10_nearest 95 = .ok (.aload_n 0, 1) := by decide +kernel
theorem dX10_nearest_96 : decode cX10_nearest 96 = .ok (.getfield 52, 3) := by decide +kernel
theorem dX10_nearest_99 : decode cX10_nearest 99 = .ok (.invokevirtual 159, 3) := by decide +kernel
theorem dX10_nearest_102 : decode cX10_nearest 102 = .ok (.ifCond .eq 27, 3) := by decide +kernel
theorem dX10_nearest_105 : decode cX10_nearest 105 = .ok (.aload_n 0, 1) := by decide +kernel
theorem dX10_nearest_106 : decode cX10_nearest 106 = .ok (.getfield 52, 3) := by decide +kernel
theorem dX10_nearest_109 : decode cX10_nearest 109 = .ok (.invokevirtual 163, 3) := by decide +kernel
theorem dX10_nearest_112 : decode cX10_nearest 112 = .ok (.istore 4, 2) := by decide +kernel
theorem dX10_nearest_114 : decode cX10_nearest 114 = .ok (.iload 6, 2) := by decide +kernel
theorem dX10_nearest_116 : decode cX10_nearest 116 = .ok (.istore 5, 2) := by decide +kernel
theorem dX10_nearest_118 : decode cX10_nearest 118 = .ok (.aload_n 0, 1) := by decide +kernel
theorem dX10_nearest_119 : decode cX10_nearest 119 = .ok (.getfield 52, 3) := by decide +kernel
theorem dX10_nearest_122 : decode cX10_nearest 122 = .ok (.iload 4, 2) := by decide +kernel
theorem dX10_nearest_124 : decode cX10_nearest 124 = .ok (.iconst 1, 1) := by decide +kernel
theorem dX10_nearest_125 : decode cX10_nearest 125 = .ok (.isub, 1) := by decide +kernel
theorem dX10_nearest_126 : decode cX10_nearest 126 = .ok (.invokevirtual 197, 3) := by decide +kernel
theorem dX10_nearest_129 : decode cX10_nearest 129 = .ok (.iinc 6 1, 3) := by decide +kernel
theorem dX10_nearest_132 : decode cX10_nearest 132 = .ok (.goto (-72), 3) := by decide +kernel
theorem dX10_nearest_135 : decode cX10_nearest 135 = .ok (.iload_n 3, 1) := by decide +kernel
theorem dX10_nearest_136 : decode cX10_nearest 136 = .ok (.ifCond .ne 8, 3) := by decide +kernel
theorem dX10_nearest_139 : decode cX10_nearest 139 = .ok (.iload 4, 2) := by decide +kernel
theorem dX10_nearest_141 : decode cX10_nearest 141 = .ok (.goto 5, 3) := by decide +kernel
theorem dX10_nearest_144 : decode cX10_nearest 144 = .ok (.iload 5, 2) := by decide +kernel
theorem dX10_nearest_146 : decode cX10_nearest 146 = .ok (.ireturn, 1) := by decide +kernel
