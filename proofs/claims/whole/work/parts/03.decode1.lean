theorem dX0_init_0 : decode cX0_init 0 = .ok (.aload_n 0, 1) := by decide +kernel
theorem dX0_init_1 : decode cX0_init 1 = .ok (.invokespecial 3, 3) := by decide +kernel
theorem dX0_init_4 : decode cX0_init 4 = .ok (.aload_n 0, 1) := by decide +kernel
theorem dX0_init_5 : decode cX0_init 5 = .ok (.iload_n 1, 1) := by decide +kernel
theorem dX0_init_6 : decode cX0_init 6 = .ok (.iconst 0, 1) := by decide +kernel
theorem dX0_init_7 : decode cX0_init 7 = .ok (.invokestatic 9, 3) := by decide +kernel
theorem dX0_init_10 : decode cX0_init 10 = .ok (.newarray .byte, 2) := by decide +kernel
theorem dX0_init_12 : decode cX0_init 12 = .ok (.putfield 15, 3) := by decide +kernel
theorem dX0_init_15 : decode cX0_init 15 = .ok (.return_, 1) := by decide +kernel
theorem dX0_clear_0 : decode cX0_clear 0 = .ok (.aload_n 0, 1) := by decide +kernel
theorem dX0_clear_1 : decode cX0_clear 1 = .ok (.iconst 0, 1) := by decide +kernel
theorem dX0_clear_2 : decode cX0_clear 2 = .ok (.putfield 21, 3) := by decide +kernel
theorem dX0_clear_5 : decode cX0_clear 5 = .ok (.return_, 1) := by decide +kernel
theorem dX0_get_0 : decode cX0_get 0 = .ok (.iload_n 1, 1) := by decide +kernel
theorem dX0_get_1 : decode cX0_get 1 = .ok (.ifCond .lt 20, 3) := by decide +kernel
theorem dX0_get_4 : decode cX0_get 4 = .ok (.iload_n 1, 1) := by decide +kernel
theorem dX0_get_5 : decode cX0_get 5 = .ok (.aload_n 0, 1) := by decide +kernel
theorem dX0_get_6 : decode cX0_get 6 = .ok (.getfield 21, 3) := by decide +kernel
theorem dX0_get_9 : decode cX0_get 9 = .ok (.if_icmp .ge 12, 3) := by decide +kernel
theorem dX0_get_12 : decode cX0_get 12 = .ok (.aload_n 0, 1) := by decide +kernel
theorem dX0_get_13 : decode cX0_get 13 = .ok (.getfield 15, 3) := by decide +kernel
theorem dX0_get_16 : decode cX0_get 16 = .ok (.iload_n 1, 1) := by decide +kernel
theorem dX0_get_17 : decode cX0_get 17 = .ok (.baload, 1) := by decide +kernel
theorem dX0_get_18 : decode cX0_get 18 = .ok (.goto 4, 3) := by decide +kernel
theorem dX0_get_21 : decode cX0_get 21 = .ok (.iconst (-1), 1) := by decide +kernel
theorem dX0_get_22 : decode cX0_get 22 = .ok (.ireturn, 1) := by decide +kernel
theorem dX0_isPart_0 : decode cX0_isPart 0 = .ok (.iload_n 1, 1) := by decide +kernel
theorem dX0_isPart_1 : decode cX0_isPart 1 = .ok (.ifCond .lt 20, 3) := by decide +kernel
theorem dX0_isPart_4 : decode cX0_isPart 4 = .ok (.iload_n 1, 1) := by decide +kernel
theorem dX0_isPart_5 : decode cX0_isPart 5 = .ok (.iload_n 2, 1) := by decide +kernel
theorem dX0_isPart_6 : decode cX0_isPart 6 = .ok (.if_icmp .gt 15, 3) := by decide +kernel
theorem dX0_isPart_9 : decode cX0_isPart 9 = .ok (.iload_n 2, 1) := by decide +kernel
theorem dX0_isPart_10 : decode cX0_isPart 10 = .ok (.aload_n 0, 1) := by decide +kernel
theorem dX0_isPart_11 : decode cX0_isPart 11 = .ok (.getfield 21, 3) := by decide +kernel
theorem dX0_isPart_14 : decode cX0_isPart 14 = .ok (.if_icmp .gt 7, 3) := by decide +kernel
theorem dX0_isPart_17 : decode cX0_isPart 17 = .ok (.iconst 1, 1) := by decide +kernel
theorem dX0_isPart_18 : decode cX0_isPart 18 = .ok (.goto 4, 3) := by decide +kernel
theorem dX0_isPart_21 : decode cX0_isPart 21 = .ok (.iconst 0, 1) := by decide +kernel
theorem dX0_isPart_22 : decode cX0_isPart 22 = .ok (.ireturn, 1) := by decide +kernel
theorem dX0_add_0 : decode cX0_add 0 = .ok (.aload_n 0, 1) := by decide +kernel
theorem dX0_add_1 : decode cX0_add 1 = .ok (.getfield 21, 3) := by decide +kernel
theorem dX0_add_4 : decode cX0_add 4 = .ok (.aload_n 0, 1) := by decide +kernel
theorem dX0_add_5 : decode cX0_add 5 = .ok (.getfield 15, 3) := by decide +kernel
theorem dX0_add_8 : decode cX0_add 8 = .ok (.arraylength, 1) := by decide +kernel
theorem dX0_add_9 : decode cX0_add 9 = .ok (.if_icmp .ge 24, 3) := by decide +kernel
theorem dX0_add_12 : decode cX0_add 12 = .ok (.aload_n 0, 1) := by decide +kernel
theorem dX0_add_13 : decode cX0_add 13 = .ok (.getfield 15, 3) := by decide +kernel
theorem dX0_add_16 : decode cX0_add 16 = .ok (.aload_n 0, 1) := by decide +kernel
theorem dX0_add_17 : decode cX0_add 17 = .ok (.getfield 21, 3) := by decide +kernel
theorem dX0_add_20 : decode cX0_add 20 = .ok (.iload_n 1, 1) := by decide +kernel
theorem dX0_add_21 : decode cX0_add 21 = .ok (.i2b, 1) := by decide +kernel
theorem dX0_add_22 : decode cX0_add 22 = .ok (.bastore, 1) := by decide +kernel
theorem dX0_add_23 : decode cX0_add 23 = .ok (.aload_n 0, 1) := by decide +kernel
theorem dX0_add_24 : decode cX0_add 24 = .ok (.dup, 1) := by decide +kernel
theorem dX0_add_25 : decode cX0_add 25 = .ok (.getfield 21, 3) := by decide +kernel
theorem dX0_add_28 : decode cX0_add 28 = .ok (.iconst 1, 1) := by decide +kernel
theorem dX0_add_29 : decode cX0_add 29 = .ok (.iadd, 1) := by decide +kernel
theorem dX0_add_30 : decode cX0_add 30 = .ok (.putfield 21, 3) := by decide +kernel
theorem dX0_add_33 : decode cX0_add 33 = .ok (.return_, 1) := by decide +kernel
theorem dX0_addPart_0 : decode cX0_addPart 0 = .ok (.aload_n 1, 1) := by decide +kernel
theorem dX0_addPart_1 : decode cX0_addPart 1 = .ok (.iload_n 2, 1) := by decide +kernel
theorem dX0_addPart_2 : decode cX0_addPart 2 = .ok (.iload_n 3, 1) := by decide +kernel
theorem dX0_addPart_3 : decode cX0_addPart 3 = .ok (.invokevirtual 25, 3) := by decide +kernel
theorem dX0_addPart_6 : decode cX0_addPart 6 = .ok (.ifCond .eq 19, 3) := by decide +kernel
theorem dX0_addPart_9 : decode cX0_addPart 9 = .ok (.iload_n 3, 1) := by decide +kernel
theorem dX0_addPart_10 : decode cX0_addPart 10 = .ok (.iload_n 2, 1) := by decide +kernel
theorem dX0_addPart_11 : decode cX0_addPart 11 = .ok (.isub, 1) := by decide +kernel
theorem dX0_addPart_12 : decode cX0_addPart 12 = .ok (.aload_n 0, 1) := by decide +kernel
theorem dX0_addPart_13 : decode cX0_addPart 13 = .ok (.getfield 15, 3) := by decide +kernel
theorem dX0_addPart_16 : decode cX0_addPart 16 = .ok (.arraylength, 1) := by decide +kernel
theorem dX0_addPart_17 : decode cX0_addPart 17 = .ok (.aload_n 0, 1) := by decide +kernel
theorem dX0_addPart_18 : decode cX0_addPart 18 = .ok (.getfield 21, 3) := by decide +kernel
theorem dX0_addPart_21 : decode cX0_addPart 21 = .ok (.isub, 1) := by decide +kernel
theorem dX0_addPart_22 : decode cX0_addPart 22 = .ok (.if_icmp .le 5, 3) := by decide +kernel
theorem dX0_addPart_25 : decode cX0_addPart 25 = .ok (.iconst 0, 1) := by decide +kernel
theorem dX0_addPart_26 : decode cX0_addPart 26 = .ok (.ireturn, 1) := by decide +kernel
theorem dX0_addPart_27 : decode cX0_addPart 27 = .ok (.aload_n 1, 1) := by decide +kernel
theorem dX0_addPart_28 : decode cX0_addPart 28 = .ok (.getfield 15, 3) := by decide +kernel
theorem dX0_addPart_31 : decode cX0_addPart 31 = .ok (.iload_n 2, 1) := by decide +kernel
theorem dX0_addPart_32 : decode cX0_addPart 32 = .ok (.aload_n 0, 1) := by decide +kernel
theorem dX0_addPart_33 : decode cX0_addPart 33 = .ok (.getfield 15, 3) := by decide +kernel
theorem dX0_addPart_36 : decode cX0_addPart 36 = .ok (.aload_n 0, 1) := by decide +kernel
theorem dX0_addPart_37 : decode cX0_addPart 37 = .ok (.getfield 21, 3) := by decide +kernel
theorem dX0_addPart_40 : decode cX0_addPart 40 = .ok (.iload_n 3, 1) := by decide +kernel
theorem dX0_addPart_41 : decode cX0_addPart 41 = .ok (.iload_n 2, 1) := by decide +kernel
theorem dX0_addPart_42 : decode cX0_addPart 42 = .ok (.isub, 1) := by decide +kernel
theorem dX0_addPart_43 : decode cX0_addPart 43 = .ok (.invokestatic 29, 3) := by decide +kernel
theorem dX0_addPart_46 : decode cX0_addPart 46 = .ok (.aload_n 0, 1) := by decide +kernel
theorem dX0_addPart_47 : decode cX0_addPart 47 = .ok (.dup, 1) := by decide +kernel
theorem dX0_addPart_48 : decode cX0_addPart 48 = .ok (.getfield 21, 3) := by decide +kernel
theorem dX0_addPart_51 : decode cX0_addPart 51 = .ok (.iload_n 3, 1) := by decide +kernel
theorem dX0_addPart_52 : decode cX0_addPart 52 = .ok (.iload_n 2, 1) := by decide +kernel
theorem dX0_addPart_53 : decode cX0_addPart 53 = .ok (.isub, 1) := by decide +kernel
theorem dX0_addPart_54 : decode cX0_addPart 54 = .ok (.iadd, 1) := by decide +kernel
theorem dX0_addPart_55 : decode cX0_addPart 55 = .ok (.putfield 21, 3) := by decide +kernel
theorem dX0_addPart_58 : decode cX0_addPart 58 = .ok (.iconst 1, 1) := by decide +kernel
theorem dX0_addPart_59 : decode cX0_addPart 59 = .ok (.ireturn, 1) := by decide +kernel
theorem dX0_copyFrom_0 : decode cX0_copyFrom 0 = .ok (.aload_n 0, 1) := by decide +kernel
theorem dX0_copyFrom_1 : decode cX0_copyFrom 1 = .ok (.invokevirtual 35, 3) := by decide +kernel
theorem dX0_copyFrom_4 : decode cX0_copyFrom 4 = .ok (.aload_n 0, 1) := by decide +kernel
theorem dX0_copyFrom_5 : decode cX0_copyFrom 5 = .ok (.aload_n 1, 1) := by decide +kernel
theorem dX0_copyFrom_6 : decode cX0_copyFrom 6 = .ok (.iconst 0, 1) := by decide +kernel
theorem dX0_copyFrom_7 : decode cX0_copyFrom 7 = .ok (.aload_n 1, 1) := by decide +kernel
theorem dX0_copyFrom_8 : decode cX0_copyFrom 8 = .ok (.getfield 21, 3) := by decide +kernel
theorem dX0_copyFrom_11 : decode cX0_copyFrom 11 = .ok (.invokevirtual 38, 3) := by decide +kernel
theorem dX0_copyFrom_14 : decode cX0_copyFrom 14 = .ok (.pop, 1) := by decide +kernel
theorem dX0_copyFrom_15 : decode cX0_copyFrom 15 = .ok (.return_, 1) := by decide +kernel
theorem dX0_putIn_0 : decode cX0_putIn 0 = .ok (.iload_n 1, 1) := by decide +kernel
theorem dX0_putIn_1 : decode cX0_putIn 1 = .ok (.ifCond .lt 82, 3) := by decide +kernel
theorem dX0_putIn_4 : decode cX0_putIn 4 = .ok (.iload_n 1, 1) := by decide +kernel
theorem dX0_putIn_5 : decode cX0_putIn 5 = .ok (.aload_n 0, 1) := by decide +kernel
theorem dX0_putIn_6 : decode cX0_putIn 6 = .ok (.getfield 21, 3) := by decide +kernel
theorem dX0_putIn_9 : decode cX0_putIn 9 = .ok (.if_icmp .gt 74, 3) := by decide +kernel
theorem dX0_putIn_12 : decode cX0_putIn 12 = .ok (.aload_n 2, 1) := by decide +kernel
theorem dX0_putIn_13 : decode cX0_putIn 13 = .ok (.getfield 21, 3) := by decide +kernel
theorem dX0_putIn_16 : decode cX0_putIn 16 = .ok (.aload_n 0, 1) := by decide +kernel
theorem dX0_putIn_17 : decode cX0_putIn 17 = .ok (.getfield 15, 3) := by decide +kernel
theorem dX0_putIn_20 : decode cX0_putIn 20 = .ok (.arraylength, 1) := by decide +kernel
theorem dX0_putIn_21 : decode cX0_putIn 21 = .ok (.aload_n 0, 1) := by decide +kernel
theorem dX0_putIn_22 : decode cX0_putIn 22 = .ok (.getfield 21, 3) := by decide +kernel
theorem dX0_putIn_25 : decode cX0_putIn 25 = .ok (.isub, 1) := by decide +kernel
theorem dX0_putIn_26 : decode cX0_putIn 26 = .ok (.if_icmp .gt 57, 3) := by decide +kernel
theorem dX0_putIn_29 : decode cX0_putIn 29 = .ok (.aload_n 0, 1) := by decide +kernel
theorem dX0_putIn_30 : decode cX0_putIn 30 = .ok (.getfield 15, 3) := by decide +kernel
theorem dX0_putIn_33 : decode cX0_putIn 33 = .ok (.iload_n 1, 1) := by decide +kernel
theorem dX0_putIn_34 : decode cX0_putIn 34 = .ok (.aload_n 0, 1) := by decide +kernel
theorem dX0_putIn_35 : decode cX0_putIn 35 = .ok (.getfield 15, 3) := by decide +kernel
theorem dX0_putIn_38 : decode cX0_putIn 38 = .ok (.iload_n 1, 1) := by decide +kernel
theorem dX0_putIn_39 : decode cX0_putIn 39 = .ok (.aload_n 2, 1) := by decide +kernel
theorem dX0_putIn_40 : decode cX0_putIn 40 = .ok (.getfield 21, 3) := by decide +kernel
theorem dX0_putIn_43 : decode cX0_putIn 43 = .ok (.iadd, 1) := by decide +kernel
theorem dX0_putIn_44 : decode cX0_putIn 44 = .ok (.aload_n 0, 1) := by decide +kernel
theorem dX0_putIn_45 : decode cX0_putIn 45 = .ok (.getfield 21, 3) := by decide +kernel
theorem dX0_putIn_48 : decode cX0_putIn 48 = .ok (.iload_n 1, 1) := by decide +kernel
theorem dX0_putIn_49 : decode cX0_putIn 49 = .ok (.isub, 1) := by decide +kernel
theorem dX0_putIn_50 : decode cX0_putIn 50 = .ok (.invokestatic 29, 3) := by decide +kernel
theorem dX0_putIn_53 : decode cX0_putIn 53 = .ok (.aload_n 2, 1) := by decide +kernel
theorem dX0_putIn_54 : decode cX0_putIn 54 = .ok (.getfield 15, 3) := by decide +kernel
theorem dX0_putIn_57 : decode cX0_putIn 57 = .ok (.iconst 0, 1) := by decide +kernel
theorem dX0_putIn_58 : decode cX0_putIn 58 = .ok (.aload_n 0, 1) := by decide +kernel
theorem dX0_putIn_59 : decode cX0_putIn 59 = .ok (.getfield 15, 3) := by decide +kernel
theorem dX0_putIn_62 : decode cX0_putIn 62 = .ok (.iload_n 1, 1) := by decide +kernel
theorem dX0_putIn_63 : decode cX0_putIn 63 = .ok (.aload_n 2, 1) := by decide +kernel
theorem dX0_putIn_64 : decode cX0_putIn 64 = .ok (.getfield 21, 3) := by decide +kernel
theorem dX0_putIn_67 : decode cX0_putIn 67 = .ok (.invokestatic 29, 3) := by decide +kernel
theorem dX0_putIn_70 : decode cX0_putIn 70 = .ok (.aload_n 0, 1) := by decide +kernel
theorem dX0_putIn_71 : decode cX0_putIn 71 = .ok (.dup, 1) := by decide +kernel
theorem dX0_putIn_72 : decode cX0_putIn 72 = .ok (.getfield 21, 3) := by decide +kernel
theorem dX0_putIn_75 : decode cX0_putIn 75 = .ok (.aload_n 2, 1) := by decide +kernel
theorem dX0_putIn_76 : decode cX0_putIn 76 = .ok (.getfield 21, 3) := by decide +kernel
theorem dX0_putIn_79 : decode cX0_putIn 79 = .ok (.iadd, 1) := by decide +kernel
theorem dX0_putIn_80 : decode cX0_putIn 80 = .ok (.putfield 21, 3) := by decide +kernel
theorem dX0_putIn_83 : decode cX0_putIn 83 = .ok (.return_, 1) := by decide +kernel
theorem dX0_takeOut_0 : decode cX0_takeOut 0 = .ok (.aload_n 0, 1) := by decide +kernel
theorem dX0_takeOut_1 : decode cX0_takeOut 1 = .ok (.iload_n 1, 1) := by decide +kernel
theorem dX0_takeOut_2 : decode cX0_takeOut 2 = .ok (.iload_n 2, 1) := by decide +kernel
theorem dX0_takeOut_3 : decode cX0_takeOut 3 = .ok (.invokevirtual 25, 3) := by decide +kernel
theorem dX0_takeOut_6 : decode cX0_takeOut 6 = .ok (.ifCond .eq 34, 3) := by decide +kernel
theorem dX0_takeOut_9 : decode cX0_takeOut 9 = .ok (.aload_n 0, 1) := by decide +kernel
theorem dX0_takeOut_10 : decode cX0_takeOut 10 = .ok (.getfield 15, 3) := by decide +kernel
theorem dX0_takeOut_13 : decode cX0_takeOut 13 = .ok (.iload_n 2, 1) := by decide +kernel
theorem dX0_takeOut_14 : decode cX0_takeOut 14 = .ok (.aload_n 0, 1) := by decide +kernel
theorem dX0_takeOut_15 : decode cX0_takeOut 15 = .ok (.getfield 15, 3) := by decide +kernel
theorem dX0_takeOut_18 : decode cX0_takeOut 18 = .ok (.iload_n 1, 1) := by decide +kernel
theorem dX0_takeOut_19 : decode cX0_takeOut 19 = .ok (.aload_n 0, 1) := by decide +kernel
theorem dX0_takeOut_20 : decode cX0_takeOut 20 = .ok (.getfield 21, 3) := by decide +kernel
theorem dX0_takeOut_23 : decode cX0_takeOut 23 = .ok (.iload_n 2, 1) := by decide +kernel
theorem dX0_takeOut_24 : decode cX0_takeOut 24 = .ok (.isub, 1) := by decide +kernel
theorem dX0_takeOut_25 : decode cX0_takeOut 25 = .ok (.invokestatic 29, 3) := by decide +kernel
theorem dX0_takeOut_28 : decode cX0_takeOut 28 = .ok (.aload_n 0, 1) := by decide +kernel
theorem dX0_takeOut_29 : decode cX0_takeOut 29 = .ok (.dup, 1) := by decide +kernel
theorem dX0_takeOut_30 : decode cX0_takeOut 30 = .ok (.getfield 21, 3) := by decide +kernel
theorem dX0_takeOut_33 : decode cX0_takeOut 33 = .ok (.iload_n 2, 1) := by decide +kernel
theorem dX0_takeOut_34 : decode cX0_takeOut 34 = .ok (.iload_n 1, 1) := by decide +kernel
theorem dX0_takeOut_35 : decode cX0_takeOut 35 = .ok (.isub, 1) := by decide +kernel
theorem dX0_takeOut_36 : decode cX0_takeOut 36 = .ok (.isub, 1) := by decide +kernel
theorem dX0_takeOut_37 : decode cX0_takeOut 37 = .ok (.putfield 21, 3) := by decide +kernel
theorem dX0_takeOut_40 : decode cX0_takeOut 40 = .ok (.return_, 1) := by decide +kernel
theorem dX1_init_0 : decode cX1_init 0 = .ok (.aload_n 0, 1) := by decide +kernel
theorem dX1_init_1 : decode cX1_init 1 = .ok (.invokespecial 3, 3) := by decide +kernel
theorem dX1_init_4 : decode cX1_init 4 = .ok (.aload_n 0, 1) := by decide +kernel
theorem dX1_init_5 : decode cX1_init 5 = .ok (.iconst 5, 1) := by decide +kernel
theorem dX1_init_6 : decode cX1_init 6 = .ok (.anewarray 9, 3) := by decide +kernel
theorem dX1_init_9 : decode cX1_init 9 = .ok (.putfield 11, 3) := by decide +kernel
theorem dX1_init_12 : decode cX1_init 12 = .ok (.iconst 0, 1) := by decide +kernel
theorem dX1_init_13 : decode cX1_init 13 = .ok (.istore_n 1, 1) := by decide +kernel
theorem dX1_init_14 : decode cX1_init 14 = .ok (.iload_n 1, 1) := by decide +kernel
theorem dX1_init_15 : decode cX1_init 15 = .ok (.iconst 5, 1) := by decide +kernel
theorem dX1_init_16 : decode cX1_init 16 = .ok (.if_icmp .ge 25, 3) := by decide +kernel
theorem dX1_init_19 : decode cX1_init 19 = .ok (.aload_n 0, 1) := by decide +kernel
theorem dX1_init_20 : decode cX1_init 20 = .ok (.getfield 11, 3) := by decide +kernel
theorem dX1_init_23 : decode cX1_init 23 = .ok (.iload_n 1, 1) := by decide +kernel
theorem dX1_init_24 : decode cX1_init 24 = .ok (.new 9, 3) := by decide +kernel
theorem dX1_init_27 : decode cX1_init 27 = .ok (.dup, 1) := by decide +kernel
theorem dX1_init_28 : decode cX1_init 28 = .ok (.sipush 1500, 3) := by decide +kernel
theorem dX1_init_31 : decode cX1_init 31 = .ok (.invokespecial 17, 3) := by decide +kernel
theorem dX1_init_34 : decode cX1_init 34 = .ok (.aastore, 1) := by decide +kernel
theorem dX1_init_35 : decode cX1_init 35 = .ok (.iinc 1 1, 3) := by decide +kernel
theorem dX1_init_38 : decode cX1_init 38 = .ok (.goto (-24), 3) := by decide +kernel
theorem dX1_init_41 : decode cX1_init 41 = .ok (.return_, 1) := by decide +kernel
theorem dX1_keep_0 : decode cX1_keep 0 = .ok (.aload_n 0, 1) := by decide +kernel
theorem dX1_keep_1 : decode cX1_keep 1 = .ok (.aload_n 0, 1) := by decide +kernel
theorem dX1_keep_2 : decode cX1_keep 2 = .ok (.getfield 20, 3) := by decide +kernel
theorem dX1_keep_5 : decode cX1_keep 5 = .ok (.iconst 1, 1) := by decide +kernel
theorem dX1_keep_6 : decode cX1_keep 6 = .ok (.iadd, 1) := by decide +kernel
theorem dX1_keep_7 : decode cX1_keep 7 = .ok (.iconst 5, 1) := by decide +kernel
theorem dX1_keep_8 : decode cX1_keep 8 = .ok (.if_icmp .ge 12, 3) := by decide +kernel
theorem dX1_keep_11 : decode cX1_keep 11 = .ok (.aload_n 0, 1) := by decide +kernel
theorem dX1_keep_12 : decode cX1_keep 12 = .ok (.getfield 20, 3) := by decide +kernel
theorem dX1_keep_15 : decode cX1_keep 15 = .ok (.iconst 1, 1) := by decide +kernel
theorem dX1_keep_16 : decode cX1_keep 16 = .ok (.iadd, 1) := by decide +kernel
theorem dX1_keep_17 : decode cX1_keep 17 = .ok (.goto 4, 3) := by decide +kernel
theorem dX1_keep_20 : decode cX1_keep 20 = .ok (.iconst 0, 1) := by decide +kernel
theorem dX1_keep_21 : decode cX1_keep 21 = .ok (.putfield 20, 3) := by decide +kernel
theorem dX1_keep_24 : decode cX1_keep 24 = .ok (.aload_n 0, 1) := by decide +kernel
theorem dX1_keep_25 : decode cX1_keep 25 = .ok (.getfield 11, 3) := by decide +kernel
theorem dX1_keep_28 : decode cX1_keep 28 = .ok (.aload_n 0, 1) := by decide +kernel
theorem dX1_keep_29 : decode cX1_keep 29 = .ok (.getfield 20, 3) := by decide +kernel
theorem dX1_keep_32 : decode cX1_keep 32 = .ok (.aaload, 1) := by decide +kernel
theorem dX1_keep_33 : decode cX1_keep 33 = .ok (.aload_n 1, 1) := by decide +kernel
theorem dX1_keep_34 : decode cX1_keep 34 = .ok (.invokevirtual 24, 3) := by decide +kernel
theorem dX1_keep_37 : decode cX1_keep 37 = .ok (.aload_n 0, 1) := by decide +kernel
theorem dX1_keep_38 : decode cX1_keep 38 = .ok (.aload_n 0, 1) := by decide +kernel
theorem dX1_keep_39 : decode cX1_keep 39 = .ok (.getfield 28, 3) := by decide +kernel
theorem dX1_keep_42 : decode cX1_keep 42 = .ok (.iconst 1, 1) := by decide +kernel
theorem dX1_keep_43 : decode cX1_keep 43 = .ok (.iadd, 1) := by decide +kernel
theorem dX1_keep_44 : decode cX1_keep 44 = .ok (.iconst 5, 1) := by decide +kernel
theorem dX1_keep_45 : decode cX1_keep 45 = .ok (.invokestatic 31, 3) := by decide +kernel
theorem dX1_keep_48 : decode cX1_keep 48 = .ok (.putfield 28, 3) := by decide +kernel
theorem dX1_keep_51 : decode cX1_keep 51 = .ok (.return_, 1) := by decide +kernel
theorem dX1_takeBack_0 : decode cX1_takeBack 0 = .ok (.aload_n 0, 1) := by decide +kernel
theorem dX1_takeBack_1 : decode cX1_takeBack 1 = .ok (.getfield 28, 3) := by decide +kernel
theorem dX1_takeBack_4 : decode cX1_takeBack 4 = .ok (.ifCond .ne 5, 3) := by decide +kernel
theorem dX1_takeBack_7 : decode cX1_takeBack 7 = .ok (.iconst 0, 1) := by decide +kernel
theorem dX1_takeBack_8 : decode cX1_takeBack 8 = .ok (.ireturn, 1) := by decide +kernel
theorem dX1_takeBack_9 : decode cX1_takeBack 9 = .ok (.aload_n 1, 1) := by decide +kernel
theorem dX1_takeBack_10 : decode cX1_takeBack 10 = .ok (.aload_n 0, 1) := by decide +kernel
theorem dX1_takeBack_11 : decode cX1_takeBack 11 = .ok (.getfield 11, 3) := by decide +kernel
theorem dX1_takeBack_14 : decode cX1_takeBack 14 = .ok (.aload_n 0, 1) := by decide +kernel
theorem dX1_takeBack_15 : decode cX1_takeBack 15 = .ok (.getfield 20, 3) := by decide +kernel
theorem dX1_takeBack_18 : decode cX1_takeBack 18 = .ok (.aaload, 1) := by decide +kernel
theorem dX1_takeBack_19 : decode cX1_takeBack 19 = .ok (.invokevirtual 24, 3) := by decide +kernel
theorem dX1_takeBack_22 : decode cX1_takeBack 22 = .ok (.aload_n 0, 1) := by decide +kernel
theorem dX1_takeBack_23 : decode cX1_takeBack 23 = .ok (.aload_n 0, 1) := by decide +kernel
theorem dX1_takeBack_24 : decode cX1_takeBack 24 = .ok (.getfield 20, 3) := by decide +kernel
theorem dX1_takeBack_27 : decode cX1_takeBack 27 = .ok (.ifCond .le 12, 3) := by decide +kernel
theorem dX1_takeBack_30 : decode cX1_takeBack 30 = .ok (.aload_n 0, 1) := by decide +kernel
theorem dX1_takeBack_31 : decode cX1_takeBack 31 = .ok (.getfield 20, 3) := by decide +kernel
theorem dX1_takeBack_34 : decode cX1_takeBack 34 = .ok (.iconst 1, 1) := by decide +kernel
theorem dX1_takeBack_35 : decode cX1_takeBack 35 = .ok (.isub, 1) := by decide +kernel
theorem dX1_takeBack_36 : decode cX1_takeBack 36 = .ok (.goto 4, 3) := by decide +kernel
theorem dX1_takeBack_39 : decode cX1_takeBack 39 = .ok (.iconst 4, 1) := by decide +kernel
theorem dX1_takeBack_40 : decode cX1_takeBack 40 = .ok (.putfield 20, 3) := by decide +kernel
theorem dX1_takeBack_43 : decode cX1_takeBack 43 = .ok (.aload_n 0, 1) := by decide +kernel
theorem dX1_takeBack_44 : decode cX1_takeBack 44 = .ok (.dup, 1) := by decide +kernel
theorem dX1_takeBack_45 : decode cX1_takeBack 45 = .ok (.getfield 28, 3) := by decide +kernel
theorem dX1_takeBack_48 : decode cX1_takeBack 48 = .ok (.iconst 1, 1) := by decide +kernel
theorem dX1_takeBack_49 : decode cX1_takeBack 49 = .ok (.isub, 1) := by decide +kernel
theorem dX1_takeBack_50 : decode cX1_takeBack 50 = .ok (.putfield 28, 3) := by decide +kernel
theorem dX1_takeBack_53 : decode cX1_takeBack 53 = .ok (.iconst 1, 1) := by decide +kernel
theorem dX1_takeBack_54 : decode cX1_takeBack 54 = .ok (.ireturn, 1) := by decide +kernel
theorem dX2_init_0 : decode cX2_init 0 = .ok (.aload_n 0, 1) := by decide +kernel
theorem dX2_init_1 : decode cX2_init 1 = .ok (.invokespecial 3, 3) := by decide +kernel
theorem dX2_init_4 : decode cX2_init 4 = .ok (.aload_n 0, 1) := by decide +kernel
theorem dX2_init_5 : decode cX2_init 5 = .ok (.new 9, 3) := by decide +kernel
theorem dX2_init_8 : decode cX2_init 8 = .ok (.dup, 1) := by decide +kernel
theorem dX2_init_9 : decode cX2_init 9 = .ok (.sipush 1500, 3) := by decide +kernel
theorem dX2_init_12 : decode cX2_init 12 = .ok (.invokespecial 11, 3) := by decide +kernel
theorem dX2_init_15 : decode cX2_init 15 = .ok (.putfield 14, 3) := by decide +kernel
theorem dX2_init_18 : decode cX2_init 18 = .ok (.aload_n 0, 1) := by decide +kernel
theorem dX2_init_19 : decode cX2_init 19 = .ok (.new 20, 3) := by decide +kernel
theorem dX2_init_22 : decode cX2_init 22 = .ok (.dup, 1) := by decide +kernel
theorem dX2_init_23 : decode cX2_init 23 = .ok (.sipush 200, 3) := by decide +kernel
theorem dX2_init_26 : decode cX2_init 26 = .ok (.invokespecial 22, 3) := by decide +kernel
theorem dX2_init_29 : decode cX2_init 29 = .ok (.putfield 23, 3) := by decide +kernel
theorem dX2_init_32 : decode cX2_init 32 = .ok (.aload_n 0, 1) := by decide +kernel
theorem dX2_init_33 : decode cX2_init 33 = .ok (.iconst (-1), 1) := by decide +kernel
theorem dX2_init_34 : decode cX2_init 34 = .ok (.putfield 27, 3) := by decide +kernel
theorem dX2_init_37 : decode cX2_init 37 = .ok (.aload_n 0, 1) := by decide +kernel
theorem dX2_init_38 : decode cX2_init 38 = .ok (.new 31, 3) := by decide +kernel
theorem dX2_init_41 : decode cX2_init 41 = .ok (.dup, 1) := by decide +kernel
theorem dX2_init_42 : decode cX2_init 42 = .ok (.invokespecial 33, 3) := by decide +kernel
theorem dX2_init_45 : decode cX2_init 45 = .ok (.putfield 34, 3) := by decide +kernel
theorem dX2_init_48 : decode cX2_init 48 = .ok (.aload_n 0, 1) := by decide +kernel
theorem dX2_init_49 : decode cX2_init 49 = .ok (.sipush 1500, 3) := by decide +kernel
theorem dX2_init_52 : decode cX2_init 52 = .ok (.newarray .int, 2) := by decide +kernel
theorem dX2_init_54 : decode cX2_init 54 = .ok (.putfield 38, 3) := by decide +kernel
theorem dX2_init_57 : decode cX2_init 57 = .ok (.aload_n 0, 1) := by decide +kernel
theorem dX2_init_58 : decode cX2_init 58 = .ok (.sipush 1500, 3) := by decide +kernel
theorem dX2_init_61 : decode cX2_init 61 = .ok (.newarray .int, 2) := by decide +kernel
theorem dX2_init_63 : decode cX2_init 63 = .ok (.putfield 42, 3) := by decide +kernel
theorem dX2_init_66 : decode cX2_init 66 = .ok (.aload_n 0, 1) := by decide +kernel
theorem dX2_init_67 : decode cX2_init 67 = .ok (.sipush 1500, 3) := by decide +kernel
theorem dX2_init_70 : decode cX2_init 70 = .ok (.newarray .int, 2) := by decide +kernel
theorem dX2_init_72 : decode cX2_init 72 = .ok (.putfield 45, 3) := by decide +kernel
theorem dX2_init_75 : decode cX2_init 75 = .ok (.return_, 1) := by decide +kernel
theorem dX2_reset_0 : decode cX2_reset 0 = .ok (.aload_n 0, 1) := by decide +kernel
theorem dX2_reset_1 : decode cX2_reset 1 = .ok (.getfield 23, 3) := by decide +kernel
theorem dX2_reset_4 : decode cX2_reset 4 = .ok (.aload_n 1, 1) := by decide +kernel
theorem dX2_reset_5 : decode cX2_reset 5 = .ok (.invokevirtual 48, 3) := by decide +kernel
theorem dX2_reset_8 : decode cX2_reset 8 = .ok (.aload_n 0, 1) := by decide +kernel
theorem dX2_reset_9 : decode cX2_reset 9 = .ok (.getfield 14, 3) := by decide +kernel
theorem dX2_reset_12 : decode cX2_reset 12 = .ok (.aload_n 2, 1) := by decide +kernel
theorem dX2_reset_13 : decode cX2_reset 13 = .ok (.invokevirtual 52, 3) := by decide +kernel
theorem dX2_reset_16 : decode cX2_reset 16 = .ok (.aload_n 0, 1) := by decide +kernel
theorem dX2_reset_17 : decode cX2_reset 17 = .ok (.iload_n 3, 1) := by decide +kernel
theorem dX2_reset_18 : decode cX2_reset 18 = .ok (.putfield 55, 3) := by decide +kernel
theorem dX2_reset_21 : decode cX2_reset 21 = .ok (.aload_n 0, 1) := by decide +kernel
theorem dX2_reset_22 : decode cX2_reset 22 = .ok (.iconst (-1), 1) := by decide +kernel
theorem dX2_reset_23 : decode cX2_reset 23 = .ok (.putfield 27, 3) := by decide +kernel
theorem dX2_reset_26 : decode cX2_reset 26 = .ok (.aload_n 0, 1) := by decide +kernel
theorem dX2_reset_27 : decode cX2_reset 27 = .ok (.iconst 0, 1) := by decide +kernel
theorem dX2_reset_28 : decode cX2_reset 28 = .ok (.putfield 59, 3) := by decide +kernel
theorem dX2_reset_31 : decode cX2_reset 31 = .ok (.return_, 1) := by decide +kernel
theorem dX2_add_0 : decode cX2_add 0 = .ok (.aload_n 0, 1) := by decide +kernel
theorem dX2_add_1 : decode cX2_add 1 = .ok (.getfield 59, 3) := by decide +kernel
theorem dX2_add_4 : decode cX2_add 4 = .ok (.sipush 1500, 3) := by decide +kernel
theorem dX2_add_7 : decode cX2_add 7 = .ok (.if_icmp .ge 43, 3) := by decide +kernel
theorem dX2_add_10 : decode cX2_add 10 = .ok (.aload_n 0, 1) := by decide +kernel
theorem dX2_add_11 : decode cX2_add 11 = .ok (.getfield 38, 3) := by decide +kernel
theorem dX2_add_14 : decode cX2_add 14 = .ok (.aload_n 0, 1) := by decide +kernel
theorem dX2_add_15 : decode cX2_add 15 = .ok (.getfield 59, 3) := by decide +kernel
theorem dX2_add_18 : decode cX2_add 18 = .ok (.iload_n 1, 1) := by decide +kernel
theorem dX2_add_19 : decode cX2_add 19 = .ok (.iastore, 1) := by decide +kernel
theorem dX2_add_20 : decode cX2_add 20 = .ok (.aload_n 0, 1) := by decide +kernel
theorem dX2_add_21 : decode cX2_add 21 = .ok (.getfield 42, 3) := by decide +kernel
theorem dX2_add_24 : decode cX2_add 24 = .ok (.aload_n 0, 1) := by decide +kernel
theorem dX2_add_25 : decode cX2_add 25 = .ok (.getfield 59, 3) := by decide +kernel
theorem dX2_add_28 : decode cX2_add 28 = .ok (.iload_n 2, 1) := by decide +kernel
theorem dX2_add_29 : decode cX2_add 29 = .ok (.iastore, 1) := by decide +kernel
theorem dX2_add_30 : decode cX2_add 30 = .ok (.aload_n 0, 1) := by decide +kernel
theorem dX2_add_31 : decode cX2_add 31 = .ok (.getfield 45, 3) := by decide +kernel
theorem dX2_add_34 : decode cX2_add 34 = .ok (.aload_n 0, 1) := by decide +kernel
theorem dX2_add_35 : decode cX2_add 35 = .ok (.getfield 59, 3) := by decide +kernel
theorem dX2_add_38 : decode cX2_add 38 = .ok (.iload_n 3, 1) := by decide +kernel
theorem dX2_add_39 : decode cX2_add 39 = .ok (.iastore, 1) := by decide +kernel
theorem dX2_add_40 : decode cX2_add 40 = .ok (.aload_n 0, 1) := by decide +kernel
theorem dX2_add_41 : decode cX2_add 41 = .ok (.dup, 1) := by decide +kernel
theorem dX2_add_42 : decode cX2_add 42 = .ok (.getfield 59, 3) := by decide +kernel
theorem dX2_add_45 : decode cX2_add 45 = .ok (.iconst 1, 1) := by decide +kernel
theorem dX2_add_46 : decode cX2_add 46 = .ok (.iadd, 1) := by decide +kernel
theorem dX2_add_47 : decode cX2_add 47 = .ok (.putfield 59, 3) := by decide +kernel
theorem dX2_add_50 : decode cX2_add 50 = .ok (.return_, 1) := by decide +kernel
theorem dX2_trace_0 : decode cX2_trace 0 = .ok (.iload_n 1, 1) := by decide +kernel
theorem dX2_trace_1 : decode cX2_trace 1 = .ok (.aload_n 0, 1) := by decide +kernel
theorem dX2_trace_2 : decode cX2_trace 2 = .ok (.getfield 27, 3) := by decide +kernel
theorem dX2_trace_5 : decode cX2_trace 5 = .ok (.if_icmp .eq 58, 3) := by decide +kernel
theorem dX2_trace_8 : decode cX2_trace 8 = .ok (.iload_n 1, 1) := by decide +kernel
theorem dX2_trace_9 : decode cX2_trace 9 = .ok (.ifCond .lt 54, 3) := by decide +kernel
theorem dX2_trace_12 : decode cX2_trace 12 = .ok (.iload_n 1, 1) := by decide +kernel
theorem dX2_trace_13 : decode cX2_trace 13 = .ok (.aload_n 0, 1) := by decide +kernel
theorem dX2_trace_14 : decode cX2_trace 14 = .ok (.getfield 59, 3) := by decide +kernel
theorem dX2_trace_17 : decode cX2_trace 17 = .ok (.if_icmp .ge 46, 3) := by decide +kernel
theorem dX2_trace_20 : decode cX2_trace 20 = .ok (.aload_n 2, 1) := by decide +kernel
theorem dX2_trace_21 : decode cX2_trace 21 = .ok (.aload_n 0, 1) := by decide +kernel
theorem dX2_trace_22 : decode cX2_trace 22 = .ok (.getfield 23, 3) := by decide +kernel
theorem dX2_trace_25 : decode cX2_trace 25 = .ok (.aload_n 0, 1) := by decide +kernel
theorem dX2_trace_26 : decode cX2_trace 26 = .ok (.getfield 14, 3) := by decide +kernel
theorem dX2_trace_29 : decode cX2_trace 29 = .ok (.aload_n 0, 1) := by decide +kernel
theorem dX2_trace_30 : decode cX2_trace 30 = .ok (.getfield 45, 3) := by decide +kernel
theorem dX2_trace_33 : decode cX2_trace 33 = .ok (.iload_n 1, 1) := by decide +kernel
theorem dX2_trace_34 : decode cX2_trace 34 = .ok (.iaload, 1) := by decide +kernel
theorem dX2_trace_35 : decode cX2_trace 35 = .ok (.aload_n 0, 1) := by decide +kernel
theorem dX2_trace_36 : decode cX2_trace 36 = .ok (.getfield 38, 3) := by decide +kernel
theorem dX2_trace_39 : decode cX2_trace 39 = .ok (.iload_n 1, 1) := by decide +kernel
theorem dX2_trace_40 : decode cX2_trace 40 = .ok (.iaload, 1) := by decide +kernel
theorem dX2_trace_41 : decode cX2_trace 41 = .ok (.aload_n 0, 1) := by decide +kernel
theorem dX2_trace_42 : decode cX2_trace 42 = .ok (.getfield 55, 3) := by decide +kernel
theorem dX2_trace_45 : decode cX2_trace 45 = .ok (.aload_n 0, 1) := by decide +kernel
theorem dX2_trace_46 : decode cX2_trace 46 = .ok (.getfield 42, 3) := by decide +kernel
theorem dX2_trace_49 : decode cX2_trace 49 = .ok (.iload_n 1, 1) := by decide +kernel
theorem dX2_trace_50 : decode cX2_trace 50 = .ok (.iaload, 1) := by decide +kernel
theorem dX2_trace_51 : decode cX2_trace 51 = .ok (.aload_n 0, 1) := by decide +kernel
theorem dX2_trace_52 : decode cX2_trace 52 = .ok (.getfield 34, 3) := by decide +kernel
theorem dX2_trace_55 : decode cX2_trace 55 = .ok (.invokevirtual 62, 3) := by decide +kernel
theorem dX2_trace_58 : decode cX2_trace 58 = .ok (.aload_n 0, 1) := by decide +kernel
theorem dX2_trace_59 : decode cX2_trace 59 = .ok (.iload_n 1, 1) := by decide +kernel
theorem dX2_trace_60 : decode cX2_trace 60 = .ok (.putfield 27, 3) := by decide +kernel
theorem dX2_trace_63 : decode cX2_trace 63 = .ok (.return_, 1) := by decide +kernel
theorem dX3_init_0 : decode cX3_init 0 = .ok (.aload_n 0, 1) := by decide +kernel
theorem dX3_init_1 : decode cX3_init 1 = .ok (.invokespecial 3, 3) := by decide +kernel
theorem dX3_init_4 : decode cX3_init 4 = .ok (.aload_n 0, 1) := by decide +kernel
theorem dX3_init_5 : decode cX3_init 5 = .ok (.sipush 751, 3) := by decide +kernel
theorem dX3_init_8 : decode cX3_init 8 = .ok (.newarray .int, 2) := by decide +kernel
theorem dX3_init_10 : decode cX3_init 10 = .ok (.putfield 9, 3) := by decide +kernel
theorem dX3_init_13 : decode cX3_init 13 = .ok (.return_, 1) := by decide +kernel
theorem dX3_clear_0 : decode cX3_clear 0 = .ok (.aload_n 0, 1) := by decide +kernel
theorem dX3_clear_1 : decode cX3_clear 1 = .ok (.iconst 0, 1) := by decide +kernel
theorem dX3_clear_2 : decode cX3_clear 2 = .ok (.putfield 15, 3) := by decide +kernel
theorem dX3_clear_5 : decode cX3_clear 5 = .ok (.return_, 1) := by decide +kernel
theorem dX3_add_0 : decode cX3_add 0 = .ok (.aload_n 0, 1) := by decide +kernel
theorem dX3_add_1 : decode cX3_add 1 = .ok (.getfield 15, 3) := by decide +kernel
theorem dX3_add_4 : decode cX3_add 4 = .ok (.aload_n 0, 1) := by decide +kernel
theorem dX3_add_5 : decode cX3_add 5 = .ok (.getfield 9, 3) := by decide +kernel
theorem dX3_add_8 : decode cX3_add 8 = .ok (.arraylength, 1) := by decide +kernel
theorem dX3_add_9 : decode cX3_add 9 = .ok (.if_icmp .ge 23, 3) := by decide +kernel
theorem dX3_add_12 : decode cX3_add 12 = .ok (.aload_n 0, 1) := by decide +kernel
theorem dX3_add_13 : decode cX3_add 13 = .ok (.getfield 9, 3) := by decide +kernel
theorem dX3_add_16 : decode cX3_add 16 = .ok (.aload_n 0, 1) := by decide +kernel
theorem dX3_add_17 : decode cX3_add 17 = .ok (.getfield 15, 3) := by decide +kernel
theorem dX3_add_20 : decode cX3_add 20 = .ok (.iload_n 1, 1) := by decide +kernel
theorem dX3_add_21 : decode cX3_add 21 = .ok (.iastore, 1) := by decide +kernel
theorem dX3_add_22 : decode cX3_add 22 = .ok (.aload_n 0, 1) := by decide +kernel
theorem dX3_add_23 : decode cX3_add 23 = .ok (.dup, 1) := by decide +kernel
theorem dX3_add_24 : decode cX3_add 24 = .ok (.getfield 15, 3) := by decide +kernel
theorem dX3_add_27 : decode cX3_add 27 = .ok (.iconst 1, 1) := by decide +kernel
theorem dX3_add_28 : decode cX3_add 28 = .ok (.iadd, 1) := by decide +kernel
theorem dX3_add_29 : decode cX3_add 29 = .ok (.putfield 15, 3) := by decide +kernel
theorem dX3_add_32 : decode cX3_add 32 = .ok (.return_, 1) := by decide +kernel
theorem dX3_get_0 : decode cX3_get 0 = .ok (.iload_n 1, 1) := by decide +kernel
theorem dX3_get_1 : decode cX3_get 1 = .ok (.ifCond .lt 20, 3) := by decide +kernel
theorem dX3_get_4 : decode cX3_get 4 = .ok (.iload_n 1, 1) := by decide +kernel
theorem dX3_get_5 : decode cX3_get 5 = .ok (.aload_n 0, 1) := by decide +kernel
theorem dX3_get_6 : decode cX3_get 6 = .ok (.getfield 15, 3) := by decide +kernel
theorem dX3_get_9 : decode cX3_get 9 = .ok (.if_icmp .ge 12, 3) := by decide +kernel
theorem dX3_get_12 : decode cX3_get 12 = .ok (.aload_n 0, 1) := by decide +kernel
theorem dX3_get_13 : decode cX3_get 13 = .ok (.getfield 9, 3) := by decide +kernel
theorem dX3_get_16 : decode cX3_get 16 = .ok (.iload_n 1, 1) := by decide +kernel
theorem dX3_get_17 : decode cX3_get 17 = .ok (.iaload, 1) := by decide +kernel
theorem dX3_get_18 : decode cX3_get 18 = .ok (.goto 4, 3) := by decide +kernel
theorem dX3_get_21 : decode cX3_get 21 = .ok (.iconst (-1), 1) := by decide +kernel
theorem dX3_get_22 : decode cX3_get 22 = .ok (.ireturn, 1) := by decide +kernel
theorem dX4_init_0 : decode cX4_init 0 = .ok (.aload_n 0, 1) := by decide +kernel
theorem dX4_init_1 : decode cX4_init 1 = .ok (.invokespecial 3, 3) := by decide +kernel
theorem dX4_init_4 : decode cX4_init 4 = .ok (.aload_n 0, 1) := by decide +kernel
theorem dX4_init_5 : decode cX4_init 5 = .ok (.new 9, 3) := by decide +kernel
theorem dX4_init_8 : decode cX4_init 8 = .ok (.dup, 1) := by decide +kernel
theorem dX4_init_9 : decode cX4_init 9 = .ok (.iconst 0, 1) := by decide +kernel
theorem dX4_init_10 : decode cX4_init 10 = .ok (.invokespecial 11, 3) := by decide +kernel
theorem dX4_init_13 : decode cX4_init 13 = .ok (.putfield 14, 3) := by decide +kernel
theorem dX4_init_16 : decode cX4_init 16 = .ok (.aload_n 0, 1) := by decide +kernel
theorem dX4_init_17 : decode cX4_init 17 = .ok (.new 20, 3) := by decide +kernel
theorem dX4_init_20 : decode cX4_init 20 = .ok (.dup, 1) := by decide +kernel
theorem dX4_init_21 : decode cX4_init 21 = .ok (.sipush 200, 3) := by decide +kernel
theorem dX4_init_24 : decode cX4_init 24 = .ok (.invokespecial 22, 3) := by decide +kernel
theorem dX4_init_27 : decode cX4_init 27 = .ok (.putfield 23, 3) := by decide +kernel
theorem dX4_init_30 : decode cX4_init 30 = .ok (.aload_n 0, 1) := by decide +kernel
theorem dX4_init_31 : decode cX4_init 31 = .ok (.iconst (-1), 1) := by decide +kernel
theorem dX4_init_32 : decode cX4_init 32 = .ok (.putfield 27, 3) := by decide +kernel
theorem dX4_init_35 : decode cX4_init 35 = .ok (.return_, 1) := by decide +kernel
theorem dX4_read_0 : decode cX4_read 0 = .ok (.aload_n 0, 1) := by decide +kernel
theorem dX4_read_1 : decode cX4_read 1 = .ok (.aload_n 1, 1) := by decide +kernel
theorem dX4_read_2 : decode cX4_read 2 = .ok (.putfield 14, 3) := by decide +kernel
theorem dX4_read_5 : decode cX4_read 5 = .ok (.aload_n 0, 1) := by decide +kernel
theorem dX4_read_6 : decode cX4_read 6 = .ok (.iconst 0, 1) := by decide +kernel
theorem dX4_read_7 : decode cX4_read 7 = .ok (.putfield 31, 3) := by decide +kernel
theorem dX4_read_10 : decode cX4_read 10 = .ok (.aload_n 0, 1) := by decide +kernel
theorem dX4_read_11 : decode cX4_read 11 = .ok (.iconst 0, 1) := by decide +kernel
theorem dX4_read_12 : decode cX4_read 12 = .ok (.putfield 34, 3) := by decide +kernel
theorem dX4_read_15 : decode cX4_read 15 = .ok (.aload_n 0, 1) := by decide +kernel
theorem dX4_read_16 : decode cX4_read 16 = .ok (.iconst (-1), 1) := by decide +kernel
theorem dX4_read_17 : decode cX4_read 17 = .ok (.putfield 27, 3) := by decide +kernel
theorem dX4_read_20 : decode cX4_read 20 = .ok (.aload_n 0, 1) := by decide +kernel
theorem dX4_read_21 : decode cX4_read 21 = .ok (.getfield 23, 3) := by decide +kernel
theorem dX4_read_24 : decode cX4_read 24 = .ok (.invokevirtual 37, 3) := by decide +kernel
theorem dX4_read_27 : decode cX4_read 27 = .ok (.aload_n 0, 1) := by decide +kernel
theorem dX4_read_28 : decode cX4_read 28 = .ok (.getfield 14, 3) := by decide +kernel
theorem dX4_read_31 : decode cX4_read 31 = .ok (.getfield 40, 3) := by decide +kernel
theorem dX4_read_34 : decode cX4_read 34 = .ok (.ifCond .ne 9, 3) := by decide +kernel
theorem dX4_read_37 : decode cX4_read 37 = .ok (.aload_n 0, 1) := by decide +kernel
theorem dX4_read_38 : decode cX4_read 38 = .ok (.iconst 3, 1) := by decide +kernel
theorem dX4_read_39 : decode cX4_read 39 = .ok (.iconst 0, 1) := by decide +kernel
theorem dX4_read_40 : decode cX4_read 40 = .ok (.invokevirtual 43, 3) := by decide +kernel
theorem dX4_read_43 : decode cX4_read 43 = .ok (.iconst 0, 1) := by decide +kernel
theorem dX4_read_44 : decode cX4_read 44 = .ok (.istore_n 2, 1) := by decide +kernel
theorem dX4_read_45 : decode cX4_read 45 = .ok (.iload_n 2, 1) := by decide +kernel
theorem dX4_read_46 : decode cX4_read 46 = .ok (.aload_n 0, 1) := by decide +kernel
theorem dX4_read_47 : decode cX4_read 47 = .ok (.getfield 14, 3) := by decide +kernel
theorem dX4_read_50 : decode cX4_read 50 = .ok (.getfield 40, 3) := by decide +kernel
theorem dX4_read_53 : decode cX4_read 53 = .ok (.if_icmp .ge 34, 3) := by decide +kernel
theorem dX4_read_56 : decode cX4_read 56 = .ok (.aload_n 0, 1) := by decide +kernel
theorem dX4_read_57 : decode cX4_read 57 = .ok (.getfield 31, 3) := by decide +kernel
theorem dX4_read_60 : decode cX4_read 60 = .ok (.aload_n 0, 1) := by decide +kernel
theorem dX4_read_61 : decode cX4_read 61 = .ok (.getfield 14, 3) := by decide +kernel
theorem dX4_read_64 : decode cX4_read 64 = .ok (.getfield 40, 3) := by decide +kernel
theorem dX4_read_67 : decode cX4_read 67 = .ok (.if_icmp .ge 20, 3) := by decide +kernel
theorem dX4_read_70 : decode cX4_read 70 = .ok (.aload_n 0, 1) := by decide +kernel
theorem dX4_read_71 : decode cX4_read 71 = .ok (.getfield 34, 3) := by decide +kernel
theorem dX4_read_74 : decode cX4_read 74 = .ok (.ifCond .ne 13, 3) := by decide +kernel
theorem dX4_read_77 : decode cX4_read 77 = .ok (.aload_n 0, 1) := by decide +kernel
theorem dX4_read_78 : decode cX4_read 78 = .ok (.invokevirtual 47, 3) := by decide +kernel
theorem dX4_read_81 : decode cX4_read 81 = .ok (.iinc 2 1, 3) := by decide +kernel
theorem dX4_read_84 : decode cX4_read 84 = .ok (.goto (-39), 3) := by decide +kernel
theorem dX4_read_87 : decode cX4_read 87 = .ok (.return_, 1) := by decide +kernel
theorem dX4_fail_0 : decode cX4_fail 0 = .ok (.aload_n 0, 1) := by decide +kernel
theorem dX4_fail_1 : decode cX4_fail 1 = .ok (.getfield 34, 3) := by decide +kernel
theorem dX4_fail_4 : decode cX4_fail 4 = .ok (.ifCond .ne 13, 3) := by decide +kernel
theorem dX4_fail_7 : decode cX4_fail 7 = .ok (.aload_n 0, 1) := by decide +kernel
theorem dX4_fail_8 : decode cX4_fail 8 = .ok (.iload_n 1, 1) := by decide +kernel
theorem dX4_fail_9 : decode cX4_fail 9 = .ok (.putfield 34, 3) := by decide +kernel
theorem dX4_fail_12 : decode cX4_fail 12 = .ok (.aload_n 0, 1) := by decide +kernel
theorem dX4_fail_13 : decode cX4_fail 13 = .ok (.iload_n 2, 1) := by decide +kernel
theorem dX4_fail_14 : decode cX4_fail 14 = .ok (.putfield 27, 3) := by decide +kernel
theorem dX4_fail_17 : decode cX4_fail 17 = .ok (.return_, 1) := by decide +kernel
theorem dX4_readElement_0 : decode cX4_readElement 0 = .ok (.aload_n 0, 1) := by decide +kernel
theorem dX4_readElement_1 : decode cX4_readElement 1 = .ok (.getfield 14, 3) := by decide +kernel
theorem dX4_readElement_4 : decode cX4_readElement 4 = .ok (.aload_n 0, 1) := by decide +kernel
theorem dX4_readElement_5 : decode cX4_readElement 5 = .ok (.getfield 31, 3) := by decide +kernel
theorem dX4_readElement_8 : decode cX4_readElement 8 = .ok (.invokevirtual 50, 3) := by decide +kernel
theorem dX4_readElement_11 : decode cX4_readElement 11 = .ok (.istore_n 1, 1) := by decide +kernel
theorem dX4_readElement_12 : decode cX4_readElement 12 = .ok (.aload_n 0, 1) := by decide +kernel
theorem dX4_readElement_13 : decode cX4_readElement 13 = .ok (.lconst 0, 1) := by decide +kernel
theorem dX4_readElement_14 : decode cX4_readElement 14 = .ok (.putfield 54, 3) := by decide +kernel
theorem dX4_readElement_17 : decode cX4_readElement 17 = .ok (.aload_n 0, 1) := by decide +kernel
theorem dX4_readElement_18 : decode cX4_readElement 18 = .ok (.lconst 0, 1) := by decide +kernel
theorem dX4_readElement_19 : decode cX4_readElement 19 = .ok (.putfield 58, 3) := by decide +kernel
theorem dX4_readElement_22 : decode cX4_readElement 22 = .ok (.iload_n 1, 1) := by decide +kernel
theorem dX4_readElement_23 : decode cX4_readElement 23 = .ok (.bipush 93, 2) := by decide +kernel
theorem dX4_readElement_25 : decode cX4_readElement 25 = .ok (.if_icmp .ne 15, 3) := by decide +kernel
theorem dX4_readElement_28 : decode cX4_readElement 28 = .ok (.aload_n 0, 1) := by decide +kernel
theorem dX4_readElement_29 : decode cX4_readElement 29 = .ok (.iconst 1, 1) := by decide +kernel
theorem dX4_readElement_30 : decode cX4_readElement 30 = .ok (.aload_n 0, 1) := by decide +kernel
theorem dX4_readElement_31 : decode cX4_readElement 31 = .ok (.getfield 31, 3) := by decide +kernel
theorem dX4_readElement_34 : decode cX4_readElement 34 = .ok (.invokevirtual 43, 3) := by decide +kernel
theorem dX4_readElement_37 : decode cX4_readElement 37 = .ok (.goto 93, 3) := by decide +kernel
theorem dX4_readElement_40 : decode cX4_readElement 40 = .ok (.aload_n 0, 1) := by decide +kernel
theorem dX4_readElement_41 : decode cX4_readElement 41 = .ok (.getfield 23, 3) := by decide +kernel
theorem dX4_readElement_44 : decode cX4_readElement 44 = .ok (.getfield 61, 3) := by decide +kernel
theorem dX4_readElement_47 : decode cX4_readElement 47 = .ok (.sipush 200, 3) := by decide +kernel
theorem dX4_readElement_50 : decode cX4_readElement 50 = .ok (.if_icmp .lt 15, 3) := by decide +kernel
theorem dX4_readElement_53 : decode cX4_readElement 53 = .ok (.aload_n 0, 1) := by decide +kernel
theorem dX4_readElement_54 : decode cX4_readElement 54 = .ok (.iconst 4, 1) := by decide +kernel
theorem dX4_readElement_55 : decode cX4_readElement 55 = .ok (.aload_n 0, 1) := by decide +kernel
theorem dX4_readElement_56 : decode cX4_readElement 56 = .ok (.getfield 31, 3) := by decide +kernel
theorem dX4_readElement_59 : decode cX4_readElement 59 = .ok (.invokevirtual 43, 3) := by decide +kernel
theorem dX4_readElement_62 : decode cX4_readElement 62 = .ok (.goto 68, 3) := by decide +kernel
theorem dX4_readElement_65 : decode cX4_readElement 65 = .ok (.iload_n 1, 1) := by decide +kernel
theorem dX4_readElement_66 : decode cX4_readElement 66 = .ok (.bipush 91, 2) := by decide +kernel
theorem dX4_readElement_68 : decode cX4_readElement 68 = .ok (.if_icmp .ne 20, 3) := by decide +kernel
theorem dX4_readElement_71 : decode cX4_readElement 71 = .ok (.aload_n 0, 1) := by decide +kernel
theorem dX4_readElement_72 : decode cX4_readElement 72 = .ok (.dup, 1) := by decide +kernel
theorem dX4_readElement_73 : decode cX4_readElement 73 = .ok (.getfield 31, 3) := by decide +kernel
theorem dX4_readElement_76 : decode cX4_readElement 76 = .ok (.iconst 1, 1) := by decide +kernel
theorem dX4_readElement_77 : decode cX4_readElement 77 = .ok (.iadd, 1) := by decide +kernel
theorem dX4_readElement_78 : decode cX4_readElement 78 = .ok (.putfield 31, 3) := by decide +kernel
theorem dX4_readElement_81 : decode cX4_readElement 81 = .ok (.aload_n 0, 1) := by decide +kernel
theorem dX4_readElement_82 : decode cX4_readElement 82 = .ok (.invokevirtual 62, 3) := by decide +kernel
theorem dX4_readElement_85 : decode cX4_readElement 85 = .ok (.goto 45, 3) := by decide +kernel
theorem dX4_readElement_88 : decode cX4_readElement 88 = .ok (.iload_n 1, 1) := by decide +kernel
theorem dX4_readElement_89 : decode cX4_readElement 89 = .ok (.bipush 46, 2) := by decide +kernel
theorem dX4_readElement_91 : decode cX4_readElement 91 = .ok (.if_icmp .ne 28, 3) := by decide +kernel
theorem dX4_readElement_94 : decode cX4_readElement 94 = .ok (.aload_n 0, 1) := by decide +kernel
theorem dX4_readElement_95 : decode cX4_readElement 95 = .ok (.dup, 1) := by decide +kernel
theorem dX4_readElement_96 : decode cX4_readElement 96 = .ok (.getfield 31, 3) := by decide +kernel
theorem dX4_readElement_99 : decode cX4_readElement 99 = .ok (.iconst 1, 1) := by decide +kernel
theorem dX4_readElement_100 : decode cX4_readElement 100 = .ok (.iadd, 1) := by decide +kernel
theorem dX4_readElement_101 : decode cX4_readElement 101 = .ok (.putfield 31, 3) := by decide +kernel
theorem dX4_readElement_104 : decode cX4_readElement 104 = .ok (.aload_n 0, 1) := by decide +kernel
theorem dX4_readElement_105 : decode cX4_readElement 105 = .ok (.bipush 10, 2) := by decide +kernel
theorem dX4_readElement_107 : decode cX4_readElement 107 = .ok (.bipush 10, 2) := by decide +kernel
theorem dX4_readElement_109 : decode cX4_readElement 109 = .ok (.invokevirtual 65, 3) := by decide +kernel
theorem dX4_readElement_112 : decode cX4_readElement 112 = .ok (.aload_n 0, 1) := by decide +kernel
theorem dX4_readElement_113 : decode cX4_readElement 113 = .ok (.invokevirtual 68, 3) := by decide +kernel
theorem dX4_readElement_116 : decode cX4_readElement 116 = .ok (.goto 14, 3) := by decide +kernel
theorem dX4_readElement_119 : decode cX4_readElement 119 = .ok (.aload_n 0, 1) := by decide +kernel
theorem dX4_readElement_120 : decode cX4_readElement 120 = .ok (.invokevirtual 71, 3) := by decide +kernel
theorem dX4_readElement_123 : decode cX4_readElement 123 = .ok (.istore_n 2, 1) := by decide +kernel
theorem dX4_readElement_124 : decode cX4_readElement 124 = .ok (.aload_n 0, 1) := by decide +kernel
theorem dX4_readElement_125 : decode cX4_readElement 125 = .ok (.iload_n 2, 1) := by decide +kernel
theorem dX4_readElement_126 : decode cX4_readElement 126 = .ok (.iload_n 2, 1) := by decide +kernel
theorem dX4_readElement_127 : decode cX4_readElement 127 = .ok (.invokevirtual 65, 3) := by decide +kernel
theorem dX4_readElement_130 : decode cX4_readElement 130 = .ok (.aload_n 0, 1) := by decide +kernel
theorem dX4_readElement_131 : decode cX4_readElement 131 = .ok (.getfield 34, 3) := by decide +kernel
theorem dX4_readElement_134 : decode cX4_readElement 134 = .ok (.ifCond .ne 18, 3) := by decide +kernel
theorem dX4_readElement_137 : decode cX4_readElement 137 = .ok (.aload_n 0, 1) := by decide +kernel
theorem dX4_readElement_138 : decode cX4_readElement 138 = .ok (.getfield 23, 3) := by decide +kernel
theorem dX4_readElement_141 : decode cX4_readElement 141 = .ok (.aload_n 0, 1) := by decide +kernel
theorem dX4_readElement_142 : decode cX4_readElement 142 = .ok (.getfield 54, 3) := by decide +kernel
theorem dX4_readElement_145 : decode cX4_readElement 145 = .ok (.aload_n 0, 1) := by decide +kernel
theorem dX4_readElement_146 : decode cX4_readElement 146 = .ok (.getfield 58, 3) := by decide +kernel
theorem dX4_readElement_149 : decode cX4_readElement 149 = .ok (.invokevirtual 75, 3) := by decide +kernel
theorem dX4_readElement_152 : decode cX4_readElement 152 = .ok (.return_, 1) := by decide +kernel
theorem dX4_readItems_0 : decode cX4_readItems 0 = .ok (.aload_n 0, 1) := by decide +kernel
theorem dX4_readItems_1 : decode cX4_readItems 1 = .ok (.getfield 14, 3) := by decide +kernel
theorem dX4_readItems_4 : decode cX4_readItems 4 = .ok (.aload_n 0, 1) := by decide +kernel
theorem dX4_readItems_5 : decode cX4_readItems 5 = .ok (.getfield 31, 3) := by decide +kernel
theorem dX4_readItems_8 : decode cX4_readItems 8 = .ok (.invokevirtual 50, 3) := by decide +kernel
theorem dX4_readItems_11 : decode cX4_readItems 11 = .ok (.bipush 94, 2) := by decide +kernel
theorem dX4_readItems_13 : decode cX4_readItems 13 = .ok (.if_icmp .ne 7, 3) := by decide +kernel
theorem dX4_readItems_16 : decode cX4_readItems 16 = .ok (.iconst 1, 1) := by decide +kernel
theorem dX4_readItems_17 : decode cX4_readItems 17 = .ok (.goto 4, 3) := by decide +kernel
theorem dX4_readItems_20 : decode cX4_readItems 20 = .ok (.iconst 0, 1) := by decide +kernel
theorem dX4_readItems_21 : decode cX4_readItems 21 = .ok (.istore_n 1, 1) := by decide +kernel
theorem dX4_readItems_22 : decode cX4_readItems 22 = .ok (.iload_n 1, 1) := by decide +kernel
theorem dX4_readItems_23 : decode cX4_readItems 23 = .ok (.ifCond .eq 13, 3) := by decide +kernel
theorem dX4_readItems_26 : decode cX4_readItems 26 = .ok (.aload_n 0, 1) := by decide +kernel
theorem dX4_readItems_27 : decode cX4_readItems 27 = .ok (.dup, 1) := by decide +kernel
theorem dX4_readItems_28 : decode cX4_readItems 28 = .ok (.getfield 31, 3) := by decide +kernel
theorem dX4_readItems_31 : decode cX4_readItems 31 = .ok (.iconst 1, 1) := by decide +kernel
theorem dX4_readItems_32 : decode cX4_readItems 32 = .ok (.iadd, 1) := by decide +kernel
theorem dX4_readItems_33 : decode cX4_readItems 33 = .ok (.putfield 31, 3) := by decide +kernel
theorem dX4_readItems_36 : decode cX4_readItems 36 = .ok (.aload_n 0, 1) := by decide +kernel
theorem dX4_readItems_37 : decode cX4_readItems 37 = .ok (.getfield 14, 3) := by decide +kernel
theorem dX4_readItems_40 : decode cX4_readItems 40 = .ok (.aload_n 0, 1) := by decide +kernel
theorem dX4_readItems_41 : decode cX4_readItems 41 = .ok (.getfield 31, 3) := by decide +kernel
theorem dX4_readItems_44 : decode cX4_readItems 44 = .ok (.invokevirtual 50, 3) := by decide +kernel
theorem dX4_readItems_47 : decode cX4_readItems 47 = .ok (.bipush 93, 2) := by decide +kernel
theorem dX4_readItems_49 : decode cX4_readItems 49 = .ok (.if_icmp .ne 12, 3) := by decide +kernel
theorem dX4_readItems_52 : decode cX4_readItems 52 = .ok (.aload_n 0, 1) := by decide +kernel
theorem dX4_readItems_53 : decode cX4_readItems 53 = .ok (.iconst 2, 1) := by decide +kernel
theorem dX4_readItems_54 : decode cX4_readItems 54 = .ok (.aload_n 0, 1) := by decide +kernel
theorem dX4_readItems_55 : decode cX4_readItems 55 = .ok (.getfield 31, 3) := by decide +kernel
theorem dX4_readItems_58 : decode cX4_readItems 58 = .ok (.invokevirtual 43, 3) := by decide +kernel
theorem dX4_readItems_61 : decode cX4_readItems 61 = .ok (.iconst 0, 1) := by decide +kernel
theorem dX4_readItems_62 : decode cX4_readItems 62 = .ok (.istore_n 2, 1) := by decide +kernel
theorem dX4_readItems_63 : decode cX4_readItems 63 = .ok (.iload_n 2, 1) := by decide +kernel
theorem dX4_readItems_64 : decode cX4_readItems 64 = .ok (.aload_n 0, 1) := by decide +kernel
theorem dX4_readItems_65 : decode cX4_readItems 65 = .ok (.getfield 14, 3) := by decide +kernel
theorem dX4_readItems_68 : decode cX4_readItems 68 = .ok (.getfield 40, 3) := by decide +kernel
theorem dX4_readItems_71 : decode cX4_readItems 71 = .ok (.if_icmp .gt 36, 3) := by decide +kernel
theorem dX4_readItems_74 : decode cX4_readItems 74 = .ok (.aload_n 0, 1) := by decide +kernel
theorem dX4_readItems_75 : decode cX4_readItems 75 = .ok (.getfield 34, 3) := by decide +kernel
theorem dX4_readItems_78 : decode cX4_readItems 78 = .ok (.ifCond .ne 29, 3) := by decide +kernel
theorem dX4_readItems_81 : decode cX4_readItems 81 = .ok (.aload_n 0, 1) := by decide +kernel
theorem dX4_readItems_82 : decode cX4_readItems 82 = .ok (.getfield 14, 3) := by decide +kernel
theorem dX4_readItems_85 : decode cX4_readItems 85 = .ok (.aload_n 0, 1) := by decide +kernel
theorem dX4_readItems_86 : decode cX4_readItems 86 = .ok (.getfield 31, 3) := by decide +kernel
theorem dX4_readItems_89 : decode cX4_readItems 89 = .ok (.invokevirtual 50, 3) := by decide +kernel
theorem dX4_readItems_92 : decode cX4_readItems 92 = .ok (.bipush 93, 2) := by decide +kernel
theorem dX4_readItems_94 : decode cX4_readItems 94 = .ok (.if_icmp .eq 13, 3) := by decide +kernel
theorem dX4_readItems_97 : decode cX4_readItems 97 = .ok (.aload_n 0, 1) := by decide +kernel
theorem dX4_readItems_98 : decode cX4_readItems 98 = .ok (.invokevirtual 79, 3) := by decide +kernel
theorem dX4_readItems_101 : decode cX4_readItems 101 = .ok (.iinc 2 1, 3) := by decide +kernel
theorem dX4_readItems_104 : decode cX4_readItems 104 = .ok (.goto (-41), 3) := by decide +kernel
theorem dX4_readItems_107 : decode cX4_readItems 107 = .ok (.aload_n 0, 1) := by decide +kernel
theorem dX4_readItems_108 : decode cX4_readItems 108 = .ok (.dup, 1) := by decide +kernel
theorem dX4_readItems_109 : decode cX4_readItems 109 = .ok (.getfield 31, 3) := by decide +kernel
theorem dX4_readItems_112 : decode cX4_readItems 112 = .ok (.iconst 1, 1) := by decide +kernel
theorem dX4_readItems_113 : decode cX4_readItems 113 = .ok (.iadd, 1) := by decide +kernel
theorem dX4_readItems_114 : decode cX4_readItems 114 = .ok (.putfield 31, 3) := by decide +kernel
theorem dX4_readItems_117 : decode cX4_readItems 117 = .ok (.iload_n 1, 1) := by decide +kernel
theorem dX4_readItems_118 : decode cX4_readItems 118 = .ok (.ifCond .eq 7, 3) := by decide +kernel
theorem dX4_readItems_121 : decode cX4_readItems 121 = .ok (.aload_n 0, 1) := by decide +kernel
theorem dX4_readItems_122 : decode cX4_readItems 122 = .ok (.invokevirtual 68, 3) := by decide +kernel
theorem dX4_readItems_125 : decode cX4_readItems 125 = .ok (.return_, 1) := by decide +kernel
theorem dX4_readItem_0 : decode cX4_readItem 0 = .ok (.aload_n 0, 1) := by decide +kernel
theorem dX4_readItem_1 : decode cX4_readItem 1 = .ok (.invokevirtual 71, 3) := by decide +kernel
theorem dX4_readItem_4 : decode cX4_readItem 4 = .ok (.istore_n 1, 1) := by decide +kernel
theorem dX4_readItem_5 : decode cX4_readItem 5 = .ok (.iload_n 1, 1) := by decide +kernel
theorem dX4_readItem_6 : decode cX4_readItem 6 = .ok (.istore_n 2, 1) := by decide +kernel
theorem dX4_readItem_7 : decode cX4_readItem 7 = .ok (.aload_n 0, 1) := by decide +kernel
theorem dX4_readItem_8 : decode cX4_readItem 8 = .ok (.getfield 14, 3) := by decide +kernel
theorem dX4_readItem_11 : decode cX4_readItem 11 = .ok (.aload_n 0, 1) := by decide +kernel
theorem dX4_readItem_12 : decode cX4_readItem 12 = .ok (.getfield 31, 3) := by decide +kernel
theorem dX4_readItem_15 : decode cX4_readItem 15 = .ok (.invokevirtual 50, 3) := by decide +kernel
theorem dX4_readItem_18 : decode cX4_readItem 18 = .ok (.bipush 45, 2) := by decide +kernel
theorem dX4_readItem_20 : decode cX4_readItem 20 = .ok (.if_icmp .ne 36, 3) := by decide +kernel
theorem dX4_readItem_23 : decode cX4_readItem 23 = .ok (.aload_n 0, 1) := by decide +kernel
theorem dX4_readItem_24 : decode cX4_readItem 24 = .ok (.getfield 14, 3) := by decide +kernel
theorem dX4_readItem_27 : decode cX4_readItem 27 = .ok (.aload_n 0, 1) := by decide +kernel
theorem dX4_readItem_28 : decode cX4_readItem 28 = .ok (.getfield 31, 3) := by decide +kernel
theorem dX4_readItem_31 : decode cX4_readItem 31 = .ok (.iconst 1, 1) := by decide +kernel
theorem dX4_readItem_32 : decode cX4_readItem 32 = .ok (.iadd, 1) := by decide +kernel
theorem dX4_readItem_33 : decode cX4_readItem 33 = .ok (.invokevirtual 50, 3) := by decide +kernel
theorem dX4_readItem_36 : decode cX4_readItem 36 = .ok (.bipush 93, 2) := by decide +kernel
theorem dX4_readItem_38 : decode cX4_readItem 38 = .ok (.if_icmp .eq 18, 3) := by decide +kernel
theorem dX4_readItem_41 : decode cX4_readItem 41 = .ok (.aload_n 0, 1) := by decide +kernel
theorem dX4_readItem_42 : decode cX4_readItem 42 = .ok (.dup, 1) := by decide +kernel
theorem dX4_readItem_43 : decode cX4_readItem 43 = .ok (.getfield 31, 3) := by decide +kernel
theorem dX4_readItem_46 : decode cX4_readItem 46 = .ok (.iconst 1, 1) := by decide +kernel
theorem dX4_readItem_47 : decode cX4_readItem 47 = .ok (.iadd, 1) := by decide +kernel
theorem dX4_readItem_48 : decode cX4_readItem 48 = .ok (.putfield 31, 3) := by decide +kernel
theorem dX4_readItem_51 : decode cX4_readItem 51 = .ok (.aload_n 0, 1) := by decide +kernel
theorem dX4_readItem_52 : decode cX4_readItem 52 = .ok (.invokevirtual 71, 3) := by decide +kernel
theorem dX4_readItem_55 : decode cX4_readItem 55 = .ok (.istore_n 2, 1) := by decide +kernel
theorem dX4_readItem_56 : decode cX4_readItem 56 = .ok (.aload_n 0, 1) := by decide +kernel
theorem dX4_readItem_57 : decode cX4_readItem 57 = .ok (.iload_n 1, 1) := by decide +kernel
theorem dX4_readItem_58 : decode cX4_readItem 58 = .ok (.iload_n 2, 1) := by decide +kernel
theorem dX4_readItem_59 : decode cX4_readItem 59 = .ok (.invokevirtual 65, 3) := by decide +kernel
theorem dX4_readItem_62 : decode cX4_readItem 62 = .ok (.return_, 1) := by decide +kernel
theorem dX4_takeByte_0 : decode cX4_takeByte 0 = .ok (.aload_n 0, 1) := by decide +kernel
theorem dX4_takeByte_1 : decode cX4_takeByte 1 = .ok (.getfield 14, 3) := by decide +kernel
theorem dX4_takeByte_4 : decode cX4_takeByte 4 = .ok (.aload_n 0, 1) := by decide +kernel
theorem dX4_takeByte_5 : decode cX4_takeByte 5 = .ok (.getfield 31, 3) := by decide +kernel
theorem dX4_takeByte_8 : decode cX4_takeByte 8 = .ok (.invokevirtual 50, 3) := by decide +kernel
theorem dX4_takeByte_11 : decode cX4_takeByte 11 = .ok (.bipush 92, 2) := by decide +kernel
theorem dX4_takeByte_13 : decode cX4_takeByte 13 = .ok (.if_icmp .ne 13, 3) := by decide +kernel
theorem dX4_takeByte_16 : decode cX4_takeByte 16 = .ok (.aload_n 0, 1) := by decide +kernel
theorem dX4_takeByte_17 : decode cX4_takeByte 17 = .ok (.dup, 1) := by decide +kernel
theorem dX4_takeByte_18 : decode cX4_takeByte 18 = .ok (.getfield 31, 3) := by decide +kernel
theorem dX4_takeByte_21 : decode cX4_takeByte 21 = .ok (.iconst 1, 1) := by decide +kernel
theorem dX4_takeByte_22 : decode cX4_takeByte 22 = .ok (.iadd, 1) := by decide +kernel
theorem dX4_takeByte_23 : decode cX4_takeByte 23 = .ok (.putfield 31, 3) := by decide +kernel
theorem dX4_takeByte_26 : decode cX4_takeByte 26 = .ok (.aload_n 0, 1) := by decide +kernel
theorem dX4_takeByte_27 : decode cX4_takeByte 27 = .ok (.getfield 14, 3) := by decide +kernel
theorem dX4_takeByte_30 : decode cX4_takeByte 30 = .ok (.aload_n 0, 1) := by decide +kernel
theorem dX4_takeByte_31 : decode cX4_takeByte 31 = .ok (.getfield 31, 3) := by decide +kernel
theorem dX4_takeByte_34 : decode cX4_takeByte 34 = .ok (.invokevirtual 50, 3) := by decide +kernel
theorem dX4_takeByte_37 : decode cX4_takeByte 37 = .ok (.istore_n 1, 1) := by decide +kernel
theorem dX4_takeByte_38 : decode cX4_takeByte 38 = .ok (.iload_n 1, 1) := by decide +kernel
theorem dX4_takeByte_39 : decode cX4_takeByte 39 = .ok (.iconst (-1), 1) := by decide +kernel
theorem dX4_takeByte_40 : decode cX4_takeByte 40 = .ok (.if_icmp .ne 15, 3) := by decide +kernel
theorem dX4_takeByte_43 : decode cX4_takeByte 43 = .ok (.aload_n 0, 1) := by decide +kernel
theorem dX4_takeByte_44 : decode cX4_takeByte 44 = .ok (.iconst 3, 1) := by decide +kernel
theorem dX4_takeByte_45 : decode cX4_takeByte 45 = .ok (.aload_n 0, 1) := by decide +kernel
theorem dX4_takeByte_46 : decode cX4_takeByte 46 = .ok (.getfield 14, 3) := by decide +kernel
theorem dX4_takeByte_49 : decode cX4_takeByte 49 = .ok (.getfield 40, 3) := by decide +kernel
theorem dX4_takeByte_52 : decode cX4_takeByte 52 = .ok (.invokevirtual 43, 3) := by decide +kernel
theorem dX4_takeByte_55 : decode cX4_takeByte 55 = .ok (.aload_n 0, 1) := by decide +kernel
theorem dX4_takeByte_56 : decode cX4_takeByte 56 = .ok (.dup, 1) := by decide +kernel
theorem dX4_takeByte_57 : decode cX4_takeByte 57 = .ok (.getfield 31, 3) := by decide +kernel
theorem dX4_takeByte_60 : decode cX4_takeByte 60 = .ok (.iconst 1, 1) := by decide +kernel
theorem dX4_takeByte_61 : decode cX4_takeByte 61 = .ok (.iadd, 1) := by decide +kernel
theorem dX4_takeByte_62 : decode cX4_takeByte 62 = .ok (.putfield 31, 3) := by decide +kernel
theorem dX4_takeByte_65 : decode cX4_takeByte 65 = .ok (.iload_n 1, 1) := by decide +kernel
theorem dX4_takeByte_66 : decode cX4_takeByte 66 = .ok (.ireturn, 1) := by decide +kernel
theorem dX4_addRange_0 : decode cX4_addRange 0 = .ok (.iload_n 1, 1) := by decide +kernel
theorem dX4_addRange_1 : decode cX4_addRange 1 = .ok (.iconst 0, 1) := by decide +kernel
theorem dX4_addRange_2 : decode cX4_addRange 2 = .ok (.invokestatic 82, 3) := by decide +kernel
theorem dX4_addRange_5 : decode cX4_addRange 5 = .ok (.istore_n 3, 1) := by decide +kernel
theorem dX4_addRange_6 : decode cX4_addRange 6 = .ok (.iload_n 3, 1) := by decide +kernel
theorem dX4_addRange_7 : decode cX4_addRange 7 = .ok (.iload_n 2, 1) := by decide +kernel
theorem dX4_addRange_8 : decode cX4_addRange 8 = .ok (.if_icmp .gt 55, 3) := by decide +kernel
theorem dX4_addRange_11 : decode cX4_addRange 11 = .ok (.iload_n 3, 1) := by decide +kernel
theorem dX4_addRange_12 : decode cX4_addRange 12 = .ok (.bipush 126, 2) := by decide +kernel
theorem dX4_addRange_14 : decode cX4_addRange 14 = .ok (.if_icmp .gt 49, 3) := by decide +kernel
theorem dX4_addRange_17 : decode cX4_addRange 17 = .ok (.iload_n 3, 1) := by decide +kernel
theorem dX4_addRange_18 : decode cX4_addRange 18 = .ok (.invokestatic 88, 3) := by decide +kernel
theorem dX4_addRange_21 : decode cX4_addRange 21 = .ok (.ifCond .eq 36, 3) := by decide +kernel
theorem dX4_addRange_24 : decode cX4_addRange 24 = .ok (.iload_n 3, 1) := by decide +kernel
theorem dX4_addRange_25 : decode cX4_addRange 25 = .ok (.bipush 64, 2) := by decide +kernel
theorem dX4_addRange_27 : decode cX4_addRange 27 = .ok (.if_icmp .ge 18, 3) := by decide +kernel
theorem dX4_addRange_30 : decode cX4_addRange 30 = .ok (.aload_n 0, 1) := by decide +kernel
theorem dX4_addRange_31 : decode cX4_addRange 31 = .ok (.dup, 1) := by decide +kernel
theorem dX4_addRange_32 : decode cX4_addRange 32 = .ok (.getfield 54, 3) := by decide +kernel
theorem dX4_addRange_35 : decode cX4_addRange 35 = .ok (.lconst 1, 1) := by decide +kernel
theorem dX4_addRange_36 : decode cX4_addRange 36 = .ok (.iload_n 3, 1) := by decide +kernel
theorem dX4_addRange_37 : decode cX4_addRange 37 = .ok (.lshl, 1) := by decide +kernel
theorem dX4_addRange_38 : decode cX4_addRange 38 = .ok (.lor, 1) := by decide +kernel
theorem dX4_addRange_39 : decode cX4_addRange 39 = .ok (.putfield 54, 3) := by decide +kernel
theorem dX4_addRange_42 : decode cX4_addRange 42 = .ok (.goto 15, 3) := by decide +kernel
theorem dX4_addRange_45 : decode cX4_addRange 45 = .ok (.aload_n 0, 1) := by decide +kernel
theorem dX4_addRange_46 : decode cX4_addRange 46 = .ok (.dup, 1) := by decide +kernel
theorem dX4_addRange_47 : decode cX4_addRange 47 = .ok (.getfield 58, 3) := by decide +kernel
theorem dX4_addRange_50 : decode cX4_addRange 50 = .ok (.lconst 1, 1) := by decide +kernel
theorem dX4_addRange_51 : decode cX4_addRange 51 = .ok (.iload_n 3, 1) := by decide +kernel
theorem dX4_addRange_52 : decode cX4_addRange 52 = .ok (.lshl, 1) := by decide +kernel
theorem dX4_addRange_53 : decode cX4_addRange 53 = .ok (.lor, 1) := by decide +kernel
theorem dX4_addRange_54 : decode cX4_addRange 54 = .ok (.putfield 58, 3) := by decide +kernel
theorem dX4_addRange_57 : decode cX4_addRange 57 = .ok (.iinc 3 1, 3) := by decide +kernel
theorem dX4_addRange_60 : decode cX4_addRange 60 = .ok (.goto (-54), 3) := by decide +kernel
theorem dX4_addRange_63 : decode cX4_addRange 63 = .ok (.return_, 1) := by decide +kernel
theorem dX4_turnRound_0 : decode cX4_turnRound 0 = .ok (.aload_n 0, 1) := by decide +kernel
theorem dX4_turnRound_1 : decode cX4_turnRound 1 = .ok (.ldc2_w 92, 3) := by decide +kernel
theorem dX4_turnRound_4 : decode cX4_turnRound 4 = .ok (.aload_n 0, 1) := by decide +kernel
theorem dX4_turnRound_5 : decode cX4_turnRound 5 = .ok (.getfield 54, 3) := by decide +kernel
theorem dX4_turnRound_8 : decode cX4_turnRound 8 = .ok (.ldc2_w 94, 3) := by decide +kernel
theorem dX4_turnRound_11 : decode cX4_turnRound 11 = .ok (.lxor, 1) := by decide +kernel
theorem dX4_turnRound_12 : decode cX4_turnRound 12 = .ok (.land, 1) := by decide +kernel
theorem dX4_turnRound_13 : decode cX4_turnRound 13 = .ok (.putfield 54, 3) := by decide +kernel
theorem dX4_turnRound_16 : decode cX4_turnRound 16 = .ok (.aload_n 0, 1) := by decide +kernel
theorem dX4_turnRound_17 : decode cX4_turnRound 17 = .ok (.ldc2_w 96, 3) := by decide +kernel
theorem dX4_turnRound_20 : decode cX4_turnRound 20 = .ok (.aload_n 0, 1) := by decide +kernel
theorem dX4_turnRound_21 : decode cX4_turnRound 21 = .ok (.getfield 58, 3) := by decide +kernel
theorem dX4_turnRound_24 : decode cX4_turnRound 24 = .ok (.ldc2_w 94, 3) := by decide +kernel
theorem dX4_turnRound_27 : decode cX4_turnRound 27 = .ok (.lxor, 1) := by decide +kernel
theorem dX4_turnRound_28 : decode cX4_turnRound 28 = .ok (.land, 1) := by decide +kernel
theorem dX4_turnRound_29 : decode cX4_turnRound 29 = .ok (.putfield 58, 3) := by decide +kernel
theorem dX4_turnRound_32 : decode cX4_turnRound 32 = .ok (.return_, 1) := by decide +kernel
theorem dX5_init_0 : decode cX5_init 0 = .ok (.aload_n 0, 1) := by decide +kernel
theorem dX5_init_1 : decode cX5_init 1 = .ok (.invokespecial 3, 3) := by decide +kernel
theorem dX5_init_4 : decode cX5_init 4 = .ok (.aload_n 0, 1) := by decide +kernel
theorem dX5_init_5 : decode cX5_init 5 = .ok (.new 9, 3) := by decide +kernel
theorem dX5_init_8 : decode cX5_init 8 = .ok (.dup, 1) := by decide +kernel
theorem dX5_init_9 : decode cX5_init 9 = .ok (.iconst 0, 1) := by decide +kernel
theorem dX5_init_10 : decode cX5_init 10 = .ok (.invokespecial 11, 3) := by decide +kernel
theorem dX5_init_13 : decode cX5_init 13 = .ok (.putfield 14, 3) := by decide +kernel
theorem dX5_init_16 : decode cX5_init 16 = .ok (.aload_n 0, 1) := by decide +kernel
theorem dX5_init_17 : decode cX5_init 17 = .ok (.new 20, 3) := by decide +kernel
theorem dX5_init_20 : decode cX5_init 20 = .ok (.dup, 1) := by decide +kernel
theorem dX5_init_21 : decode cX5_init 21 = .ok (.iconst 0, 1) := by decide +kernel
theorem dX5_init_22 : decode cX5_init 22 = .ok (.invokespecial 22, 3) := by decide +kernel
theorem dX5_init_25 : decode cX5_init 25 = .ok (.putfield 23, 3) := by decide +kernel
theorem dX5_init_28 : decode cX5_init 28 = .ok (.aload_n 0, 1) := by decide +kernel
theorem dX5_init_29 : decode cX5_init 29 = .ok (.sipush 1501, 3) := by decide +kernel
theorem dX5_init_32 : decode cX5_init 32 = .ok (.newarray .int, 2) := by decide +kernel
theorem dX5_init_34 : decode cX5_init 34 = .ok (.putfield 27, 3) := by decide +kernel
theorem dX5_init_37 : decode cX5_init 37 = .ok (.aload_n 0, 1) := by decide +kernel
theorem dX5_init_38 : decode cX5_init 38 = .ok (.sipush 1501, 3) := by decide +kernel
theorem dX5_init_41 : decode cX5_init 41 = .ok (.newarray .int, 2) := by decide +kernel
theorem dX5_init_43 : decode cX5_init 43 = .ok (.putfield 31, 3) := by decide +kernel
theorem dX5_init_46 : decode cX5_init 46 = .ok (.aload_n 0, 1) := by decide +kernel
theorem dX5_init_47 : decode cX5_init 47 = .ok (.sipush 1501, 3) := by decide +kernel
theorem dX5_init_50 : decode cX5_init 50 = .ok (.newarray .int, 2) := by decide +kernel
theorem dX5_init_52 : decode cX5_init 52 = .ok (.putfield 34, 3) := by decide +kernel
theorem dX5_init_55 : decode cX5_init 55 = .ok (.aload_n 0, 1) := by decide +kernel
theorem dX5_init_56 : decode cX5_init 56 = .ok (.bipush 10, 2) := by decide +kernel
theorem dX5_init_58 : decode cX5_init 58 = .ok (.putfield 37, 3) := by decide +kernel
theorem dX5_init_61 : decode cX5_init 61 = .ok (.aload_n 0, 1) := by decide +kernel
theorem dX5_init_62 : decode cX5_init 62 = .ok (.bipush 10, 2) := by decide +kernel
theorem dX5_init_64 : decode cX5_init 64 = .ok (.putfield 41, 3) := by decide +kernel
theorem dX5_init_67 : decode cX5_init 67 = .ok (.aload_n 0, 1) := by decide +kernel
theorem dX5_init_68 : decode cX5_init 68 = .ok (.aload_n 0, 1) := by decide +kernel
theorem dX5_init_69 : decode cX5_init 69 = .ok (.getfield 14, 3) := by decide +kernel
theorem dX5_init_72 : decode cX5_init 72 = .ok (.getfield 44, 3) := by decide +kernel
theorem dX5_init_75 : decode cX5_init 75 = .ok (.putfield 48, 3) := by decide +kernel
theorem dX5_init_78 : decode cX5_init 78 = .ok (.aload_n 0, 1) := by decide +kernel
theorem dX5_init_79 : decode cX5_init 79 = .ok (.aload_n 0, 1) := by decide +kernel
theorem dX5_init_80 : decode cX5_init 80 = .ok (.getfield 14, 3) := by decide +kernel
theorem dX5_init_83 : decode cX5_init 83 = .ok (.getfield 44, 3) := by decide +kernel
theorem dX5_init_86 : decode cX5_init 86 = .ok (.putfield 51, 3) := by decide +kernel
theorem dX5_init_89 : decode cX5_init 89 = .ok (.aload_n 0, 1) := by decide +kernel
theorem dX5_init_90 : decode cX5_init 90 = .ok (.new 54, 3) := by decide +kernel
theorem dX5_init_93 : decode cX5_init 93 = .ok (.dup, 1) := by decide +kernel
theorem dX5_init_94 : decode cX5_init 94 = .ok (.invokespecial 56, 3) := by decide +kernel
theorem dX5_init_97 : decode cX5_init 97 = .ok (.putfield 57, 3) := by decide +kernel
theorem dX5_init_100 : decode cX5_init 100 = .ok (.return_, 1) := by decide +kernel
theorem dX5_distance_0 : decode cX5_distance 0 = .ok (.aload_n 0, 1) := by decide +kernel
theorem dX5_distance_1 : decode cX5_distance 1 = .ok (.aload_n 1, 1) := by decide +kernel
theorem dX5_distance_2 : decode cX5_distance 2 = .ok (.aload_n 2, 1) := by decide +kernel
theorem dX5_distance_3 : decode cX5_distance 3 = .ok (.iload_n 3, 1) := by decide +kernel
theorem dX5_distance_4 : decode cX5_distance 4 = .ok (.iload 4, 2) := by decide +kernel
theorem dX5_distance_6 : decode cX5_distance 6 = .ok (.iload 5, 2) := by decide +kernel
theorem dX5_distance_8 : decode cX5_distance 8 = .ok (.invokevirtual 61, 3) := by decide +kernel
theorem dX5_distance_11 : decode cX5_distance 11 = .ok (.aload_n 0, 1) := by decide +kernel
theorem dX5_distance_12 : decode cX5_distance 12 = .ok (.iconst 0, 1) := by decide +kernel
theorem dX5_distance_13 : decode cX5_distance 13 = .ok (.putfield 65, 3) := by decide +kernel
theorem dX5_distance_16 : decode cX5_distance 16 = .ok (.bipush 16, 2) := by decide +kernel
theorem dX5_distance_18 : decode cX5_distance 18 = .ok (.istore 7, 2) := by decide +kernel
theorem dX5_distance_20 : decode cX5_distance 20 = .ok (.iload 7, 2) := by decide +kernel
theorem dX5_distance_22 : decode cX5_distance 22 = .ok (.iload 6, 2) := by decide +kernel
theorem dX5_distance_24 : decode cX5_distance 24 = .ok (.if_icmp .ge 38, 3) := by decide +kernel
theorem dX5_distance_27 : decode cX5_distance 27 = .ok (.iload 7, 2) := by decide +kernel
theorem dX5_distance_29 : decode cX5_distance 29 = .ok (.sipush 2000, 3) := by decide +kernel
theorem dX5_distance_32 : decode cX5_distance 32 = .ok (.if_icmp .ge 30, 3) := by decide +kernel
theorem dX5_distance_35 : decode cX5_distance 35 = .ok (.aload_n 0, 1) := by decide +kernel
theorem dX5_distance_36 : decode cX5_distance 36 = .ok (.iload 7, 2) := by decide +kernel
theorem dX5_distance_38 : decode cX5_distance 38 = .ok (.invokevirtual 69, 3) := by decide +kernel
theorem dX5_distance_41 : decode cX5_distance 41 = .ok (.istore 8, 2) := by decide +kernel
theorem dX5_distance_43 : decode cX5_distance 43 = .ok (.iload 8, 2) := by decide +kernel
theorem dX5_distance_45 : decode cX5_distance 45 = .ok (.iload 7, 2) := by decide +kernel
theorem dX5_distance_47 : decode cX5_distance 47 = .ok (.if_icmp .gt 6, 3) := by decide +kernel
theorem dX5_distance_50 : decode cX5_distance 50 = .ok (.iload 8, 2) := by decide +kernel
theorem dX5_distance_52 : decode cX5_distance 52 = .ok (.ireturn, 1) := by decide +kernel
theorem dX5_distance_53 : decode cX5_distance 53 = .ok (.iload 7, 2) := by decide +kernel
theorem dX5_distance_55 : decode cX5_distance 55 = .ok (.iconst 4, 1) := by decide +kernel
theorem dX5_distance_56 : decode cX5_distance 56 = .ok (.imul, 1) := by decide +kernel
theorem dX5_distance_57 : decode cX5_distance 57 = .ok (.istore 7, 2) := by decide +kernel
theorem dX5_distance_59 : decode cX5_distance 59 = .ok (.goto (-39), 3) := by decide +kernel
theorem dX5_distance_62 : decode cX5_distance 62 = .ok (.aload_n 0, 1) := by decide +kernel
theorem dX5_distance_63 : decode cX5_distance 63 = .ok (.iload 6, 2) := by decide +kernel
theorem dX5_distance_65 : decode cX5_distance 65 = .ok (.invokevirtual 69, 3) := by decide +kernel
theorem dX5_distance_68 : decode cX5_distance 68 = .ok (.ireturn, 1) := by decide +kernel
theorem dX5_trace_0 : decode cX5_trace 0 = .ok (.aload_n 0, 1) := by decide +kernel
theorem dX5_trace_1 : decode cX5_trace 1 = .ok (.aload_n 1, 1) := by decide +kernel
theorem dX5_trace_2 : decode cX5_trace 2 = .ok (.aload_n 2, 1) := by decide +kernel
theorem dX5_trace_3 : decode cX5_trace 3 = .ok (.iload_n 3, 1) := by decide +kernel
theorem dX5_trace_4 : decode cX5_trace 4 = .ok (.iload 4, 2) := by decide +kernel
theorem dX5_trace_6 : decode cX5_trace 6 = .ok (.iload 5, 2) := by decide +kernel
theorem dX5_trace_8 : decode cX5_trace 8 = .ok (.invokevirtual 61, 3) := by decide +kernel
theorem dX5_trace_11 : decode cX5_trace 11 = .ok (.aload_n 0, 1) := by decide +kernel
theorem dX5_trace_12 : decode cX5_trace 12 = .ok (.iconst 1, 1) := by decide +kernel
theorem dX5_trace_13 : decode cX5_trace 13 = .ok (.putfield 65, 3) := by decide +kernel
theorem dX5_trace_16 : decode cX5_trace 16 = .ok (.aload_n 0, 1) := by decide +kernel
theorem dX5_trace_17 : decode cX5_trace 17 = .ok (.iload 6, 2) := by decide +kernel
theorem dX5_trace_19 : decode cX5_trace 19 = .ok (.invokevirtual 69, 3) := by decide +kernel
theorem dX5_trace_22 : decode cX5_trace 22 = .ok (.pop, 1) := by decide +kernel
theorem dX5_trace_23 : decode cX5_trace 23 = .ok (.aload_n 0, 1) := by decide +kernel
theorem dX5_trace_24 : decode cX5_trace 24 = .ok (.aload 7, 2) := by decide +kernel
theorem dX5_trace_26 : decode cX5_trace 26 = .ok (.invokevirtual 73, 3) := by decide +kernel
theorem dX5_trace_29 : decode cX5_trace 29 = .ok (.return_, 1) := by decide +kernel
theorem dX5_lay_0 : decode cX5_lay 0 = .ok (.aload_n 0, 1) := by decide +kernel
theorem dX5_lay_1 : decode cX5_lay 1 = .ok (.aload_n 1, 1) := by decide +kernel
theorem dX5_lay_2 : decode cX5_lay 2 = .ok (.putfield 14, 3) := by decide +kernel
theorem dX5_lay_5 : decode cX5_lay 5 = .ok (.aload_n 0, 1) := by decide +kernel
theorem dX5_lay_6 : decode cX5_lay 6 = .ok (.aload_n 2, 1) := by decide +kernel
theorem dX5_lay_7 : decode cX5_lay 7 = .ok (.putfield 23, 3) := by decide +kernel
theorem dX5_lay_10 : decode cX5_lay 10 = .ok (.aload_n 0, 1) := by decide +kernel
theorem dX5_lay_11 : decode cX5_lay 11 = .ok (.iload_n 3, 1) := by decide +kernel
theorem dX5_lay_12 : decode cX5_lay 12 = .ok (.putfield 77, 3) := by decide +kernel
theorem dX5_lay_15 : decode cX5_lay 15 = .ok (.aload_n 0, 1) := by decide +kernel
theorem dX5_lay_16 : decode cX5_lay 16 = .ok (.aload_n 2, 1) := by decide +kernel
theorem dX5_lay_17 : decode cX5_lay 17 = .ok (.iload_n 3, 1) := by decide +kernel
theorem dX5_lay_18 : decode cX5_lay 18 = .ok (.iload 4, 2) := by decide +kernel
theorem dX5_lay_20 : decode cX5_lay 20 = .ok (.invokevirtual 80, 3) := by decide +kernel
theorem dX5_lay_23 : decode cX5_lay 23 = .ok (.ifCond .eq 10, 3) := by decide +kernel
theorem dX5_lay_26 : decode cX5_lay 26 = .ok (.iload 4, 2) := by decide +kernel
theorem dX5_lay_28 : decode cX5_lay 28 = .ok (.iload_n 3, 1) := by decide +kernel
theorem dX5_lay_29 : decode cX5_lay 29 = .ok (.isub, 1) := by decide +kernel
theorem dX5_lay_30 : decode cX5_lay 30 = .ok (.goto 4, 3) := by decide +kernel
theorem dX5_lay_33 : decode cX5_lay 33 = .ok (.iconst 0, 1) := by decide +kernel
theorem dX5_lay_34 : decode cX5_lay 34 = .ok (.putfield 84, 3) := by decide +kernel
theorem dX5_lay_37 : decode cX5_lay 37 = .ok (.aload_n 0, 1) := by decide +kernel
theorem dX5_lay_38 : decode cX5_lay 38 = .ok (.iload 5, 2) := by decide +kernel
theorem dX5_lay_40 : decode cX5_lay 40 = .ok (.putfield 87, 3) := by decide +kernel
theorem dX5_lay_43 : decode cX5_lay 43 = .ok (.return_, 1) := by decide +kernel
theorem dX5_measure_0 : decode cX5_measure 0 = .ok (.aload_n 0, 1) := by decide +kernel
theorem dX5_measure_1 : decode cX5_measure 1 = .ok (.getfield 14, 3) := by decide +kernel
theorem dX5_measure_4 : decode cX5_measure 4 = .ok (.getfield 90, 3) := by decide +kernel
theorem dX5_measure_7 : decode cX5_measure 7 = .ok (.aload_n 0, 1) := by decide +kernel
theorem dX5_measure_8 : decode cX5_measure 8 = .ok (.getfield 84, 3) := by decide +kernel
theorem dX5_measure_11 : decode cX5_measure 11 = .ok (.isub, 1) := by decide +kernel
theorem dX5_measure_12 : decode cX5_measure 12 = .ok (.istore_n 2, 1) := by decide +kernel
theorem dX5_measure_13 : decode cX5_measure 13 = .ok (.iload_n 1, 1) := by decide +kernel
theorem dX5_measure_14 : decode cX5_measure 14 = .ok (.iload_n 2, 1) := by decide +kernel
theorem dX5_measure_15 : decode cX5_measure 15 = .ok (.invokestatic 93, 3) := by decide +kernel
theorem dX5_measure_18 : decode cX5_measure 18 = .ok (.isub, 1) := by decide +kernel
theorem dX5_measure_19 : decode cX5_measure 19 = .ok (.istore_n 3, 1) := by decide +kernel
theorem dX5_measure_20 : decode cX5_measure 20 = .ok (.iload_n 3, 1) := by decide +kernel
theorem dX5_measure_21 : decode cX5_measure 21 = .ok (.ifCond .ge 7, 3) := by decide +kernel
theorem dX5_measure_24 : decode cX5_measure 24 = .ok (.iload_n 1, 1) := by decide +kernel
theorem dX5_measure_25 : decode cX5_measure 25 = .ok (.iconst 1, 1) := by decide +kernel
theorem dX5_measure_26 : decode cX5_measure 26 = .ok (.iadd, 1) := by decide +kernel
theorem dX5_measure_27 : decode cX5_measure 27 = .ok (.ireturn, 1) := by decide +kernel
theorem dX5_measure_28 : decode cX5_measure 28 = .ok (.aload_n 0, 1) := by decide +kernel
theorem dX5_measure_29 : decode cX5_measure 29 = .ok (.iload_n 2, 1) := by decide +kernel
theorem dX5_measure_30 : decode cX5_measure 30 = .ok (.iconst 0, 1) := by decide +kernel
theorem dX5_measure_31 : decode cX5_measure 31 = .ok (.invokestatic 98, 3) := by decide +kernel
theorem dX5_measure_34 : decode cX5_measure 34 = .ok (.iload_n 3, 1) := by decide +kernel
theorem dX5_measure_35 : decode cX5_measure 35 = .ok (.iconst 2, 1) := by decide +kernel
theorem dX5_measure_36 : decode cX5_measure 36 = .ok (.idiv, 1) := by decide +kernel
theorem dX5_measure_37 : decode cX5_measure 37 = .ok (.isub, 1) := by decide +kernel
theorem dX5_measure_38 : decode cX5_measure 38 = .ok (.putfield 102, 3) := by decide +kernel
theorem dX5_measure_41 : decode cX5_measure 41 = .ok (.aload_n 0, 1) := by decide +kernel
theorem dX5_measure_42 : decode cX5_measure 42 = .ok (.iload_n 2, 1) := by decide +kernel
theorem dX5_measure_43 : decode cX5_measure 43 = .ok (.iconst 0, 1) := by decide +kernel
theorem dX5_measure_44 : decode cX5_measure 44 = .ok (.invokestatic 105, 3) := by decide +kernel
theorem dX5_measure_47 : decode cX5_measure 47 = .ok (.iload_n 3, 1) := by decide +kernel
theorem dX5_measure_48 : decode cX5_measure 48 = .ok (.iconst 2, 1) := by decide +kernel
theorem dX5_measure_49 : decode cX5_measure 49 = .ok (.idiv, 1) := by decide +kernel
theorem dX5_measure_50 : decode cX5_measure 50 = .ok (.iadd, 1) := by decide +kernel
theorem dX5_measure_51 : decode cX5_measure 51 = .ok (.putfield 108, 3) := by decide +kernel
theorem dX5_measure_54 : decode cX5_measure 54 = .ok (.aload_n 0, 1) := by decide +kernel
theorem dX5_measure_55 : decode cX5_measure 55 = .ok (.getfield 57, 3) := by decide +kernel
theorem dX5_measure_58 : decode cX5_measure 58 = .ok (.aload_n 0, 1) := by decide +kernel
theorem dX5_measure_59 : decode cX5_measure 59 = .ok (.getfield 102, 3) := by decide +kernel
theorem dX5_measure_62 : decode cX5_measure 62 = .ok (.aload_n 0, 1) := by decide +kernel
theorem dX5_measure_63 : decode cX5_measure 63 = .ok (.getfield 108, 3) := by decide +kernel
theorem dX5_measure_66 : decode cX5_measure 66 = .ok (.invokevirtual 111, 3) := by decide +kernel
theorem dX5_measure_69 : decode cX5_measure 69 = .ok (.aload_n 0, 1) := by decide +kernel
theorem dX5_measure_70 : decode cX5_measure 70 = .ok (.invokevirtual 115, 3) := by decide +kernel
theorem dX5_measure_73 : decode cX5_measure 73 = .ok (.iconst 1, 1) := by decide +kernel
theorem dX5_measure_74 : decode cX5_measure 74 = .ok (.istore 4, 2) := by decide +kernel
theorem dX5_measure_76 : decode cX5_measure 76 = .ok (.iload 4, 2) := by decide +kernel
theorem dX5_measure_78 : decode cX5_measure 78 = .ok (.aload_n 0, 1) := by decide +kernel
theorem dX5_measure_79 : decode cX5_measure 79 = .ok (.getfield 84, 3) := by decide +kernel
theorem dX5_measure_82 : decode cX5_measure 82 = .ok (.if_icmp .gt 23, 3) := by decide +kernel
theorem dX5_measure_85 : decode cX5_measure 85 = .ok (.aload_n 0, 1) := by decide +kernel
theorem dX5_measure_86 : decode cX5_measure 86 = .ok (.iload 4, 2) := by decide +kernel
theorem dX5_measure_88 : decode cX5_measure 88 = .ok (.invokevirtual 118, 3) := by decide +kernel
theorem dX5_measure_91 : decode cX5_measure 91 = .ok (.iload_n 1, 1) := by decide +kernel
theorem dX5_measure_92 : decode cX5_measure 92 = .ok (.if_icmp .le 7, 3) := by decide +kernel
theorem dX5_measure_95 : decode cX5_measure 95 = .ok (.iload_n 1, 1) := by decide +kernel
theorem dX5_measure_96 : decode cX5_measure 96 = .ok (.iconst 1, 1) := by decide +kernel
theorem dX5_measure_97 : decode cX5_measure 97 = .ok (.iadd, 1) := by decide +kernel
theorem dX5_measure_98 : decode cX5_measure 98 = .ok (.ireturn, 1) := by decide +kernel
theorem dX5_measure_99 : decode cX5_measure 99 = .ok (.iinc 4 1, 3) := by decide +kernel
theorem dX5_measure_102 : decode cX5_measure 102 = .ok (.goto (-26), 3) := by decide +kernel
theorem dX5_measure_105 : decode cX5_measure 105 = .ok (.aload_n 0, 1) := by decide +kernel
theorem dX5_measure_106 : decode cX5_measure 106 = .ok (.getfield 27, 3) := by decide +kernel
theorem dX5_measure_109 : decode cX5_measure 109 = .ok (.aload_n 0, 1) := by decide +kernel
theorem dX5_measure_110 : decode cX5_measure 110 = .ok (.getfield 14, 3) := by decide +kernel
theorem dX5_measure_113 : decode cX5_measure 113 = .ok (.getfield 90, 3) := by decide +kernel
theorem dX5_measure_116 : decode cX5_measure 116 = .ok (.iaload, 1) := by decide +kernel
theorem dX5_measure_117 : decode cX5_measure 117 = .ok (.ireturn, 1) := by decide +kernel
theorem dX5_fillFirstColumn_0 : decode cX5_fillFirstColumn 0 = .ok (.aload_n 0, 1) := by decide +kernel
theorem dX5_fillFirstColumn_1 : decode cX5_fillFirstColumn 1 = .ok (.getfield 14, 3) := by decide +kernel
theorem dX5_fillFirstColumn_4 : decode cX5_fillFirstColumn 4 = .ok (.getfield 90, 3) := by decide +kernel
theorem dX5_fillFirstColumn_7 : decode cX5_fillFirstColumn 7 = .ok (.aload_n 0, 1) := by decide +kernel
theorem dX5_fillFirstColumn_8 : decode cX5_fillFirstColumn 8 = .ok (.getfield 108, 3) := by decide +kernel
theorem dX5_fillFirstColumn_11 : decode cX5_fillFirstColumn 11 = .ok (.invokestatic 98, 3) := by decide +kernel
theorem dX5_fillFirstColumn_14 : decode cX5_fillFirstColumn 14 = .ok (.istore_n 1, 1) := by decide +kernel
theorem dX5_fillFirstColumn_15 : decode cX5_fillFirstColumn 15 = .ok (.iconst 0, 1) := by decide +kernel
theorem dX5_fillFirstColumn_16 : decode cX5_fillFirstColumn 16 = .ok (.istore_n 2, 1) := by decide +kernel
theorem dX5_fillFirstColumn_17 : decode cX5_fillFirstColumn 17 = .ok (.iload_n 2, 1) := by decide +kernel
theorem dX5_fillFirstColumn_18 : decode cX5_fillFirstColumn 18 = .ok (.iload_n 1, 1) := by decide +kernel
theorem dX5_fillFirstColumn_19 : decode cX5_fillFirstColumn 19 = .ok (.if_icmp .gt 16, 3) := by decide +kernel
theorem dX5_fillFirstColumn_22 : decode cX5_fillFirstColumn 22 = .ok (.aload_n 0, 1) := by decide +kernel
theorem dX5_fillFirstColumn_23 : decode cX5_fillFirstColumn 23 = .ok (.getfield 27, 3) := by decide +kernel
theorem dX5_fillFirstColumn_26 : decode cX5_fillFirstColumn 26 = .ok (.iload_n 2, 1) := by decide +kernel
theorem dX5_fillFirstColumn_27 : decode cX5_fillFirstColumn 27 = .ok (.iload_n 2, 1) := by decide +kernel
theorem dX5_fillFirstColumn_28 : decode cX5_fillFirstColumn 28 = .ok (.iastore, 1) := by decide +kernel
theorem dX5_fillFirstColumn_29 : decode cX5_fillFirstColumn 29 = .ok (.iinc 2 1, 3) := by decide +kernel
theorem dX5_fillFirstColumn_32 : decode cX5_fillFirstColumn 32 = .ok (.goto (-15), 3) := by decide +kernel
theorem dX5_fillFirstColumn_35 : decode cX5_fillFirstColumn 35 = .ok (.aload_n 0, 1) := by decide +kernel
theorem dX5_fillFirstColumn_36 : decode cX5_fillFirstColumn 36 = .ok (.iload_n 1, 1) := by decide +kernel
theorem dX5_fillFirstColumn_37 : decode cX5_fillFirstColumn 37 = .ok (.invokevirtual 121, 3) := by decide +kernel
theorem dX5_fillFirstColumn_40 : decode cX5_fillFirstColumn 40 = .ok (.return_, 1) := by decide +kernel
theorem dX5_fillColumn_0 : decode cX5_fillColumn 0 = .ok (.aload_n 0, 1) := by decide +kernel
theorem dX5_fillColumn_1 : decode cX5_fillColumn 1 = .ok (.aload_n 0, 1) := by decide +kernel
theorem dX5_fillColumn_2 : decode cX5_fillColumn 2 = .ok (.getfield 23, 3) := by decide +kernel
theorem dX5_fillColumn_5 : decode cX5_fillColumn 5 = .ok (.aload_n 0, 1) := by decide +kernel
theorem dX5_fillColumn_6 : decode cX5_fillColumn 6 = .ok (.getfield 77, 3) := by decide +kernel
theorem dX5_fillColumn_9 : decode cX5_fillColumn 9 = .ok (.iload_n 1, 1) := by decide +kernel
theorem dX5_fillColumn_10 : decode cX5_fillColumn 10 = .ok (.iadd, 1) := by decide +kernel
theorem dX5_fillColumn_11 : decode cX5_fillColumn 11 = .ok (.iconst 1, 1) := by decide +kernel
theorem dX5_fillColumn_12 : decode cX5_fillColumn 12 = .ok (.isub, 1) := by decide +kernel
theorem dX5_fillColumn_13 : decode cX5_fillColumn 13 = .ok (.invokevirtual 124, 3) := by decide +kernel
theorem dX5_fillColumn_16 : decode cX5_fillColumn 16 = .ok (.invokevirtual 127, 3) := by decide +kernel
theorem dX5_fillColumn_19 : decode cX5_fillColumn 19 = .ok (.iconst 0, 1) := by decide +kernel
theorem dX5_fillColumn_20 : decode cX5_fillColumn 20 = .ok (.iload_n 1, 1) := by decide +kernel
theorem dX5_fillColumn_21 : decode cX5_fillColumn 21 = .ok (.aload_n 0, 1) := by decide +kernel
theorem dX5_fillColumn_22 : decode cX5_fillColumn 22 = .ok (.getfield 102, 3) := by decide +kernel
theorem dX5_fillColumn_25 : decode cX5_fillColumn 25 = .ok (.iadd, 1) := by decide +kernel
theorem dX5_fillColumn_26 : decode cX5_fillColumn 26 = .ok (.invokestatic 105, 3) := by decide +kernel
theorem dX5_fillColumn_29 : decode cX5_fillColumn 29 = .ok (.istore_n 2, 1) := by decide +kernel
theorem dX5_fillColumn_30 : decode cX5_fillColumn 30 = .ok (.aload_n 0, 1) := by decide +kernel
theorem dX5_fillColumn_31 : decode cX5_fillColumn 31 = .ok (.getfield 14, 3) := by decide +kernel
theorem dX5_fillColumn_34 : decode cX5_fillColumn 34 = .ok (.getfield 90, 3) := by decide +kernel
theorem dX5_fillColumn_37 : decode cX5_fillColumn 37 = .ok (.iload_n 1, 1) := by decide +kernel
theorem dX5_fillColumn_38 : decode cX5_fillColumn 38 = .ok (.aload_n 0, 1) := by decide +kernel
theorem dX5_fillColumn_39 : decode cX5_fillColumn 39 = .ok (.getfield 108, 3) := by decide +kernel
theorem dX5_fillColumn_42 : decode cX5_fillColumn 42 = .ok (.iadd, 1) := by decide +kernel
theorem dX5_fillColumn_43 : decode cX5_fillColumn 43 = .ok (.invokestatic 98, 3) := by decide +kernel
theorem dX5_fillColumn_46 : decode cX5_fillColumn 46 = .ok (.istore_n 3, 1) := by decide +kernel
theorem dX5_fillColumn_47 : decode cX5_fillColumn 47 = .ok (.ldc 130, 2) := by decide +kernel
theorem dX5_fillColumn_49 : decode cX5_fillColumn 49 = .ok (.istore 4, 2) := by decide +kernel
theorem dX5_fillColumn_51 : decode cX5_fillColumn 51 = .ok (.iload_n 2, 1) := by decide +kernel
theorem dX5_fillColumn_52 : decode cX5_fillColumn 52 = .ok (.ifCond .le 13, 3) := by decide +kernel
theorem dX5_fillColumn_55 : decode cX5_fillColumn 55 = .ok (.aload_n 0, 1) := by decide +kernel
theorem dX5_fillColumn_56 : decode cX5_fillColumn 56 = .ok (.getfield 27, 3) := by decide +kernel
theorem dX5_fillColumn_59 : decode cX5_fillColumn 59 = .ok (.iload_n 2, 1) := by decide +kernel
theorem dX5_fillColumn_60 : decode cX5_fillColumn 60 = .ok (.iconst 1, 1) := by decide +kernel
theorem dX5_fillColumn_61 : decode cX5_fillColumn 61 = .ok (.isub, 1) := by decide +kernel
theorem dX5_fillColumn_62 : decode cX5_fillColumn 62 = .ok (.ldc 130, 2) := by decide +kernel
theorem dX5_fillColumn_64 : decode cX5_fillColumn 64 = .ok (.iastore, 1) := by decide +kernel
theorem dX5_fillColumn_65 : decode cX5_fillColumn 65 = .ok (.iload_n 2, 1) := by decide +kernel
theorem dX5_fillColumn_66 : decode cX5_fillColumn 66 = .ok (.istore 5, 2) := by decide +kernel
theorem dX5_fillColumn_68 : decode cX5_fillColumn 68 = .ok (.iload 5, 2) := by decide +kernel
theorem dX5_fillColumn_70 : decode cX5_fillColumn 70 = .ok (.iload_n 3, 1) := by decide +kernel
theorem dX5_fillColumn_71 : decode cX5_fillColumn 71 = .ok (.if_icmp .gt 46, 3) := by decide +kernel
theorem dX5_fillColumn_74 : decode cX5_fillColumn 74 = .ok (.aload_n 0, 1) := by decide +kernel
theorem dX5_fillColumn_75 : decode cX5_fillColumn 75 = .ok (.getfield 27, 3) := by decide +kernel
theorem dX5_fillColumn_78 : decode cX5_fillColumn 78 = .ok (.iload 5, 2) := by decide +kernel
theorem dX5_fillColumn_80 : decode cX5_fillColumn 80 = .ok (.iload 5, 2) := by decide +kernel
theorem dX5_fillColumn_82 : decode cX5_fillColumn 82 = .ok (.ifCond .ne 7, 3) := by decide +kernel
theorem dX5_fillColumn_85 : decode cX5_fillColumn 85 = .ok (.iload_n 1, 1) := by decide +kernel
theorem dX5_fillColumn_86 : decode cX5_fillColumn 86 = .ok (.goto 10, 3) := by decide +kernel
theorem dX5_fillColumn_89 : decode cX5_fillColumn 89 = .ok (.aload_n 0, 1) := by decide +kernel
theorem dX5_fillColumn_90 : decode cX5_fillColumn 90 = .ok (.iload 5, 2) := by decide +kernel
theorem dX5_fillColumn_92 : decode cX5_fillColumn 92 = .ok (.iload_n 1, 1) := by decide +kernel
theorem dX5_fillColumn_93 : decode cX5_fillColumn 93 = .ok (.invokevirtual 131, 3) := by decide +kernel
theorem dX5_fillColumn_96 : decode cX5_fillColumn 96 = .ok (.iastore, 1) := by decide +kernel
theorem dX5_fillColumn_97 : decode cX5_fillColumn 97 = .ok (.iload 4, 2) := by decide +kernel
theorem dX5_fillColumn_99 : decode cX5_fillColumn 99 = .ok (.aload_n 0, 1) := by decide +kernel
theorem dX5_fillColumn_100 : decode cX5_fillColumn 100 = .ok (.getfield 27, 3) := by decide +kernel
theorem dX5_fillColumn_103 : decode cX5_fillColumn 103 = .ok (.iload 5, 2) := by decide +kernel
theorem dX5_fillColumn_105 : decode cX5_fillColumn 105 = .ok (.iaload, 1) := by decide +kernel
theorem dX5_fillColumn_106 : decode cX5_fillColumn 106 = .ok (.invokestatic 98, 3) := by decide +kernel
theorem dX5_fillColumn_109 : decode cX5_fillColumn 109 = .ok (.istore 4, 2) := by decide +kernel
theorem dX5_fillColumn_111 : decode cX5_fillColumn 111 = .ok (.iinc 5 1, 3) := by decide +kernel
theorem dX5_fillColumn_114 : decode cX5_fillColumn 114 = .ok (.goto (-46), 3) := by decide +kernel
theorem dX5_fillColumn_117 : decode cX5_fillColumn 117 = .ok (.aload_n 0, 1) := by decide +kernel
theorem dX5_fillColumn_118 : decode cX5_fillColumn 118 = .ok (.iload_n 3, 1) := by decide +kernel
theorem dX5_fillColumn_119 : decode cX5_fillColumn 119 = .ok (.invokevirtual 121, 3) := by decide +kernel
theorem dX5_fillColumn_122 : decode cX5_fillColumn 122 = .ok (.iload 4, 2) := by decide +kernel
theorem dX5_fillColumn_124 : decode cX5_fillColumn 124 = .ok (.ireturn, 1) := by decide +kernel
theorem dX5_turnColumns_0 : decode cX5_turnColumns 0 = .ok (.aload_n 0, 1) := by decide +kernel
theorem dX5_turnColumns_1 : decode cX5_turnColumns 1 = .ok (.getfield 34, 3) := by decide +kernel
theorem dX5_turnColumns_4 : decode cX5_turnColumns 4 = .ok (.astore_n 2, 1) := by decide +kernel
theorem dX5_turnColumns_5 : decode cX5_turnColumns 5 = .ok (.aload_n 0, 1) := by decide +kernel
theorem dX5_turnColumns_6 : decode cX5_turnColumns 6 = .ok (.aload_n 0, 1) := by decide +kernel
theorem dX5_turnColumns_7 : decode cX5_turnColumns 7 = .ok (.getfield 31, 3) := by decide +kernel
theorem dX5_turnColumns_10 : decode cX5_turnColumns 10 = .ok (.putfield 34, 3) := by decide +kernel
theorem dX5_turnColumns_13 : decode cX5_turnColumns 13 = .ok (.aload_n 0, 1) := by decide +kernel
theorem dX5_turnColumns_14 : decode cX5_turnColumns 14 = .ok (.aload_n 0, 1) := by decide +kernel
theorem dX5_turnColumns_15 : decode cX5_turnColumns 15 = .ok (.getfield 27, 3) := by decide +kernel
theorem dX5_turnColumns_18 : decode cX5_turnColumns 18 = .ok (.putfield 31, 3) := by decide +kernel
theorem dX5_turnColumns_21 : decode cX5_turnColumns 21 = .ok (.aload_n 0, 1) := by decide +kernel
theorem dX5_turnColumns_22 : decode cX5_turnColumns 22 = .ok (.aload_n 2, 1) := by decide +kernel
theorem dX5_turnColumns_23 : decode cX5_turnColumns 23 = .ok (.putfield 27, 3) := by decide +kernel
theorem dX5_turnColumns_26 : decode cX5_turnColumns 26 = .ok (.aload_n 0, 1) := by decide +kernel
theorem dX5_turnColumns_27 : decode cX5_turnColumns 27 = .ok (.aload_n 0, 1) := by decide +kernel
theorem dX5_turnColumns_28 : decode cX5_turnColumns 28 = .ok (.getfield 37, 3) := by decide +kernel
theorem dX5_turnColumns_31 : decode cX5_turnColumns 31 = .ok (.putfield 41, 3) := by decide +kernel
theorem dX5_turnColumns_34 : decode cX5_turnColumns 34 = .ok (.aload_n 0, 1) := by decide +kernel
theorem dX5_turnColumns_35 : decode cX5_turnColumns 35 = .ok (.aload_n 0, 1) := by decide +kernel
theorem dX5_turnColumns_36 : decode cX5_turnColumns 36 = .ok (.getfield 48, 3) := by decide +kernel
theorem dX5_turnColumns_39 : decode cX5_turnColumns 39 = .ok (.putfield 51, 3) := by decide +kernel
theorem dX5_turnColumns_42 : decode cX5_turnColumns 42 = .ok (.aload_n 0, 1) := by decide +kernel
theorem dX5_turnColumns_43 : decode cX5_turnColumns 43 = .ok (.iload_n 1, 1) := by decide +kernel
theorem dX5_turnColumns_44 : decode cX5_turnColumns 44 = .ok (.putfield 37, 3) := by decide +kernel
theorem dX5_turnColumns_47 : decode cX5_turnColumns 47 = .ok (.aload_n 0, 1) := by decide +kernel
theorem dX5_turnColumns_48 : decode cX5_turnColumns 48 = .ok (.aload_n 0, 1) := by decide +kernel
theorem dX5_turnColumns_49 : decode cX5_turnColumns 49 = .ok (.getfield 14, 3) := by decide +kernel
theorem dX5_turnColumns_52 : decode cX5_turnColumns 52 = .ok (.iload_n 1, 1) := by decide +kernel
theorem dX5_turnColumns_53 : decode cX5_turnColumns 53 = .ok (.invokevirtual 134, 3) := by decide +kernel
theorem dX5_turnColumns_56 : decode cX5_turnColumns 56 = .ok (.putfield 48, 3) := by decide +kernel
theorem dX5_turnColumns_59 : decode cX5_turnColumns 59 = .ok (.return_, 1) := by decide +kernel
theorem dX5_closeAbove_0 : decode cX5_closeAbove 0 = .ok (.iload_n 1, 1) := by decide +kernel
theorem dX5_closeAbove_1 : decode cX5_closeAbove 1 = .ok (.aload_n 0, 1) := by decide +kernel
theorem dX5_closeAbove_2 : decode cX5_closeAbove 2 = .ok (.getfield 14, 3) := by decide +kernel
theorem dX5_closeAbove_5 : decode cX5_closeAbove 5 = .ok (.getfield 90, 3) := by decide +kernel
theorem dX5_closeAbove_8 : decode cX5_closeAbove 8 = .ok (.if_icmp .ge 13, 3) := by decide +kernel
theorem dX5_closeAbove_11 : decode cX5_closeAbove 11 = .ok (.aload_n 0, 1) := by decide +kernel
theorem dX5_closeAbove_12 : decode cX5_closeAbove 12 = .ok (.getfield 27, 3) := by decide +kernel
theorem dX5_closeAbove_15 : decode cX5_closeAbove 15 = .ok (.iload_n 1, 1) := by decide +kernel
theorem dX5_closeAbove_16 : decode cX5_closeAbove 16 = .ok (.iconst 1, 1) := by decide +kernel
theorem dX5_closeAbove_17 : decode cX5_closeAbove 17 = .ok (.iadd, 1) := by decide +kernel
theorem dX5_closeAbove_18 : decode cX5_closeAbove 18 = .ok (.ldc 130, 2) := by decide +kernel
theorem dX5_closeAbove_20 : decode cX5_closeAbove 20 = .ok (.iastore, 1) := by decide +kernel
theorem dX5_closeAbove_21 : decode cX5_closeAbove 21 = .ok (.return_, 1) := by decide +kernel
theorem dX5_best_0 : decode cX5_best 0 = .ok (.aload_n 0, 1) := by decide +kernel
theorem dX5_best_1 : decode cX5_best 1 = .ok (.getfield 48, 3) := by decide +kernel
theorem dX5_best_4 : decode cX5_best 4 = .ok (.iload_n 1, 1) := by decide +kernel
theorem dX5_best_5 : decode cX5_best 5 = .ok (.iconst 1, 1) := by decide +kernel
theorem dX5_best_6 : decode cX5_best 6 = .ok (.isub, 1) := by decide +kernel
theorem dX5_best_7 : decode cX5_best 7 = .ok (.laload, 1) := by decide +kernel
theorem dX5_best_8 : decode cX5_best 8 = .ok (.aload_n 0, 1) := by decide +kernel
theorem dX5_best_9 : decode cX5_best 9 = .ok (.getfield 37, 3) := by decide +kernel
theorem dX5_best_12 : decode cX5_best 12 = .ok (.lushr, 1) := by decide +kernel
theorem dX5_best_13 : decode cX5_best 13 = .ok (.lconst 1, 1) := by decide +kernel
theorem dX5_best_14 : decode cX5_best 14 = .ok (.land, 1) := by decide +kernel
theorem dX5_best_15 : decode cX5_best 15 = .ok (.lconst 0, 1) := by decide +kernel
theorem dX5_best_16 : decode cX5_best 16 = .ok (.lcmp, 1) := by decide +kernel
theorem dX5_best_17 : decode cX5_best 17 = .ok (.ifCond .eq 7, 3) := by decide +kernel
theorem dX5_best_20 : decode cX5_best 20 = .ok (.iconst 1, 1) := by decide +kernel
theorem dX5_best_21 : decode cX5_best 21 = .ok (.goto 4, 3) := by decide +kernel
theorem dX5_best_24 : decode cX5_best 24 = .ok (.iconst 0, 1) := by decide +kernel
theorem dX5_best_25 : decode cX5_best 25 = .ok (.istore_n 3, 1) := by decide +kernel
theorem dX5_best_26 : decode cX5_best 26 = .ok (.iload_n 3, 1) := by decide +kernel
theorem dX5_best_27 : decode cX5_best 27 = .ok (.ifCond .eq 14, 3) := by decide +kernel
theorem dX5_best_30 : decode cX5_best 30 = .ok (.aload_n 0, 1) := by decide +kernel
theorem dX5_best_31 : decode cX5_best 31 = .ok (.getfield 31, 3) := by decide +kernel
theorem dX5_best_34 : decode cX5_best 34 = .ok (.iload_n 1, 1) := by decide +kernel
theorem dX5_best_35 : decode cX5_best 35 = .ok (.iconst 1, 1) := by decide +kernel
theorem dX5_best_36 : decode cX5_best 36 = .ok (.isub, 1) := by decide +kernel
theorem dX5_best_37 : decode cX5_best 37 = .ok (.iaload, 1) := by decide +kernel
theorem dX5_best_38 : decode cX5_best 38 = .ok (.goto 13, 3) := by decide +kernel
theorem dX5_best_41 : decode cX5_best 41 = .ok (.aload_n 0, 1) := by decide +kernel
theorem dX5_best_42 : decode cX5_best 42 = .ok (.getfield 31, 3) := by decide +kernel
theorem dX5_best_45 : decode cX5_best 45 = .ok (.iload_n 1, 1) := by decide +kernel
theorem dX5_best_46 : decode cX5_best 46 = .ok (.iconst 1, 1) := by decide +kernel
theorem dX5_best_47 : decode cX5_best 47 = .ok (.isub, 1) := by decide +kernel
theorem dX5_best_48 : decode cX5_best 48 = .ok (.iaload, 1) := by decide +kernel
theorem dX5_best_49 : decode cX5_best 49 = .ok (.iconst 1, 1) := by decide +kernel
theorem dX5_best_50 : decode cX5_best 50 = .ok (.iadd, 1) := by decide +kernel
theorem dX5_best_51 : decode cX5_best 51 = .ok (.istore 4, 2) := by decide +kernel
theorem dX5_best_53 : decode cX5_best 53 = .ok (.iload_n 3, 1) := by decide +kernel
theorem dX5_best_54 : decode cX5_best 54 = .ok (.ifCond .eq 7, 3) := by decide +kernel
theorem dX5_best_57 : decode cX5_best 57 = .ok (.iconst 0, 1) := by decide +kernel
theorem dX5_best_58 : decode cX5_best 58 = .ok (.goto 4, 3) := by decide +kernel
theorem dX5_best_61 : decode cX5_best 61 = .ok (.iconst 1, 1) := by decide +kernel
theorem dX5_best_62 : decode cX5_best 62 = .ok (.istore 5, 2) := by decide +kernel
theorem dX5_best_64 : decode cX5_best 64 = .ok (.aload_n 0, 1) := by decide +kernel
theorem dX5_best_65 : decode cX5_best 65 = .ok (.getfield 87, 3) := by decide +kernel
theorem dX5_best_68 : decode cX5_best 68 = .ok (.ifCond .eq 51, 3) := by decide +kernel
theorem dX5_best_71 : decode cX5_best 71 = .ok (.iload_n 1, 1) := by decide +kernel
theorem dX5_best_72 : decode cX5_best 72 = .ok (.iconst 1, 1) := by decide +kernel
theorem dX5_best_73 : decode cX5_best 73 = .ok (.if_icmp .le 46, 3) := by decide +kernel
theorem dX5_best_76 : decode cX5_best 76 = .ok (.iload_n 2, 1) := by decide +kernel
theorem dX5_best_77 : decode cX5_best 77 = .ok (.iconst 1, 1) := by decide +kernel
theorem dX5_best_78 : decode cX5_best 78 = .ok (.if_icmp .le 41, 3) := by decide +kernel
theorem dX5_best_81 : decode cX5_best 81 = .ok (.aload_n 0, 1) := by decide +kernel
theorem dX5_best_82 : decode cX5_best 82 = .ok (.getfield 34, 3) := by decide +kernel
theorem dX5_best_85 : decode cX5_best 85 = .ok (.iload_n 1, 1) := by decide +kernel
theorem dX5_best_86 : decode cX5_best 86 = .ok (.iconst 2, 1) := by decide +kernel
theorem dX5_best_87 : decode cX5_best 87 = .ok (.isub, 1) := by decide +kernel
theorem dX5_best_88 : decode cX5_best 88 = .ok (.iaload, 1) := by decide +kernel
theorem dX5_best_89 : decode cX5_best 89 = .ok (.iconst 1, 1) := by decide +kernel
theorem dX5_best_90 : decode cX5_best 90 = .ok (.iadd, 1) := by decide +kernel
theorem dX5_best_91 : decode cX5_best 91 = .ok (.iload 4, 2) := by decide +kernel
theorem dX5_best_93 : decode cX5_best 93 = .ok (.if_icmp .ge 26, 3) := by decide +kernel
theorem dX5_best_96 : decode cX5_best 96 = .ok (.aload_n 0, 1) := by decide +kernel
theorem dX5_best_97 : decode cX5_best 97 = .ok (.iload_n 1, 1) := by decide +kernel
theorem dX5_best_98 : decode cX5_best 98 = .ok (.invokevirtual 138, 3) := by decide +kernel
theorem dX5_best_101 : decode cX5_best 101 = .ok (.ifCond .eq 18, 3) := by decide +kernel
theorem dX5_best_104 : decode cX5_best 104 = .ok (.aload_n 0, 1) := by decide +kernel
theorem dX5_best_105 : decode cX5_best 105 = .ok (.getfield 34, 3) := by decide +kernel
theorem dX5_best_108 : decode cX5_best 108 = .ok (.iload_n 1, 1) := by decide +kernel
theorem dX5_best_109 : decode cX5_best 109 = .ok (.iconst 2, 1) := by decide +kernel
theorem dX5_best_110 : decode cX5_best 110 = .ok (.isub, 1) := by decide +kernel
theorem dX5_best_111 : decode cX5_best 111 = .ok (.iaload, 1) := by decide +kernel
theorem dX5_best_112 : decode cX5_best 112 = .ok (.iconst 1, 1) := by decide +kernel
theorem dX5_best_113 : decode cX5_best 113 = .ok (.iadd, 1) := by decide +kernel
theorem dX5_best_114 : decode cX5_best 114 = .ok (.istore 4, 2) := by decide +kernel
theorem dX5_best_116 : decode cX5_best 116 = .ok (.iconst 4, 1) := by decide +kernel
theorem dX5_best_117 : decode cX5_best 117 = .ok (.istore 5, 2) := by decide +kernel
theorem dX5_best_119 : decode cX5_best 119 = .ok (.aload_n 0, 1) := by decide +kernel
theorem dX5_best_120 : decode cX5_best 120 = .ok (.getfield 31, 3) := by decide +kernel
theorem dX5_best_123 : decode cX5_best 123 = .ok (.iload_n 1, 1) := by decide +kernel
theorem dX5_best_124 : decode cX5_best 124 = .ok (.iaload, 1) := by decide +kernel
theorem dX5_best_125 : decode cX5_best 125 = .ok (.iconst 1, 1) := by decide +kernel
theorem dX5_best_126 : decode cX5_best 126 = .ok (.iadd, 1) := by decide +kernel
theorem dX5_best_127 : decode cX5_best 127 = .ok (.iload 4, 2) := by decide +kernel
theorem dX5_best_129 : decode cX5_best 129 = .ok (.if_icmp .ge 16, 3) := by decide +kernel
theorem dX5_best_132 : decode cX5_best 132 = .ok (.aload_n 0, 1) := by decide +kernel
theorem dX5_best_133 : decode cX5_best 133 = .ok (.getfield 31, 3) := by decide +kernel
theorem dX5_best_136 : decode cX5_best 136 = .ok (.iload_n 1, 1) := by decide +kernel
theorem dX5_best_137 : decode cX5_best 137 = .ok (.iaload, 1) := by decide +kernel
theorem dX5_best_138 : decode cX5_best 138 = .ok (.iconst 1, 1) := by decide +kernel
theorem dX5_best_139 : decode cX5_best 139 = .ok (.iadd, 1) := by decide +kernel
theorem dX5_best_140 : decode cX5_best 140 = .ok (.istore 4, 2) := by decide +kernel
theorem dX5_best_142 : decode cX5_best 142 = .ok (.iconst 2, 1) := by decide +kernel
theorem dX5_best_143 : decode cX5_best 143 = .ok (.istore 5, 2) := by decide +kernel
theorem dX5_best_145 : decode cX5_best 145 = .ok (.aload_n 0, 1) := by decide +kernel
theorem dX5_best_146 : decode cX5_best 146 = .ok (.getfield 27, 3) := by decide +kernel
theorem dX5_best_149 : decode cX5_best 149 = .ok (.iload_n 1, 1) := by decide +kernel
theorem dX5_best_150 : decode cX5_best 150 = .ok (.iconst 1, 1) := by decide +kernel
theorem dX5_best_151 : decode cX5_best 151 = .ok (.isub, 1) := by decide +kernel
theorem dX5_best_152 : decode cX5_best 152 = .ok (.iaload, 1) := by decide +kernel
theorem dX5_best_153 : decode cX5_best 153 = .ok (.iconst 1, 1) := by decide +kernel
theorem dX5_best_154 : decode cX5_best 154 = .ok (.iadd, 1) := by decide +kernel
theorem dX5_best_155 : decode cX5_best 155 = .ok (.iload 4, 2) := by decide +kernel
theorem dX5_best_157 : decode cX5_best 157 = .ok (.if_icmp .ge 18, 3) := by decide +kernel
theorem dX5_best_160 : decode cX5_best 160 = .ok (.aload_n 0, 1) := by decide +kernel
theorem dX5_best_161 : decode cX5_best 161 = .ok (.getfield 27, 3) := by decide +kernel
theorem dX5_best_164 : decode cX5_best 164 = .ok (.iload_n 1, 1) := by decide +kernel
theorem dX5_best_165 : decode cX5_best 165 = .ok (.iconst 1, 1) := by decide +kernel
theorem dX5_best_166 : decode cX5_best 166 = .ok (.isub, 1) := by decide +kernel
