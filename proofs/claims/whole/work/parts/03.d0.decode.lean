theorem dX0_init_0 : decode cX0_init 0 = .ok (.aload_n 0, 1) := by decide +kernel
theorem dX0_init_1 : decode cX0_init 1 = .ok (.invokespecial 3, 3) := by decide +kernel
theorem dX0_init_4 : decode cX0_init 4 = .ok (.aload_n 0, 1) := by decide +kernel
theorem dX0_init_5 : decode cX0_init 5 = .ok (.iconst (-1), 1) := by decide +kernel
theorem dX0_init_6 : decode cX0_init 6 = .ok (.putfield 9, 3) := by decide +kernel
theorem dX0_init_9 : decode cX0_init 9 = .ok (.aload_n 0, 1) := by decide +kernel
theorem dX0_init_10 : decode cX0_init 10 = .ok (.aload_n 1, 1) := by decide +kernel
theorem dX0_init_11 : decode cX0_init 11 = .ok (.putfield 15, 3) := by decide +kernel
theorem dX0_init_14 : decode cX0_init 14 = .ok (.return_, 1) := by decide +kernel
theorem dX0_restart_0 : decode cX0_restart 0 = .ok (.aload_n 0, 1) := by decide +kernel
theorem dX0_restart_1 : decode cX0_restart 1 = .ok (.iconst 0, 1) := by decide +kernel
theorem dX0_restart_2 : decode cX0_restart 2 = .ok (.putfield 19, 3) := by decide +kernel
theorem dX0_restart_5 : decode cX0_restart 5 = .ok (.aload_n 0, 1) := by decide +kernel
theorem dX0_restart_6 : decode cX0_restart 6 = .ok (.iconst 0, 1) := by decide +kernel
theorem dX0_restart_7 : decode cX0_restart 7 = .ok (.putfield 22, 3) := by decide +kernel
theorem dX0_restart_10 : decode cX0_restart 10 = .ok (.aload_n 0, 1) := by decide +kernel
theorem dX0_restart_11 : decode cX0_restart 11 = .ok (.iconst (-1), 1) := by decide +kernel
theorem dX0_restart_12 : decode cX0_restart 12 = .ok (.putfield 9, 3) := by decide +kernel
theorem dX0_restart_15 : decode cX0_restart 15 = .ok (.return_, 1) := by decide +kernel
theorem dX0_fail_0 : decode cX0_fail 0 = .ok (.aload_n 0, 1) := by decide +kernel
theorem dX0_fail_1 : decode cX0_fail 1 = .ok (.iload_n 1, 1) := by decide +kernel
theorem dX0_fail_2 : decode cX0_fail 2 = .ok (.putfield 22, 3) := by decide +kernel
theorem dX0_fail_5 : decode cX0_fail 5 = .ok (.aload_n 0, 1) := by decide +kernel
theorem dX0_fail_6 : decode cX0_fail 6 = .ok (.iload_n 2, 1) := by decide +kernel
theorem dX0_fail_7 : decode cX0_fail 7 = .ok (.putfield 9, 3) := by decide +kernel
theorem dX0_fail_10 : decode cX0_fail 10 = .ok (.return_, 1) := by decide +kernel
theorem dX0_left_0 : decode cX0_left 0 = .ok (.bipush 8, 2) := by decide +kernel
theorem dX0_left_2 : decode cX0_left 2 = .ok (.aload_n 0, 1) := by decide +kernel
theorem dX0_left_3 : decode cX0_left 3 = .ok (.getfield 15, 3) := by decide +kernel
theorem dX0_left_6 : decode cX0_left 6 = .ok (.getfield 25, 3) := by decide +kernel
theorem dX0_left_9 : decode cX0_left 9 = .ok (.imul, 1) := by decide +kernel
theorem dX0_left_10 : decode cX0_left 10 = .ok (.aload_n 0, 1) := by decide +kernel
theorem dX0_left_11 : decode cX0_left 11 = .ok (.getfield 19, 3) := by decide +kernel
theorem dX0_left_14 : decode cX0_left 14 = .ok (.isub, 1) := by decide +kernel
theorem dX0_left_15 : decode cX0_left 15 = .ok (.ireturn, 1) := by decide +kernel
theorem dX0_readBits_0 : decode cX0_readBits 0 = .ok (.aload_n 0, 1) := by decide +kernel
theorem dX0_readBits_1 : decode cX0_readBits 1 = .ok (.invokevirtual 30, 3) := by decide +kernel
theorem dX0_readBits_4 : decode cX0_readBits 4 = .ok (.iload_n 1, 1) := by decide +kernel
theorem dX0_readBits_5 : decode cX0_readBits 5 = .ok (.if_icmp .ge 14, 3) := by decide +kernel
theorem dX0_readBits_8 : decode cX0_readBits 8 = .ok (.aload_n 0, 1) := by decide +kernel
theorem dX0_readBits_9 : decode cX0_readBits 9 = .ok (.iconst 1, 1) := by decide +kernel
theorem dX0_readBits_10 : decode cX0_readBits 10 = .ok (.aload_n 0, 1) := by decide +kernel
theorem dX0_readBits_11 : decode cX0_readBits 11 = .ok (.getfield 19, 3) := by decide +kernel
theorem dX0_readBits_14 : decode cX0_readBits 14 = .ok (.invokevirtual 34, 3) := by decide +kernel
theorem dX0_readBits_17 : decode cX0_readBits 17 = .ok (.iconst (-1), 1) := by decide +kernel
theorem dX0_readBits_18 : decode cX0_readBits 18 = .ok (.ireturn, 1) := by decide +kernel
theorem dX0_readBits_19 : decode cX0_readBits 19 = .ok (.iconst 0, 1) := by decide +kernel
theorem dX0_readBits_20 : decode cX0_readBits 20 = .ok (.istore_n 2, 1) := by decide +kernel
theorem dX0_readBits_21 : decode cX0_readBits 21 = .ok (.iconst 0, 1) := by decide +kernel
theorem dX0_readBits_22 : decode cX0_readBits 22 = .ok (.istore_n 3, 1) := by decide +kernel
theorem dX0_readBits_23 : decode cX0_readBits 23 = .ok (.iload_n 3, 1) := by decide +kernel
theorem dX0_readBits_24 : decode cX0_readBits 24 = .ok (.iload_n 1, 1) := by decide +kernel
theorem dX0_readBits_25 : decode cX0_readBits 25 = .ok (.if_icmp .ge 27, 3) := by decide +kernel
theorem dX0_readBits_28 : decode cX0_readBits 28 = .ok (.iconst 2, 1) := by decide +kernel
theorem dX0_readBits_29 : decode cX0_readBits 29 = .ok (.iload_n 2, 1) := by decide +kernel
theorem dX0_readBits_30 : decode cX0_readBits 30 = .ok (.imul, 1) := by decide +kernel
theorem dX0_readBits_31 : decode cX0_readBits 31 = .ok (.aload_n 0, 1) := by decide +kernel
theorem dX0_readBits_32 : decode cX0_readBits 32 = .ok (.getfield 15, 3) := by decide +kernel
theorem dX0_readBits_35 : decode cX0_readBits 35 = .ok (.aload_n 0, 1) := by decide +kernel
theorem dX0_readBits_36 : decode cX0_readBits 36 = .ok (.getfield 19, 3) := by decide +kernel
theorem dX0_readBits_39 : decode cX0_readBits 39 = .ok (.iload_n 3, 1) := by decide +kernel
theorem dX0_readBits_40 : decode cX0_readBits 40 = .ok (.iadd, 1) := by decide +kernel
theorem dX0_readBits_41 : decode cX0_readBits 41 = .ok (.invokevirtual 38, 3) := by decide +kernel
theorem dX0_readBits_44 : decode cX0_readBits 44 = .ok (.iadd, 1) := by decide +kernel
theorem dX0_readBits_45 : decode cX0_readBits 45 = .ok (.istore_n 2, 1) := by decide +kernel
theorem dX0_readBits_46 : decode cX0_readBits 46 = .ok (.iinc 3 1, 3) := by decide +kernel
theorem dX0_readBits_49 : decode cX0_readBits 49 = .ok (.goto (-26), 3) := by decide +kernel
theorem dX0_readBits_52 : decode cX0_readBits 52 = .ok (.aload_n 0, 1) := by decide +kernel
theorem dX0_readBits_53 : decode cX0_readBits 53 = .ok (.dup, 1) := by decide +kernel
theorem dX0_readBits_54 : decode cX0_readBits 54 = .ok (.getfield 19, 3) := by decide +kernel
theorem dX0_readBits_57 : decode cX0_readBits 57 = .ok (.iload_n 1, 1) := by decide +kernel
theorem dX0_readBits_58 : decode cX0_readBits 58 = .ok (.iadd, 1) := by decide +kernel
theorem dX0_readBits_59 : decode cX0_readBits 59 = .ok (.putfield 19, 3) := by decide +kernel
theorem dX0_readBits_62 : decode cX0_readBits 62 = .ok (.iload_n 2, 1) := by decide +kernel
theorem dX0_readBits_63 : decode cX0_readBits 63 = .ok (.ireturn, 1) := by decide +kernel
theorem dX0_readNumber_0 : decode cX0_readNumber 0 = .ok (.aload_n 0, 1) := by decide +kernel
theorem dX0_readNumber_1 : decode cX0_readNumber 1 = .ok (.getfield 19, 3) := by decide +kernel
theorem dX0_readNumber_4 : decode cX0_readNumber 4 = .ok (.istore_n 3, 1) := by decide +kernel
theorem dX0_readNumber_5 : decode cX0_readNumber 5 = .ok (.aload_n 0, 1) := by decide +kernel
theorem dX0_readNumber_6 : decode cX0_readNumber 6 = .ok (.invokevirtual 42, 3) := by decide +kernel
theorem dX0_readNumber_9 : decode cX0_readNumber 9 = .ok (.istore 4, 2) := by decide +kernel
theorem dX0_readNumber_11 : decode cX0_readNumber 11 = .ok (.iload 4, 2) := by decide +kernel
theorem dX0_readNumber_13 : decode cX0_readNumber 13 = .ok (.bipush 15, 2) := by decide +kernel
theorem dX0_readNumber_15 : decode cX0_readNumber 15 = .ok (.if_icmp .gt 16, 3) := by decide +kernel
theorem dX0_readNumber_18 : decode cX0_readNumber 18 = .ok (.aload_n 0, 1) := by decide +kernel
theorem dX0_readNumber_19 : decode cX0_readNumber 19 = .ok (.invokevirtual 30, 3) := by decide +kernel
theorem dX0_readNumber_22 : decode cX0_readNumber 22 = .ok (.iconst 2, 1) := by decide +kernel
theorem dX0_readNumber_23 : decode cX0_readNumber 23 = .ok (.iload 4, 2) := by decide +kernel
theorem dX0_readNumber_25 : decode cX0_readNumber 25 = .ok (.imul, 1) := by decide +kernel
theorem dX0_readNumber_26 : decode cX0_readNumber 26 = .ok (.iconst 1, 1) := by decide +kernel
theorem dX0_readNumber_27 : decode cX0_readNumber 27 = .ok (.iadd, 1) := by decide +kernel
theorem dX0_readNumber_28 : decode cX0_readNumber 28 = .ok (.if_icmp .ge 11, 3) := by decide +kernel
theorem dX0_readNumber_31 : decode cX0_readNumber 31 = .ok (.aload_n 0, 1) := by decide +kernel
theorem dX0_readNumber_32 : decode cX0_readNumber 32 = .ok (.iconst 1, 1) := by decide +kernel
theorem dX0_readNumber_33 : decode cX0_readNumber 33 = .ok (.iload_n 3, 1) := by decide +kernel
theorem dX0_readNumber_34 : decode cX0_readNumber 34 = .ok (.invokevirtual 34, 3) := by decide +kernel
theorem dX0_readNumber_37 : decode cX0_readNumber 37 = .ok (.iconst (-1), 1) := by decide +kernel
theorem dX0_readNumber_38 : decode cX0_readNumber 38 = .ok (.ireturn, 1) := by decide +kernel
theorem dX0_readNumber_39 : decode cX0_readNumber 39 = .ok (.aload_n 0, 1) := by decide +kernel
theorem dX0_readNumber_40 : decode cX0_readNumber 40 = .ok (.dup, 1) := by decide +kernel
theorem dX0_readNumber_41 : decode cX0_readNumber 41 = .ok (.getfield 19, 3) := by decide +kernel
theorem dX0_readNumber_44 : decode cX0_readNumber 44 = .ok (.iload 4, 2) := by decide +kernel
theorem dX0_readNumber_46 : decode cX0_readNumber 46 = .ok (.iadd, 1) := by decide +kernel
theorem dX0_readNumber_47 : decode cX0_readNumber 47 = .ok (.putfield 19, 3) := by decide +kernel
theorem dX0_readNumber_50 : decode cX0_readNumber 50 = .ok (.aload_n 0, 1) := by decide +kernel
theorem dX0_readNumber_51 : decode cX0_readNumber 51 = .ok (.iload 4, 2) := by decide +kernel
theorem dX0_readNumber_53 : decode cX0_readNumber 53 = .ok (.iconst 1, 1) := by decide +kernel
theorem dX0_readNumber_54 : decode cX0_readNumber 54 = .ok (.iadd, 1) := by decide +kernel
theorem dX0_readNumber_55 : decode cX0_readNumber 55 = .ok (.invokevirtual 45, 3) := by decide +kernel
theorem dX0_readNumber_58 : decode cX0_readNumber 58 = .ok (.iconst 1, 1) := by decide +kernel
theorem dX0_readNumber_59 : decode cX0_readNumber 59 = .ok (.isub, 1) := by decide +kernel
theorem dX0_readNumber_60 : decode cX0_readNumber 60 = .ok (.istore 5, 2) := by decide +kernel
theorem dX0_readNumber_62 : decode cX0_readNumber 62 = .ok (.iload 5, 2) := by decide +kernel
theorem dX0_readNumber_64 : decode cX0_readNumber 64 = .ok (.iload_n 1, 1) := by decide +kernel
theorem dX0_readNumber_65 : decode cX0_readNumber 65 = .ok (.if_icmp .le 11, 3) := by decide +kernel
theorem dX0_readNumber_68 : decode cX0_readNumber 68 = .ok (.aload_n 0, 1) := by decide +kernel
theorem dX0_readNumber_69 : decode cX0_readNumber 69 = .ok (.iload_n 2, 1) := by decide +kernel
theorem dX0_readNumber_70 : decode cX0_readNumber 70 = .ok (.iload_n 3, 1) := by decide +kernel
theorem dX0_readNumber_71 : decode cX0_readNumber 71 = .ok (.invokevirtual 34, 3) := by decide +kernel
theorem dX0_readNumber_74 : decode cX0_readNumber 74 = .ok (.iconst (-1), 1) := by decide +kernel
theorem dX0_readNumber_75 : decode cX0_readNumber 75 = .ok (.ireturn, 1) := by decide +kernel
theorem dX0_readNumber_76 : decode cX0_readNumber 76 = .ok (.iload 5, 2) := by decide +kernel
theorem dX0_readNumber_78 : decode cX0_readNumber 78 = .ok (.ireturn, 1) := by decide +kernel
theorem dX0_countZeros_0 : decode cX0_countZeros 0 = .ok (.iconst 0, 1) := by decide +kernel
theorem dX0_countZeros_1 : decode cX0_countZeros 1 = .ok (.istore_n 1, 1) := by decide +kernel
theorem dX0_countZeros_2 : decode cX0_countZeros 2 = .ok (.iload_n 1, 1) := by decide +kernel
theorem dX0_countZeros_3 : decode cX0_countZeros 3 = .ok (.bipush 15, 2) := by decide +kernel
theorem dX0_countZeros_5 : decode cX0_countZeros 5 = .ok (.if_icmp .gt 33, 3) := by decide +kernel
theorem dX0_countZeros_8 : decode cX0_countZeros 8 = .ok (.iload_n 1, 1) := by decide +kernel
theorem dX0_countZeros_9 : decode cX0_countZeros 9 = .ok (.aload_n 0, 1) := by decide +kernel
theorem dX0_countZeros_10 : decode cX0_countZeros 10 = .ok (.invokevirtual 30, 3) := by decide +kernel
theorem dX0_countZeros_13 : decode cX0_countZeros 13 = .ok (.if_icmp .ge 25, 3) := by decide +kernel
theorem dX0_countZeros_16 : decode cX0_countZeros 16 = .ok (.aload_n 0, 1) := by decide +kernel
theorem dX0_countZeros_17 : decode cX0_countZeros 17 = .ok (.getfield 15, 3) := by decide +kernel
theorem dX0_countZeros_20 : decode cX0_countZeros 20 = .ok (.aload_n 0, 1) := by decide +kernel
theorem dX0_countZeros_21 : decode cX0_countZeros 21 = .ok (.getfield 19, 3) := by decide +kernel
theorem dX0_countZeros_24 : decode cX0_countZeros 24 = .ok (.iload_n 1, 1) := by decide +kernel
theorem dX0_countZeros_25 : decode cX0_countZeros 25 = .ok (.iadd, 1) := by decide +kernel
theorem dX0_countZeros_26 : decode cX0_countZeros 26 = .ok (.invokevirtual 38, 3) := by decide +kernel
theorem dX0_countZeros_29 : decode cX0_countZeros 29 = .ok (.ifCond .ne 9, 3) := by decide +kernel
theorem dX0_countZeros_32 : decode cX0_countZeros 32 = .ok (.iinc 1 1, 3) := by decide +kernel
theorem dX0_countZeros_35 : decode cX0_countZeros 35 = .ok (.goto (-33), 3) := by decide +kernel
theorem dX0_countZeros_38 : decode cX0_countZeros 38 = .ok (.iload_n 1, 1) := by decide +kernel
theorem dX0_countZeros_39 : decode cX0_countZeros 39 = .ok (.ireturn, 1) := by decide +kernel
theorem dX0_readLevel_0 : decode cX0_readLevel 0 = .ok (.aload_n 0, 1) := by decide +kernel
theorem dX0_readLevel_1 : decode cX0_readLevel 1 = .ok (.getfield 19, 3) := by decide +kernel
theorem dX0_readLevel_4 : decode cX0_readLevel 4 = .ok (.istore_n 1, 1) := by decide +kernel
theorem dX0_readLevel_5 : decode cX0_readLevel 5 = .ok (.aload_n 0, 1) := by decide +kernel
theorem dX0_readLevel_6 : decode cX0_readLevel 6 = .ok (.ldc 50, 2) := by decide +kernel
theorem dX0_readLevel_8 : decode cX0_readLevel 8 = .ok (.bipush 6, 2) := by decide +kernel
theorem dX0_readLevel_10 : decode cX0_readLevel 10 = .ok (.invokevirtual 51, 3) := by decide +kernel
theorem dX0_readLevel_13 : decode cX0_readLevel 13 = .ok (.istore_n 2, 1) := by decide +kernel
theorem dX0_readLevel_14 : decode cX0_readLevel 14 = .ok (.iload_n 2, 1) := by decide +kernel
theorem dX0_readLevel_15 : decode cX0_readLevel 15 = .ok (.iconst (-1), 1) := by decide +kernel
theorem dX0_readLevel_16 : decode cX0_readLevel 16 = .ok (.if_icmp .ne 5, 3) := by decide +kernel
theorem dX0_readLevel_19 : decode cX0_readLevel 19 = .ok (.iconst 0, 1) := by decide +kernel
theorem dX0_readLevel_20 : decode cX0_readLevel 20 = .ok (.ireturn, 1) := by decide +kernel
theorem dX0_readLevel_21 : decode cX0_readLevel 21 = .ok (.iload_n 2, 1) := by decide +kernel
theorem dX0_readLevel_22 : decode cX0_readLevel 22 = .ok (.iconst 1, 1) := by decide +kernel
theorem dX0_readLevel_23 : decode cX0_readLevel 23 = .ok (.iadd, 1) := by decide +kernel
theorem dX0_readLevel_24 : decode cX0_readLevel 24 = .ok (.iconst 2, 1) := by decide +kernel
theorem dX0_readLevel_25 : decode cX0_readLevel 25 = .ok (.idiv, 1) := by decide +kernel
theorem dX0_readLevel_26 : decode cX0_readLevel 26 = .ok (.istore_n 3, 1) := by decide +kernel
theorem dX0_readLevel_27 : decode cX0_readLevel 27 = .ok (.iload_n 3, 1) := by decide +kernel
theorem dX0_readLevel_28 : decode cX0_readLevel 28 = .ok (.ifCond .eq 10, 3) := by decide +kernel
theorem dX0_readLevel_31 : decode cX0_readLevel 31 = .ok (.iload_n 3, 1) := by decide +kernel
theorem dX0_readLevel_32 : decode cX0_readLevel 32 = .ok (.sipush 2048, 3) := by decide +kernel
theorem dX0_readLevel_35 : decode cX0_readLevel 35 = .ok (.if_icmp .le 12, 3) := by decide +kernel
theorem dX0_readLevel_38 : decode cX0_readLevel 38 = .ok (.aload_n 0, 1) := by decide +kernel
theorem dX0_readLevel_39 : decode cX0_readLevel 39 = .ok (.bipush 6, 2) := by decide +kernel
theorem dX0_readLevel_41 : decode cX0_readLevel 41 = .ok (.iload_n 1, 1) := by decide +kernel
theorem dX0_readLevel_42 : decode cX0_readLevel 42 = .ok (.invokevirtual 34, 3) := by decide +kernel
theorem dX0_readLevel_45 : decode cX0_readLevel 45 = .ok (.iconst 0, 1) := by decide +kernel
theorem dX0_readLevel_46 : decode cX0_readLevel 46 = .ok (.ireturn, 1) := by decide +kernel
theorem dX0_readLevel_47 : decode cX0_readLevel 47 = .ok (.iload_n 2, 1) := by decide +kernel
theorem dX0_readLevel_48 : decode cX0_readLevel 48 = .ok (.iconst 2, 1) := by decide +kernel
theorem dX0_readLevel_49 : decode cX0_readLevel 49 = .ok (.irem, 1) := by decide +kernel
theorem dX0_readLevel_50 : decode cX0_readLevel 50 = .ok (.iconst 1, 1) := by decide +kernel
theorem dX0_readLevel_51 : decode cX0_readLevel 51 = .ok (.if_icmp .ne 7, 3) := by decide +kernel
theorem dX0_readLevel_54 : decode cX0_readLevel 54 = .ok (.iload_n 3, 1) := by decide +kernel
theorem dX0_readLevel_55 : decode cX0_readLevel 55 = .ok (.goto 5, 3) := by decide +kernel
theorem dX0_readLevel_58 : decode cX0_readLevel 58 = .ok (.iload_n 3, 1) := by decide +kernel
theorem dX0_readLevel_59 : decode cX0_readLevel 59 = .ok (.ineg, 1) := by decide +kernel
theorem dX0_readLevel_60 : decode cX0_readLevel 60 = .ok (.ireturn, 1) := by decide +kernel
theorem dX0_endsClean_0 : decode cX0_endsClean 0 = .ok (.aload_n 0, 1) := by decide +kernel
theorem dX0_endsClean_1 : decode cX0_endsClean 1 = .ok (.invokevirtual 30, 3) := by decide +kernel
theorem dX0_endsClean_4 : decode cX0_endsClean 4 = .ok (.bipush 8, 2) := by decide +kernel
theorem dX0_endsClean_6 : decode cX0_endsClean 6 = .ok (.if_icmp .ge 7, 3) := by decide +kernel
theorem dX0_endsClean_9 : decode cX0_endsClean 9 = .ok (.iconst 1, 1) := by decide +kernel
theorem dX0_endsClean_10 : decode cX0_endsClean 10 = .ok (.goto 4, 3) := by decide +kernel
theorem dX0_endsClean_13 : decode cX0_endsClean 13 = .ok (.iconst 0, 1) := by decide +kernel
theorem dX0_endsClean_14 : decode cX0_endsClean 14 = .ok (.istore_n 1, 1) := by decide +kernel
theorem dX0_endsClean_15 : decode cX0_endsClean 15 = .ok (.iconst 0, 1) := by decide +kernel
theorem dX0_endsClean_16 : decode cX0_endsClean 16 = .ok (.istore_n 2, 1) := by decide +kernel
theorem dX0_endsClean_17 : decode cX0_endsClean 17 = .ok (.iload_n 1, 1) := by decide +kernel
theorem dX0_endsClean_18 : decode cX0_endsClean 18 = .ok (.ifCond .eq 39, 3) := by decide +kernel
theorem dX0_endsClean_21 : decode cX0_endsClean 21 = .ok (.iload_n 2, 1) := by decide +kernel
theorem dX0_endsClean_22 : decode cX0_endsClean 22 = .ok (.aload_n 0, 1) := by decide +kernel
theorem dX0_endsClean_23 : decode cX0_endsClean 23 = .ok (.invokevirtual 30, 3) := by decide +kernel
theorem dX0_endsClean_26 : decode cX0_endsClean 26 = .ok (.if_icmp .ge 31, 3) := by decide +kernel
theorem dX0_endsClean_29 : decode cX0_endsClean 29 = .ok (.aload_n 0, 1) := by decide +kernel
theorem dX0_endsClean_30 : decode cX0_endsClean 30 = .ok (.getfield 15, 3) := by decide +kernel
theorem dX0_endsClean_33 : decode cX0_endsClean 33 = .ok (.aload_n 0, 1) := by decide +kernel
theorem dX0_endsClean_34 : decode cX0_endsClean 34 = .ok (.getfield 19, 3) := by decide +kernel
theorem dX0_endsClean_37 : decode cX0_endsClean 37 = .ok (.iload_n 2, 1) := by decide +kernel
theorem dX0_endsClean_38 : decode cX0_endsClean 38 = .ok (.iadd, 1) := by decide +kernel
theorem dX0_endsClean_39 : decode cX0_endsClean 39 = .ok (.invokevirtual 38, 3) := by decide +kernel
theorem dX0_endsClean_42 : decode cX0_endsClean 42 = .ok (.ifCond .ne 7, 3) := by decide +kernel
theorem dX0_endsClean_45 : decode cX0_endsClean 45 = .ok (.iconst 1, 1) := by decide +kernel
theorem dX0_endsClean_46 : decode cX0_endsClean 46 = .ok (.goto 4, 3) := by decide +kernel
theorem dX0_endsClean_49 : decode cX0_endsClean 49 = .ok (.iconst 0, 1) := by decide +kernel
theorem dX0_endsClean_50 : decode cX0_endsClean 50 = .ok (.istore_n 1, 1) := by decide +kernel
theorem dX0_endsClean_51 : decode cX0_endsClean 51 = .ok (.iinc 2 1, 3) := by decide +kernel
theorem dX0_endsClean_54 : decode cX0_endsClean 54 = .ok (.goto (-37), 3) := by decide +kernel
theorem dX0_endsClean_57 : decode cX0_endsClean 57 = .ok (.iload_n 1, 1) := by decide +kernel
theorem dX0_endsClean_58 : decode cX0_endsClean 58 = .ok (.ifCond .ne 13, 3) := by decide +kernel
theorem dX0_endsClean_61 : decode cX0_endsClean 61 = .ok (.aload_n 0, 1) := by decide +kernel
theorem dX0_endsClean_62 : decode cX0_endsClean 62 = .ok (.bipush 7, 2) := by decide +kernel
theorem dX0_endsClean_64 : decode cX0_endsClean 64 = .ok (.aload_n 0, 1) := by decide +kernel
theorem dX0_endsClean_65 : decode cX0_endsClean 65 = .ok (.getfield 19, 3) := by decide +kernel
theorem dX0_endsClean_68 : decode cX0_endsClean 68 = .ok (.invokevirtual 34, 3) := by decide +kernel
theorem dX0_endsClean_71 : decode cX0_endsClean 71 = .ok (.iload_n 1, 1) := by decide +kernel
theorem dX0_endsClean_72 : decode cX0_endsClean 72 = .ok (.ireturn, 1) := by decide +kernel
theorem dX1_init_0 : decode cX1_init 0 = .ok (.aload_n 0, 1) := by decide +kernel
theorem dX1_init_1 : decode cX1_init 1 = .ok (.invokespecial 3, 3) := by decide +kernel
theorem dX1_init_4 : decode cX1_init 4 = .ok (.aload_n 0, 1) := by decide +kernel
theorem dX1_init_5 : decode cX1_init 5 = .ok (.bipush 16, 2) := by decide +kernel
theorem dX1_init_7 : decode cX1_init 7 = .ok (.newarray .int, 2) := by decide +kernel
theorem dX1_init_9 : decode cX1_init 9 = .ok (.putfield 9, 3) := by decide +kernel
theorem dX1_init_12 : decode cX1_init 12 = .ok (.aload_n 0, 1) := by decide +kernel
theorem dX1_init_13 : decode cX1_init 13 = .ok (.aload_n 1, 1) := by decide +kernel
theorem dX1_init_14 : decode cX1_init 14 = .ok (.putfield 15, 3) := by decide +kernel
theorem dX1_init_17 : decode cX1_init 17 = .ok (.aload_n 0, 1) := by decide +kernel
theorem dX1_init_18 : decode cX1_init 18 = .ok (.aload_n 2, 1) := by decide +kernel
theorem dX1_init_19 : decode cX1_init 19 = .ok (.putfield 19, 3) := by decide +kernel
theorem dX1_init_22 : decode cX1_init 22 = .ok (.aload_n 0, 1) := by decide +kernel
theorem dX1_init_23 : decode cX1_init 23 = .ok (.new 23, 3) := by decide +kernel
theorem dX1_init_26 : decode cX1_init 26 = .ok (.dup, 1) := by decide +kernel
theorem dX1_init_27 : decode cX1_init 27 = .ok (.invokespecial 25, 3) := by decide +kernel
theorem dX1_init_30 : decode cX1_init 30 = .ok (.putfield 26, 3) := by decide +kernel
theorem dX1_init_33 : decode cX1_init 33 = .ok (.return_, 1) := by decide +kernel
theorem dX1_packBlock_0 : decode cX1_packBlock 0 = .ok (.aload_n 0, 1) := by decide +kernel
theorem dX1_packBlock_1 : decode cX1_packBlock 1 = .ok (.getfield 15, 3) := by decide +kernel
theorem dX1_packBlock_4 : decode cX1_packBlock 4 = .ok (.iload_n 2, 1) := by decide +kernel
theorem dX1_packBlock_5 : decode cX1_packBlock 5 = .ok (.invokevirtual 30, 3) := by decide +kernel
theorem dX1_packBlock_8 : decode cX1_packBlock 8 = .ok (.istore_n 3, 1) := by decide +kernel
theorem dX1_packBlock_9 : decode cX1_packBlock 9 = .ok (.aload_n 0, 1) := by decide +kernel
theorem dX1_packBlock_10 : decode cX1_packBlock 10 = .ok (.getfield 15, 3) := by decide +kernel
theorem dX1_packBlock_13 : decode cX1_packBlock 13 = .ok (.iload_n 2, 1) := by decide +kernel
theorem dX1_packBlock_14 : decode cX1_packBlock 14 = .ok (.invokevirtual 36, 3) := by decide +kernel
theorem dX1_packBlock_17 : decode cX1_packBlock 17 = .ok (.istore 4, 2) := by decide +kernel
theorem dX1_packBlock_19 : decode cX1_packBlock 19 = .ok (.aload_n 0, 1) := by decide +kernel
theorem dX1_packBlock_20 : decode cX1_packBlock 20 = .ok (.getfield 19, 3) := by decide +kernel
theorem dX1_packBlock_23 : decode cX1_packBlock 23 = .ok (.iload_n 2, 1) := by decide +kernel
theorem dX1_packBlock_24 : decode cX1_packBlock 24 = .ok (.invokevirtual 39, 3) := by decide +kernel
theorem dX1_packBlock_27 : decode cX1_packBlock 27 = .ok (.aload_n 0, 1) := by decide +kernel
theorem dX1_packBlock_28 : decode cX1_packBlock 28 = .ok (.iload_n 3, 1) := by decide +kernel
theorem dX1_packBlock_29 : decode cX1_packBlock 29 = .ok (.iload 4, 2) := by decide +kernel
theorem dX1_packBlock_31 : decode cX1_packBlock 31 = .ok (.invokevirtual 45, 3) := by decide +kernel
theorem dX1_packBlock_34 : decode cX1_packBlock 34 = .ok (.istore 5, 2) := by decide +kernel
theorem dX1_packBlock_36 : decode cX1_packBlock 36 = .ok (.aload_n 0, 1) := by decide +kernel
theorem dX1_packBlock_37 : decode cX1_packBlock 37 = .ok (.iload 5, 2) := by decide +kernel
theorem dX1_packBlock_39 : decode cX1_packBlock 39 = .ok (.invokevirtual 49, 3) := by decide +kernel
theorem dX1_packBlock_42 : decode cX1_packBlock 42 = .ok (.iconst 0, 1) := by decide +kernel
theorem dX1_packBlock_43 : decode cX1_packBlock 43 = .ok (.istore 6, 2) := by decide +kernel
theorem dX1_packBlock_45 : decode cX1_packBlock 45 = .ok (.iload 6, 2) := by decide +kernel
theorem dX1_packBlock_47 : decode cX1_packBlock 47 = .ok (.bipush 16, 2) := by decide +kernel
theorem dX1_packBlock_49 : decode cX1_packBlock 49 = .ok (.if_icmp .ge 28, 3) := by decide +kernel
theorem dX1_packBlock_52 : decode cX1_packBlock 52 = .ok (.aload_n 0, 1) := by decide +kernel
theorem dX1_packBlock_53 : decode cX1_packBlock 53 = .ok (.getfield 26, 3) := by decide +kernel
theorem dX1_packBlock_56 : decode cX1_packBlock 56 = .ok (.getfield 52, 3) := by decide +kernel
theorem dX1_packBlock_59 : decode cX1_packBlock 59 = .ok (.iload 6, 2) := by decide +kernel
theorem dX1_packBlock_61 : decode cX1_packBlock 61 = .ok (.aload_n 0, 1) := by decide +kernel
theorem dX1_packBlock_62 : decode cX1_packBlock 62 = .ok (.iload_n 3, 1) := by decide +kernel
theorem dX1_packBlock_63 : decode cX1_packBlock 63 = .ok (.iload 4, 2) := by decide +kernel
theorem dX1_packBlock_65 : decode cX1_packBlock 65 = .ok (.iload 6, 2) := by decide +kernel
theorem dX1_packBlock_67 : decode cX1_packBlock 67 = .ok (.invokevirtual 55, 3) := by decide +kernel
theorem dX1_packBlock_70 : decode cX1_packBlock 70 = .ok (.iastore, 1) := by decide +kernel
theorem dX1_packBlock_71 : decode cX1_packBlock 71 = .ok (.iinc 6 1, 3) := by decide +kernel
theorem dX1_packBlock_74 : decode cX1_packBlock 74 = .ok (.goto (-29), 3) := by decide +kernel
theorem dX1_packBlock_77 : decode cX1_packBlock 77 = .ok (.aload_n 1, 1) := by decide +kernel
theorem dX1_packBlock_78 : decode cX1_packBlock 78 = .ok (.getfield 59, 3) := by decide +kernel
theorem dX1_packBlock_81 : decode cX1_packBlock 81 = .ok (.iload_n 2, 1) := by decide +kernel
theorem dX1_packBlock_82 : decode cX1_packBlock 82 = .ok (.iload 5, 2) := by decide +kernel
theorem dX1_packBlock_84 : decode cX1_packBlock 84 = .ok (.iastore, 1) := by decide +kernel
theorem dX1_packBlock_85 : decode cX1_packBlock 85 = .ok (.aload_n 0, 1) := by decide +kernel
theorem dX1_packBlock_86 : decode cX1_packBlock 86 = .ok (.getfield 26, 3) := by decide +kernel
theorem dX1_packBlock_89 : decode cX1_packBlock 89 = .ok (.aload_n 1, 1) := by decide +kernel
theorem dX1_packBlock_90 : decode cX1_packBlock 90 = .ok (.getfield 64, 3) := by decide +kernel
theorem dX1_packBlock_93 : decode cX1_packBlock 93 = .ok (.bipush 16, 2) := by decide +kernel
theorem dX1_packBlock_95 : decode cX1_packBlock 95 = .ok (.iload_n 2, 1) := by decide +kernel
theorem dX1_packBlock_96 : decode cX1_packBlock 96 = .ok (.imul, 1) := by decide +kernel
theorem dX1_packBlock_97 : decode cX1_packBlock 97 = .ok (.aload_n 1, 1) := by decide +kernel
theorem dX1_packBlock_98 : decode cX1_packBlock 98 = .ok (.getfield 67, 3) := by decide +kernel
theorem dX1_packBlock_101 : decode cX1_packBlock 101 = .ok (.invokevirtual 71, 3) := by decide +kernel
theorem dX1_packBlock_104 : decode cX1_packBlock 104 = .ok (.aload_n 0, 1) := by decide +kernel
theorem dX1_packBlock_105 : decode cX1_packBlock 105 = .ok (.aload_n 1, 1) := by decide +kernel
theorem dX1_packBlock_106 : decode cX1_packBlock 106 = .ok (.iload_n 2, 1) := by decide +kernel
theorem dX1_packBlock_107 : decode cX1_packBlock 107 = .ok (.invokevirtual 75, 3) := by decide +kernel
theorem dX1_packBlock_110 : decode cX1_packBlock 110 = .ok (.return_, 1) := by decide +kernel
theorem dX1_unpackBlock_0 : decode cX1_unpackBlock 0 = .ok (.aload_n 0, 1) := by decide +kernel
theorem dX1_unpackBlock_1 : decode cX1_unpackBlock 1 = .ok (.getfield 19, 3) := by decide +kernel
theorem dX1_unpackBlock_4 : decode cX1_unpackBlock 4 = .ok (.iload_n 2, 1) := by decide +kernel
theorem dX1_unpackBlock_5 : decode cX1_unpackBlock 5 = .ok (.invokevirtual 39, 3) := by decide +kernel
theorem dX1_unpackBlock_8 : decode cX1_unpackBlock 8 = .ok (.aload_n 0, 1) := by decide +kernel
theorem dX1_unpackBlock_9 : decode cX1_unpackBlock 9 = .ok (.aload_n 1, 1) := by decide +kernel
theorem dX1_unpackBlock_10 : decode cX1_unpackBlock 10 = .ok (.getfield 59, 3) := by decide +kernel
theorem dX1_unpackBlock_13 : decode cX1_unpackBlock 13 = .ok (.iload_n 2, 1) := by decide +kernel
theorem dX1_unpackBlock_14 : decode cX1_unpackBlock 14 = .ok (.iaload, 1) := by decide +kernel
theorem dX1_unpackBlock_15 : decode cX1_unpackBlock 15 = .ok (.invokevirtual 49, 3) := by decide +kernel
theorem dX1_unpackBlock_18 : decode cX1_unpackBlock 18 = .ok (.aload_n 0, 1) := by decide +kernel
theorem dX1_unpackBlock_19 : decode cX1_unpackBlock 19 = .ok (.aload_n 1, 1) := by decide +kernel
theorem dX1_unpackBlock_20 : decode cX1_unpackBlock 20 = .ok (.iload_n 2, 1) := by decide +kernel
theorem dX1_unpackBlock_21 : decode cX1_unpackBlock 21 = .ok (.invokevirtual 75, 3) := by decide +kernel
theorem dX1_unpackBlock_24 : decode cX1_unpackBlock 24 = .ok (.return_, 1) := by decide +kernel
theorem dX1_bestMode_0 : decode cX1_bestMode 0 = .ok (.iconst 2, 1) := by decide +kernel
theorem dX1_bestMode_1 : decode cX1_bestMode 1 = .ok (.istore_n 3, 1) := by decide +kernel
theorem dX1_bestMode_2 : decode cX1_bestMode 2 = .ok (.ldc 81, 2) := by decide +kernel
theorem dX1_bestMode_4 : decode cX1_bestMode 4 = .ok (.istore 4, 2) := by decide +kernel
theorem dX1_bestMode_6 : decode cX1_bestMode 6 = .ok (.iconst 0, 1) := by decide +kernel
theorem dX1_bestMode_7 : decode cX1_bestMode 7 = .ok (.istore 5, 2) := by decide +kernel
theorem dX1_bestMode_9 : decode cX1_bestMode 9 = .ok (.iload 5, 2) := by decide +kernel
theorem dX1_bestMode_11 : decode cX1_bestMode 11 = .ok (.bipush 9, 2) := by decide +kernel
theorem dX1_bestMode_13 : decode cX1_bestMode 13 = .ok (.if_icmp .ge 49, 3) := by decide +kernel
theorem dX1_bestMode_16 : decode cX1_bestMode 16 = .ok (.aload_n 0, 1) := by decide +kernel
theorem dX1_bestMode_17 : decode cX1_bestMode 17 = .ok (.getfield 19, 3) := by decide +kernel
theorem dX1_bestMode_20 : decode cX1_bestMode 20 = .ok (.iload 5, 2) := by decide +kernel
theorem dX1_bestMode_22 : decode cX1_bestMode 22 = .ok (.invokevirtual 82, 3) := by decide +kernel
theorem dX1_bestMode_25 : decode cX1_bestMode 25 = .ok (.ifCond .eq 31, 3) := by decide +kernel
theorem dX1_bestMode_28 : decode cX1_bestMode 28 = .ok (.aload_n 0, 1) := by decide +kernel
theorem dX1_bestMode_29 : decode cX1_bestMode 29 = .ok (.iload 5, 2) := by decide +kernel
theorem dX1_bestMode_31 : decode cX1_bestMode 31 = .ok (.invokevirtual 49, 3) := by decide +kernel
theorem dX1_bestMode_34 : decode cX1_bestMode 34 = .ok (.aload_n 0, 1) := by decide +kernel
theorem dX1_bestMode_35 : decode cX1_bestMode 35 = .ok (.iload_n 1, 1) := by decide +kernel
theorem dX1_bestMode_36 : decode cX1_bestMode 36 = .ok (.iload_n 2, 1) := by decide +kernel
theorem dX1_bestMode_37 : decode cX1_bestMode 37 = .ok (.invokevirtual 86, 3) := by decide +kernel
theorem dX1_bestMode_40 : decode cX1_bestMode 40 = .ok (.istore 6, 2) := by decide +kernel
theorem dX1_bestMode_42 : decode cX1_bestMode 42 = .ok (.iload 6, 2) := by decide +kernel
theorem dX1_bestMode_44 : decode cX1_bestMode 44 = .ok (.iload 4, 2) := by decide +kernel
theorem dX1_bestMode_46 : decode cX1_bestMode 46 = .ok (.if_icmp .ge 10, 3) := by decide +kernel
theorem dX1_bestMode_49 : decode cX1_bestMode 49 = .ok (.iload 6, 2) := by decide +kernel
theorem dX1_bestMode_51 : decode cX1_bestMode 51 = .ok (.istore 4, 2) := by decide +kernel
theorem dX1_bestMode_53 : decode cX1_bestMode 53 = .ok (.iload 5, 2) := by decide +kernel
theorem dX1_bestMode_55 : decode cX1_bestMode 55 = .ok (.istore_n 3, 1) := by decide +kernel
theorem dX1_bestMode_56 : decode cX1_bestMode 56 = .ok (.iinc 5 1, 3) := by decide +kernel
theorem dX1_bestMode_59 : decode cX1_bestMode 59 = .ok (.goto (-50), 3) := by decide +kernel
theorem dX1_bestMode_62 : decode cX1_bestMode 62 = .ok (.iload_n 3, 1) := by decide +kernel
theorem dX1_bestMode_63 : decode cX1_bestMode 63 = .ok (.ireturn, 1) := by decide +kernel
theorem dX1_foretell_0 : decode cX1_foretell 0 = .ok (.iconst 0, 1) := by decide +kernel
theorem dX1_foretell_1 : decode cX1_foretell 1 = .ok (.istore_n 2, 1) := by decide +kernel
theorem dX1_foretell_2 : decode cX1_foretell 2 = .ok (.iload_n 2, 1) := by decide +kernel
theorem dX1_foretell_3 : decode cX1_foretell 3 = .ok (.bipush 16, 2) := by decide +kernel
theorem dX1_foretell_5 : decode cX1_foretell 5 = .ok (.if_icmp .ge 29, 3) := by decide +kernel
theorem dX1_foretell_8 : decode cX1_foretell 8 = .ok (.aload_n 0, 1) := by decide +kernel
theorem dX1_foretell_9 : decode cX1_foretell 9 = .ok (.getfield 9, 3) := by decide +kernel
theorem dX1_foretell_12 : decode cX1_foretell 12 = .ok (.iload_n 2, 1) := by decide +kernel
theorem dX1_foretell_13 : decode cX1_foretell 13 = .ok (.aload_n 0, 1) := by decide +kernel
theorem dX1_foretell_14 : decode cX1_foretell 14 = .ok (.getfield 19, 3) := by decide +kernel
theorem dX1_foretell_17 : decode cX1_foretell 17 = .ok (.iload_n 1, 1) := by decide +kernel
theorem dX1_foretell_18 : decode cX1_foretell 18 = .ok (.iload_n 2, 1) := by decide +kernel
theorem dX1_foretell_19 : decode cX1_foretell 19 = .ok (.iconst 4, 1) := by decide +kernel
theorem dX1_foretell_20 : decode cX1_foretell 20 = .ok (.irem, 1) := by decide +kernel
theorem dX1_foretell_21 : decode cX1_foretell 21 = .ok (.iload_n 2, 1) := by decide +kernel
theorem dX1_foretell_22 : decode cX1_foretell 22 = .ok (.iconst 4, 1) := by decide +kernel
theorem dX1_foretell_23 : decode cX1_foretell 23 = .ok (.idiv, 1) := by decide +kernel
theorem dX1_foretell_24 : decode cX1_foretell 24 = .ok (.invokevirtual 89, 3) := by decide +kernel
theorem dX1_foretell_27 : decode cX1_foretell 27 = .ok (.iastore, 1) := by decide +kernel
theorem dX1_foretell_28 : decode cX1_foretell 28 = .ok (.iinc 2 1, 3) := by decide +kernel
theorem dX1_foretell_31 : decode cX1_foretell 31 = .ok (.goto (-29), 3) := by decide +kernel
theorem dX1_foretell_34 : decode cX1_foretell 34 = .ok (.return_, 1) := by decide +kernel
theorem dX1_sumOfSizes_0 : decode cX1_sumOfSizes 0 = .ok (.iconst 0, 1) := by decide +kernel
theorem dX1_sumOfSizes_1 : decode cX1_sumOfSizes 1 = .ok (.istore_n 3, 1) := by decide +kernel
theorem dX1_sumOfSizes_2 : decode cX1_sumOfSizes 2 = .ok (.iconst 0, 1) := by decide +kernel
theorem dX1_sumOfSizes_3 : decode cX1_sumOfSizes 3 = .ok (.istore 4, 2) := by decide +kernel
theorem dX1_sumOfSizes_5 : decode cX1_sumOfSizes 5 = .ok (.iload 4, 2) := by decide +kernel
theorem dX1_sumOfSizes_7 : decode cX1_sumOfSizes 7 = .ok (.bipush 16, 2) := by decide +kernel
theorem dX1_sumOfSizes_9 : decode cX1_sumOfSizes 9 = .ok (.if_icmp .ge 23, 3) := by decide +kernel
theorem dX1_sumOfSizes_12 : decode cX1_sumOfSizes 12 = .ok (.iload_n 3, 1) := by decide +kernel
theorem dX1_sumOfSizes_13 : decode cX1_sumOfSizes 13 = .ok (.aload_n 0, 1) := by decide +kernel
theorem dX1_sumOfSizes_14 : decode cX1_sumOfSizes 14 = .ok (.iload_n 1, 1) := by decide +kernel
theorem dX1_sumOfSizes_15 : decode cX1_sumOfSizes 15 = .ok (.iload_n 2, 1) := by decide +kernel
theorem dX1_sumOfSizes_16 : decode cX1_sumOfSizes 16 = .ok (.iload 4, 2) := by decide +kernel
theorem dX1_sumOfSizes_18 : decode cX1_sumOfSizes 18 = .ok (.invokevirtual 55, 3) := by decide +kernel
theorem dX1_sumOfSizes_21 : decode cX1_sumOfSizes 21 = .ok (.invokestatic 92, 3) := by decide +kernel
theorem dX1_sumOfSizes_24 : decode cX1_sumOfSizes 24 = .ok (.iadd, 1) := by decide +kernel
theorem dX1_sumOfSizes_25 : decode cX1_sumOfSizes 25 = .ok (.istore_n 3, 1) := by decide +kernel
theorem dX1_sumOfSizes_26 : decode cX1_sumOfSizes 26 = .ok (.iinc 4 1, 3) := by decide +kernel
theorem dX1_sumOfSizes_29 : decode cX1_sumOfSizes 29 = .ok (.goto (-24), 3) := by decide +kernel
theorem dX1_sumOfSizes_32 : decode cX1_sumOfSizes 32 = .ok (.iload_n 3, 1) := by decide +kernel
theorem dX1_sumOfSizes_33 : decode cX1_sumOfSizes 33 = .ok (.ireturn, 1) := by decide +kernel
theorem dX1_lessTold_0 : decode cX1_lessTold 0 = .ok (.aload_n 0, 1) := by decide +kernel
theorem dX1_lessTold_1 : decode cX1_lessTold 1 = .ok (.getfield 15, 3) := by decide +kernel
theorem dX1_lessTold_4 : decode cX1_lessTold 4 = .ok (.iload_n 1, 1) := by decide +kernel
theorem dX1_lessTold_5 : decode cX1_lessTold 5 = .ok (.iload_n 3, 1) := by decide +kernel
theorem dX1_lessTold_6 : decode cX1_lessTold 6 = .ok (.iconst 4, 1) := by decide +kernel
theorem dX1_lessTold_7 : decode cX1_lessTold 7 = .ok (.irem, 1) := by decide +kernel
theorem dX1_lessTold_8 : decode cX1_lessTold 8 = .ok (.iadd, 1) := by decide +kernel
theorem dX1_lessTold_9 : decode cX1_lessTold 9 = .ok (.iload_n 2, 1) := by decide +kernel
theorem dX1_lessTold_10 : decode cX1_lessTold 10 = .ok (.iload_n 3, 1) := by decide +kernel
theorem dX1_lessTold_11 : decode cX1_lessTold 11 = .ok (.iconst 4, 1) := by decide +kernel
theorem dX1_lessTold_12 : decode cX1_lessTold 12 = .ok (.idiv, 1) := by decide +kernel
theorem dX1_lessTold_13 : decode cX1_lessTold 13 = .ok (.iadd, 1) := by decide +kernel
theorem dX1_lessTold_14 : decode cX1_lessTold 14 = .ok (.invokevirtual 97, 3) := by decide +kernel
theorem dX1_lessTold_17 : decode cX1_lessTold 17 = .ok (.aload_n 0, 1) := by decide +kernel
theorem dX1_lessTold_18 : decode cX1_lessTold 18 = .ok (.getfield 9, 3) := by decide +kernel
theorem dX1_lessTold_21 : decode cX1_lessTold 21 = .ok (.iload_n 3, 1) := by decide +kernel
theorem dX1_lessTold_22 : decode cX1_lessTold 22 = .ok (.iaload, 1) := by decide +kernel
theorem dX1_lessTold_23 : decode cX1_lessTold 23 = .ok (.isub, 1) := by decide +kernel
theorem dX1_lessTold_24 : decode cX1_lessTold 24 = .ok (.ireturn, 1) := by decide +kernel
theorem dX1_comeBack_0 : decode cX1_comeBack 0 = .ok (.aload_n 0, 1) := by decide +kernel
theorem dX1_comeBack_1 : decode cX1_comeBack 1 = .ok (.getfield 15, 3) := by decide +kernel
theorem dX1_comeBack_4 : decode cX1_comeBack 4 = .ok (.iload_n 2, 1) := by decide +kernel
theorem dX1_comeBack_5 : decode cX1_comeBack 5 = .ok (.invokevirtual 30, 3) := by decide +kernel
theorem dX1_comeBack_8 : decode cX1_comeBack 8 = .ok (.istore_n 3, 1) := by decide +kernel
theorem dX1_comeBack_9 : decode cX1_comeBack 9 = .ok (.aload_n 0, 1) := by decide +kernel
theorem dX1_comeBack_10 : decode cX1_comeBack 10 = .ok (.getfield 15, 3) := by decide +kernel
theorem dX1_comeBack_13 : decode cX1_comeBack 13 = .ok (.iload_n 2, 1) := by decide +kernel
theorem dX1_comeBack_14 : decode cX1_comeBack 14 = .ok (.invokevirtual 36, 3) := by decide +kernel
theorem dX1_comeBack_17 : decode cX1_comeBack 17 = .ok (.istore 4, 2) := by decide +kernel
theorem dX1_comeBack_19 : decode cX1_comeBack 19 = .ok (.aload_n 0, 1) := by decide +kernel
theorem dX1_comeBack_20 : decode cX1_comeBack 20 = .ok (.getfield 26, 3) := by decide +kernel
theorem dX1_comeBack_23 : decode cX1_comeBack 23 = .ok (.aload_n 1, 1) := by decide +kernel
theorem dX1_comeBack_24 : decode cX1_comeBack 24 = .ok (.getfield 64, 3) := by decide +kernel
theorem dX1_comeBack_27 : decode cX1_comeBack 27 = .ok (.bipush 16, 2) := by decide +kernel
theorem dX1_comeBack_29 : decode cX1_comeBack 29 = .ok (.iload_n 2, 1) := by decide +kernel
theorem dX1_comeBack_30 : decode cX1_comeBack 30 = .ok (.imul, 1) := by decide +kernel
theorem dX1_comeBack_31 : decode cX1_comeBack 31 = .ok (.aload_n 1, 1) := by decide +kernel
theorem dX1_comeBack_32 : decode cX1_comeBack 32 = .ok (.getfield 67, 3) := by decide +kernel
theorem dX1_comeBack_35 : decode cX1_comeBack 35 = .ok (.invokevirtual 100, 3) := by decide +kernel
theorem dX1_comeBack_38 : decode cX1_comeBack 38 = .ok (.iconst 0, 1) := by decide +kernel
theorem dX1_comeBack_39 : decode cX1_comeBack 39 = .ok (.istore 5, 2) := by decide +kernel
theorem dX1_comeBack_41 : decode cX1_comeBack 41 = .ok (.iload 5, 2) := by decide +kernel
theorem dX1_comeBack_43 : decode cX1_comeBack 43 = .ok (.bipush 16, 2) := by decide +kernel
theorem dX1_comeBack_45 : decode cX1_comeBack 45 = .ok (.if_icmp .ge 58, 3) := by decide +kernel
theorem dX1_comeBack_48 : decode cX1_comeBack 48 = .ok (.aload_n 0, 1) := by decide +kernel
theorem dX1_comeBack_49 : decode cX1_comeBack 49 = .ok (.getfield 9, 3) := by decide +kernel
theorem dX1_comeBack_52 : decode cX1_comeBack 52 = .ok (.iload 5, 2) := by decide +kernel
theorem dX1_comeBack_54 : decode cX1_comeBack 54 = .ok (.iaload, 1) := by decide +kernel
theorem dX1_comeBack_55 : decode cX1_comeBack 55 = .ok (.aload_n 0, 1) := by decide +kernel
theorem dX1_comeBack_56 : decode cX1_comeBack 56 = .ok (.getfield 26, 3) := by decide +kernel
theorem dX1_comeBack_59 : decode cX1_comeBack 59 = .ok (.getfield 52, 3) := by decide +kernel
theorem dX1_comeBack_62 : decode cX1_comeBack 62 = .ok (.iload 5, 2) := by decide +kernel
theorem dX1_comeBack_64 : decode cX1_comeBack 64 = .ok (.iaload, 1) := by decide +kernel
theorem dX1_comeBack_65 : decode cX1_comeBack 65 = .ok (.iadd, 1) := by decide +kernel
theorem dX1_comeBack_66 : decode cX1_comeBack 66 = .ok (.iconst 0, 1) := by decide +kernel
theorem dX1_comeBack_67 : decode cX1_comeBack 67 = .ok (.sipush 255, 3) := by decide +kernel
theorem dX1_comeBack_70 : decode cX1_comeBack 70 = .ok (.invokestatic 103, 3) := by decide +kernel
theorem dX1_comeBack_73 : decode cX1_comeBack 73 = .ok (.istore 6, 2) := by decide +kernel
theorem dX1_comeBack_75 : decode cX1_comeBack 75 = .ok (.aload_n 0, 1) := by decide +kernel
theorem dX1_comeBack_76 : decode cX1_comeBack 76 = .ok (.getfield 15, 3) := by decide +kernel
theorem dX1_comeBack_79 : decode cX1_comeBack 79 = .ok (.iload_n 3, 1) := by decide +kernel
theorem dX1_comeBack_80 : decode cX1_comeBack 80 = .ok (.iload 5, 2) := by decide +kernel
theorem dX1_comeBack_82 : decode cX1_comeBack 82 = .ok (.iconst 4, 1) := by decide +kernel
theorem dX1_comeBack_83 : decode cX1_comeBack 83 = .ok (.irem, 1) := by decide +kernel
theorem dX1_comeBack_84 : decode cX1_comeBack 84 = .ok (.iadd, 1) := by decide +kernel
theorem dX1_comeBack_85 : decode cX1_comeBack 85 = .ok (.iload 4, 2) := by decide +kernel
theorem dX1_comeBack_87 : decode cX1_comeBack 87 = .ok (.iload 5, 2) := by decide +kernel
theorem dX1_comeBack_89 : decode cX1_comeBack 89 = .ok (.iconst 4, 1) := by decide +kernel
theorem dX1_comeBack_90 : decode cX1_comeBack 90 = .ok (.idiv, 1) := by decide +kernel
theorem dX1_comeBack_91 : decode cX1_comeBack 91 = .ok (.iadd, 1) := by decide +kernel
theorem dX1_comeBack_92 : decode cX1_comeBack 92 = .ok (.iload 6, 2) := by decide +kernel
theorem dX1_comeBack_94 : decode cX1_comeBack 94 = .ok (.invokevirtual 106, 3) := by decide +kernel
theorem dX1_comeBack_97 : decode cX1_comeBack 97 = .ok (.iinc 5 1, 3) := by decide +kernel
theorem dX1_comeBack_100 : decode cX1_comeBack 100 = .ok (.goto (-59), 3) := by decide +kernel
theorem dX1_comeBack_103 : decode cX1_comeBack 103 = .ok (.return_, 1) := by decide +kernel
theorem dX2_init_0 : decode cX2_init 0 = .ok (.aload_n 0, 1) := by decide +kernel
theorem dX2_init_1 : decode cX2_init 1 = .ok (.invokespecial 3, 3) := by decide +kernel
theorem dX2_init_4 : decode cX2_init 4 = .ok (.aload_n 0, 1) := by decide +kernel
theorem dX2_init_5 : decode cX2_init 5 = .ok (.bipush 17, 2) := by decide +kernel
theorem dX2_init_7 : decode cX2_init 7 = .ok (.newarray .int, 2) := by decide +kernel
theorem dX2_init_9 : decode cX2_init 9 = .ok (.putfield 11, 3) := by decide +kernel
theorem dX2_init_12 : decode cX2_init 12 = .ok (.aload_n 0, 1) := by decide +kernel
theorem dX2_init_13 : decode cX2_init 13 = .ok (.aload_n 1, 1) := by decide +kernel
theorem dX2_init_14 : decode cX2_init 14 = .ok (.putfield 15, 3) := by decide +kernel
theorem dX2_init_17 : decode cX2_init 17 = .ok (.return_, 1) := by decide +kernel
theorem dX2_lookAround_0 : decode cX2_lookAround 0 = .ok (.aload_n 0, 1) := by decide +kernel
theorem dX2_lookAround_1 : decode cX2_lookAround 1 = .ok (.getfield 15, 3) := by decide +kernel
theorem dX2_lookAround_4 : decode cX2_lookAround 4 = .ok (.iload_n 1, 1) := by decide +kernel
theorem dX2_lookAround_5 : decode cX2_lookAround 5 = .ok (.invokevirtual 19, 3) := by decide +kernel
theorem dX2_lookAround_8 : decode cX2_lookAround 8 = .ok (.istore_n 2, 1) := by decide +kernel
theorem dX2_lookAround_9 : decode cX2_lookAround 9 = .ok (.aload_n 0, 1) := by decide +kernel
theorem dX2_lookAround_10 : decode cX2_lookAround 10 = .ok (.getfield 15, 3) := by decide +kernel
theorem dX2_lookAround_13 : decode cX2_lookAround 13 = .ok (.iload_n 1, 1) := by decide +kernel
theorem dX2_lookAround_14 : decode cX2_lookAround 14 = .ok (.invokevirtual 25, 3) := by decide +kernel
theorem dX2_lookAround_17 : decode cX2_lookAround 17 = .ok (.istore_n 3, 1) := by decide +kernel
theorem dX2_lookAround_18 : decode cX2_lookAround 18 = .ok (.aload_n 0, 1) := by decide +kernel
theorem dX2_lookAround_19 : decode cX2_lookAround 19 = .ok (.iload_n 3, 1) := by decide +kernel
theorem dX2_lookAround_20 : decode cX2_lookAround 20 = .ok (.ifCond .le 7, 3) := by decide +kernel
theorem dX2_lookAround_23 : decode cX2_lookAround 23 = .ok (.iconst 1, 1) := by decide +kernel
theorem dX2_lookAround_24 : decode cX2_lookAround 24 = .ok (.goto 4, 3) := by decide +kernel
theorem dX2_lookAround_27 : decode cX2_lookAround 27 = .ok (.iconst 0, 1) := by decide +kernel
theorem dX2_lookAround_28 : decode cX2_lookAround 28 = .ok (.putfield 28, 3) := by decide +kernel
theorem dX2_lookAround_31 : decode cX2_lookAround 31 = .ok (.aload_n 0, 1) := by decide +kernel
theorem dX2_lookAround_32 : decode cX2_lookAround 32 = .ok (.iload_n 2, 1) := by decide +kernel
theorem dX2_lookAround_33 : decode cX2_lookAround 33 = .ok (.ifCond .le 7, 3) := by decide +kernel
theorem dX2_lookAround_36 : decode cX2_lookAround 36 = .ok (.iconst 1, 1) := by decide +kernel
theorem dX2_lookAround_37 : decode cX2_lookAround 37 = .ok (.goto 4, 3) := by decide +kernel
theorem dX2_lookAround_40 : decode cX2_lookAround 40 = .ok (.iconst 0, 1) := by decide +kernel
theorem dX2_lookAround_41 : decode cX2_lookAround 41 = .ok (.putfield 32, 3) := by decide +kernel
theorem dX2_lookAround_44 : decode cX2_lookAround 44 = .ok (.aload_n 0, 1) := by decide +kernel
theorem dX2_lookAround_45 : decode cX2_lookAround 45 = .ok (.getfield 28, 3) := by decide +kernel
theorem dX2_lookAround_48 : decode cX2_lookAround 48 = .ok (.ifCond .eq 11, 3) := by decide +kernel
theorem dX2_lookAround_51 : decode cX2_lookAround 51 = .ok (.aload_n 0, 1) := by decide +kernel
theorem dX2_lookAround_52 : decode cX2_lookAround 52 = .ok (.iload_n 2, 1) := by decide +kernel
theorem dX2_lookAround_53 : decode cX2_lookAround 53 = .ok (.iload_n 3, 1) := by decide +kernel
theorem dX2_lookAround_54 : decode cX2_lookAround 54 = .ok (.iconst 1, 1) := by decide +kernel
theorem dX2_lookAround_55 : decode cX2_lookAround 55 = .ok (.isub, 1) := by decide +kernel
theorem dX2_lookAround_56 : decode cX2_lookAround 56 = .ok (.invokevirtual 35, 3) := by decide +kernel
theorem dX2_lookAround_59 : decode cX2_lookAround 59 = .ok (.aload_n 0, 1) := by decide +kernel
theorem dX2_lookAround_60 : decode cX2_lookAround 60 = .ok (.getfield 32, 3) := by decide +kernel
theorem dX2_lookAround_63 : decode cX2_lookAround 63 = .ok (.ifCond .eq 11, 3) := by decide +kernel
theorem dX2_lookAround_66 : decode cX2_lookAround 66 = .ok (.aload_n 0, 1) := by decide +kernel
theorem dX2_lookAround_67 : decode cX2_lookAround 67 = .ok (.iload_n 2, 1) := by decide +kernel
theorem dX2_lookAround_68 : decode cX2_lookAround 68 = .ok (.iconst 1, 1) := by decide +kernel
theorem dX2_lookAround_69 : decode cX2_lookAround 69 = .ok (.isub, 1) := by decide +kernel
theorem dX2_lookAround_70 : decode cX2_lookAround 70 = .ok (.iload_n 3, 1) := by decide +kernel
theorem dX2_lookAround_71 : decode cX2_lookAround 71 = .ok (.invokevirtual 39, 3) := by decide +kernel
theorem dX2_lookAround_74 : decode cX2_lookAround 74 = .ok (.aload_n 0, 1) := by decide +kernel
theorem dX2_lookAround_75 : decode cX2_lookAround 75 = .ok (.getfield 28, 3) := by decide +kernel
theorem dX2_lookAround_78 : decode cX2_lookAround 78 = .ok (.ifCond .eq 30, 3) := by decide +kernel
theorem dX2_lookAround_81 : decode cX2_lookAround 81 = .ok (.aload_n 0, 1) := by decide +kernel
theorem dX2_lookAround_82 : decode cX2_lookAround 82 = .ok (.getfield 32, 3) := by decide +kernel
theorem dX2_lookAround_85 : decode cX2_lookAround 85 = .ok (.ifCond .eq 23, 3) := by decide +kernel
theorem dX2_lookAround_88 : decode cX2_lookAround 88 = .ok (.aload_n 0, 1) := by decide +kernel
theorem dX2_lookAround_89 : decode cX2_lookAround 89 = .ok (.getfield 11, 3) := by decide +kernel
theorem dX2_lookAround_92 : decode cX2_lookAround 92 = .ok (.bipush 7, 2) := by decide +kernel
theorem dX2_lookAround_94 : decode cX2_lookAround 94 = .ok (.aload_n 0, 1) := by decide +kernel
theorem dX2_lookAround_95 : decode cX2_lookAround 95 = .ok (.getfield 15, 3) := by decide +kernel
theorem dX2_lookAround_98 : decode cX2_lookAround 98 = .ok (.iload_n 2, 1) := by decide +kernel
theorem dX2_lookAround_99 : decode cX2_lookAround 99 = .ok (.iconst 1, 1) := by decide +kernel
theorem dX2_lookAround_100 : decode cX2_lookAround 100 = .ok (.isub, 1) := by decide +kernel
theorem dX2_lookAround_101 : decode cX2_lookAround 101 = .ok (.iload_n 3, 1) := by decide +kernel
theorem dX2_lookAround_102 : decode cX2_lookAround 102 = .ok (.iconst 1, 1) := by decide +kernel
theorem dX2_lookAround_103 : decode cX2_lookAround 103 = .ok (.isub, 1) := by decide +kernel
theorem dX2_lookAround_104 : decode cX2_lookAround 104 = .ok (.invokevirtual 42, 3) := by decide +kernel
theorem dX2_lookAround_107 : decode cX2_lookAround 107 = .ok (.iastore, 1) := by decide +kernel
theorem dX2_lookAround_108 : decode cX2_lookAround 108 = .ok (.aload_n 0, 1) := by decide +kernel
theorem dX2_lookAround_109 : decode cX2_lookAround 109 = .ok (.aload_n 0, 1) := by decide +kernel
theorem dX2_lookAround_110 : decode cX2_lookAround 110 = .ok (.invokevirtual 46, 3) := by decide +kernel
theorem dX2_lookAround_113 : decode cX2_lookAround 113 = .ok (.putfield 50, 3) := by decide +kernel
theorem dX2_lookAround_116 : decode cX2_lookAround 116 = .ok (.return_, 1) := by decide +kernel
theorem dX2_lookAbove_0 : decode cX2_lookAbove 0 = .ok (.iload_n 1, 1) := by decide +kernel
theorem dX2_lookAbove_1 : decode cX2_lookAbove 1 = .ok (.iconst 4, 1) := by decide +kernel
theorem dX2_lookAbove_2 : decode cX2_lookAbove 2 = .ok (.iadd, 1) := by decide +kernel
theorem dX2_lookAbove_3 : decode cX2_lookAbove 3 = .ok (.iconst 4, 1) := by decide +kernel
theorem dX2_lookAbove_4 : decode cX2_lookAbove 4 = .ok (.aload_n 0, 1) := by decide +kernel
theorem dX2_lookAbove_5 : decode cX2_lookAbove 5 = .ok (.getfield 15, 3) := by decide +kernel
theorem dX2_lookAbove_8 : decode cX2_lookAbove 8 = .ok (.getfield 54, 3) := by decide +kernel
theorem dX2_lookAbove_11 : decode cX2_lookAbove 11 = .ok (.imul, 1) := by decide +kernel
theorem dX2_lookAbove_12 : decode cX2_lookAbove 12 = .ok (.if_icmp .ge 8, 3) := by decide +kernel
theorem dX2_lookAbove_15 : decode cX2_lookAbove 15 = .ok (.bipush 8, 2) := by decide +kernel
theorem dX2_lookAbove_17 : decode cX2_lookAbove 17 = .ok (.goto 4, 3) := by decide +kernel
theorem dX2_lookAbove_20 : decode cX2_lookAbove 20 = .ok (.iconst 4, 1) := by decide +kernel
theorem dX2_lookAbove_21 : decode cX2_lookAbove 21 = .ok (.istore_n 3, 1) := by decide +kernel
theorem dX2_lookAbove_22 : decode cX2_lookAbove 22 = .ok (.iconst 0, 1) := by decide +kernel
theorem dX2_lookAbove_23 : decode cX2_lookAbove 23 = .ok (.istore 4, 2) := by decide +kernel
theorem dX2_lookAbove_25 : decode cX2_lookAbove 25 = .ok (.iload 4, 2) := by decide +kernel
theorem dX2_lookAbove_27 : decode cX2_lookAbove 27 = .ok (.bipush 9, 2) := by decide +kernel
theorem dX2_lookAbove_29 : decode cX2_lookAbove 29 = .ok (.if_icmp .ge 50, 3) := by decide +kernel
theorem dX2_lookAbove_32 : decode cX2_lookAbove 32 = .ok (.aload_n 0, 1) := by decide +kernel
theorem dX2_lookAbove_33 : decode cX2_lookAbove 33 = .ok (.getfield 11, 3) := by decide +kernel
theorem dX2_lookAbove_36 : decode cX2_lookAbove 36 = .ok (.bipush 8, 2) := by decide +kernel
theorem dX2_lookAbove_38 : decode cX2_lookAbove 38 = .ok (.iload 4, 2) := by decide +kernel
theorem dX2_lookAbove_40 : decode cX2_lookAbove 40 = .ok (.iadd, 1) := by decide +kernel
theorem dX2_lookAbove_41 : decode cX2_lookAbove 41 = .ok (.iload 4, 2) := by decide +kernel
theorem dX2_lookAbove_43 : decode cX2_lookAbove 43 = .ok (.iload_n 3, 1) := by decide +kernel
theorem dX2_lookAbove_44 : decode cX2_lookAbove 44 = .ok (.if_icmp .ge 18, 3) := by decide +kernel
theorem dX2_lookAbove_47 : decode cX2_lookAbove 47 = .ok (.aload_n 0, 1) := by decide +kernel
theorem dX2_lookAbove_48 : decode cX2_lookAbove 48 = .ok (.getfield 15, 3) := by decide +kernel
theorem dX2_lookAbove_51 : decode cX2_lookAbove 51 = .ok (.iload_n 1, 1) := by decide +kernel
theorem dX2_lookAbove_52 : decode cX2_lookAbove 52 = .ok (.iload 4, 2) := by decide +kernel
theorem dX2_lookAbove_54 : decode cX2_lookAbove 54 = .ok (.iadd, 1) := by decide +kernel
theorem dX2_lookAbove_55 : decode cX2_lookAbove 55 = .ok (.iload_n 2, 1) := by decide +kernel
theorem dX2_lookAbove_56 : decode cX2_lookAbove 56 = .ok (.invokevirtual 42, 3) := by decide +kernel
theorem dX2_lookAbove_59 : decode cX2_lookAbove 59 = .ok (.goto 13, 3) := by decide +kernel
theorem dX2_lookAbove_62 : decode cX2_lookAbove 62 = .ok (.aload_n 0, 1) := by decide +kernel
theorem dX2_lookAbove_63 : decode cX2_lookAbove 63 = .ok (.getfield 11, 3) := by decide +kernel
theorem dX2_lookAbove_66 : decode cX2_lookAbove 66 = .ok (.bipush 7, 2) := by decide +kernel
theorem dX2_lookAbove_68 : decode cX2_lookAbove 68 = .ok (.iload 4, 2) := by decide +kernel
theorem dX2_lookAbove_70 : decode cX2_lookAbove 70 = .ok (.iadd, 1) := by decide +kernel
theorem dX2_lookAbove_71 : decode cX2_lookAbove 71 = .ok (.iaload, 1) := by decide +kernel
theorem dX2_lookAbove_72 : decode cX2_lookAbove 72 = .ok (.iastore, 1) := by decide +kernel
theorem dX2_lookAbove_73 : decode cX2_lookAbove 73 = .ok (.iinc 4 1, 3) := by decide +kernel
theorem dX2_lookAbove_76 : decode cX2_lookAbove 76 = .ok (.goto (-51), 3) := by decide +kernel
theorem dX2_lookAbove_79 : decode cX2_lookAbove 79 = .ok (.return_, 1) := by decide +kernel
theorem dX2_lookLeft_0 : decode cX2_lookLeft 0 = .ok (.iconst 0, 1) := by decide +kernel
theorem dX2_lookLeft_1 : decode cX2_lookLeft 1 = .ok (.istore_n 3, 1) := by decide +kernel
theorem dX2_lookLeft_2 : decode cX2_lookLeft 2 = .ok (.iload_n 3, 1) := by decide +kernel
theorem dX2_lookLeft_3 : decode cX2_lookLeft 3 = .ok (.bipush 7, 2) := by decide +kernel
theorem dX2_lookLeft_5 : decode cX2_lookLeft 5 = .ok (.if_icmp .ge 46, 3) := by decide +kernel
theorem dX2_lookLeft_8 : decode cX2_lookLeft 8 = .ok (.aload_n 0, 1) := by decide +kernel
theorem dX2_lookLeft_9 : decode cX2_lookLeft 9 = .ok (.getfield 11, 3) := by decide +kernel
theorem dX2_lookLeft_12 : decode cX2_lookLeft 12 = .ok (.bipush 6, 2) := by decide +kernel
theorem dX2_lookLeft_14 : decode cX2_lookLeft 14 = .ok (.iload_n 3, 1) := by decide +kernel
theorem dX2_lookLeft_15 : decode cX2_lookLeft 15 = .ok (.isub, 1) := by decide +kernel
theorem dX2_lookLeft_16 : decode cX2_lookLeft 16 = .ok (.iload_n 3, 1) := by decide +kernel
theorem dX2_lookLeft_17 : decode cX2_lookLeft 17 = .ok (.iconst 4, 1) := by decide +kernel
theorem dX2_lookLeft_18 : decode cX2_lookLeft 18 = .ok (.if_icmp .ge 17, 3) := by decide +kernel
theorem dX2_lookLeft_21 : decode cX2_lookLeft 21 = .ok (.aload_n 0, 1) := by decide +kernel
theorem dX2_lookLeft_22 : decode cX2_lookLeft 22 = .ok (.getfield 15, 3) := by decide +kernel
theorem dX2_lookLeft_25 : decode cX2_lookLeft 25 = .ok (.iload_n 1, 1) := by decide +kernel
theorem dX2_lookLeft_26 : decode cX2_lookLeft 26 = .ok (.iload_n 2, 1) := by decide +kernel
theorem dX2_lookLeft_27 : decode cX2_lookLeft 27 = .ok (.iload_n 3, 1) := by decide +kernel
theorem dX2_lookLeft_28 : decode cX2_lookLeft 28 = .ok (.iadd, 1) := by decide +kernel
theorem dX2_lookLeft_29 : decode cX2_lookLeft 29 = .ok (.invokevirtual 42, 3) := by decide +kernel
theorem dX2_lookLeft_32 : decode cX2_lookLeft 32 = .ok (.goto 12, 3) := by decide +kernel
theorem dX2_lookLeft_35 : decode cX2_lookLeft 35 = .ok (.aload_n 0, 1) := by decide +kernel
theorem dX2_lookLeft_36 : decode cX2_lookLeft 36 = .ok (.getfield 11, 3) := by decide +kernel
theorem dX2_lookLeft_39 : decode cX2_lookLeft 39 = .ok (.bipush 7, 2) := by decide +kernel
theorem dX2_lookLeft_41 : decode cX2_lookLeft 41 = .ok (.iload_n 3, 1) := by decide +kernel
theorem dX2_lookLeft_42 : decode cX2_lookLeft 42 = .ok (.isub, 1) := by decide +kernel
theorem dX2_lookLeft_43 : decode cX2_lookLeft 43 = .ok (.iaload, 1) := by decide +kernel
theorem dX2_lookLeft_44 : decode cX2_lookLeft 44 = .ok (.iastore, 1) := by decide +kernel
theorem dX2_lookLeft_45 : decode cX2_lookLeft 45 = .ok (.iinc 3 1, 3) := by decide +kernel
theorem dX2_lookLeft_48 : decode cX2_lookLeft 48 = .ok (.goto (-46), 3) := by decide +kernel
theorem dX2_lookLeft_51 : decode cX2_lookLeft 51 = .ok (.return_, 1) := by decide +kernel
theorem dX2_meanOfSides_0 : decode cX2_meanOfSides 0 = .ok (.aload_n 0, 1) := by decide +kernel
theorem dX2_meanOfSides_1 : decode cX2_meanOfSides 1 = .ok (.getfield 28, 3) := by decide +kernel
theorem dX2_meanOfSides_4 : decode cX2_meanOfSides 4 = .ok (.ifCond .eq 27, 3) := by decide +kernel
theorem dX2_meanOfSides_7 : decode cX2_meanOfSides 7 = .ok (.aload_n 0, 1) := by decide +kernel
theorem dX2_meanOfSides_8 : decode cX2_meanOfSides 8 = .ok (.getfield 32, 3) := by decide +kernel
theorem dX2_meanOfSides_11 : decode cX2_meanOfSides 11 = .ok (.ifCond .eq 20, 3) := by decide +kernel
theorem dX2_meanOfSides_14 : decode cX2_meanOfSides 14 = .ok (.aload_n 0, 1) := by decide +kernel
theorem dX2_meanOfSides_15 : decode cX2_meanOfSides 15 = .ok (.iconst 1, 1) := by decide +kernel
theorem dX2_meanOfSides_16 : decode cX2_meanOfSides 16 = .ok (.invokevirtual 57, 3) := by decide +kernel
theorem dX2_meanOfSides_19 : decode cX2_meanOfSides 19 = .ok (.aload_n 0, 1) := by decide +kernel
theorem dX2_meanOfSides_20 : decode cX2_meanOfSides 20 = .ok (.iconst (-1), 1) := by decide +kernel
theorem dX2_meanOfSides_21 : decode cX2_meanOfSides 21 = .ok (.invokevirtual 57, 3) := by decide +kernel
theorem dX2_meanOfSides_24 : decode cX2_meanOfSides 24 = .ok (.iadd, 1) := by decide +kernel
theorem dX2_meanOfSides_25 : decode cX2_meanOfSides 25 = .ok (.iconst 4, 1) := by decide +kernel
theorem dX2_meanOfSides_26 : decode cX2_meanOfSides 26 = .ok (.iadd, 1) := by decide +kernel
theorem dX2_meanOfSides_27 : decode cX2_meanOfSides 27 = .ok (.bipush 8, 2) := by decide +kernel
theorem dX2_meanOfSides_29 : decode cX2_meanOfSides 29 = .ok (.idiv, 1) := by decide +kernel
theorem dX2_meanOfSides_30 : decode cX2_meanOfSides 30 = .ok (.ireturn, 1) := by decide +kernel
theorem dX2_meanOfSides_31 : decode cX2_meanOfSides 31 = .ok (.aload_n 0, 1) := by decide +kernel
theorem dX2_meanOfSides_32 : decode cX2_meanOfSides 32 = .ok (.getfield 28, 3) := by decide +kernel
theorem dX2_meanOfSides_35 : decode cX2_meanOfSides 35 = .ok (.ifCond .ne 10, 3) := by decide +kernel
theorem dX2_meanOfSides_38 : decode cX2_meanOfSides 38 = .ok (.aload_n 0, 1) := by decide +kernel
theorem dX2_meanOfSides_39 : decode cX2_meanOfSides 39 = .ok (.getfield 32, 3) := by decide +kernel
theorem dX2_meanOfSides_42 : decode cX2_meanOfSides 42 = .ok (.ifCond .eq 24, 3) := by decide +kernel
theorem dX2_meanOfSides_45 : decode cX2_meanOfSides 45 = .ok (.aload_n 0, 1) := by decide +kernel
theorem dX2_meanOfSides_46 : decode cX2_meanOfSides 46 = .ok (.aload_n 0, 1) := by decide +kernel
theorem dX2_meanOfSides_47 : decode cX2_meanOfSides 47 = .ok (.getfield 28, 3) := by decide +kernel
theorem dX2_meanOfSides_50 : decode cX2_meanOfSides 50 = .ok (.ifCond .eq 7, 3) := by decide +kernel
theorem dX2_meanOfSides_53 : decode cX2_meanOfSides 53 = .ok (.iconst 1, 1) := by decide +kernel
theorem dX2_meanOfSides_54 : decode cX2_meanOfSides 54 = .ok (.goto 4, 3) := by decide +kernel
theorem dX2_meanOfSides_57 : decode cX2_meanOfSides 57 = .ok (.iconst (-1), 1) := by decide +kernel
theorem dX2_meanOfSides_58 : decode cX2_meanOfSides 58 = .ok (.invokevirtual 57, 3) := by decide +kernel
theorem dX2_meanOfSides_61 : decode cX2_meanOfSides 61 = .ok (.iconst 2, 1) := by decide +kernel
theorem dX2_meanOfSides_62 : decode cX2_meanOfSides 62 = .ok (.iadd, 1) := by decide +kernel
theorem dX2_meanOfSides_63 : decode cX2_meanOfSides 63 = .ok (.iconst 4, 1) := by decide +kernel
theorem dX2_meanOfSides_64 : decode cX2_meanOfSides 64 = .ok (.idiv, 1) := by decide +kernel
theorem dX2_meanOfSides_65 : decode cX2_meanOfSides 65 = .ok (.ireturn, 1) := by decide +kernel
theorem dX2_meanOfSides_66 : decode cX2_meanOfSides 66 = .ok (.sipush 128, 3) := by decide +kernel
theorem dX2_meanOfSides_69 : decode cX2_meanOfSides 69 = .ok (.ireturn, 1) := by decide +kernel
theorem dX2_sumOfSide_0 : decode cX2_sumOfSide 0 = .ok (.iconst 0, 1) := by decide +kernel
theorem dX2_sumOfSide_1 : decode cX2_sumOfSide 1 = .ok (.istore_n 2, 1) := by decide +kernel
theorem dX2_sumOfSide_2 : decode cX2_sumOfSide 2 = .ok (.iconst 1, 1) := by decide +kernel
theorem dX2_sumOfSide_3 : decode cX2_sumOfSide 3 = .ok (.istore_n 3, 1) := by decide +kernel
theorem dX2_sumOfSide_4 : decode cX2_sumOfSide 4 = .ok (.iload_n 3, 1) := by decide +kernel
theorem dX2_sumOfSide_5 : decode cX2_sumOfSide 5 = .ok (.iconst 4, 1) := by decide +kernel
theorem dX2_sumOfSide_6 : decode cX2_sumOfSide 6 = .ok (.if_icmp .gt 23, 3) := by decide +kernel
theorem dX2_sumOfSide_9 : decode cX2_sumOfSide 9 = .ok (.iload_n 2, 1) := by decide +kernel
theorem dX2_sumOfSide_10 : decode cX2_sumOfSide 10 = .ok (.aload_n 0, 1) := by decide +kernel
theorem dX2_sumOfSide_11 : decode cX2_sumOfSide 11 = .ok (.getfield 11, 3) := by decide +kernel
theorem dX2_sumOfSide_14 : decode cX2_sumOfSide 14 = .ok (.bipush 7, 2) := by decide +kernel
theorem dX2_sumOfSide_16 : decode cX2_sumOfSide 16 = .ok (.iload_n 1, 1) := by decide +kernel
theorem dX2_sumOfSide_17 : decode cX2_sumOfSide 17 = .ok (.iload_n 3, 1) := by decide +kernel
theorem dX2_sumOfSide_18 : decode cX2_sumOfSide 18 = .ok (.imul, 1) := by decide +kernel
theorem dX2_sumOfSide_19 : decode cX2_sumOfSide 19 = .ok (.iadd, 1) := by decide +kernel
theorem dX2_sumOfSide_20 : decode cX2_sumOfSide 20 = .ok (.iaload, 1) := by decide +kernel
theorem dX2_sumOfSide_21 : decode cX2_sumOfSide 21 = .ok (.iadd, 1) := by decide +kernel
theorem dX2_sumOfSide_22 : decode cX2_sumOfSide 22 = .ok (.istore_n 2, 1) := by decide +kernel
theorem dX2_sumOfSide_23 : decode cX2_sumOfSide 23 = .ok (.iinc 3 1, 3) := by decide +kernel
theorem dX2_sumOfSide_26 : decode cX2_sumOfSide 26 = .ok (.goto (-22), 3) := by decide +kernel
theorem dX2_sumOfSide_29 : decode cX2_sumOfSide 29 = .ok (.iload_n 2, 1) := by decide +kernel
theorem dX2_sumOfSide_30 : decode cX2_sumOfSide 30 = .ok (.ireturn, 1) := by decide +kernel
theorem dX2_mayUse_0 : decode cX2_mayUse 0 = .ok (.iload_n 1, 1) := by decide +kernel
theorem dX2_mayUse_1 : decode cX2_mayUse 1 = .ok (.aload_n 0, 1) := by decide +kernel
theorem dX2_mayUse_2 : decode cX2_mayUse 2 = .ok (.getfield 28, 3) := by decide +kernel
theorem dX2_mayUse_5 : decode cX2_mayUse 5 = .ok (.aload_n 0, 1) := by decide +kernel
theorem dX2_mayUse_6 : decode cX2_mayUse 6 = .ok (.getfield 32, 3) := by decide +kernel
theorem dX2_mayUse_9 : decode cX2_mayUse 9 = .ok (.invokestatic 60, 3) := by decide +kernel
theorem dX2_mayUse_12 : decode cX2_mayUse 12 = .ok (.ireturn, 1) := by decide +kernel
theorem dX2_guess_0 : decode cX2_guess 0 = .ok (.iload_n 1, 1) := by decide +kernel
theorem dX2_guess_1 : decode cX2_guess 1 = .ok (.tableswitch 114 0 7 #[47, 57, 67, 72, 82, 90, 98, 106], 47) := by decide +kernel
theorem dX2_guess_48 : decode cX2_guess 48 = .ok (.aload_n 0, 1) := by decide +kernel
theorem dX2_guess_49 : decode cX2_guess 49 = .ok (.getfield 11, 3) := by decide +kernel
theorem dX2_guess_52 : decode cX2_guess 52 = .ok (.bipush 8, 2) := by decide +kernel
theorem dX2_guess_54 : decode cX2_guess 54 = .ok (.iload_n 2, 1) := by decide +kernel
theorem dX2_guess_55 : decode cX2_guess 55 = .ok (.iadd, 1) := by decide +kernel
theorem dX2_guess_56 : decode cX2_guess 56 = .ok (.iaload, 1) := by decide +kernel
theorem dX2_guess_57 : decode cX2_guess 57 = .ok (.ireturn, 1) := by decide +kernel
theorem dX2_guess_58 : decode cX2_guess 58 = .ok (.aload_n 0, 1) := by decide +kernel
theorem dX2_guess_59 : decode cX2_guess 59 = .ok (.getfield 11, 3) := by decide +kernel
theorem dX2_guess_62 : decode cX2_guess 62 = .ok (.bipush 6, 2) := by decide +kernel
theorem dX2_guess_64 : decode cX2_guess 64 = .ok (.iload_n 3, 1) := by decide +kernel
theorem dX2_guess_65 : decode cX2_guess 65 = .ok (.isub, 1) := by decide +kernel
theorem dX2_guess_66 : decode cX2_guess 66 = .ok (.iaload, 1) := by decide +kernel
theorem dX2_guess_67 : decode cX2_guess 67 = .ok (.ireturn, 1) := by decide +kernel
theorem dX2_guess_68 : decode cX2_guess 68 = .ok (.aload_n 0, 1) := by decide +kernel
theorem dX2_guess_69 : decode cX2_guess 69 = .ok (.getfield 50, 3) := by decide +kernel
theorem dX2_guess_72 : decode cX2_guess 72 = .ok (.ireturn, 1) := by decide +kernel
theorem dX2_guess_73 : decode cX2_guess 73 = .ok (.aload_n 0, 1) := by decide +kernel
theorem dX2_guess_74 : decode cX2_guess 74 = .ok (.iload_n 2, 1) := by decide +kernel
theorem dX2_guess_75 : decode cX2_guess 75 = .ok (.iload_n 3, 1) := by decide +kernel
theorem dX2_guess_76 : decode cX2_guess 76 = .ok (.iadd, 1) := by decide +kernel
theorem dX2_guess_77 : decode cX2_guess 77 = .ok (.iconst 2, 1) := by decide +kernel
theorem dX2_guess_78 : decode cX2_guess 78 = .ok (.iadd, 1) := by decide +kernel
theorem dX2_guess_79 : decode cX2_guess 79 = .ok (.invokevirtual 64, 3) := by decide +kernel
theorem dX2_guess_82 : decode cX2_guess 82 = .ok (.ireturn, 1) := by decide +kernel
theorem dX2_guess_83 : decode cX2_guess 83 = .ok (.aload_n 0, 1) := by decide +kernel
theorem dX2_guess_84 : decode cX2_guess 84 = .ok (.iload_n 2, 1) := by decide +kernel
theorem dX2_guess_85 : decode cX2_guess 85 = .ok (.iload_n 3, 1) := by decide +kernel
theorem dX2_guess_86 : decode cX2_guess 86 = .ok (.isub, 1) := by decide +kernel
theorem dX2_guess_87 : decode cX2_guess 87 = .ok (.invokevirtual 64, 3) := by decide +kernel
theorem dX2_guess_90 : decode cX2_guess 90 = .ok (.ireturn, 1) := by decide +kernel
theorem dX2_guess_91 : decode cX2_guess 91 = .ok (.aload_n 0, 1) := by decide +kernel
theorem dX2_guess_92 : decode cX2_guess 92 = .ok (.iload_n 2, 1) := by decide +kernel
theorem dX2_guess_93 : decode cX2_guess 93 = .ok (.iload_n 3, 1) := by decide +kernel
theorem dX2_guess_94 : decode cX2_guess 94 = .ok (.iconst 1, 1) := by decide +kernel
theorem dX2_guess_95 : decode cX2_guess 95 = .ok (.invokevirtual 67, 3) := by decide +kernel
theorem dX2_guess_98 : decode cX2_guess 98 = .ok (.ireturn, 1) := by decide +kernel
theorem dX2_guess_99 : decode cX2_guess 99 = .ok (.aload_n 0, 1) := by decide +kernel
theorem dX2_guess_100 : decode cX2_guess 100 = .ok (.iload_n 3, 1) := by decide +kernel
theorem dX2_guess_101 : decode cX2_guess 101 = .ok (.iload_n 2, 1) := by decide +kernel
theorem dX2_guess_102 : decode cX2_guess 102 = .ok (.iconst (-1), 1) := by decide +kernel
theorem dX2_guess_103 : decode cX2_guess 103 = .ok (.invokevirtual 67, 3) := by decide +kernel
theorem dX2_guess_106 : decode cX2_guess 106 = .ok (.ireturn, 1) := by decide +kernel
theorem dX2_guess_107 : decode cX2_guess 107 = .ok (.aload_n 0, 1) := by decide +kernel
theorem dX2_guess_108 : decode cX2_guess 108 = .ok (.iload_n 2, 1) := by decide +kernel
theorem dX2_guess_109 : decode cX2_guess 109 = .ok (.iload_n 3, 1) := by decide +kernel
theorem dX2_guess_110 : decode cX2_guess 110 = .ok (.iconst 1, 1) := by decide +kernel
theorem dX2_guess_111 : decode cX2_guess 111 = .ok (.invokevirtual 71, 3) := by decide +kernel
theorem dX2_guess_114 : decode cX2_guess 114 = .ok (.ireturn, 1) := by decide +kernel
theorem dX2_guess_115 : decode cX2_guess 115 = .ok (.aload_n 0, 1) := by decide +kernel
theorem dX2_guess_116 : decode cX2_guess 116 = .ok (.iload_n 3, 1) := by decide +kernel
theorem dX2_guess_117 : decode cX2_guess 117 = .ok (.iload_n 2, 1) := by decide +kernel
theorem dX2_guess_118 : decode cX2_guess 118 = .ok (.iconst (-1), 1) := by decide +kernel
theorem dX2_guess_119 : decode cX2_guess 119 = .ok (.invokevirtual 71, 3) := by decide +kernel
theorem dX2_guess_122 : decode cX2_guess 122 = .ok (.ireturn, 1) := by decide +kernel
theorem dX2_steep_0 : decode cX2_steep 0 = .ok (.iconst 2, 1) := by decide +kernel
theorem dX2_steep_1 : decode cX2_steep 1 = .ok (.iload_n 1, 1) := by decide +kernel
theorem dX2_steep_2 : decode cX2_steep 2 = .ok (.imul, 1) := by decide +kernel
theorem dX2_steep_3 : decode cX2_steep 3 = .ok (.iload_n 2, 1) := by decide +kernel
theorem dX2_steep_4 : decode cX2_steep 4 = .ok (.isub, 1) := by decide +kernel
theorem dX2_steep_5 : decode cX2_steep 5 = .ok (.istore 4, 2) := by decide +kernel
theorem dX2_steep_7 : decode cX2_steep 7 = .ok (.iload_n 1, 1) := by decide +kernel
theorem dX2_steep_8 : decode cX2_steep 8 = .ok (.iload_n 2, 1) := by decide +kernel
theorem dX2_steep_9 : decode cX2_steep 9 = .ok (.iconst 2, 1) := by decide +kernel
theorem dX2_steep_10 : decode cX2_steep 10 = .ok (.idiv, 1) := by decide +kernel
theorem dX2_steep_11 : decode cX2_steep 11 = .ok (.isub, 1) := by decide +kernel
theorem dX2_steep_12 : decode cX2_steep 12 = .ok (.istore 5, 2) := by decide +kernel
theorem dX2_steep_14 : decode cX2_steep 14 = .ok (.iload 4, 2) := by decide +kernel
theorem dX2_steep_16 : decode cX2_steep 16 = .ok (.iconst (-1), 1) := by decide +kernel
theorem dX2_steep_17 : decode cX2_steep 17 = .ok (.if_icmp .ge 13, 3) := by decide +kernel
theorem dX2_steep_20 : decode cX2_steep 20 = .ok (.aload_n 0, 1) := by decide +kernel
theorem dX2_steep_21 : decode cX2_steep 21 = .ok (.iload_n 3, 1) := by decide +kernel
theorem dX2_steep_22 : decode cX2_steep 22 = .ok (.iconst 1, 1) := by decide +kernel
theorem dX2_steep_23 : decode cX2_steep 23 = .ok (.iload_n 2, 1) := by decide +kernel
theorem dX2_steep_24 : decode cX2_steep 24 = .ok (.isub, 1) := by decide +kernel
theorem dX2_steep_25 : decode cX2_steep 25 = .ok (.imul, 1) := by decide +kernel
theorem dX2_steep_26 : decode cX2_steep 26 = .ok (.invokevirtual 64, 3) := by decide +kernel
theorem dX2_steep_29 : decode cX2_steep 29 = .ok (.ireturn, 1) := by decide +kernel
theorem dX2_steep_30 : decode cX2_steep 30 = .ok (.iload 4, 2) := by decide +kernel
theorem dX2_steep_32 : decode cX2_steep 32 = .ok (.iconst 2, 1) := by decide +kernel
theorem dX2_steep_33 : decode cX2_steep 33 = .ok (.irem, 1) := by decide +kernel
theorem dX2_steep_34 : decode cX2_steep 34 = .ok (.ifCond .ne 20, 3) := by decide +kernel
theorem dX2_steep_37 : decode cX2_steep 37 = .ok (.aload_n 0, 1) := by decide +kernel
theorem dX2_steep_38 : decode cX2_steep 38 = .ok (.iload_n 3, 1) := by decide +kernel
theorem dX2_steep_39 : decode cX2_steep 39 = .ok (.iload 5, 2) := by decide +kernel
theorem dX2_steep_41 : decode cX2_steep 41 = .ok (.imul, 1) := by decide +kernel
theorem dX2_steep_42 : decode cX2_steep 42 = .ok (.iload_n 3, 1) := by decide +kernel
theorem dX2_steep_43 : decode cX2_steep 43 = .ok (.iload 5, 2) := by decide +kernel
theorem dX2_steep_45 : decode cX2_steep 45 = .ok (.iconst 1, 1) := by decide +kernel
theorem dX2_steep_46 : decode cX2_steep 46 = .ok (.iadd, 1) := by decide +kernel
theorem dX2_steep_47 : decode cX2_steep 47 = .ok (.imul, 1) := by decide +kernel
theorem dX2_steep_48 : decode cX2_steep 48 = .ok (.invokevirtual 74, 3) := by decide +kernel
theorem dX2_steep_51 : decode cX2_steep 51 = .ok (.goto 11, 3) := by decide +kernel
theorem dX2_steep_54 : decode cX2_steep 54 = .ok (.aload_n 0, 1) := by decide +kernel
theorem dX2_steep_55 : decode cX2_steep 55 = .ok (.iload_n 3, 1) := by decide +kernel
theorem dX2_steep_56 : decode cX2_steep 56 = .ok (.iload 5, 2) := by decide +kernel
theorem dX2_steep_58 : decode cX2_steep 58 = .ok (.imul, 1) := by decide +kernel
theorem dX2_steep_59 : decode cX2_steep 59 = .ok (.invokevirtual 64, 3) := by decide +kernel
theorem dX2_steep_62 : decode cX2_steep 62 = .ok (.ireturn, 1) := by decide +kernel
theorem dX2_leaning_0 : decode cX2_leaning 0 = .ok (.iload_n 1, 1) := by decide +kernel
theorem dX2_leaning_1 : decode cX2_leaning 1 = .ok (.iload_n 2, 1) := by decide +kernel
theorem dX2_leaning_2 : decode cX2_leaning 2 = .ok (.iconst 2, 1) := by decide +kernel
theorem dX2_leaning_3 : decode cX2_leaning 3 = .ok (.idiv, 1) := by decide +kernel
theorem dX2_leaning_4 : decode cX2_leaning 4 = .ok (.iadd, 1) := by decide +kernel
theorem dX2_leaning_5 : decode cX2_leaning 5 = .ok (.istore 4, 2) := by decide +kernel
theorem dX2_leaning_7 : decode cX2_leaning 7 = .ok (.iload_n 2, 1) := by decide +kernel
theorem dX2_leaning_8 : decode cX2_leaning 8 = .ok (.iconst 2, 1) := by decide +kernel
theorem dX2_leaning_9 : decode cX2_leaning 9 = .ok (.irem, 1) := by decide +kernel
theorem dX2_leaning_10 : decode cX2_leaning 10 = .ok (.ifCond .ne 22, 3) := by decide +kernel
theorem dX2_leaning_13 : decode cX2_leaning 13 = .ok (.aload_n 0, 1) := by decide +kernel
theorem dX2_leaning_14 : decode cX2_leaning 14 = .ok (.iload_n 3, 1) := by decide +kernel
theorem dX2_leaning_15 : decode cX2_leaning 15 = .ok (.iload 4, 2) := by decide +kernel
theorem dX2_leaning_17 : decode cX2_leaning 17 = .ok (.iconst 1, 1) := by decide +kernel
theorem dX2_leaning_18 : decode cX2_leaning 18 = .ok (.iadd, 1) := by decide +kernel
theorem dX2_leaning_19 : decode cX2_leaning 19 = .ok (.imul, 1) := by decide +kernel
theorem dX2_leaning_20 : decode cX2_leaning 20 = .ok (.iload_n 3, 1) := by decide +kernel
theorem dX2_leaning_21 : decode cX2_leaning 21 = .ok (.iload 4, 2) := by decide +kernel
theorem dX2_leaning_23 : decode cX2_leaning 23 = .ok (.iconst 2, 1) := by decide +kernel
theorem dX2_leaning_24 : decode cX2_leaning 24 = .ok (.iadd, 1) := by decide +kernel
theorem dX2_leaning_25 : decode cX2_leaning 25 = .ok (.imul, 1) := by decide +kernel
theorem dX2_leaning_26 : decode cX2_leaning 26 = .ok (.invokevirtual 74, 3) := by decide +kernel
theorem dX2_leaning_29 : decode cX2_leaning 29 = .ok (.goto 13, 3) := by decide +kernel
theorem dX2_leaning_32 : decode cX2_leaning 32 = .ok (.aload_n 0, 1) := by decide +kernel
theorem dX2_leaning_33 : decode cX2_leaning 33 = .ok (.iload_n 3, 1) := by decide +kernel
theorem dX2_leaning_34 : decode cX2_leaning 34 = .ok (.iload 4, 2) := by decide +kernel
theorem dX2_leaning_36 : decode cX2_leaning 36 = .ok (.iconst 2, 1) := by decide +kernel
theorem dX2_leaning_37 : decode cX2_leaning 37 = .ok (.iadd, 1) := by decide +kernel
theorem dX2_leaning_38 : decode cX2_leaning 38 = .ok (.imul, 1) := by decide +kernel
theorem dX2_leaning_39 : decode cX2_leaning 39 = .ok (.invokevirtual 64, 3) := by decide +kernel
theorem dX2_leaning_42 : decode cX2_leaning 42 = .ok (.ireturn, 1) := by decide +kernel
theorem dX2_two_0 : decode cX2_two 0 = .ok (.aload_n 0, 1) := by decide +kernel
theorem dX2_two_1 : decode cX2_two 1 = .ok (.getfield 11, 3) := by decide +kernel
theorem dX2_two_4 : decode cX2_two 4 = .ok (.bipush 7, 2) := by decide +kernel
theorem dX2_two_6 : decode cX2_two 6 = .ok (.iload_n 1, 1) := by decide +kernel
theorem dX2_two_7 : decode cX2_two 7 = .ok (.iadd, 1) := by decide +kernel
theorem dX2_two_8 : decode cX2_two 8 = .ok (.iaload, 1) := by decide +kernel
theorem dX2_two_9 : decode cX2_two 9 = .ok (.aload_n 0, 1) := by decide +kernel
theorem dX2_two_10 : decode cX2_two 10 = .ok (.getfield 11, 3) := by decide +kernel
theorem dX2_two_13 : decode cX2_two 13 = .ok (.bipush 7, 2) := by decide +kernel
theorem dX2_two_15 : decode cX2_two 15 = .ok (.iload_n 2, 1) := by decide +kernel
theorem dX2_two_16 : decode cX2_two 16 = .ok (.iadd, 1) := by decide +kernel
theorem dX2_two_17 : decode cX2_two 17 = .ok (.iaload, 1) := by decide +kernel
theorem dX2_two_18 : decode cX2_two 18 = .ok (.iadd, 1) := by decide +kernel
theorem dX2_two_19 : decode cX2_two 19 = .ok (.iconst 1, 1) := by decide +kernel
theorem dX2_two_20 : decode cX2_two 20 = .ok (.iadd, 1) := by decide +kernel
theorem dX2_two_21 : decode cX2_two 21 = .ok (.iconst 2, 1) := by decide +kernel
theorem dX2_two_22 : decode cX2_two 22 = .ok (.idiv, 1) := by decide +kernel
theorem dX2_two_23 : decode cX2_two 23 = .ok (.ireturn, 1) := by decide +kernel
theorem dX2_three_0 : decode cX2_three 0 = .ok (.bipush 7, 2) := by decide +kernel
theorem dX2_three_2 : decode cX2_three 2 = .ok (.iload_n 1, 1) := by decide +kernel
theorem dX2_three_3 : decode cX2_three 3 = .ok (.iadd, 1) := by decide +kernel
theorem dX2_three_4 : decode cX2_three 4 = .ok (.istore_n 2, 1) := by decide +kernel
theorem dX2_three_5 : decode cX2_three 5 = .ok (.aload_n 0, 1) := by decide +kernel
theorem dX2_three_6 : decode cX2_three 6 = .ok (.getfield 11, 3) := by decide +kernel
theorem dX2_three_9 : decode cX2_three 9 = .ok (.iload_n 2, 1) := by decide +kernel
theorem dX2_three_10 : decode cX2_three 10 = .ok (.iconst 1, 1) := by decide +kernel
theorem dX2_three_11 : decode cX2_three 11 = .ok (.isub, 1) := by decide +kernel
theorem dX2_three_12 : decode cX2_three 12 = .ok (.iaload, 1) := by decide +kernel
theorem dX2_three_13 : decode cX2_three 13 = .ok (.iconst 2, 1) := by decide +kernel
theorem dX2_three_14 : decode cX2_three 14 = .ok (.aload_n 0, 1) := by decide +kernel
theorem dX2_three_15 : decode cX2_three 15 = .ok (.getfield 11, 3) := by decide +kernel
theorem dX2_three_18 : decode cX2_three 18 = .ok (.iload_n 2, 1) := by decide +kernel
theorem dX2_three_19 : decode cX2_three 19 = .ok (.iaload, 1) := by decide +kernel
theorem dX2_three_20 : decode cX2_three 20 = .ok (.imul, 1) := by decide +kernel
theorem dX2_three_21 : decode cX2_three 21 = .ok (.iadd, 1) := by decide +kernel
theorem dX2_three_22 : decode cX2_three 22 = .ok (.aload_n 0, 1) := by decide +kernel
theorem dX2_three_23 : decode cX2_three 23 = .ok (.getfield 11, 3) := by decide +kernel
theorem dX2_three_26 : decode cX2_three 26 = .ok (.iload_n 2, 1) := by decide +kernel
theorem dX2_three_27 : decode cX2_three 27 = .ok (.iconst 1, 1) := by decide +kernel
theorem dX2_three_28 : decode cX2_three 28 = .ok (.iadd, 1) := by decide +kernel
theorem dX2_three_29 : decode cX2_three 29 = .ok (.iaload, 1) := by decide +kernel
theorem dX2_three_30 : decode cX2_three 30 = .ok (.iadd, 1) := by decide +kernel
theorem dX2_three_31 : decode cX2_three 31 = .ok (.iconst 2, 1) := by decide +kernel
theorem dX2_three_32 : decode cX2_three 32 = .ok (.iadd, 1) := by decide +kernel
theorem dX2_three_33 : decode cX2_three 33 = .ok (.iconst 4, 1) := by decide +kernel
theorem dX2_three_34 : decode cX2_three 34 = .ok (.idiv, 1) := by decide +kernel
theorem dX2_three_35 : decode cX2_three 35 = .ok (.ireturn, 1) := by decide +kernel
theorem dX3_init_0 : decode cX3_init 0 = .ok (.aload_n 0, 1) := by decide +kernel
theorem dX3_init_1 : decode cX3_init 1 = .ok (.invokespecial 3, 3) := by decide +kernel
theorem dX3_init_4 : decode cX3_init 4 = .ok (.aload_n 0, 1) := by decide +kernel
theorem dX3_init_5 : decode cX3_init 5 = .ok (.sipush 1024, 3) := by decide +kernel
theorem dX3_init_8 : decode cX3_init 8 = .ok (.newarray .int, 2) := by decide +kernel
theorem dX3_init_10 : decode cX3_init 10 = .ok (.putfield 11, 3) := by decide +kernel
theorem dX3_init_13 : decode cX3_init 13 = .ok (.aload_n 0, 1) := by decide +kernel
theorem dX3_init_14 : decode cX3_init 14 = .ok (.iconst 1, 1) := by decide +kernel
theorem dX3_init_15 : decode cX3_init 15 = .ok (.putfield 15, 3) := by decide +kernel
theorem dX3_init_18 : decode cX3_init 18 = .ok (.aload_n 0, 1) := by decide +kernel
theorem dX3_init_19 : decode cX3_init 19 = .ok (.iconst 1, 1) := by decide +kernel
theorem dX3_init_20 : decode cX3_init 20 = .ok (.putfield 19, 3) := by decide +kernel
theorem dX3_init_23 : decode cX3_init 23 = .ok (.return_, 1) := by decide +kernel
theorem dX3_clear_0 : decode cX3_clear 0 = .ok (.aload_n 0, 1) := by decide +kernel
theorem dX3_clear_1 : decode cX3_clear 1 = .ok (.iload_n 1, 1) := by decide +kernel
theorem dX3_clear_2 : decode cX3_clear 2 = .ok (.putfield 15, 3) := by decide +kernel
theorem dX3_clear_5 : decode cX3_clear 5 = .ok (.aload_n 0, 1) := by decide +kernel
theorem dX3_clear_6 : decode cX3_clear 6 = .ok (.iload_n 2, 1) := by decide +kernel
theorem dX3_clear_7 : decode cX3_clear 7 = .ok (.putfield 19, 3) := by decide +kernel
theorem dX3_clear_10 : decode cX3_clear 10 = .ok (.iconst 0, 1) := by decide +kernel
theorem dX3_clear_11 : decode cX3_clear 11 = .ok (.istore_n 3, 1) := by decide +kernel
theorem dX3_clear_12 : decode cX3_clear 12 = .ok (.iload_n 3, 1) := by decide +kernel
theorem dX3_clear_13 : decode cX3_clear 13 = .ok (.aload_n 0, 1) := by decide +kernel
theorem dX3_clear_14 : decode cX3_clear 14 = .ok (.getfield 11, 3) := by decide +kernel
theorem dX3_clear_17 : decode cX3_clear 17 = .ok (.arraylength, 1) := by decide +kernel
theorem dX3_clear_18 : decode cX3_clear 18 = .ok (.if_icmp .ge 16, 3) := by decide +kernel
theorem dX3_clear_21 : decode cX3_clear 21 = .ok (.aload_n 0, 1) := by decide +kernel
theorem dX3_clear_22 : decode cX3_clear 22 = .ok (.getfield 11, 3) := by decide +kernel
theorem dX3_clear_25 : decode cX3_clear 25 = .ok (.iload_n 3, 1) := by decide +kernel
theorem dX3_clear_26 : decode cX3_clear 26 = .ok (.iconst 0, 1) := by decide +kernel
theorem dX3_clear_27 : decode cX3_clear 27 = .ok (.iastore, 1) := by decide +kernel
theorem dX3_clear_28 : decode cX3_clear 28 = .ok (.iinc 3 1, 3) := by decide +kernel
theorem dX3_clear_31 : decode cX3_clear 31 = .ok (.goto (-19), 3) := by decide +kernel
theorem dX3_clear_34 : decode cX3_clear 34 = .ok (.return_, 1) := by decide +kernel
theorem dX3_blocks_0 : decode cX3_blocks 0 = .ok (.aload_n 0, 1) := by decide +kernel
theorem dX3_blocks_1 : decode cX3_blocks 1 = .ok (.getfield 15, 3) := by decide +kernel
theorem dX3_blocks_4 : decode cX3_blocks 4 = .ok (.aload_n 0, 1) := by decide +kernel
