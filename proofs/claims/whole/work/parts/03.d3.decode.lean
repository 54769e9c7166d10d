theorem dX10_begin_2 : decode cX10_begin 2 = .ok (.iconst 1, 1) := by decide +kernel
theorem dX10_begin_3 : decode cX10_begin 3 = .ok (.bipush 8, 2) := by decide +kernel
theorem dX10_begin_5 : decode cX10_begin 5 = .ok (.invokestatic 50, 3) := by decide +kernel
theorem dX10_begin_8 : decode cX10_begin 8 = .ok (.ifCond .eq 13, 3) := by decide +kernel
theorem dX10_begin_11 : decode cX10_begin 11 = .ok (.iload_n 2, 1) := by decide +kernel
theorem dX10_begin_12 : decode cX10_begin 12 = .ok (.iconst 1, 1) := by decide +kernel
theorem dX10_begin_13 : decode cX10_begin 13 = .ok (.bipush 8, 2) := by decide +kernel
theorem dX10_begin_15 : decode cX10_begin 15 = .ok (.invokestatic 50, 3) := by decide +kernel
theorem dX10_begin_18 : decode cX10_begin 18 = .ok (.ifCond .ne 7, 3) := by decide +kernel
theorem dX10_begin_21 : decode cX10_begin 21 = .ok (.iconst 1, 1) := by decide +kernel
theorem dX10_begin_22 : decode cX10_begin 22 = .ok (.goto 4, 3) := by decide +kernel
theorem dX10_begin_25 : decode cX10_begin 25 = .ok (.iconst 0, 1) := by decide +kernel
theorem dX10_begin_26 : decode cX10_begin 26 = .ok (.iconst 1, 1) := by decide +kernel
theorem dX10_begin_27 : decode cX10_begin 27 = .ok (.invokevirtual 54, 3) := by decide +kernel
theorem dX10_begin_30 : decode cX10_begin 30 = .ok (.ifCond .eq 4, 3) := by decide +kernel
theorem dX10_begin_33 : decode cX10_begin 33 = .ok (.return_, 1) := by decide +kernel
theorem dX10_begin_34 : decode cX10_begin 34 = .ok (.aload_n 0, 1) := by decide +kernel
theorem dX10_begin_35 : decode cX10_begin 35 = .ok (.iload_n 1, 1) := by decide +kernel
theorem dX10_begin_36 : decode cX10_begin 36 = .ok (.putfield 7, 3) := by decide +kernel
theorem dX10_begin_39 : decode cX10_begin 39 = .ok (.aload_n 0, 1) := by decide +kernel
theorem dX10_begin_40 : decode cX10_begin 40 = .ok (.iload_n 2, 1) := by decide +kernel
theorem dX10_begin_41 : decode cX10_begin 41 = .ok (.putfield 13, 3) := by decide +kernel
theorem dX10_begin_44 : decode cX10_begin 44 = .ok (.iconst 0, 1) := by decide +kernel
theorem dX10_begin_45 : decode cX10_begin 45 = .ok (.istore_n 3, 1) := by decide +kernel
theorem dX10_begin_46 : decode cX10_begin 46 = .ok (.iload_n 3, 1) := by decide +kernel
theorem dX10_begin_47 : decode cX10_begin 47 = .ok (.sipush 1024, 3) := by decide +kernel
theorem dX10_begin_50 : decode cX10_begin 50 = .ok (.if_icmp .ge 23, 3) := by decide +kernel
theorem dX10_begin_53 : decode cX10_begin 53 = .ok (.aload_n 0, 1) := by decide +kernel
theorem dX10_begin_54 : decode cX10_begin 54 = .ok (.getfield 16, 3) := by decide +kernel
theorem dX10_begin_57 : decode cX10_begin 57 = .ok (.iload_n 3, 1) := by decide +kernel
theorem dX10_begin_58 : decode cX10_begin 58 = .ok (.iconst 0, 1) := by decide +kernel
theorem dX10_begin_59 : decode cX10_begin 59 = .ok (.iastore, 1) := by decide +kernel
theorem dX10_begin_60 : decode cX10_begin 60 = .ok (.aload_n 0, 1) := by decide +kernel
theorem dX10_begin_61 : decode cX10_begin 61 = .ok (.getfield 29, 3) := by decide +kernel
theorem dX10_begin_64 : decode cX10_begin 64 = .ok (.iload_n 3, 1) := by decide +kernel
theorem dX10_begin_65 : decode cX10_begin 65 = .ok (.iconst 0, 1) := by decide +kernel
theorem dX10_begin_66 : decode cX10_begin 66 = .ok (.iastore, 1) := by decide +kernel
theorem dX10_begin_67 : decode cX10_begin 67 = .ok (.iinc 3 1, 3) := by decide +kernel
theorem dX10_begin_70 : decode cX10_begin 70 = .ok (.goto (-24), 3) := by decide +kernel
theorem dX10_begin_73 : decode cX10_begin 73 = .ok (.iconst 0, 1) := by decide +kernel
theorem dX10_begin_74 : decode cX10_begin 74 = .ok (.istore_n 3, 1) := by decide +kernel
theorem dX10_begin_75 : decode cX10_begin 75 = .ok (.iload_n 3, 1) := by decide +kernel
theorem dX10_begin_76 : decode cX10_begin 76 = .ok (.bipush 64, 2) := by decide +kernel
theorem dX10_begin_78 : decode cX10_begin 78 = .ok (.if_icmp .ge 16, 3) := by decide +kernel
theorem dX10_begin_81 : decode cX10_begin 81 = .ok (.aload_n 0, 1) := by decide +kernel
theorem dX10_begin_82 : decode cX10_begin 82 = .ok (.getfield 26, 3) := by decide +kernel
theorem dX10_begin_85 : decode cX10_begin 85 = .ok (.iload_n 3, 1) := by decide +kernel
theorem dX10_begin_86 : decode cX10_begin 86 = .ok (.iconst (-1), 1) := by decide +kernel
theorem dX10_begin_87 : decode cX10_begin 87 = .ok (.iastore, 1) := by decide +kernel
theorem dX10_begin_88 : decode cX10_begin 88 = .ok (.iinc 3 1, 3) := by decide +kernel
theorem dX10_begin_91 : decode cX10_begin 91 = .ok (.goto (-16), 3) := by decide +kernel
theorem dX10_begin_94 : decode cX10_begin 94 = .ok (.aload_n 0, 1) := by decide +kernel
theorem dX10_begin_95 : decode cX10_begin 95 = .ok (.iconst 0, 1) := by decide +kernel
theorem dX10_begin_96 : decode cX10_begin 96 = .ok (.putfield 58, 3) := by decide +kernel
theorem dX10_begin_99 : decode cX10_begin 99 = .ok (.aload_n 0, 1) := by decide +kernel
theorem dX10_begin_100 : decode cX10_begin 100 = .ok (.iconst 0, 1) := by decide +kernel
theorem dX10_begin_101 : decode cX10_begin 101 = .ok (.putfield 61, 3) := by decide +kernel
theorem dX10_begin_104 : decode cX10_begin 104 = .ok (.return_, 1) := by decide +kernel
theorem dX10_put_0 : decode cX10_put 0 = .ok (.aload_n 0, 1) := by decide +kernel
theorem dX10_put_1 : decode cX10_put 1 = .ok (.iload_n 1, 1) := by decide +kernel
theorem dX10_put_2 : decode cX10_put 2 = .ok (.iconst 0, 1) := by decide +kernel
theorem dX10_put_3 : decode cX10_put 3 = .ok (.aload_n 0, 1) := by decide +kernel
theorem dX10_put_4 : decode cX10_put 4 = .ok (.getfield 7, 3) := by decide +kernel
theorem dX10_put_7 : decode cX10_put 7 = .ok (.iconst 1, 1) := by decide +kernel
theorem dX10_put_8 : decode cX10_put 8 = .ok (.isub, 1) := by decide +kernel
theorem dX10_put_9 : decode cX10_put 9 = .ok (.invokestatic 50, 3) := by decide +kernel
theorem dX10_put_12 : decode cX10_put 12 = .ok (.ifCond .eq 19, 3) := by decide +kernel
theorem dX10_put_15 : decode cX10_put 15 = .ok (.iload_n 2, 1) := by decide +kernel
theorem dX10_put_16 : decode cX10_put 16 = .ok (.iconst 0, 1) := by decide +kernel
theorem dX10_put_17 : decode cX10_put 17 = .ok (.iconst 4, 1) := by decide +kernel
theorem dX10_put_18 : decode cX10_put 18 = .ok (.aload_n 0, 1) := by decide +kernel
theorem dX10_put_19 : decode cX10_put 19 = .ok (.getfield 13, 3) := by decide +kernel
theorem dX10_put_22 : decode cX10_put 22 = .ok (.imul, 1) := by decide +kernel
theorem dX10_put_23 : decode cX10_put 23 = .ok (.iconst 1, 1) := by decide +kernel
theorem dX10_put_24 : decode cX10_put 24 = .ok (.isub, 1) := by decide +kernel
theorem dX10_put_25 : decode cX10_put 25 = .ok (.invokestatic 50, 3) := by decide +kernel
theorem dX10_put_28 : decode cX10_put 28 = .ok (.ifCond .ne 7, 3) := by decide +kernel
theorem dX10_put_31 : decode cX10_put 31 = .ok (.iconst 1, 1) := by decide +kernel
theorem dX10_put_32 : decode cX10_put 32 = .ok (.goto 4, 3) := by decide +kernel
theorem dX10_put_35 : decode cX10_put 35 = .ok (.iconst 0, 1) := by decide +kernel
theorem dX10_put_36 : decode cX10_put 36 = .ok (.iconst 1, 1) := by decide +kernel
theorem dX10_put_37 : decode cX10_put 37 = .ok (.invokevirtual 54, 3) := by decide +kernel
theorem dX10_put_40 : decode cX10_put 40 = .ok (.ifCond .eq 4, 3) := by decide +kernel
theorem dX10_put_43 : decode cX10_put 43 = .ok (.return_, 1) := by decide +kernel
theorem dX10_put_44 : decode cX10_put 44 = .ok (.iconst 0, 1) := by decide +kernel
theorem dX10_put_45 : decode cX10_put 45 = .ok (.istore 4, 2) := by decide +kernel
theorem dX10_put_47 : decode cX10_put 47 = .ok (.iload 4, 2) := by decide +kernel
theorem dX10_put_49 : decode cX10_put 49 = .ok (.iconst 4, 1) := by decide +kernel
theorem dX10_put_50 : decode cX10_put 50 = .ok (.if_icmp .ge 39, 3) := by decide +kernel
theorem dX10_put_53 : decode cX10_put 53 = .ok (.aload_n 0, 1) := by decide +kernel
theorem dX10_put_54 : decode cX10_put 54 = .ok (.getfield 16, 3) := by decide +kernel
theorem dX10_put_57 : decode cX10_put 57 = .ok (.bipush 32, 2) := by decide +kernel
theorem dX10_put_59 : decode cX10_put 59 = .ok (.iload_n 2, 1) := by decide +kernel
theorem dX10_put_60 : decode cX10_put 60 = .ok (.imul, 1) := by decide +kernel
theorem dX10_put_61 : decode cX10_put 61 = .ok (.iconst 4, 1) := by decide +kernel
theorem dX10_put_62 : decode cX10_put 62 = .ok (.iload_n 1, 1) := by decide +kernel
theorem dX10_put_63 : decode cX10_put 63 = .ok (.imul, 1) := by decide +kernel
theorem dX10_put_64 : decode cX10_put 64 = .ok (.iadd, 1) := by decide +kernel
theorem dX10_put_65 : decode cX10_put 65 = .ok (.iload 4, 2) := by decide +kernel
theorem dX10_put_67 : decode cX10_put 67 = .ok (.iadd, 1) := by decide +kernel
theorem dX10_put_68 : decode cX10_put 68 = .ok (.iload_n 3, 1) := by decide +kernel
theorem dX10_put_69 : decode cX10_put 69 = .ok (.bipush 24, 2) := by decide +kernel
theorem dX10_put_71 : decode cX10_put 71 = .ok (.bipush 8, 2) := by decide +kernel
theorem dX10_put_73 : decode cX10_put 73 = .ok (.iload 4, 2) := by decide +kernel
theorem dX10_put_75 : decode cX10_put 75 = .ok (.imul, 1) := by decide +kernel
theorem dX10_put_76 : decode cX10_put 76 = .ok (.isub, 1) := by decide +kernel
theorem dX10_put_77 : decode cX10_put 77 = .ok (.ishr, 1) := by decide +kernel
theorem dX10_put_78 : decode cX10_put 78 = .ok (.sipush 255, 3) := by decide +kernel
theorem dX10_put_81 : decode cX10_put 81 = .ok (.iand, 1) := by decide +kernel
theorem dX10_put_82 : decode cX10_put 82 = .ok (.iastore, 1) := by decide +kernel
theorem dX10_put_83 : decode cX10_put 83 = .ok (.iinc 4 1, 3) := by decide +kernel
theorem dX10_put_86 : decode cX10_put 86 = .ok (.goto (-39), 3) := by decide +kernel
theorem dX10_put_89 : decode cX10_put 89 = .ok (.return_, 1) := by decide +kernel
theorem dX10_pixel_0 : decode cX10_pixel 0 = .ok (.aload_n 0, 1) := by decide +kernel
theorem dX10_pixel_1 : decode cX10_pixel 1 = .ok (.iconst 0, 1) := by decide +kernel
theorem dX10_pixel_2 : decode cX10_pixel 2 = .ok (.putfield 47, 3) := by decide +kernel
theorem dX10_pixel_5 : decode cX10_pixel 5 = .ok (.iload_n 1, 1) := by decide +kernel
theorem dX10_pixel_6 : decode cX10_pixel 6 = .ok (.iconst 0, 1) := by decide +kernel
theorem dX10_pixel_7 : decode cX10_pixel 7 = .ok (.iconst 4, 1) := by decide +kernel
theorem dX10_pixel_8 : decode cX10_pixel 8 = .ok (.aload_n 0, 1) := by decide +kernel
theorem dX10_pixel_9 : decode cX10_pixel 9 = .ok (.getfield 7, 3) := by decide +kernel
theorem dX10_pixel_12 : decode cX10_pixel 12 = .ok (.imul, 1) := by decide +kernel
theorem dX10_pixel_13 : decode cX10_pixel 13 = .ok (.iconst 1, 1) := by decide +kernel
theorem dX10_pixel_14 : decode cX10_pixel 14 = .ok (.isub, 1) := by decide +kernel
theorem dX10_pixel_15 : decode cX10_pixel 15 = .ok (.invokestatic 50, 3) := by decide +kernel
theorem dX10_pixel_18 : decode cX10_pixel 18 = .ok (.ifCond .eq 33, 3) := by decide +kernel
theorem dX10_pixel_21 : decode cX10_pixel 21 = .ok (.iload_n 2, 1) := by decide +kernel
theorem dX10_pixel_22 : decode cX10_pixel 22 = .ok (.iconst 0, 1) := by decide +kernel
theorem dX10_pixel_23 : decode cX10_pixel 23 = .ok (.iconst 4, 1) := by decide +kernel
theorem dX10_pixel_24 : decode cX10_pixel 24 = .ok (.aload_n 0, 1) := by decide +kernel
theorem dX10_pixel_25 : decode cX10_pixel 25 = .ok (.getfield 13, 3) := by decide +kernel
theorem dX10_pixel_28 : decode cX10_pixel 28 = .ok (.imul, 1) := by decide +kernel
theorem dX10_pixel_29 : decode cX10_pixel 29 = .ok (.iconst 1, 1) := by decide +kernel
theorem dX10_pixel_30 : decode cX10_pixel 30 = .ok (.isub, 1) := by decide +kernel
theorem dX10_pixel_31 : decode cX10_pixel 31 = .ok (.invokestatic 50, 3) := by decide +kernel
theorem dX10_pixel_34 : decode cX10_pixel 34 = .ok (.ifCond .eq 17, 3) := by decide +kernel
theorem dX10_pixel_37 : decode cX10_pixel 37 = .ok (.aload_n 0, 1) := by decide +kernel
theorem dX10_pixel_38 : decode cX10_pixel 38 = .ok (.getfield 16, 3) := by decide +kernel
theorem dX10_pixel_41 : decode cX10_pixel 41 = .ok (.bipush 32, 2) := by decide +kernel
theorem dX10_pixel_43 : decode cX10_pixel 43 = .ok (.iload_n 2, 1) := by decide +kernel
theorem dX10_pixel_44 : decode cX10_pixel 44 = .ok (.imul, 1) := by decide +kernel
theorem dX10_pixel_45 : decode cX10_pixel 45 = .ok (.iload_n 1, 1) := by decide +kernel
theorem dX10_pixel_46 : decode cX10_pixel 46 = .ok (.iadd, 1) := by decide +kernel
theorem dX10_pixel_47 : decode cX10_pixel 47 = .ok (.iaload, 1) := by decide +kernel
theorem dX10_pixel_48 : decode cX10_pixel 48 = .ok (.goto 4, 3) := by decide +kernel
theorem dX10_pixel_51 : decode cX10_pixel 51 = .ok (.iconst (-1), 1) := by decide +kernel
theorem dX10_pixel_52 : decode cX10_pixel 52 = .ok (.ireturn, 1) := by decide +kernel
theorem dX10_hasAbove_0 : decode cX10_hasAbove 0 = .ok (.iload_n 1, 1) := by decide +kernel
theorem dX10_hasAbove_1 : decode cX10_hasAbove 1 = .ok (.aload_n 0, 1) := by decide +kernel
theorem dX10_hasAbove_2 : decode cX10_hasAbove 2 = .ok (.getfield 7, 3) := by decide +kernel
theorem dX10_hasAbove_5 : decode cX10_hasAbove 5 = .ok (.if_icmp .lt 7, 3) := by decide +kernel
theorem dX10_hasAbove_8 : decode cX10_hasAbove 8 = .ok (.iconst 1, 1) := by decide +kernel
theorem dX10_hasAbove_9 : decode cX10_hasAbove 9 = .ok (.goto 4, 3) := by decide +kernel
theorem dX10_hasAbove_12 : decode cX10_hasAbove 12 = .ok (.iconst 0, 1) := by decide +kernel
theorem dX10_hasAbove_13 : decode cX10_hasAbove 13 = .ok (.ireturn, 1) := by decide +kernel
theorem dX10_hasLeft_0 : decode cX10_hasLeft 0 = .ok (.iload_n 1, 1) := by decide +kernel
theorem dX10_hasLeft_1 : decode cX10_hasLeft 1 = .ok (.aload_n 0, 1) := by decide +kernel
theorem dX10_hasLeft_2 : decode cX10_hasLeft 2 = .ok (.getfield 7, 3) := by decide +kernel
theorem dX10_hasLeft_5 : decode cX10_hasLeft 5 = .ok (.irem, 1) := by decide +kernel
theorem dX10_hasLeft_6 : decode cX10_hasLeft 6 = .ok (.ifCond .le 7, 3) := by decide +kernel
theorem dX10_hasLeft_9 : decode cX10_hasLeft 9 = .ok (.iconst 1, 1) := by decide +kernel
theorem dX10_hasLeft_10 : decode cX10_hasLeft 10 = .ok (.goto 4, 3) := by decide +kernel
theorem dX10_hasLeft_13 : decode cX10_hasLeft 13 = .ok (.iconst 0, 1) := by decide +kernel
theorem dX10_hasLeft_14 : decode cX10_hasLeft 14 = .ok (.ireturn, 1) := by decide +kernel
theorem dX10_above_0 : decode cX10_above 0 = .ok (.iload_n 1, 1) := by decide +kernel
theorem dX10_above_1 : decode cX10_above 1 = .ok (.aload_n 0, 1) := by decide +kernel
theorem dX10_above_2 : decode cX10_above 2 = .ok (.getfield 7, 3) := by decide +kernel
theorem dX10_above_5 : decode cX10_above 5 = .ok (.irem, 1) := by decide +kernel
theorem dX10_above_6 : decode cX10_above 6 = .ok (.iconst 1, 1) := by decide +kernel
theorem dX10_above_7 : decode cX10_above 7 = .ok (.iadd, 1) := by decide +kernel
theorem dX10_above_8 : decode cX10_above 8 = .ok (.aload_n 0, 1) := by decide +kernel
theorem dX10_above_9 : decode cX10_above 9 = .ok (.getfield 7, 3) := by decide +kernel
theorem dX10_above_12 : decode cX10_above 12 = .ok (.if_icmp .ge 8, 3) := by decide +kernel
theorem dX10_above_15 : decode cX10_above 15 = .ok (.bipush 7, 2) := by decide +kernel
theorem dX10_above_17 : decode cX10_above 17 = .ok (.goto 4, 3) := by decide +kernel
theorem dX10_above_20 : decode cX10_above 20 = .ok (.iconst 3, 1) := by decide +kernel
theorem dX10_above_21 : decode cX10_above 21 = .ok (.istore_n 3, 1) := by decide +kernel
theorem dX10_above_22 : decode cX10_above 22 = .ok (.iload_n 2, 1) := by decide +kernel
theorem dX10_above_23 : decode cX10_above 23 = .ok (.iload_n 3, 1) := by decide +kernel
theorem dX10_above_24 : decode cX10_above 24 = .ok (.if_icmp .le 7, 3) := by decide +kernel
theorem dX10_above_27 : decode cX10_above 27 = .ok (.iload_n 3, 1) := by decide +kernel
theorem dX10_above_28 : decode cX10_above 28 = .ok (.goto 4, 3) := by decide +kernel
theorem dX10_above_31 : decode cX10_above 31 = .ok (.iload_n 2, 1) := by decide +kernel
theorem dX10_above_32 : decode cX10_above 32 = .ok (.istore 4, 2) := by decide +kernel
theorem dX10_above_34 : decode cX10_above 34 = .ok (.aload_n 0, 1) := by decide +kernel
theorem dX10_above_35 : decode cX10_above 35 = .ok (.getfield 16, 3) := by decide +kernel
theorem dX10_above_38 : decode cX10_above 38 = .ok (.bipush 32, 2) := by decide +kernel
theorem dX10_above_40 : decode cX10_above 40 = .ok (.iconst 4, 1) := by decide +kernel
theorem dX10_above_41 : decode cX10_above 41 = .ok (.iload_n 1, 1) := by decide +kernel
theorem dX10_above_42 : decode cX10_above 42 = .ok (.aload_n 0, 1) := by decide +kernel
theorem dX10_above_43 : decode cX10_above 43 = .ok (.getfield 7, 3) := by decide +kernel
theorem dX10_above_46 : decode cX10_above 46 = .ok (.idiv, 1) := by decide +kernel
theorem dX10_above_47 : decode cX10_above 47 = .ok (.imul, 1) := by decide +kernel
theorem dX10_above_48 : decode cX10_above 48 = .ok (.iconst 1, 1) := by decide +kernel
theorem dX10_above_49 : decode cX10_above 49 = .ok (.isub, 1) := by decide +kernel
theorem dX10_above_50 : decode cX10_above 50 = .ok (.imul, 1) := by decide +kernel
theorem dX10_above_51 : decode cX10_above 51 = .ok (.iconst 4, 1) := by decide +kernel
theorem dX10_above_52 : decode cX10_above 52 = .ok (.iload_n 1, 1) := by decide +kernel
theorem dX10_above_53 : decode cX10_above 53 = .ok (.aload_n 0, 1) := by decide +kernel
theorem dX10_above_54 : decode cX10_above 54 = .ok (.getfield 7, 3) := by decide +kernel
theorem dX10_above_57 : decode cX10_above 57 = .ok (.irem, 1) := by decide +kernel
theorem dX10_above_58 : decode cX10_above 58 = .ok (.imul, 1) := by decide +kernel
theorem dX10_above_59 : decode cX10_above 59 = .ok (.iadd, 1) := by decide +kernel
theorem dX10_above_60 : decode cX10_above 60 = .ok (.iload 4, 2) := by decide +kernel
theorem dX10_above_62 : decode cX10_above 62 = .ok (.iadd, 1) := by decide +kernel
theorem dX10_above_63 : decode cX10_above 63 = .ok (.iaload, 1) := by decide +kernel
theorem dX10_above_64 : decode cX10_above 64 = .ok (.ireturn, 1) := by decide +kernel
theorem dX10_left_0 : decode cX10_left 0 = .ok (.iload_n 2, 1) := by decide +kernel
theorem dX10_left_1 : decode cX10_left 1 = .ok (.iconst 3, 1) := by decide +kernel
theorem dX10_left_2 : decode cX10_left 2 = .ok (.if_icmp .le 7, 3) := by decide +kernel
theorem dX10_left_5 : decode cX10_left 5 = .ok (.iconst 3, 1) := by decide +kernel
theorem dX10_left_6 : decode cX10_left 6 = .ok (.goto 4, 3) := by decide +kernel
theorem dX10_left_9 : decode cX10_left 9 = .ok (.iload_n 2, 1) := by decide +kernel
theorem dX10_left_10 : decode cX10_left 10 = .ok (.istore_n 3, 1) := by decide +kernel
theorem dX10_left_11 : decode cX10_left 11 = .ok (.aload_n 0, 1) := by decide +kernel
theorem dX10_left_12 : decode cX10_left 12 = .ok (.getfield 16, 3) := by decide +kernel
theorem dX10_left_15 : decode cX10_left 15 = .ok (.bipush 32, 2) := by decide +kernel
theorem dX10_left_17 : decode cX10_left 17 = .ok (.iconst 4, 1) := by decide +kernel
theorem dX10_left_18 : decode cX10_left 18 = .ok (.iload_n 1, 1) := by decide +kernel
theorem dX10_left_19 : decode cX10_left 19 = .ok (.aload_n 0, 1) := by decide +kernel
theorem dX10_left_20 : decode cX10_left 20 = .ok (.getfield 7, 3) := by decide +kernel
theorem dX10_left_23 : decode cX10_left 23 = .ok (.idiv, 1) := by decide +kernel
theorem dX10_left_24 : decode cX10_left 24 = .ok (.imul, 1) := by decide +kernel
theorem dX10_left_25 : decode cX10_left 25 = .ok (.iload_n 3, 1) := by decide +kernel
theorem dX10_left_26 : decode cX10_left 26 = .ok (.iadd, 1) := by decide +kernel
theorem dX10_left_27 : decode cX10_left 27 = .ok (.imul, 1) := by decide +kernel
theorem dX10_left_28 : decode cX10_left 28 = .ok (.iconst 4, 1) := by decide +kernel
theorem dX10_left_29 : decode cX10_left 29 = .ok (.iload_n 1, 1) := by decide +kernel
theorem dX10_left_30 : decode cX10_left 30 = .ok (.aload_n 0, 1) := by decide +kernel
theorem dX10_left_31 : decode cX10_left 31 = .ok (.getfield 7, 3) := by decide +kernel
theorem dX10_left_34 : decode cX10_left 34 = .ok (.irem, 1) := by decide +kernel
theorem dX10_left_35 : decode cX10_left 35 = .ok (.imul, 1) := by decide +kernel
theorem dX10_left_36 : decode cX10_left 36 = .ok (.iadd, 1) := by decide +kernel
theorem dX10_left_37 : decode cX10_left 37 = .ok (.iconst 1, 1) := by decide +kernel
theorem dX10_left_38 : decode cX10_left 38 = .ok (.isub, 1) := by decide +kernel
theorem dX10_left_39 : decode cX10_left 39 = .ok (.iaload, 1) := by decide +kernel
theorem dX10_left_40 : decode cX10_left 40 = .ok (.ireturn, 1) := by decide +kernel
theorem dX10_round_0 : decode cX10_round 0 = .ok (.iload_n 2, 1) := by decide +kernel
theorem dX10_round_1 : decode cX10_round 1 = .ok (.ifCond .le 12, 3) := by decide +kernel
theorem dX10_round_4 : decode cX10_round 4 = .ok (.aload_n 0, 1) := by decide +kernel
theorem dX10_round_5 : decode cX10_round 5 = .ok (.iload_n 1, 1) := by decide +kernel
theorem dX10_round_6 : decode cX10_round 6 = .ok (.iload_n 2, 1) := by decide +kernel
theorem dX10_round_7 : decode cX10_round 7 = .ok (.iconst 1, 1) := by decide +kernel
theorem dX10_round_8 : decode cX10_round 8 = .ok (.isub, 1) := by decide +kernel
theorem dX10_round_9 : decode cX10_round 9 = .ok (.invokevirtual 65, 3) := by decide +kernel
theorem dX10_round_12 : decode cX10_round 12 = .ok (.ireturn, 1) := by decide +kernel
theorem dX10_round_13 : decode cX10_round 13 = .ok (.iload_n 2, 1) := by decide +kernel
theorem dX10_round_14 : decode cX10_round 14 = .ok (.ifCond .ge 13, 3) := by decide +kernel
theorem dX10_round_17 : decode cX10_round 17 = .ok (.aload_n 0, 1) := by decide +kernel
theorem dX10_round_18 : decode cX10_round 18 = .ok (.iload_n 1, 1) := by decide +kernel
theorem dX10_round_19 : decode cX10_round 19 = .ok (.iload_n 2, 1) := by decide +kernel
theorem dX10_round_20 : decode cX10_round 20 = .ok (.ineg, 1) := by decide +kernel
theorem dX10_round_21 : decode cX10_round 21 = .ok (.iconst 1, 1) := by decide +kernel
theorem dX10_round_22 : decode cX10_round 22 = .ok (.isub, 1) := by decide +kernel
theorem dX10_round_23 : decode cX10_round 23 = .ok (.invokevirtual 69, 3) := by decide +kernel
theorem dX10_round_26 : decode cX10_round 26 = .ok (.ireturn, 1) := by decide +kernel
theorem dX10_round_27 : decode cX10_round 27 = .ok (.aload_n 0, 1) := by decide +kernel
theorem dX10_round_28 : decode cX10_round 28 = .ok (.getfield 16, 3) := by decide +kernel
theorem dX10_round_31 : decode cX10_round 31 = .ok (.bipush 32, 2) := by decide +kernel
theorem dX10_round_33 : decode cX10_round 33 = .ok (.iconst 4, 1) := by decide +kernel
theorem dX10_round_34 : decode cX10_round 34 = .ok (.iload_n 1, 1) := by decide +kernel
theorem dX10_round_35 : decode cX10_round 35 = .ok (.aload_n 0, 1) := by decide +kernel
theorem dX10_round_36 : decode cX10_round 36 = .ok (.getfield 7, 3) := by decide +kernel
theorem dX10_round_39 : decode cX10_round 39 = .ok (.idiv, 1) := by decide +kernel
theorem dX10_round_40 : decode cX10_round 40 = .ok (.imul, 1) := by decide +kernel
theorem dX10_round_41 : decode cX10_round 41 = .ok (.iconst 1, 1) := by decide +kernel
theorem dX10_round_42 : decode cX10_round 42 = .ok (.isub, 1) := by decide +kernel
theorem dX10_round_43 : decode cX10_round 43 = .ok (.imul, 1) := by decide +kernel
theorem dX10_round_44 : decode cX10_round 44 = .ok (.iconst 4, 1) := by decide +kernel
theorem dX10_round_45 : decode cX10_round 45 = .ok (.iload_n 1, 1) := by decide +kernel
theorem dX10_round_46 : decode cX10_round 46 = .ok (.aload_n 0, 1) := by decide +kernel
theorem dX10_round_47 : decode cX10_round 47 = .ok (.getfield 7, 3) := by decide +kernel
theorem dX10_round_50 : decode cX10_round 50 = .ok (.irem, 1) := by decide +kernel
theorem dX10_round_51 : decode cX10_round 51 = .ok (.imul, 1) := by decide +kernel
theorem dX10_round_52 : decode cX10_round 52 = .ok (.iadd, 1) := by decide +kernel
theorem dX10_round_53 : decode cX10_round 53 = .ok (.iconst 1, 1) := by decide +kernel
theorem dX10_round_54 : decode cX10_round 54 = .ok (.isub, 1) := by decide +kernel
theorem dX10_round_55 : decode cX10_round 55 = .ok (.iaload, 1) := by decide +kernel
theorem dX10_round_56 : decode cX10_round 56 = .ok (.ireturn, 1) := by decide +kernel
theorem dX10_two_0 : decode cX10_two 0 = .ok (.iload_n 0, 1) := by decide +kernel
theorem dX10_two_1 : decode cX10_two 1 = .ok (.iload_n 1, 1) := by decide +kernel
theorem dX10_two_2 : decode cX10_two 2 = .ok (.iadd, 1) := by decide +kernel
theorem dX10_two_3 : decode cX10_two 3 = .ok (.iconst 1, 1) := by decide +kernel
theorem dX10_two_4 : decode cX10_two 4 = .ok (.iadd, 1) := by decide +kernel
theorem dX10_two_5 : decode cX10_two 5 = .ok (.iconst 2, 1) := by decide +kernel
theorem dX10_two_6 : decode cX10_two 6 = .ok (.idiv, 1) := by decide +kernel
theorem dX10_two_7 : decode cX10_two 7 = .ok (.ireturn, 1) := by decide +kernel
theorem dX10_three_0 : decode cX10_three 0 = .ok (.iload_n 0, 1) := by decide +kernel
theorem dX10_three_1 : decode cX10_three 1 = .ok (.iconst 2, 1) := by decide +kernel
theorem dX10_three_2 : decode cX10_three 2 = .ok (.iload_n 1, 1) := by decide +kernel
theorem dX10_three_3 : decode cX10_three 3 = .ok (.imul, 1) := by decide +kernel
theorem dX10_three_4 : decode cX10_three 4 = .ok (.iadd, 1) := by decide +kernel
theorem dX10_three_5 : decode cX10_three 5 = .ok (.iload_n 2, 1) := by decide +kernel
theorem dX10_three_6 : decode cX10_three 6 = .ok (.iadd, 1) := by decide +kernel
theorem dX10_three_7 : decode cX10_three 7 = .ok (.iconst 2, 1) := by decide +kernel
theorem dX10_three_8 : decode cX10_three 8 = .ok (.iadd, 1) := by decide +kernel
theorem dX10_three_9 : decode cX10_three 9 = .ok (.iconst 4, 1) := by decide +kernel
theorem dX10_three_10 : decode cX10_three 10 = .ok (.idiv, 1) := by decide +kernel
theorem dX10_three_11 : decode cX10_three 11 = .ok (.ireturn, 1) := by decide +kernel
theorem dX10_may_0 : decode cX10_may 0 = .ok (.iload_n 2, 1) := by decide +kernel
theorem dX10_may_1 : decode cX10_may 1 = .ok (.ifCond .eq 14, 3) := by decide +kernel
theorem dX10_may_4 : decode cX10_may 4 = .ok (.iload_n 2, 1) := by decide +kernel
theorem dX10_may_5 : decode cX10_may 5 = .ok (.iconst 3, 1) := by decide +kernel
theorem dX10_may_6 : decode cX10_may 6 = .ok (.if_icmp .eq 9, 3) := by decide +kernel
theorem dX10_may_9 : decode cX10_may 9 = .ok (.iload_n 2, 1) := by decide +kernel
theorem dX10_may_10 : decode cX10_may 10 = .ok (.bipush 7, 2) := by decide +kernel
theorem dX10_may_12 : decode cX10_may 12 = .ok (.if_icmp .ne 7, 3) := by decide +kernel
theorem dX10_may_15 : decode cX10_may 15 = .ok (.iconst 1, 1) := by decide +kernel
theorem dX10_may_16 : decode cX10_may 16 = .ok (.goto 4, 3) := by decide +kernel
theorem dX10_may_19 : decode cX10_may 19 = .ok (.iconst 0, 1) := by decide +kernel
theorem dX10_may_20 : decode cX10_may 20 = .ok (.istore_n 3, 1) := by decide +kernel
theorem dX10_may_21 : decode cX10_may 21 = .ok (.iload_n 2, 1) := by decide +kernel
theorem dX10_may_22 : decode cX10_may 22 = .ok (.iconst 1, 1) := by decide +kernel
theorem dX10_may_23 : decode cX10_may 23 = .ok (.if_icmp .eq 9, 3) := by decide +kernel
theorem dX10_may_26 : decode cX10_may 26 = .ok (.iload_n 2, 1) := by decide +kernel
theorem dX10_may_27 : decode cX10_may 27 = .ok (.bipush 8, 2) := by decide +kernel
theorem dX10_may_29 : decode cX10_may 29 = .ok (.if_icmp .ne 7, 3) := by decide +kernel
theorem dX10_may_32 : decode cX10_may 32 = .ok (.iconst 1, 1) := by decide +kernel
theorem dX10_may_33 : decode cX10_may 33 = .ok (.goto 4, 3) := by decide +kernel
theorem dX10_may_36 : decode cX10_may 36 = .ok (.iconst 0, 1) := by decide +kernel
theorem dX10_may_37 : decode cX10_may 37 = .ok (.istore 4, 2) := by decide +kernel
theorem dX10_may_39 : decode cX10_may 39 = .ok (.iload_n 2, 1) := by decide +kernel
theorem dX10_may_40 : decode cX10_may 40 = .ok (.iconst 4, 1) := by decide +kernel
theorem dX10_may_41 : decode cX10_may 41 = .ok (.if_icmp .lt 13, 3) := by decide +kernel
theorem dX10_may_44 : decode cX10_may 44 = .ok (.iload_n 2, 1) := by decide +kernel
theorem dX10_may_45 : decode cX10_may 45 = .ok (.bipush 6, 2) := by decide +kernel
theorem dX10_may_47 : decode cX10_may 47 = .ok (.if_icmp .gt 7, 3) := by decide +kernel
theorem dX10_may_50 : decode cX10_may 50 = .ok (.iconst 1, 1) := by decide +kernel
theorem dX10_may_51 : decode cX10_may 51 = .ok (.goto 4, 3) := by decide +kernel
theorem dX10_may_54 : decode cX10_may 54 = .ok (.iconst 0, 1) := by decide +kernel
theorem dX10_may_55 : decode cX10_may 55 = .ok (.istore 5, 2) := by decide +kernel
theorem dX10_may_57 : decode cX10_may 57 = .ok (.iload_n 3, 1) := by decide +kernel
theorem dX10_may_58 : decode cX10_may 58 = .ok (.ifCond .ne 8, 3) := by decide +kernel
theorem dX10_may_61 : decode cX10_may 61 = .ok (.iload 5, 2) := by decide +kernel
theorem dX10_may_63 : decode cX10_may 63 = .ok (.ifCond .eq 11, 3) := by decide +kernel
theorem dX10_may_66 : decode cX10_may 66 = .ok (.aload_n 0, 1) := by decide +kernel
theorem dX10_may_67 : decode cX10_may 67 = .ok (.iload_n 1, 1) := by decide +kernel
theorem dX10_may_68 : decode cX10_may 68 = .ok (.invokevirtual 72, 3) := by decide +kernel
theorem dX10_may_71 : decode cX10_may 71 = .ok (.ifCond .eq 25, 3) := by decide +kernel
theorem dX10_may_74 : decode cX10_may 74 = .ok (.iload 4, 2) := by decide +kernel
theorem dX10_may_76 : decode cX10_may 76 = .ok (.ifCond .ne 8, 3) := by decide +kernel
theorem dX10_may_79 : decode cX10_may 79 = .ok (.iload 5, 2) := by decide +kernel
theorem dX10_may_81 : decode cX10_may 81 = .ok (.ifCond .eq 11, 3) := by decide +kernel
theorem dX10_may_84 : decode cX10_may 84 = .ok (.aload_n 0, 1) := by decide +kernel
theorem dX10_may_85 : decode cX10_may 85 = .ok (.iload_n 1, 1) := by decide +kernel
theorem dX10_may_86 : decode cX10_may 86 = .ok (.invokevirtual 76, 3) := by decide +kernel
theorem dX10_may_89 : decode cX10_may 89 = .ok (.ifCond .eq 7, 3) := by decide +kernel
theorem dX10_may_92 : decode cX10_may 92 = .ok (.iconst 1, 1) := by decide +kernel
theorem dX10_may_93 : decode cX10_may 93 = .ok (.goto 4, 3) := by decide +kernel
theorem dX10_may_96 : decode cX10_may 96 = .ok (.iconst 0, 1) := by decide +kernel
theorem dX10_may_97 : decode cX10_may 97 = .ok (.ireturn, 1) := by decide +kernel
theorem dX10_mean_0 : decode cX10_mean 0 = .ok (.iconst 0, 1) := by decide +kernel
theorem dX10_mean_1 : decode cX10_mean 1 = .ok (.istore_n 2, 1) := by decide +kernel
theorem dX10_mean_2 : decode cX10_mean 2 = .ok (.iconst 0, 1) := by decide +kernel
theorem dX10_mean_3 : decode cX10_mean 3 = .ok (.istore_n 3, 1) := by decide +kernel
theorem dX10_mean_4 : decode cX10_mean 4 = .ok (.iload_n 3, 1) := by decide +kernel
theorem dX10_mean_5 : decode cX10_mean 5 = .ok (.iconst 4, 1) := by decide +kernel
theorem dX10_mean_6 : decode cX10_mean 6 = .ok (.if_icmp .ge 49, 3) := by decide +kernel
theorem dX10_mean_9 : decode cX10_mean 9 = .ok (.iload_n 2, 1) := by decide +kernel
theorem dX10_mean_10 : decode cX10_mean 10 = .ok (.aload_n 0, 1) := by decide +kernel
theorem dX10_mean_11 : decode cX10_mean 11 = .ok (.iload_n 1, 1) := by decide +kernel
theorem dX10_mean_12 : decode cX10_mean 12 = .ok (.invokevirtual 72, 3) := by decide +kernel
theorem dX10_mean_15 : decode cX10_mean 15 = .ok (.ifCond .eq 12, 3) := by decide +kernel
theorem dX10_mean_18 : decode cX10_mean 18 = .ok (.aload_n 0, 1) := by decide +kernel
theorem dX10_mean_19 : decode cX10_mean 19 = .ok (.iload_n 1, 1) := by decide +kernel
theorem dX10_mean_20 : decode cX10_mean 20 = .ok (.iload_n 3, 1) := by decide +kernel
theorem dX10_mean_21 : decode cX10_mean 21 = .ok (.invokevirtual 65, 3) := by decide +kernel
theorem dX10_mean_24 : decode cX10_mean 24 = .ok (.goto 4, 3) := by decide +kernel
theorem dX10_mean_27 : decode cX10_mean 27 = .ok (.iconst 0, 1) := by decide +kernel
theorem dX10_mean_28 : decode cX10_mean 28 = .ok (.aload_n 0, 1) := by decide +kernel
theorem dX10_mean_29 : decode cX10_mean 29 = .ok (.iload_n 1, 1) := by decide +kernel
theorem dX10_mean_30 : decode cX10_mean 30 = .ok (.invokevirtual 76, 3) := by decide +kernel
theorem dX10_mean_33 : decode cX10_mean 33 = .ok (.ifCond .eq 12, 3) := by decide +kernel
theorem dX10_mean_36 : decode cX10_mean 36 = .ok (.aload_n 0, 1) := by decide +kernel
theorem dX10_mean_37 : decode cX10_mean 37 = .ok (.iload_n 1, 1) := by decide +kernel
theorem dX10_mean_38 : decode cX10_mean 38 = .ok (.iload_n 3, 1) := by decide +kernel
theorem dX10_mean_39 : decode cX10_mean 39 = .ok (.invokevirtual 69, 3) := by decide +kernel
theorem dX10_mean_42 : decode cX10_mean 42 = .ok (.goto 4, 3) := by decide +kernel
theorem dX10_mean_45 : decode cX10_mean 45 = .ok (.iconst 0, 1) := by decide +kernel
theorem dX10_mean_46 : decode cX10_mean 46 = .ok (.iadd, 1) := by decide +kernel
theorem dX10_mean_47 : decode cX10_mean 47 = .ok (.iadd, 1) := by decide +kernel
theorem dX10_mean_48 : decode cX10_mean 48 = .ok (.istore_n 2, 1) := by decide +kernel
theorem dX10_mean_49 : decode cX10_mean 49 = .ok (.iinc 3 1, 3) := by decide +kernel
theorem dX10_mean_52 : decode cX10_mean 52 = .ok (.goto (-48), 3) := by decide +kernel
theorem dX10_mean_55 : decode cX10_mean 55 = .ok (.aload_n 0, 1) := by decide +kernel
theorem dX10_mean_56 : decode cX10_mean 56 = .ok (.iload_n 1, 1) := by decide +kernel
theorem dX10_mean_57 : decode cX10_mean 57 = .ok (.invokevirtual 72, 3) := by decide +kernel
theorem dX10_mean_60 : decode cX10_mean 60 = .ok (.ifCond .eq 18, 3) := by decide +kernel
theorem dX10_mean_63 : decode cX10_mean 63 = .ok (.aload_n 0, 1) := by decide +kernel
theorem dX10_mean_64 : decode cX10_mean 64 = .ok (.iload_n 1, 1) := by decide +kernel
theorem dX10_mean_65 : decode cX10_mean 65 = .ok (.invokevirtual 76, 3) := by decide +kernel
theorem dX10_mean_68 : decode cX10_mean 68 = .ok (.ifCond .eq 10, 3) := by decide +kernel
theorem dX10_mean_71 : decode cX10_mean 71 = .ok (.iload_n 2, 1) := by decide +kernel
theorem dX10_mean_72 : decode cX10_mean 72 = .ok (.iconst 4, 1) := by decide +kernel
theorem dX10_mean_73 : decode cX10_mean 73 = .ok (.iadd, 1) := by decide +kernel
theorem dX10_mean_74 : decode cX10_mean 74 = .ok (.bipush 8, 2) := by decide +kernel
theorem dX10_mean_76 : decode cX10_mean 76 = .ok (.idiv, 1) := by decide +kernel
theorem dX10_mean_77 : decode cX10_mean 77 = .ok (.ireturn, 1) := by decide +kernel
theorem dX10_mean_78 : decode cX10_mean 78 = .ok (.aload_n 0, 1) := by decide +kernel
theorem dX10_mean_79 : decode cX10_mean 79 = .ok (.iload_n 1, 1) := by decide +kernel
theorem dX10_mean_80 : decode cX10_mean 80 = .ok (.invokevirtual 72, 3) := by decide +kernel
theorem dX10_mean_83 : decode cX10_mean 83 = .ok (.ifCond .ne 11, 3) := by decide +kernel
theorem dX10_mean_86 : decode cX10_mean 86 = .ok (.aload_n 0, 1) := by decide +kernel
theorem dX10_mean_87 : decode cX10_mean 87 = .ok (.iload_n 1, 1) := by decide +kernel
theorem dX10_mean_88 : decode cX10_mean 88 = .ok (.invokevirtual 76, 3) := by decide +kernel
theorem dX10_mean_91 : decode cX10_mean 91 = .ok (.ifCond .eq 11, 3) := by decide +kernel
theorem dX10_mean_94 : decode cX10_mean 94 = .ok (.iload_n 2, 1) := by decide +kernel
theorem dX10_mean_95 : decode cX10_mean 95 = .ok (.iconst 2, 1) := by decide +kernel
theorem dX10_mean_96 : decode cX10_mean 96 = .ok (.iadd, 1) := by decide +kernel
theorem dX10_mean_97 : decode cX10_mean 97 = .ok (.iconst 4, 1) := by decide +kernel
theorem dX10_mean_98 : decode cX10_mean 98 = .ok (.idiv, 1) := by decide +kernel
theorem dX10_mean_99 : decode cX10_mean 99 = .ok (.goto 6, 3) := by decide +kernel
theorem dX10_mean_102 : decode cX10_mean 102 = .ok (.sipush 128, 3) := by decide +kernel
theorem dX10_mean_105 : decode cX10_mean 105 = .ok (.ireturn, 1) := by decide +kernel
theorem dX10_slanted_0 : decode cX10_slanted 0 = .ok (.iconst 2, 1) := by decide +kernel
theorem dX10_slanted_1 : decode cX10_slanted 1 = .ok (.iload_n 2, 1) := by decide +kernel
theorem dX10_slanted_2 : decode cX10_slanted 2 = .ok (.imul, 1) := by decide +kernel
theorem dX10_slanted_3 : decode cX10_slanted 3 = .ok (.iload_n 3, 1) := by decide +kernel
theorem dX10_slanted_4 : decode cX10_slanted 4 = .ok (.isub, 1) := by decide +kernel
theorem dX10_slanted_5 : decode cX10_slanted 5 = .ok (.istore 5, 2) := by decide +kernel
theorem dX10_slanted_7 : decode cX10_slanted 7 = .ok (.iload_n 2, 1) := by decide +kernel
theorem dX10_slanted_8 : decode cX10_slanted 8 = .ok (.iload_n 3, 1) := by decide +kernel
theorem dX10_slanted_9 : decode cX10_slanted 9 = .ok (.iconst 2, 1) := by decide +kernel
theorem dX10_slanted_10 : decode cX10_slanted 10 = .ok (.idiv, 1) := by decide +kernel
theorem dX10_slanted_11 : decode cX10_slanted 11 = .ok (.isub, 1) := by decide +kernel
theorem dX10_slanted_12 : decode cX10_slanted 12 = .ok (.istore 6, 2) := by decide +kernel
theorem dX10_slanted_14 : decode cX10_slanted 14 = .ok (.iload 5, 2) := by decide +kernel
theorem dX10_slanted_16 : decode cX10_slanted 16 = .ok (.ifCond .lt 36, 3) := by decide +kernel
theorem dX10_slanted_19 : decode cX10_slanted 19 = .ok (.iload 5, 2) := by decide +kernel
theorem dX10_slanted_21 : decode cX10_slanted 21 = .ok (.iconst 2, 1) := by decide +kernel
theorem dX10_slanted_22 : decode cX10_slanted 22 = .ok (.irem, 1) := by decide +kernel
theorem dX10_slanted_23 : decode cX10_slanted 23 = .ok (.ifCond .ne 29, 3) := by decide +kernel
theorem dX10_slanted_26 : decode cX10_slanted 26 = .ok (.aload_n 0, 1) := by decide +kernel
theorem dX10_slanted_27 : decode cX10_slanted 27 = .ok (.iload_n 1, 1) := by decide +kernel
theorem dX10_slanted_28 : decode cX10_slanted 28 = .ok (.iload 4, 2) := by decide +kernel
theorem dX10_slanted_30 : decode cX10_slanted 30 = .ok (.iload 6, 2) := by decide +kernel
theorem dX10_slanted_32 : decode cX10_slanted 32 = .ok (.imul, 1) := by decide +kernel
theorem dX10_slanted_33 : decode cX10_slanted 33 = .ok (.invokevirtual 79, 3) := by decide +kernel
theorem dX10_slanted_36 : decode cX10_slanted 36 = .ok (.aload_n 0, 1) := by decide +kernel
theorem dX10_slanted_37 : decode cX10_slanted 37 = .ok (.iload_n 1, 1) := by decide +kernel
theorem dX10_slanted_38 : decode cX10_slanted 38 = .ok (.iload 4, 2) := by decide +kernel
theorem dX10_slanted_40 : decode cX10_slanted 40 = .ok (.iload 6, 2) := by decide +kernel
theorem dX10_slanted_42 : decode cX10_slanted 42 = .ok (.iconst 1, 1) := by decide +kernel
theorem dX10_slanted_43 : decode cX10_slanted 43 = .ok (.iadd, 1) := by decide +kernel
theorem dX10_slanted_44 : decode cX10_slanted 44 = .ok (.imul, 1) := by decide +kernel
theorem dX10_slanted_45 : decode cX10_slanted 45 = .ok (.invokevirtual 79, 3) := by decide +kernel
theorem dX10_slanted_48 : decode cX10_slanted 48 = .ok (.invokestatic 82, 3) := by decide +kernel
theorem dX10_slanted_51 : decode cX10_slanted 51 = .ok (.ireturn, 1) := by decide +kernel
theorem dX10_slanted_52 : decode cX10_slanted 52 = .ok (.iload 5, 2) := by decide +kernel
theorem dX10_slanted_54 : decode cX10_slanted 54 = .ok (.ifCond .le 41, 3) := by decide +kernel
theorem dX10_slanted_57 : decode cX10_slanted 57 = .ok (.aload_n 0, 1) := by decide +kernel
theorem dX10_slanted_58 : decode cX10_slanted 58 = .ok (.iload_n 1, 1) := by decide +kernel
theorem dX10_slanted_59 : decode cX10_slanted 59 = .ok (.iload 4, 2) := by decide +kernel
theorem dX10_slanted_61 : decode cX10_slanted 61 = .ok (.iload 6, 2) := by decide +kernel
theorem dX10_slanted_63 : decode cX10_slanted 63 = .ok (.iconst 1, 1) := by decide +kernel
theorem dX10_slanted_64 : decode cX10_slanted 64 = .ok (.isub, 1) := by decide +kernel
theorem dX10_slanted_65 : decode cX10_slanted 65 = .ok (.imul, 1) := by decide +kernel
theorem dX10_slanted_66 : decode cX10_slanted 66 = .ok (.invokevirtual 79, 3) := by decide +kernel
theorem dX10_slanted_69 : decode cX10_slanted 69 = .ok (.aload_n 0, 1) := by decide +kernel
theorem dX10_slanted_70 : decode cX10_slanted 70 = .ok (.iload_n 1, 1) := by decide +kernel
theorem dX10_slanted_71 : decode cX10_slanted 71 = .ok (.iload 4, 2) := by decide +kernel
theorem dX10_slanted_73 : decode cX10_slanted 73 = .ok (.iload 6, 2) := by decide +kernel
theorem dX10_slanted_75 : decode cX10_slanted 75 = .ok (.imul, 1) := by decide +kernel
theorem dX10_slanted_76 : decode cX10_slanted 76 = .ok (.invokevirtual 79, 3) := by decide +kernel
theorem dX10_slanted_79 : decode cX10_slanted 79 = .ok (.aload_n 0, 1) := by decide +kernel
theorem dX10_slanted_80 : decode cX10_slanted 80 = .ok (.iload_n 1, 1) := by decide +kernel
theorem dX10_slanted_81 : decode cX10_slanted 81 = .ok (.iload 4, 2) := by decide +kernel
theorem dX10_slanted_83 : decode cX10_slanted 83 = .ok (.iload 6, 2) := by decide +kernel
theorem dX10_slanted_85 : decode cX10_slanted 85 = .ok (.iconst 1, 1) := by decide +kernel
theorem dX10_slanted_86 : decode cX10_slanted 86 = .ok (.iadd, 1) := by decide +kernel
theorem dX10_slanted_87 : decode cX10_slanted 87 = .ok (.imul, 1) := by decide +kernel
theorem dX10_slanted_88 : decode cX10_slanted 88 = .ok (.invokevirtual 79, 3) := by decide +kernel
theorem dX10_slanted_91 : decode cX10_slanted 91 = .ok (.invokestatic 85, 3) := by decide +kernel
theorem dX10_slanted_94 : decode cX10_slanted 94 = .ok (.ireturn, 1) := by decide +kernel
theorem dX10_slanted_95 : decode cX10_slanted 95 = .ok (.iload 5, 2) := by decide +kernel
theorem dX10_slanted_97 : decode cX10_slanted 97 = .ok (.iconst (-1), 1) := by decide +kernel
theorem dX10_slanted_98 : decode cX10_slanted 98 = .ok (.if_icmp .ne 25, 3) := by decide +kernel
theorem dX10_slanted_101 : decode cX10_slanted 101 = .ok (.aload_n 0, 1) := by decide +kernel
theorem dX10_slanted_102 : decode cX10_slanted 102 = .ok (.iload_n 1, 1) := by decide +kernel
theorem dX10_slanted_103 : decode cX10_slanted 103 = .ok (.iconst (-1), 1) := by decide +kernel
theorem dX10_slanted_104 : decode cX10_slanted 104 = .ok (.invokevirtual 79, 3) := by decide +kernel
theorem dX10_slanted_107 : decode cX10_slanted 107 = .ok (.aload_n 0, 1) := by decide +kernel
theorem dX10_slanted_108 : decode cX10_slanted 108 = .ok (.iload_n 1, 1) := by decide +kernel
theorem dX10_slanted_109 : decode cX10_slanted 109 = .ok (.iconst 0, 1) := by decide +kernel
theorem dX10_slanted_110 : decode cX10_slanted 110 = .ok (.invokevirtual 79, 3) := by decide +kernel
theorem dX10_slanted_113 : decode cX10_slanted 113 = .ok (.aload_n 0, 1) := by decide +kernel
theorem dX10_slanted_114 : decode cX10_slanted 114 = .ok (.iload_n 1, 1) := by decide +kernel
theorem dX10_slanted_115 : decode cX10_slanted 115 = .ok (.iconst 1, 1) := by decide +kernel
theorem dX10_slanted_116 : decode cX10_slanted 116 = .ok (.invokevirtual 79, 3) := by decide +kernel
theorem dX10_slanted_119 : decode cX10_slanted 119 = .ok (.invokestatic 85, 3) := by decide +kernel
theorem dX10_slanted_122 : decode cX10_slanted 122 = .ok (.ireturn, 1) := by decide +kernel
theorem dX10_slanted_123 : decode cX10_slanted 123 = .ok (.aload_n 0, 1) := by decide +kernel
theorem dX10_slanted_124 : decode cX10_slanted 124 = .ok (.iload_n 1, 1) := by decide +kernel
theorem dX10_slanted_125 : decode cX10_slanted 125 = .ok (.iload 4, 2) := by decide +kernel
theorem dX10_slanted_127 : decode cX10_slanted 127 = .ok (.iload_n 3, 1) := by decide +kernel
theorem dX10_slanted_128 : decode cX10_slanted 128 = .ok (.ineg, 1) := by decide +kernel
theorem dX10_slanted_129 : decode cX10_slanted 129 = .ok (.imul, 1) := by decide +kernel
theorem dX10_slanted_130 : decode cX10_slanted 130 = .ok (.invokevirtual 79, 3) := by decide +kernel
theorem dX10_slanted_133 : decode cX10_slanted 133 = .ok (.aload_n 0, 1) := by decide +kernel
theorem dX10_slanted_134 : decode cX10_slanted 134 = .ok (.iload_n 1, 1) := by decide +kernel
theorem dX10_slanted_135 : decode cX10_slanted 135 = .ok (.iload 4, 2) := by decide +kernel
theorem dX10_slanted_137 : decode cX10_slanted 137 = .ok (.iconst 1, 1) := by decide +kernel
theorem dX10_slanted_138 : decode cX10_slanted 138 = .ok (.iload_n 3, 1) := by decide +kernel
theorem dX10_slanted_139 : decode cX10_slanted 139 = .ok (.isub, 1) := by decide +kernel
theorem dX10_slanted_140 : decode cX10_slanted 140 = .ok (.imul, 1) := by decide +kernel
theorem dX10_slanted_141 : decode cX10_slanted 141 = .ok (.invokevirtual 79, 3) := by decide +kernel
theorem dX10_slanted_144 : decode cX10_slanted 144 = .ok (.aload_n 0, 1) := by decide +kernel
theorem dX10_slanted_145 : decode cX10_slanted 145 = .ok (.iload_n 1, 1) := by decide +kernel
theorem dX10_slanted_146 : decode cX10_slanted 146 = .ok (.iload 4, 2) := by decide +kernel
theorem dX10_slanted_148 : decode cX10_slanted 148 = .ok (.iconst 2, 1) := by decide +kernel
theorem dX10_slanted_149 : decode cX10_slanted 149 = .ok (.iload_n 3, 1) := by decide +kernel
theorem dX10_slanted_150 : decode cX10_slanted 150 = .ok (.isub, 1) := by decide +kernel
theorem dX10_slanted_151 : decode cX10_slanted 151 = .ok (.imul, 1) := by decide +kernel
theorem dX10_slanted_152 : decode cX10_slanted 152 = .ok (.invokevirtual 79, 3) := by decide +kernel
theorem dX10_slanted_155 : decode cX10_slanted 155 = .ok (.invokestatic 85, 3) := by decide +kernel
theorem dX10_slanted_158 : decode cX10_slanted 158 = .ok (.ireturn, 1) := by decide +kernel
theorem dX10_told_0 : decode cX10_told 0 = .ok (.iload_n 3, 1) := by decide +kernel
theorem dX10_told_1 : decode cX10_told 1 = .ok (.iload 4, 2) := by decide +kernel
theorem dX10_told_3 : decode cX10_told 3 = .ok (.iconst 2, 1) := by decide +kernel
theorem dX10_told_4 : decode cX10_told 4 = .ok (.idiv, 1) := by decide +kernel
theorem dX10_told_5 : decode cX10_told 5 = .ok (.iadd, 1) := by decide +kernel
theorem dX10_told_6 : decode cX10_told 6 = .ok (.istore 5, 2) := by decide +kernel
theorem dX10_told_8 : decode cX10_told 8 = .ok (.iload 4, 2) := by decide +kernel
theorem dX10_told_10 : decode cX10_told 10 = .ok (.iload_n 3, 1) := by decide +kernel
theorem dX10_told_11 : decode cX10_told 11 = .ok (.iconst 2, 1) := by decide +kernel
theorem dX10_told_12 : decode cX10_told 12 = .ok (.idiv, 1) := by decide +kernel
theorem dX10_told_13 : decode cX10_told 13 = .ok (.iadd, 1) := by decide +kernel
theorem dX10_told_14 : decode cX10_told 14 = .ok (.istore 6, 2) := by decide +kernel
theorem dX10_told_16 : decode cX10_told 16 = .ok (.iload_n 2, 1) := by decide +kernel
theorem dX10_told_17 : decode cX10_told 17 = .ok (.tableswitch 216 0 7 #[47, 54, 62, 68, 103, 138, 148, 158], 47) := by decide +kernel
theorem dX10_told_64 : decode cX10_told 64 = .ok (.aload_n 0, 1) := by decide +kernel
theorem dX10_told_65 : decode cX10_told 65 = .ok (.iload_n 1, 1) := by decide +kernel
theorem dX10_told_66 : decode cX10_told 66 = .ok (.iload_n 3, 1) := by decide +kernel
theorem dX10_told_67 : decode cX10_told 67 = .ok (.invokevirtual 65, 3) := by decide +kernel
theorem dX10_told_70 : decode cX10_told 70 = .ok (.ireturn, 1) := by decide +kernel
theorem dX10_told_71 : decode cX10_told 71 = .ok (.aload_n 0, 1) := by decide +kernel
theorem dX10_told_72 : decode cX10_told 72 = .ok (.iload_n 1, 1) := by decide +kernel
theorem dX10_told_73 : decode cX10_told 73 = .ok (.iload 4, 2) := by decide +kernel
theorem dX10_told_75 : decode cX10_told 75 = .ok (.invokevirtual 69, 3) := by decide +kernel
theorem dX10_told_78 : decode cX10_told 78 = .ok (.ireturn, 1) := by decide +kernel
theorem dX10_told_79 : decode cX10_told 79 = .ok (.aload_n 0, 1) := by decide +kernel
theorem dX10_told_80 : decode cX10_told 80 = .ok (.iload_n 1, 1) := by decide +kernel
theorem dX10_told_81 : decode cX10_told 81 = .ok (.invokevirtual 89, 3) := by decide +kernel
theorem dX10_told_84 : decode cX10_told 84 = .ok (.ireturn, 1) := by decide +kernel
theorem dX10_told_85 : decode cX10_told 85 = .ok (.aload_n 0, 1) := by decide +kernel
theorem dX10_told_86 : decode cX10_told 86 = .ok (.iload_n 1, 1) := by decide +kernel
theorem dX10_told_87 : decode cX10_told 87 = .ok (.iload_n 3, 1) := by decide +kernel
theorem dX10_told_88 : decode cX10_told 88 = .ok (.iload 4, 2) := by decide +kernel
theorem dX10_told_90 : decode cX10_told 90 = .ok (.iadd, 1) := by decide +kernel
theorem dX10_told_91 : decode cX10_told 91 = .ok (.invokevirtual 65, 3) := by decide +kernel
theorem dX10_told_94 : decode cX10_told 94 = .ok (.aload_n 0, 1) := by decide +kernel
theorem dX10_told_95 : decode cX10_told 95 = .ok (.iload_n 1, 1) := by decide +kernel
theorem dX10_told_96 : decode cX10_told 96 = .ok (.iload_n 3, 1) := by decide +kernel
theorem dX10_told_97 : decode cX10_told 97 = .ok (.iload 4, 2) := by decide +kernel
theorem dX10_told_99 : decode cX10_told 99 = .ok (.iadd, 1) := by decide +kernel
theorem dX10_told_100 : decode cX10_told 100 = .ok (.iconst 1, 1) := by decide +kernel
theorem dX10_told_101 : decode cX10_told 101 = .ok (.iadd, 1) := by decide +kernel
theorem dX10_told_102 : decode cX10_told 102 = .ok (.invokevirtual 65, 3) := by decide +kernel
theorem dX10_told_105 : decode cX10_told 105 = .ok (.aload_n 0, 1) := by decide +kernel
theorem dX10_told_106 : decode cX10_told 106 = .ok (.iload_n 1, 1) := by decide +kernel
theorem dX10_told_107 : decode cX10_told 107 = .ok (.iload_n 3, 1) := by decide +kernel
theorem dX10_told_108 : decode cX10_told 108 = .ok (.iload 4, 2) := by decide +kernel
theorem dX10_told_110 : decode cX10_told 110 = .ok (.iadd, 1) := by decide +kernel
theorem dX10_told_111 : decode cX10_told 111 = .ok (.iconst 2, 1) := by decide +kernel
theorem dX10_told_112 : decode cX10_told 112 = .ok (.iadd, 1) := by decide +kernel
theorem dX10_told_113 : decode cX10_told 113 = .ok (.invokevirtual 65, 3) := by decide +kernel
theorem dX10_told_116 : decode cX10_told 116 = .ok (.invokestatic 85, 3) := by decide +kernel
theorem dX10_told_119 : decode cX10_told 119 = .ok (.ireturn, 1) := by decide +kernel
theorem dX10_told_120 : decode cX10_told 120 = .ok (.aload_n 0, 1) := by decide +kernel
theorem dX10_told_121 : decode cX10_told 121 = .ok (.iload_n 1, 1) := by decide +kernel
theorem dX10_told_122 : decode cX10_told 122 = .ok (.iload_n 3, 1) := by decide +kernel
theorem dX10_told_123 : decode cX10_told 123 = .ok (.iload 4, 2) := by decide +kernel
theorem dX10_told_125 : decode cX10_told 125 = .ok (.isub, 1) := by decide +kernel
theorem dX10_told_126 : decode cX10_told 126 = .ok (.iconst 1, 1) := by decide +kernel
theorem dX10_told_127 : decode cX10_told 127 = .ok (.isub, 1) := by decide +kernel
theorem dX10_told_128 : decode cX10_told 128 = .ok (.invokevirtual 79, 3) := by decide +kernel
theorem dX10_told_131 : decode cX10_told 131 = .ok (.aload_n 0, 1) := by decide +kernel
theorem dX10_told_132 : decode cX10_told 132 = .ok (.iload_n 1, 1) := by decide +kernel
theorem dX10_told_133 : decode cX10_told 133 = .ok (.iload_n 3, 1) := by decide +kernel
theorem dX10_told_134 : decode cX10_told 134 = .ok (.iload 4, 2) := by decide +kernel
theorem dX10_told_136 : decode cX10_told 136 = .ok (.isub, 1) := by decide +kernel
theorem dX10_told_137 : decode cX10_told 137 = .ok (.invokevirtual 79, 3) := by decide +kernel
theorem dX10_told_140 : decode cX10_told 140 = .ok (.aload_n 0, 1) := by decide +kernel
theorem dX10_told_141 : decode cX10_told 141 = .ok (.iload_n 1, 1) := by decide +kernel
theorem dX10_told_142 : decode cX10_told 142 = .ok (.iload_n 3, 1) := by decide +kernel
theorem dX10_told_143 : decode cX10_told 143 = .ok (.iload 4, 2) := by decide +kernel
theorem dX10_told_145 : decode cX10_told 145 = .ok (.isub, 1) := by decide +kernel
theorem dX10_told_146 : decode cX10_told 146 = .ok (.iconst 1, 1) := by decide +kernel
theorem dX10_told_147 : decode cX10_told 147 = .ok (.iadd, 1) := by decide +kernel
theorem dX10_told_148 : decode cX10_told 148 = .ok (.invokevirtual 79, 3) := by decide +kernel
theorem dX10_told_151 : decode cX10_told 151 = .ok (.invokestatic 85, 3) := by decide +kernel
theorem dX10_told_154 : decode cX10_told 154 = .ok (.ireturn, 1) := by decide +kernel
theorem dX10_told_155 : decode cX10_told 155 = .ok (.aload_n 0, 1) := by decide +kernel
theorem dX10_told_156 : decode cX10_told 156 = .ok (.iload_n 1, 1) := by decide +kernel
theorem dX10_told_157 : decode cX10_told 157 = .ok (.iload_n 3, 1) := by decide +kernel
theorem dX10_told_158 : decode cX10_told 158 = .ok (.iload 4, 2) := by decide +kernel
theorem dX10_told_160 : decode cX10_told 160 = .ok (.iconst 1, 1) := by decide +kernel
theorem dX10_told_161 : decode cX10_told 161 = .ok (.invokevirtual 93, 3) := by decide +kernel
theorem dX10_told_164 : decode cX10_told 164 = .ok (.ireturn, 1) := by decide +kernel
theorem dX10_told_165 : decode cX10_told 165 = .ok (.aload_n 0, 1) := by decide +kernel
theorem dX10_told_166 : decode cX10_told 166 = .ok (.iload_n 1, 1) := by decide +kernel
theorem dX10_told_167 : decode cX10_told 167 = .ok (.iload 4, 2) := by decide +kernel
theorem dX10_told_169 : decode cX10_told 169 = .ok (.iload_n 3, 1) := by decide +kernel
theorem dX10_told_170 : decode cX10_told 170 = .ok (.iconst (-1), 1) := by decide +kernel
theorem dX10_told_171 : decode cX10_told 171 = .ok (.invokevirtual 93, 3) := by decide +kernel
theorem dX10_told_174 : decode cX10_told 174 = .ok (.ireturn, 1) := by decide +kernel
theorem dX10_told_175 : decode cX10_told 175 = .ok (.iload 4, 2) := by decide +kernel
theorem dX10_told_177 : decode cX10_told 177 = .ok (.iconst 2, 1) := by decide +kernel
theorem dX10_told_178 : decode cX10_told 178 = .ok (.irem, 1) := by decide +kernel
theorem dX10_told_179 : decode cX10_told 179 = .ok (.ifCond .ne 25, 3) := by decide +kernel
theorem dX10_told_182 : decode cX10_told 182 = .ok (.aload_n 0, 1) := by decide +kernel
theorem dX10_told_183 : decode cX10_told 183 = .ok (.iload_n 1, 1) := by decide +kernel
theorem dX10_told_184 : decode cX10_told 184 = .ok (.iload 5, 2) := by decide +kernel
theorem dX10_told_186 : decode cX10_told 186 = .ok (.invokevirtual 65, 3) := by decide +kernel
theorem dX10_told_189 : decode cX10_told 189 = .ok (.aload_n 0, 1) := by decide +kernel
theorem dX10_told_190 : decode cX10_told 190 = .ok (.iload_n 1, 1) := by decide +kernel
theorem dX10_told_191 : decode cX10_told 191 = .ok (.iload 5, 2) := by decide +kernel
theorem dX10_told_193 : decode cX10_told 193 = .ok (.iconst 1, 1) := by decide +kernel
theorem dX10_told_194 : decode cX10_told 194 = .ok (.iadd, 1) := by decide +kernel
theorem dX10_told_195 : decode cX10_told 195 = .ok (.invokevirtual 65, 3) := by decide +kernel
theorem dX10_told_198 : decode cX10_told 198 = .ok (.invokestatic 82, 3) := by decide +kernel
theorem dX10_told_201 : decode cX10_told 201 = .ok (.goto 31, 3) := by decide +kernel
theorem dX10_told_204 : decode cX10_told 204 = .ok (.aload_n 0, 1) := by decide +kernel
theorem dX10_told_205 : decode cX10_told 205 = .ok (.iload_n 1, 1) := by decide +kernel
theorem dX10_told_206 : decode cX10_told 206 = .ok (.iload 5, 2) := by decide +kernel
theorem dX10_told_208 : decode cX10_told 208 = .ok (.invokevirtual 65, 3) := by decide +kernel
theorem dX10_told_211 : decode cX10_told 211 = .ok (.aload_n 0, 1) := by decide +kernel
theorem dX10_told_212 : decode cX10_told 212 = .ok (.iload_n 1, 1) := by decide +kernel
theorem dX10_told_213 : decode cX10_told 213 = .ok (.iload 5, 2) := by decide +kernel
theorem dX10_told_215 : decode cX10_told 215 = .ok (.iconst 1, 1) := by decide +kernel
theorem dX10_told_216 : decode cX10_told 216 = .ok (.iadd, 1) := by decide +kernel
theorem dX10_told_217 : decode cX10_told 217 = .ok (.invokevirtual 65, 3) := by decide +kernel
theorem dX10_told_220 : decode cX10_told 220 = .ok (.aload_n 0, 1) := by decide +kernel
theorem dX10_told_221 : decode cX10_told 221 = .ok (.iload_n 1, 1) := by decide +kernel
theorem dX10_told_222 : decode cX10_told 222 = .ok (.iload 5, 2) := by decide +kernel
theorem dX10_told_224 : decode cX10_told 224 = .ok (.iconst 2, 1) := by decide +kernel
theorem dX10_told_225 : decode cX10_told 225 = .ok (.iadd, 1) := by decide +kernel
theorem dX10_told_226 : decode cX10_told 226 = .ok (.invokevirtual 65, 3) := by decide +kernel
theorem dX10_told_229 : decode cX10_told 229 = .ok (.invokestatic 85, 3) := by decide +kernel
theorem dX10_told_232 : decode cX10_told 232 = .ok (.ireturn, 1) := by decide +kernel
theorem dX10_told_233 : decode cX10_told 233 = .ok (.iload_n 3, 1) := by decide +kernel
theorem dX10_told_234 : decode cX10_told 234 = .ok (.iconst 2, 1) := by decide +kernel
theorem dX10_told_235 : decode cX10_told 235 = .ok (.irem, 1) := by decide +kernel
theorem dX10_told_236 : decode cX10_told 236 = .ok (.ifCond .ne 25, 3) := by decide +kernel
theorem dX10_told_239 : decode cX10_told 239 = .ok (.aload_n 0, 1) := by decide +kernel
theorem dX10_told_240 : decode cX10_told 240 = .ok (.iload_n 1, 1) := by decide +kernel
theorem dX10_told_241 : decode cX10_told 241 = .ok (.iload 6, 2) := by decide +kernel
theorem dX10_told_243 : decode cX10_told 243 = .ok (.invokevirtual 69, 3) := by decide +kernel
theorem dX10_told_246 : decode cX10_told 246 = .ok (.aload_n 0, 1) := by decide +kernel
theorem dX10_told_247 : decode cX10_told 247 = .ok (.iload_n 1, 1) := by decide +kernel
theorem dX10_told_248 : decode cX10_told 248 = .ok (.iload 6, 2) := by decide +kernel
theorem dX10_told_250 : decode cX10_told 250 = .ok (.iconst 1, 1) := by decide +kernel
theorem dX10_told_251 : decode cX10_told 251 = .ok (.iadd, 1) := by decide +kernel
theorem dX10_told_252 : decode cX10_told 252 = .ok (.invokevirtual 69, 3) := by decide +kernel
theorem dX10_told_255 : decode cX10_told 255 = .ok (.invokestatic 82, 3) := by decide +kernel
theorem dX10_told_258 : decode cX10_told 258 = .ok (.goto 31, 3) := by decide +kernel
theorem dX10_told_261 : decode cX10_told 261 = .ok (.aload_n 0, 1) := by decide +kernel
theorem dX10_told_262 : decode cX10_told 262 = .ok (.iload_n 1, 1) := by decide +kernel
theorem dX10_told_263 : decode cX10_told 263 = .ok (.iload 6, 2) := by decide +kernel
theorem dX10_told_265 : decode cX10_told 265 = .ok (.invokevirtual 69, 3) := by decide +kernel
theorem dX10_told_268 : decode cX10_told 268 = .ok (.aload_n 0, 1) := by decide +kernel
theorem dX10_told_269 : decode cX10_told 269 = .ok (.iload_n 1, 1) := by decide +kernel
theorem dX10_told_270 : decode cX10_told 270 = .ok (.iload 6, 2) := by decide +kernel
theorem dX10_told_272 : decode cX10_told 272 = .ok (.iconst 1, 1) := by decide +kernel
theorem dX10_told_273 : decode cX10_told 273 = .ok (.iadd, 1) := by decide +kernel
theorem dX10_told_274 : decode cX10_told 274 = .ok (.invokevirtual 69, 3) := by decide +kernel
theorem dX10_told_277 : decode cX10_told 277 = .ok (.aload_n 0, 1) := by decide +kernel
theorem dX10_told_278 : decode cX10_told 278 = .ok (.iload_n 1, 1) := by decide +kernel
theorem dX10_told_279 : decode cX10_told 279 = .ok (.iload 6, 2) := by decide +kernel
theorem dX10_told_281 : decode cX10_told 281 = .ok (.iconst 2, 1) := by decide +kernel
theorem dX10_told_282 : decode cX10_told 282 = .ok (.iadd, 1) := by decide +kernel
theorem dX10_told_283 : decode cX10_told 283 = .ok (.invokevirtual 69, 3) := by decide +kernel
theorem dX10_told_286 : decode cX10_told 286 = .ok (.invokestatic 85, 3) := by decide +kernel
theorem dX10_told_289 : decode cX10_told 289 = .ok (.ireturn, 1) := by decide +kernel
theorem dX10_pick_0 : decode cX10_pick 0 = .ok (.iload_n 0, 1) := by decide +kernel
theorem dX10_pick_1 : decode cX10_pick 1 = .ok (.ifCond .ne 7, 3) := by decide +kernel
theorem dX10_pick_4 : decode cX10_pick 4 = .ok (.iload_n 1, 1) := by decide +kernel
theorem dX10_pick_5 : decode cX10_pick 5 = .ok (.goto 43, 3) := by decide +kernel
theorem dX10_pick_8 : decode cX10_pick 8 = .ok (.iload_n 0, 1) := by decide +kernel
theorem dX10_pick_9 : decode cX10_pick 9 = .ok (.iconst 1, 1) := by decide +kernel
theorem dX10_pick_10 : decode cX10_pick 10 = .ok (.if_icmp .ne 7, 3) := by decide +kernel
theorem dX10_pick_13 : decode cX10_pick 13 = .ok (.iload_n 2, 1) := by decide +kernel
theorem dX10_pick_14 : decode cX10_pick 14 = .ok (.goto 34, 3) := by decide +kernel
theorem dX10_pick_17 : decode cX10_pick 17 = .ok (.iload_n 0, 1) := by decide +kernel
theorem dX10_pick_18 : decode cX10_pick 18 = .ok (.iconst 2, 1) := by decide +kernel
theorem dX10_pick_19 : decode cX10_pick 19 = .ok (.if_icmp .ne 7, 3) := by decide +kernel
theorem dX10_pick_22 : decode cX10_pick 22 = .ok (.iload_n 3, 1) := by decide +kernel
theorem dX10_pick_23 : decode cX10_pick 23 = .ok (.goto 25, 3) := by decide +kernel
theorem dX10_pick_26 : decode cX10_pick 26 = .ok (.iload_n 0, 1) := by decide +kernel
theorem dX10_pick_27 : decode cX10_pick 27 = .ok (.iconst 3, 1) := by decide +kernel
theorem dX10_pick_28 : decode cX10_pick 28 = .ok (.if_icmp .ne 8, 3) := by decide +kernel
theorem dX10_pick_31 : decode cX10_pick 31 = .ok (.iload 4, 2) := by decide +kernel
theorem dX10_pick_33 : decode cX10_pick 33 = .ok (.goto 15, 3) := by decide +kernel
theorem dX10_pick_36 : decode cX10_pick 36 = .ok (.iload_n 0, 1) := by decide +kernel
theorem dX10_pick_37 : decode cX10_pick 37 = .ok (.iconst 4, 1) := by decide +kernel
theorem dX10_pick_38 : decode cX10_pick 38 = .ok (.if_icmp .ne 8, 3) := by decide +kernel
theorem dX10_pick_41 : decode cX10_pick 41 = .ok (.iload 5, 2) := by decide +kernel
theorem dX10_pick_43 : decode cX10_pick 43 = .ok (.goto 5, 3) := by decide +kernel
theorem dX10_pick_46 : decode cX10_pick 46 = .ok (.iload 6, 2) := by decide +kernel
theorem dX10_pick_48 : decode cX10_pick 48 = .ok (.ireturn, 1) := by decide +kernel
theorem dX10_odd_0 : decode cX10_odd 0 = .ok (.iload_n 0, 1) := by decide +kernel
theorem dX10_odd_1 : decode cX10_odd 1 = .ok (.iconst 2, 1) := by decide +kernel
theorem dX10_odd_2 : decode cX10_odd 2 = .ok (.irem, 1) := by decide +kernel
theorem dX10_odd_3 : decode cX10_odd 3 = .ok (.iload_n 1, 1) := by decide +kernel
theorem dX10_odd_4 : decode cX10_odd 4 = .ok (.iconst 2, 1) := by decide +kernel
theorem dX10_odd_5 : decode cX10_odd 5 = .ok (.irem, 1) := by decide +kernel
theorem dX10_odd_6 : decode cX10_odd 6 = .ok (.iadd, 1) := by decide +kernel
theorem dX10_odd_7 : decode cX10_odd 7 = .ok (.ireturn, 1) := by decide +kernel
theorem dX10_backBy_0 : decode cX10_backBy 0 = .ok (.iload_n 0, 1) := by decide +kernel
theorem dX10_backBy_1 : decode cX10_backBy 1 = .ok (.bipush 6, 2) := by decide +kernel
theorem dX10_backBy_3 : decode cX10_backBy 3 = .ok (.irem, 1) := by decide +kernel
theorem dX10_backBy_4 : decode cX10_backBy 4 = .ok (.istore_n 3, 1) := by decide +kernel
theorem dX10_backBy_5 : decode cX10_backBy 5 = .ok (.iload_n 1, 1) := by decide +kernel
theorem dX10_backBy_6 : decode cX10_backBy 6 = .ok (.iload_n 2, 1) := by decide +kernel
theorem dX10_backBy_7 : decode cX10_backBy 7 = .ok (.invokestatic 97, 3) := by decide +kernel
theorem dX10_backBy_10 : decode cX10_backBy 10 = .ok (.istore 4, 2) := by decide +kernel
theorem dX10_backBy_12 : decode cX10_backBy 12 = .ok (.iload 4, 2) := by decide +kernel
theorem dX10_backBy_14 : decode cX10_backBy 14 = .ok (.ifCond .ne 22, 3) := by decide +kernel
theorem dX10_backBy_17 : decode cX10_backBy 17 = .ok (.iload_n 3, 1) := by decide +kernel
theorem dX10_backBy_18 : decode cX10_backBy 18 = .ok (.bipush 10, 2) := by decide +kernel
theorem dX10_backBy_20 : decode cX10_backBy 20 = .ok (.bipush 11, 2) := by decide +kernel
theorem dX10_backBy_22 : decode cX10_backBy 22 = .ok (.bipush 13, 2) := by decide +kernel
theorem dX10_backBy_24 : decode cX10_backBy 24 = .ok (.bipush 14, 2) := by decide +kernel
theorem dX10_backBy_26 : decode cX10_backBy 26 = .ok (.bipush 16, 2) := by decide +kernel
theorem dX10_backBy_28 : decode cX10_backBy 28 = .ok (.bipush 18, 2) := by decide +kernel
theorem dX10_backBy_30 : decode cX10_backBy 30 = .ok (.invokestatic 100, 3) := by decide +kernel
theorem dX10_backBy_33 : decode cX10_backBy 33 = .ok (.goto 44, 3) := by decide +kernel
theorem dX10_backBy_36 : decode cX10_backBy 36 = .ok (.iload 4, 2) := by decide +kernel
theorem dX10_backBy_38 : decode cX10_backBy 38 = .ok (.iconst 2, 1) := by decide +kernel
theorem dX10_backBy_39 : decode cX10_backBy 39 = .ok (.if_icmp .ne 22, 3) := by decide +kernel
theorem dX10_backBy_42 : decode cX10_backBy 42 = .ok (.iload_n 3, 1) := by decide +kernel
theorem dX10_backBy_43 : decode cX10_backBy 43 = .ok (.bipush 16, 2) := by decide +kernel
theorem dX10_backBy_45 : decode cX10_backBy 45 = .ok (.bipush 18, 2) := by decide +kernel
theorem dX10_backBy_47 : decode cX10_backBy 47 = .ok (.bipush 20, 2) := by decide +kernel
theorem dX10_backBy_49 : decode cX10_backBy 49 = .ok (.bipush 23, 2) := by decide +kernel
theorem dX10_backBy_51 : decode cX10_backBy 51 = .ok (.bipush 25, 2) := by decide +kernel
theorem dX10_backBy_53 : decode cX10_backBy 53 = .ok (.bipush 29, 2) := by decide +kernel
theorem dX10_backBy_55 : decode cX10_backBy 55 = .ok (.invokestatic 100, 3) := by decide +kernel
theorem dX10_backBy_58 : decode cX10_backBy 58 = .ok (.goto 19, 3) := by decide +kernel
theorem dX10_backBy_61 : decode cX10_backBy 61 = .ok (.iload_n 3, 1) := by decide +kernel
theorem dX10_backBy_62 : decode cX10_backBy 62 = .ok (.bipush 13, 2) := by decide +kernel
theorem dX10_backBy_64 : decode cX10_backBy 64 = .ok (.bipush 14, 2) := by decide +kernel
theorem dX10_backBy_66 : decode cX10_backBy 66 = .ok (.bipush 16, 2) := by decide +kernel
theorem dX10_backBy_68 : decode cX10_backBy 68 = .ok (.bipush 18, 2) := by decide +kernel
theorem dX10_backBy_70 : decode cX10_backBy 70 = .ok (.bipush 20, 2) := by decide +kernel
theorem dX10_backBy_72 : decode cX10_backBy 72 = .ok (.bipush 23, 2) := by decide +kernel
theorem dX10_backBy_74 : decode cX10_backBy 74 = .ok (.invokestatic 100, 3) := by decide +kernel
theorem dX10_backBy_77 : decode cX10_backBy 77 = .ok (.ireturn, 1) := by decide +kernel
theorem dX10_forthBy_0 : decode cX10_forthBy 0 = .ok (.iload_n 0, 1) := by decide +kernel
theorem dX10_forthBy_1 : decode cX10_forthBy 1 = .ok (.bipush 6, 2) := by decide +kernel
theorem dX10_forthBy_3 : decode cX10_forthBy 3 = .ok (.irem, 1) := by decide +kernel
theorem dX10_forthBy_4 : decode cX10_forthBy 4 = .ok (.istore_n 3, 1) := by decide +kernel
theorem dX10_forthBy_5 : decode cX10_forthBy 5 = .ok (.iload_n 1, 1) := by decide +kernel
theorem dX10_forthBy_6 : decode cX10_forthBy 6 = .ok (.iload_n 2, 1) := by decide +kernel
theorem dX10_forthBy_7 : decode cX10_forthBy 7 = .ok (.invokestatic 97, 3) := by decide +kernel
theorem dX10_forthBy_10 : decode cX10_forthBy 10 = .ok (.istore 4, 2) := by decide +kernel
theorem dX10_forthBy_12 : decode cX10_forthBy 12 = .ok (.iload 4, 2) := by decide +kernel
theorem dX10_forthBy_14 : decode cX10_forthBy 14 = .ok (.ifCond .ne 28, 3) := by decide +kernel
theorem dX10_forthBy_17 : decode cX10_forthBy 17 = .ok (.iload_n 3, 1) := by decide +kernel
theorem dX10_forthBy_18 : decode cX10_forthBy 18 = .ok (.sipush 13107, 3) := by decide +kernel
theorem dX10_forthBy_21 : decode cX10_forthBy 21 = .ok (.sipush 11916, 3) := by decide +kernel
theorem dX10_forthBy_24 : decode cX10_forthBy 24 = .ok (.sipush 10082, 3) := by decide +kernel
theorem dX10_forthBy_27 : decode cX10_forthBy 27 = .ok (.sipush 9362, 3) := by decide +kernel
theorem dX10_forthBy_30 : decode cX10_forthBy 30 = .ok (.sipush 8192, 3) := by decide +kernel
theorem dX10_forthBy_33 : decode cX10_forthBy 33 = .ok (.sipush 7282, 3) := by decide +kernel
theorem dX10_forthBy_36 : decode cX10_forthBy 36 = .ok (.invokestatic 100, 3) := by decide +kernel
theorem dX10_forthBy_39 : decode cX10_forthBy 39 = .ok (.goto 56, 3) := by decide +kernel
theorem dX10_forthBy_42 : decode cX10_forthBy 42 = .ok (.iload 4, 2) := by decide +kernel
theorem dX10_forthBy_44 : decode cX10_forthBy 44 = .ok (.iconst 2, 1) := by decide +kernel
theorem dX10_forthBy_45 : decode cX10_forthBy 45 = .ok (.if_icmp .ne 28, 3) := by decide +kernel
theorem dX10_forthBy_48 : decode cX10_forthBy 48 = .ok (.iload_n 3, 1) := by decide +kernel
theorem dX10_forthBy_49 : decode cX10_forthBy 49 = .ok (.sipush 5243, 3) := by decide +kernel
theorem dX10_forthBy_52 : decode cX10_forthBy 52 = .ok (.sipush 4660, 3) := by decide +kernel
theorem dX10_forthBy_55 : decode cX10_forthBy 55 = .ok (.sipush 4194, 3) := by decide +kernel
theorem dX10_forthBy_58 : decode cX10_forthBy 58 = .ok (.sipush 3647, 3) := by decide +kernel
theorem dX10_forthBy_61 : decode cX10_forthBy 61 = .ok (.sipush 3355, 3) := by decide +kernel
theorem dX10_forthBy_64 : decode cX10_forthBy 64 = .ok (.sipush 2893, 3) := by decide +kernel
theorem dX10_forthBy_67 : decode cX10_forthBy 67 = .ok (.invokestatic 100, 3) := by decide +kernel
theorem dX10_forthBy_70 : decode cX10_forthBy 70 = .ok (.goto 25, 3) := by decide +kernel
theorem dX10_forthBy_73 : decode cX10_forthBy 73 = .ok (.iload_n 3, 1) := by decide +kernel
theorem dX10_forthBy_74 : decode cX10_forthBy 74 = .ok (.sipush 8066, 3) := by decide +kernel
theorem dX10_forthBy_77 : decode cX10_forthBy 77 = .ok (.sipush 7490, 3) := by decide +kernel
theorem dX10_forthBy_80 : decode cX10_forthBy 80 = .ok (.sipush 6554, 3) := by decide +kernel
theorem dX10_forthBy_83 : decode cX10_forthBy 83 = .ok (.sipush 5825, 3) := by decide +kernel
theorem dX10_forthBy_86 : decode cX10_forthBy 86 = .ok (.sipush 5243, 3) := by decide +kernel
theorem dX10_forthBy_89 : decode cX10_forthBy 89 = .ok (.sipush 4559, 3) := by decide +kernel
theorem dX10_forthBy_92 : decode cX10_forthBy 92 = .ok (.invokestatic 100, 3) := by decide +kernel
theorem dX10_forthBy_95 : decode cX10_forthBy 95 = .ok (.ireturn, 1) := by decide +kernel
theorem dX10_backLine_0 : decode cX10_backLine 0 = .ok (.aload_n 0, 1) := by decide +kernel
theorem dX10_backLine_1 : decode cX10_backLine 1 = .ok (.getfield 44, 3) := by decide +kernel
theorem dX10_backLine_4 : decode cX10_backLine 4 = .ok (.iload_n 1, 1) := by decide +kernel
theorem dX10_backLine_5 : decode cX10_backLine 5 = .ok (.iaload, 1) := by decide +kernel
theorem dX10_backLine_6 : decode cX10_backLine 6 = .ok (.istore_n 3, 1) := by decide +kernel
theorem dX10_backLine_7 : decode cX10_backLine 7 = .ok (.aload_n 0, 1) := by decide +kernel
theorem dX10_backLine_8 : decode cX10_backLine 8 = .ok (.getfield 44, 3) := by decide +kernel
theorem dX10_backLine_11 : decode cX10_backLine 11 = .ok (.iload_n 1, 1) := by decide +kernel
theorem dX10_backLine_12 : decode cX10_backLine 12 = .ok (.iload_n 2, 1) := by decide +kernel
theorem dX10_backLine_13 : decode cX10_backLine 13 = .ok (.iadd, 1) := by decide +kernel
theorem dX10_backLine_14 : decode cX10_backLine 14 = .ok (.iaload, 1) := by decide +kernel
theorem dX10_backLine_15 : decode cX10_backLine 15 = .ok (.istore 4, 2) := by decide +kernel
theorem dX10_backLine_17 : decode cX10_backLine 17 = .ok (.aload_n 0, 1) := by decide +kernel
theorem dX10_backLine_18 : decode cX10_backLine 18 = .ok (.getfield 44, 3) := by decide +kernel
theorem dX10_backLine_21 : decode cX10_backLine 21 = .ok (.iload_n 1, 1) := by decide +kernel
theorem dX10_backLine_22 : decode cX10_backLine 22 = .ok (.iconst 2, 1) := by decide +kernel
theorem dX10_backLine_23 : decode cX10_backLine 23 = .ok (.iload_n 2, 1) := by decide +kernel
theorem dX10_backLine_24 : decode cX10_backLine 24 = .ok (.imul, 1) := by decide +kernel
theorem dX10_backLine_25 : decode cX10_backLine 25 = .ok (.iadd, 1) := by decide +kernel
theorem dX10_backLine_26 : decode cX10_backLine 26 = .ok (.iaload, 1) := by decide +kernel
theorem dX10_backLine_27 : decode cX10_backLine 27 = .ok (.istore 5, 2) := by decide +kernel
theorem dX10_backLine_29 : decode cX10_backLine 29 = .ok (.aload_n 0, 1) := by decide +kernel
theorem dX10_backLine_30 : decode cX10_backLine 30 = .ok (.getfield 44, 3) := by decide +kernel
theorem dX10_backLine_33 : decode cX10_backLine 33 = .ok (.iload_n 1, 1) := by decide +kernel
theorem dX10_backLine_34 : decode cX10_backLine 34 = .ok (.iconst 3, 1) := by decide +kernel
theorem dX10_backLine_35 : decode cX10_backLine 35 = .ok (.iload_n 2, 1) := by decide +kernel
theorem dX10_backLine_36 : decode cX10_backLine 36 = .ok (.imul, 1) := by decide +kernel
theorem dX10_backLine_37 : decode cX10_backLine 37 = .ok (.iadd, 1) := by decide +kernel
theorem dX10_backLine_38 : decode cX10_backLine 38 = .ok (.iaload, 1) := by decide +kernel
theorem dX10_backLine_39 : decode cX10_backLine 39 = .ok (.istore 6, 2) := by decide +kernel
theorem dX10_backLine_41 : decode cX10_backLine 41 = .ok (.iload_n 3, 1) := by decide +kernel
theorem dX10_backLine_42 : decode cX10_backLine 42 = .ok (.iload 5, 2) := by decide +kernel
theorem dX10_backLine_44 : decode cX10_backLine 44 = .ok (.iadd, 1) := by decide +kernel
theorem dX10_backLine_45 : decode cX10_backLine 45 = .ok (.istore 7, 2) := by decide +kernel
theorem dX10_backLine_47 : decode cX10_backLine 47 = .ok (.iload_n 3, 1) := by decide +kernel
theorem dX10_backLine_48 : decode cX10_backLine 48 = .ok (.iload 5, 2) := by decide +kernel
theorem dX10_backLine_50 : decode cX10_backLine 50 = .ok (.isub, 1) := by decide +kernel
theorem dX10_backLine_51 : decode cX10_backLine 51 = .ok (.istore 8, 2) := by decide +kernel
theorem dX10_backLine_53 : decode cX10_backLine 53 = .ok (.iload 4, 2) := by decide +kernel
theorem dX10_backLine_55 : decode cX10_backLine 55 = .ok (.iconst 2, 1) := by decide +kernel
theorem dX10_backLine_56 : decode cX10_backLine 56 = .ok (.invokestatic 104, 3) := by decide +kernel
theorem dX10_backLine_59 : decode cX10_backLine 59 = .ok (.iload 6, 2) := by decide +kernel
theorem dX10_backLine_61 : decode cX10_backLine 61 = .ok (.isub, 1) := by decide +kernel
theorem dX10_backLine_62 : decode cX10_backLine 62 = .ok (.istore 9, 2) := by decide +kernel
theorem dX10_backLine_64 : decode cX10_backLine 64 = .ok (.iload 4, 2) := by decide +kernel
theorem dX10_backLine_66 : decode cX10_backLine 66 = .ok (.iload 6, 2) := by decide +kernel
theorem dX10_backLine_68 : decode cX10_backLine 68 = .ok (.iconst 2, 1) := by decide +kernel
theorem dX10_backLine_69 : decode cX10_backLine 69 = .ok (.invokestatic 104, 3) := by decide +kernel
theorem dX10_backLine_72 : decode cX10_backLine 72 = .ok (.iadd, 1) := by decide +kernel
theorem dX10_backLine_73 : decode cX10_backLine 73 = .ok (.istore 10, 2) := by decide +kernel
theorem dX10_backLine_75 : decode cX10_backLine 75 = .ok (.aload_n 0, 1) := by decide +kernel
theorem dX10_backLine_76 : decode cX10_backLine 76 = .ok (.getfield 44, 3) := by decide +kernel
theorem dX10_backLine_79 : decode cX10_backLine 79 = .ok (.iload_n 1, 1) := by decide +kernel
theorem dX10_backLine_80 : decode cX10_backLine 80 = .ok (.iload 7, 2) := by decide +kernel
theorem dX10_backLine_82 : decode cX10_backLine 82 = .ok (.iload 10, 2) := by decide +kernel
theorem dX10_backLine_84 : decode cX10_backLine 84 = .ok (.iadd, 1) := by decide +kernel
theorem dX10_backLine_85 : decode cX10_backLine 85 = .ok (.iastore, 1) := by decide +kernel
theorem dX10_backLine_86 : decode cX10_backLine 86 = .ok (.aload_n 0, 1) := by decide +kernel
theorem dX10_backLine_87 : decode cX10_backLine 87 = .ok (.getfield 44, 3) := by decide +kernel
theorem dX10_backLine_90 : decode cX10_backLine 90 = .ok (.iload_n 1, 1) := by decide +kernel
theorem dX10_backLine_91 : decode cX10_backLine 91 = .ok (.iload_n 2, 1) := by decide +kernel
theorem dX10_backLine_92 : decode cX10_backLine 92 = .ok (.iadd, 1) := by decide +kernel
theorem dX10_backLine_93 : decode cX10_backLine 93 = .ok (.iload 8, 2) := by decide +kernel
theorem dX10_backLine_95 : decode cX10_backLine 95 = .ok (.iload 9, 2) := by decide +kernel
theorem dX10_backLine_97 : decode cX10_backLine 97 = .ok (.iadd, 1) := by decide +kernel
theorem dX10_backLine_98 : decode cX10_backLine 98 = .ok (.iastore, 1) := by decide +kernel
theorem dX10_backLine_99 : decode cX10_backLine 99 = .ok (.aload_n 0, 1) := by decide +kernel
theorem dX10_backLine_100 : decode cX10_backLine 100 = .ok (.getfield 44, 3) := by decide +kernel
theorem dX10_backLine_103 : decode cX10_backLine 103 = .ok (.iload_n 1, 1) := by decide +kernel
theorem dX10_backLine_104 : decode cX10_backLine 104 = .ok (.iconst 2, 1) := by decide +kernel
theorem dX10_backLine_105 : decode cX10_backLine 105 = .ok (.iload_n 2, 1) := by decide +kernel
theorem dX10_backLine_106 : decode cX10_backLine 106 = .ok (.imul, 1) := by decide +kernel
theorem dX10_backLine_107 : decode cX10_backLine 107 = .ok (.iadd, 1) := by decide +kernel
theorem dX10_backLine_108 : decode cX10_backLine 108 = .ok (.iload 8, 2) := by decide +kernel
theorem dX10_backLine_110 : decode cX10_backLine 110 = .ok (.iload 9, 2) := by decide +kernel
theorem dX10_backLine_112 : decode cX10_backLine 112 = .ok (.isub, 1) := by decide +kernel
theorem dX10_backLine_113 : decode cX10_backLine 113 = .ok (.iastore, 1) := by decide +kernel
theorem dX10_backLine_114 : decode cX10_backLine 114 = .ok (.aload_n 0, 1) := by decide +kernel
theorem dX10_backLine_115 : decode cX10_backLine 115 = .ok (.getfield 44, 3) := by decide +kernel
theorem dX10_backLine_118 : decode cX10_backLine 118 = .ok (.iload_n 1, 1) := by decide +kernel
theorem dX10_backLine_119 : decode cX10_backLine 119 = .ok (.iconst 3, 1) := by decide +kernel
theorem dX10_backLine_120 : decode cX10_backLine 120 = .ok (.iload_n 2, 1) := by decide +kernel
theorem dX10_backLine_121 : decode cX10_backLine 121 = .ok (.imul, 1) := by decide +kernel
theorem dX10_backLine_122 : decode cX10_backLine 122 = .ok (.iadd, 1) := by decide +kernel
theorem dX10_backLine_123 : decode cX10_backLine 123 = .ok (.iload 7, 2) := by decide +kernel
theorem dX10_backLine_125 : decode cX10_backLine 125 = .ok (.iload 10, 2) := by decide +kernel
theorem dX10_backLine_127 : decode cX10_backLine 127 = .ok (.isub, 1) := by decide +kernel
theorem dX10_backLine_128 : decode cX10_backLine 128 = .ok (.iastore, 1) := by decide +kernel
theorem dX10_backLine_129 : decode cX10_backLine 129 = .ok (.return_, 1) := by decide +kernel
theorem dX10_forthLine_0 : decode cX10_forthLine 0 = .ok (.aload_n 0, 1) := by decide +kernel
theorem dX10_forthLine_1 : decode cX10_forthLine 1 = .ok (.getfield 44, 3) := by decide +kernel
theorem dX10_forthLine_4 : decode cX10_forthLine 4 = .ok (.iload_n 1, 1) := by decide +kernel
theorem dX10_forthLine_5 : decode cX10_forthLine 5 = .ok (.iaload, 1) := by decide +kernel
theorem dX10_forthLine_6 : decode cX10_forthLine 6 = .ok (.istore_n 3, 1) := by decide +kernel
theorem dX10_forthLine_7 : decode cX10_forthLine 7 = .ok (.aload_n 0, 1) := by decide +kernel
theorem dX10_forthLine_8 : decode cX10_forthLine 8 = .ok (.getfield 44, 3) := by decide +kernel
theorem dX10_forthLine_11 : decode cX10_forthLine 11 = .ok (.iload_n 1, 1) := by decide +kernel
theorem dX10_forthLine_12 : decode cX10_forthLine 12 = .ok (.iload_n 2, 1) := by decide +kernel
theorem dX10_forthLine_13 : decode cX10_forthLine 13 = .ok (.iadd, 1) := by decide +kernel
theorem dX10_forthLine_14 : decode cX10_forthLine 14 = .ok (.iaload, 1) := by decide +kernel
theorem dX10_forthLine_15 : decode cX10_forthLine 15 = .ok (.istore 4, 2) := by decide +kernel
theorem dX10_forthLine_17 : decode cX10_forthLine 17 = .ok (.aload_n 0, 1) := by decide +kernel
theorem dX10_forthLine_18 : decode cX10_forthLine 18 = .ok (.getfield 44, 3) := by decide +kernel
theorem dX10_forthLine_21 : decode cX10_forthLine 21 = .ok (.iload_n 1, 1) := by decide +kernel
theorem dX10_forthLine_22 : decode cX10_forthLine 22 = .ok (.iconst 2, 1) := by decide +kernel
theorem dX10_forthLine_23 : decode cX10_forthLine 23 = .ok (.iload_n 2, 1) := by decide +kernel
theorem dX10_forthLine_24 : decode cX10_forthLine 24 = .ok (.imul, 1) := by decide +kernel
theorem dX10_forthLine_25 : decode cX10_forthLine 25 = .ok (.iadd, 1) := by decide +kernel
theorem dX10_forthLine_26 : decode cX10_forthLine 26 = .ok (.iaload, 1) := by decide +kernel
theorem dX10_forthLine_27 : decode cX10_forthLine 27 = .ok (.istore 5, 2) := by decide +kernel
theorem dX10_forthLine_29 : decode cX10_forthLine 29 = .ok (.aload_n 0, 1) := by decide +kernel
theorem dX10_forthLine_30 : decode cX10_forthLine 30 = .ok (.getfield 44, 3) := by decide +kernel
