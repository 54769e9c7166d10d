theorem dX8_back_125 : decode cX8_back 125 = .ok (.bipush 6, 2) := by decide +kernel
theorem dX8_back_127 : decode cX8_back 127 = .ok (.ishr, 1) := by decide +kernel
theorem dX8_back_128 : decode cX8_back 128 = .ok (.iastore, 1) := by decide +kernel
theorem dX8_back_129 : decode cX8_back 129 = .ok (.iinc 4 1, 3) := by decide +kernel
theorem dX8_back_132 : decode cX8_back 132 = .ok (.goto (-30), 3) := by decide +kernel
theorem dX8_back_135 : decode cX8_back 135 = .ok (.return_, 1) := by decide +kernel
theorem dX8_backLine_0 : decode cX8_backLine 0 = .ok (.aload_n 0, 1) := by decide +kernel
theorem dX8_backLine_1 : decode cX8_backLine 1 = .ok (.getfield 9, 3) := by decide +kernel
theorem dX8_backLine_4 : decode cX8_backLine 4 = .ok (.iload_n 1, 1) := by decide +kernel
theorem dX8_backLine_5 : decode cX8_backLine 5 = .ok (.iaload, 1) := by decide +kernel
theorem dX8_backLine_6 : decode cX8_backLine 6 = .ok (.istore_n 3, 1) := by decide +kernel
theorem dX8_backLine_7 : decode cX8_backLine 7 = .ok (.aload_n 0, 1) := by decide +kernel
theorem dX8_backLine_8 : decode cX8_backLine 8 = .ok (.getfield 9, 3) := by decide +kernel
theorem dX8_backLine_11 : decode cX8_backLine 11 = .ok (.iload_n 1, 1) := by decide +kernel
theorem dX8_backLine_12 : decode cX8_backLine 12 = .ok (.iload_n 2, 1) := by decide +kernel
theorem dX8_backLine_13 : decode cX8_backLine 13 = .ok (.iadd, 1) := by decide +kernel
theorem dX8_backLine_14 : decode cX8_backLine 14 = .ok (.iaload, 1) := by decide +kernel
theorem dX8_backLine_15 : decode cX8_backLine 15 = .ok (.istore 4, 2) := by decide +kernel
theorem dX8_backLine_17 : decode cX8_backLine 17 = .ok (.aload_n 0, 1) := by decide +kernel
theorem dX8_backLine_18 : decode cX8_backLine 18 = .ok (.getfield 9, 3) := by decide +kernel
theorem dX8_backLine_21 : decode cX8_backLine 21 = .ok (.iload_n 1, 1) := by decide +kernel
theorem dX8_backLine_22 : decode cX8_backLine 22 = .ok (.iconst 2, 1) := by decide +kernel
theorem dX8_backLine_23 : decode cX8_backLine 23 = .ok (.iload_n 2, 1) := by decide +kernel
theorem dX8_backLine_24 : decode cX8_backLine 24 = .ok (.imul, 1) := by decide +kernel
theorem dX8_backLine_25 : decode cX8_backLine 25 = .ok (.iadd, 1) := by decide +kernel
theorem dX8_backLine_26 : decode cX8_backLine 26 = .ok (.iaload, 1) := by decide +kernel
theorem dX8_backLine_27 : decode cX8_backLine 27 = .ok (.istore 5, 2) := by decide +kernel
theorem dX8_backLine_29 : decode cX8_backLine 29 = .ok (.aload_n 0, 1) := by decide +kernel
theorem dX8_backLine_30 : decode cX8_backLine 30 = .ok (.getfield 9, 3) := by decide +kernel
theorem dX8_backLine_33 : decode cX8_backLine 33 = .ok (.iload_n 1, 1) := by decide +kernel
theorem dX8_backLine_34 : decode cX8_backLine 34 = .ok (.iconst 3, 1) := by decide +kernel
theorem dX8_backLine_35 : decode cX8_backLine 35 = .ok (.iload_n 2, 1) := by decide +kernel
theorem dX8_backLine_36 : decode cX8_backLine 36 = .ok (.imul, 1) := by decide +kernel
theorem dX8_backLine_37 : decode cX8_backLine 37 = .ok (.iadd, 1) := by decide +kernel
theorem dX8_backLine_38 : decode cX8_backLine 38 = .ok (.iaload, 1) := by decide +kernel
theorem dX8_backLine_39 : decode cX8_backLine 39 = .ok (.istore 6, 2) := by decide +kernel
theorem dX8_backLine_41 : decode cX8_backLine 41 = .ok (.iload_n 3, 1) := by decide +kernel
theorem dX8_backLine_42 : decode cX8_backLine 42 = .ok (.iload 5, 2) := by decide +kernel
theorem dX8_backLine_44 : decode cX8_backLine 44 = .ok (.iadd, 1) := by decide +kernel
theorem dX8_backLine_45 : decode cX8_backLine 45 = .ok (.istore 7, 2) := by decide +kernel
theorem dX8_backLine_47 : decode cX8_backLine 47 = .ok (.iload_n 3, 1) := by decide +kernel
theorem dX8_backLine_48 : decode cX8_backLine 48 = .ok (.iload 5, 2) := by decide +kernel
theorem dX8_backLine_50 : decode cX8_backLine 50 = .ok (.isub, 1) := by decide +kernel
theorem dX8_backLine_51 : decode cX8_backLine 51 = .ok (.istore 8, 2) := by decide +kernel
theorem dX8_backLine_53 : decode cX8_backLine 53 = .ok (.iload 4, 2) := by decide +kernel
theorem dX8_backLine_55 : decode cX8_backLine 55 = .ok (.iconst 1, 1) := by decide +kernel
theorem dX8_backLine_56 : decode cX8_backLine 56 = .ok (.ishr, 1) := by decide +kernel
theorem dX8_backLine_57 : decode cX8_backLine 57 = .ok (.iload 6, 2) := by decide +kernel
theorem dX8_backLine_59 : decode cX8_backLine 59 = .ok (.isub, 1) := by decide +kernel
theorem dX8_backLine_60 : decode cX8_backLine 60 = .ok (.istore 9, 2) := by decide +kernel
theorem dX8_backLine_62 : decode cX8_backLine 62 = .ok (.iload 4, 2) := by decide +kernel
theorem dX8_backLine_64 : decode cX8_backLine 64 = .ok (.iload 6, 2) := by decide +kernel
theorem dX8_backLine_66 : decode cX8_backLine 66 = .ok (.iconst 1, 1) := by decide +kernel
theorem dX8_backLine_67 : decode cX8_backLine 67 = .ok (.ishr, 1) := by decide +kernel
theorem dX8_backLine_68 : decode cX8_backLine 68 = .ok (.iadd, 1) := by decide +kernel
theorem dX8_backLine_69 : decode cX8_backLine 69 = .ok (.istore 10, 2) := by decide +kernel
theorem dX8_backLine_71 : decode cX8_backLine 71 = .ok (.aload_n 0, 1) := by decide +kernel
theorem dX8_backLine_72 : decode cX8_backLine 72 = .ok (.getfield 9, 3) := by decide +kernel
theorem dX8_backLine_75 : decode cX8_backLine 75 = .ok (.iload_n 1, 1) := by decide +kernel
theorem dX8_backLine_76 : decode cX8_backLine 76 = .ok (.iload 7, 2) := by decide +kernel
theorem dX8_backLine_78 : decode cX8_backLine 78 = .ok (.iload 10, 2) := by decide +kernel
theorem dX8_backLine_80 : decode cX8_backLine 80 = .ok (.iadd, 1) := by decide +kernel
theorem dX8_backLine_81 : decode cX8_backLine 81 = .ok (.iastore, 1) := by decide +kernel
theorem dX8_backLine_82 : decode cX8_backLine 82 = .ok (.aload_n 0, 1) := by decide +kernel
theorem dX8_backLine_83 : decode cX8_backLine 83 = .ok (.getfield 9, 3) := by decide +kernel
theorem dX8_backLine_86 : decode cX8_backLine 86 = .ok (.iload_n 1, 1) := by decide +kernel
theorem dX8_backLine_87 : decode cX8_backLine 87 = .ok (.iload_n 2, 1) := by decide +kernel
theorem dX8_backLine_88 : decode cX8_backLine 88 = .ok (.iadd, 1) := by decide +kernel
theorem dX8_backLine_89 : decode cX8_backLine 89 = .ok (.iload 8, 2) := by decide +kernel
theorem dX8_backLine_91 : decode cX8_backLine 91 = .ok (.iload 9, 2) := by decide +kernel
theorem dX8_backLine_93 : decode cX8_backLine 93 = .ok (.iadd, 1) := by decide +kernel
theorem dX8_backLine_94 : decode cX8_backLine 94 = .ok (.iastore, 1) := by decide +kernel
theorem dX8_backLine_95 : decode cX8_backLine 95 = .ok (.aload_n 0, 1) := by decide +kernel
theorem dX8_backLine_96 : decode cX8_backLine 96 = .ok (.getfield 9, 3) := by decide +kernel
theorem dX8_backLine_99 : decode cX8_backLine 99 = .ok (.iload_n 1, 1) := by decide +kernel
theorem dX8_backLine_100 : decode cX8_backLine 100 = .ok (.iconst 2, 1) := by decide +kernel
theorem dX8_backLine_101 : decode cX8_backLine 101 = .ok (.iload_n 2, 1) := by decide +kernel
theorem dX8_backLine_102 : decode cX8_backLine 102 = .ok (.imul, 1) := by decide +kernel
theorem dX8_backLine_103 : decode cX8_backLine 103 = .ok (.iadd, 1) := by decide +kernel
theorem dX8_backLine_104 : decode cX8_backLine 104 = .ok (.iload 8, 2) := by decide +kernel
theorem dX8_backLine_106 : decode cX8_backLine 106 = .ok (.iload 9, 2) := by decide +kernel
theorem dX8_backLine_108 : decode cX8_backLine 108 = .ok (.isub, 1) := by decide +kernel
theorem dX8_backLine_109 : decode cX8_backLine 109 = .ok (.iastore, 1) := by decide +kernel
theorem dX8_backLine_110 : decode cX8_backLine 110 = .ok (.aload_n 0, 1) := by decide +kernel
theorem dX8_backLine_111 : decode cX8_backLine 111 = .ok (.getfield 9, 3) := by decide +kernel
theorem dX8_backLine_114 : decode cX8_backLine 114 = .ok (.iload_n 1, 1) := by decide +kernel
theorem dX8_backLine_115 : decode cX8_backLine 115 = .ok (.iconst 3, 1) := by decide +kernel
theorem dX8_backLine_116 : decode cX8_backLine 116 = .ok (.iload_n 2, 1) := by decide +kernel
theorem dX8_backLine_117 : decode cX8_backLine 117 = .ok (.imul, 1) := by decide +kernel
theorem dX8_backLine_118 : decode cX8_backLine 118 = .ok (.iadd, 1) := by decide +kernel
theorem dX8_backLine_119 : decode cX8_backLine 119 = .ok (.iload 7, 2) := by decide +kernel
theorem dX8_backLine_121 : decode cX8_backLine 121 = .ok (.iload 10, 2) := by decide +kernel
theorem dX8_backLine_123 : decode cX8_backLine 123 = .ok (.isub, 1) := by decide +kernel
theorem dX8_backLine_124 : decode cX8_backLine 124 = .ok (.iastore, 1) := by decide +kernel
theorem dX8_backLine_125 : decode cX8_backLine 125 = .ok (.return_, 1) := by decide +kernel
theorem dX8_forth_0 : decode cX8_forth 0 = .ok (.iconst 0, 1) := by decide +kernel
theorem dX8_forth_1 : decode cX8_forth 1 = .ok (.istore 4, 2) := by decide +kernel
theorem dX8_forth_3 : decode cX8_forth 3 = .ok (.iload 4, 2) := by decide +kernel
theorem dX8_forth_5 : decode cX8_forth 5 = .ok (.iconst 4, 1) := by decide +kernel
theorem dX8_forth_6 : decode cX8_forth 6 = .ok (.if_icmp .ge 18, 3) := by decide +kernel
theorem dX8_forth_9 : decode cX8_forth 9 = .ok (.aload_n 0, 1) := by decide +kernel
theorem dX8_forth_10 : decode cX8_forth 10 = .ok (.iconst 4, 1) := by decide +kernel
theorem dX8_forth_11 : decode cX8_forth 11 = .ok (.iload 4, 2) := by decide +kernel
theorem dX8_forth_13 : decode cX8_forth 13 = .ok (.imul, 1) := by decide +kernel
theorem dX8_forth_14 : decode cX8_forth 14 = .ok (.iconst 1, 1) := by decide +kernel
theorem dX8_forth_15 : decode cX8_forth 15 = .ok (.invokevirtual 29, 3) := by decide +kernel
theorem dX8_forth_18 : decode cX8_forth 18 = .ok (.iinc 4 1, 3) := by decide +kernel
theorem dX8_forth_21 : decode cX8_forth 21 = .ok (.goto (-18), 3) := by decide +kernel
theorem dX8_forth_24 : decode cX8_forth 24 = .ok (.iconst 0, 1) := by decide +kernel
theorem dX8_forth_25 : decode cX8_forth 25 = .ok (.istore 4, 2) := by decide +kernel
theorem dX8_forth_27 : decode cX8_forth 27 = .ok (.iload 4, 2) := by decide +kernel
theorem dX8_forth_29 : decode cX8_forth 29 = .ok (.iconst 4, 1) := by decide +kernel
theorem dX8_forth_30 : decode cX8_forth 30 = .ok (.if_icmp .ge 16, 3) := by decide +kernel
theorem dX8_forth_33 : decode cX8_forth 33 = .ok (.aload_n 0, 1) := by decide +kernel
theorem dX8_forth_34 : decode cX8_forth 34 = .ok (.iload 4, 2) := by decide +kernel
theorem dX8_forth_36 : decode cX8_forth 36 = .ok (.iconst 4, 1) := by decide +kernel
theorem dX8_forth_37 : decode cX8_forth 37 = .ok (.invokevirtual 29, 3) := by decide +kernel
theorem dX8_forth_40 : decode cX8_forth 40 = .ok (.iinc 4 1, 3) := by decide +kernel
theorem dX8_forth_43 : decode cX8_forth 43 = .ok (.goto (-16), 3) := by decide +kernel
theorem dX8_forth_46 : decode cX8_forth 46 = .ok (.bipush 15, 2) := by decide +kernel
theorem dX8_forth_48 : decode cX8_forth 48 = .ok (.iload_n 3, 1) := by decide +kernel
theorem dX8_forth_49 : decode cX8_forth 49 = .ok (.bipush 6, 2) := by decide +kernel
theorem dX8_forth_51 : decode cX8_forth 51 = .ok (.idiv, 1) := by decide +kernel
theorem dX8_forth_52 : decode cX8_forth 52 = .ok (.iadd, 1) := by decide +kernel
theorem dX8_forth_53 : decode cX8_forth 53 = .ok (.istore 4, 2) := by decide +kernel
theorem dX8_forth_55 : decode cX8_forth 55 = .ok (.iconst 1, 1) := by decide +kernel
theorem dX8_forth_56 : decode cX8_forth 56 = .ok (.iload 4, 2) := by decide +kernel
theorem dX8_forth_58 : decode cX8_forth 58 = .ok (.ishl, 1) := by decide +kernel
theorem dX8_forth_59 : decode cX8_forth 59 = .ok (.iconst 3, 1) := by decide +kernel
theorem dX8_forth_60 : decode cX8_forth 60 = .ok (.idiv, 1) := by decide +kernel
theorem dX8_forth_61 : decode cX8_forth 61 = .ok (.istore 5, 2) := by decide +kernel
theorem dX8_forth_63 : decode cX8_forth 63 = .ok (.iconst 0, 1) := by decide +kernel
theorem dX8_forth_64 : decode cX8_forth 64 = .ok (.istore 6, 2) := by decide +kernel
theorem dX8_forth_66 : decode cX8_forth 66 = .ok (.iload 6, 2) := by decide +kernel
theorem dX8_forth_68 : decode cX8_forth 68 = .ok (.bipush 16, 2) := by decide +kernel
theorem dX8_forth_70 : decode cX8_forth 70 = .ok (.if_icmp .ge 69, 3) := by decide +kernel
theorem dX8_forth_73 : decode cX8_forth 73 = .ok (.getstatic 15, 3) := by decide +kernel
theorem dX8_forth_76 : decode cX8_forth 76 = .ok (.iload 6, 2) := by decide +kernel
theorem dX8_forth_78 : decode cX8_forth 78 = .ok (.iaload, 1) := by decide +kernel
theorem dX8_forth_79 : decode cX8_forth 79 = .ok (.istore 7, 2) := by decide +kernel
theorem dX8_forth_81 : decode cX8_forth 81 = .ok (.aload_n 0, 1) := by decide +kernel
theorem dX8_forth_82 : decode cX8_forth 82 = .ok (.getfield 9, 3) := by decide +kernel
theorem dX8_forth_85 : decode cX8_forth 85 = .ok (.iload 7, 2) := by decide +kernel
theorem dX8_forth_87 : decode cX8_forth 87 = .ok (.iaload, 1) := by decide +kernel
theorem dX8_forth_88 : decode cX8_forth 88 = .ok (.istore 8, 2) := by decide +kernel
theorem dX8_forth_90 : decode cX8_forth 90 = .ok (.iload 8, 2) := by decide +kernel
theorem dX8_forth_92 : decode cX8_forth 92 = .ok (.invokestatic 32, 3) := by decide +kernel
theorem dX8_forth_95 : decode cX8_forth 95 = .ok (.getstatic 38, 3) := by decide +kernel
theorem dX8_forth_98 : decode cX8_forth 98 = .ok (.iload 7, 2) := by decide +kernel
theorem dX8_forth_100 : decode cX8_forth 100 = .ok (.iload_n 3, 1) := by decide +kernel
theorem dX8_forth_101 : decode cX8_forth 101 = .ok (.invokestatic 21, 3) := by decide +kernel
theorem dX8_forth_104 : decode cX8_forth 104 = .ok (.iaload, 1) := by decide +kernel
theorem dX8_forth_105 : decode cX8_forth 105 = .ok (.imul, 1) := by decide +kernel
theorem dX8_forth_106 : decode cX8_forth 106 = .ok (.iload 5, 2) := by decide +kernel
theorem dX8_forth_108 : decode cX8_forth 108 = .ok (.iadd, 1) := by decide +kernel
theorem dX8_forth_109 : decode cX8_forth 109 = .ok (.iload 4, 2) := by decide +kernel
theorem dX8_forth_111 : decode cX8_forth 111 = .ok (.ishr, 1) := by decide +kernel
theorem dX8_forth_112 : decode cX8_forth 112 = .ok (.istore 9, 2) := by decide +kernel
theorem dX8_forth_114 : decode cX8_forth 114 = .ok (.aload_n 1, 1) := by decide +kernel
theorem dX8_forth_115 : decode cX8_forth 115 = .ok (.iload_n 2, 1) := by decide +kernel
theorem dX8_forth_116 : decode cX8_forth 116 = .ok (.iload 6, 2) := by decide +kernel
theorem dX8_forth_118 : decode cX8_forth 118 = .ok (.iadd, 1) := by decide +kernel
theorem dX8_forth_119 : decode cX8_forth 119 = .ok (.iload 8, 2) := by decide +kernel
theorem dX8_forth_121 : decode cX8_forth 121 = .ok (.ifCond .ge 9, 3) := by decide +kernel
theorem dX8_forth_124 : decode cX8_forth 124 = .ok (.iload 9, 2) := by decide +kernel
theorem dX8_forth_126 : decode cX8_forth 126 = .ok (.ineg, 1) := by decide +kernel
theorem dX8_forth_127 : decode cX8_forth 127 = .ok (.goto 5, 3) := by decide +kernel
theorem dX8_forth_130 : decode cX8_forth 130 = .ok (.iload 9, 2) := by decide +kernel
theorem dX8_forth_132 : decode cX8_forth 132 = .ok (.iastore, 1) := by decide +kernel
theorem dX8_forth_133 : decode cX8_forth 133 = .ok (.iinc 6 1, 3) := by decide +kernel
theorem dX8_forth_136 : decode cX8_forth 136 = .ok (.goto (-70), 3) := by decide +kernel
theorem dX8_forth_139 : decode cX8_forth 139 = .ok (.return_, 1) := by decide +kernel
theorem dX8_forthLine_0 : decode cX8_forthLine 0 = .ok (.aload_n 0, 1) := by decide +kernel
theorem dX8_forthLine_1 : decode cX8_forthLine 1 = .ok (.getfield 9, 3) := by decide +kernel
theorem dX8_forthLine_4 : decode cX8_forthLine 4 = .ok (.iload_n 1, 1) := by decide +kernel
theorem dX8_forthLine_5 : decode cX8_forthLine 5 = .ok (.iaload, 1) := by decide +kernel
theorem dX8_forthLine_6 : decode cX8_forthLine 6 = .ok (.istore_n 3, 1) := by decide +kernel
theorem dX8_forthLine_7 : decode cX8_forthLine 7 = .ok (.aload_n 0, 1) := by decide +kernel
theorem dX8_forthLine_8 : decode cX8_forthLine 8 = .ok (.getfield 9, 3) := by decide +kernel
theorem dX8_forthLine_11 : decode cX8_forthLine 11 = .ok (.iload_n 1, 1) := by decide +kernel
theorem dX8_forthLine_12 : decode cX8_forthLine 12 = .ok (.iload_n 2, 1) := by decide +kernel
theorem dX8_forthLine_13 : decode cX8_forthLine 13 = .ok (.iadd, 1) := by decide +kernel
theorem dX8_forthLine_14 : decode cX8_forthLine 14 = .ok (.iaload, 1) := by decide +kernel
theorem dX8_forthLine_15 : decode cX8_forthLine 15 = .ok (.istore 4, 2) := by decide +kernel
theorem dX8_forthLine_17 : decode cX8_forthLine 17 = .ok (.aload_n 0, 1) := by decide +kernel
theorem dX8_forthLine_18 : decode cX8_forthLine 18 = .ok (.getfield 9, 3) := by decide +kernel
theorem dX8_forthLine_21 : decode cX8_forthLine 21 = .ok (.iload_n 1, 1) := by decide +kernel
theorem dX8_forthLine_22 : decode cX8_forthLine 22 = .ok (.iconst 2, 1) := by decide +kernel
theorem dX8_forthLine_23 : decode cX8_forthLine 23 = .ok (.iload_n 2, 1) := by decide +kernel
theorem dX8_forthLine_24 : decode cX8_forthLine 24 = .ok (.imul, 1) := by decide +kernel
theorem dX8_forthLine_25 : decode cX8_forthLine 25 = .ok (.iadd, 1) := by decide +kernel
theorem dX8_forthLine_26 : decode cX8_forthLine 26 = .ok (.iaload, 1) := by decide +kernel
theorem dX8_forthLine_27 : decode cX8_forthLine 27 = .ok (.istore 5, 2) := by decide +kernel
theorem dX8_forthLine_29 : decode cX8_forthLine 29 = .ok (.aload_n 0, 1) := by decide +kernel
theorem dX8_forthLine_30 : decode cX8_forthLine 30 = .ok (.getfield 9, 3) := by decide +kernel
theorem dX8_forthLine_33 : decode cX8_forthLine 33 = .ok (.iload_n 1, 1) := by decide +kernel
theorem dX8_forthLine_34 : decode cX8_forthLine 34 = .ok (.iconst 3, 1) := by decide +kernel
theorem dX8_forthLine_35 : decode cX8_forthLine 35 = .ok (.iload_n 2, 1) := by decide +kernel
theorem dX8_forthLine_36 : decode cX8_forthLine 36 = .ok (.imul, 1) := by decide +kernel
theorem dX8_forthLine_37 : decode cX8_forthLine 37 = .ok (.iadd, 1) := by decide +kernel
theorem dX8_forthLine_38 : decode cX8_forthLine 38 = .ok (.iaload, 1) := by decide +kernel
theorem dX8_forthLine_39 : decode cX8_forthLine 39 = .ok (.istore 6, 2) := by decide +kernel
theorem dX8_forthLine_41 : decode cX8_forthLine 41 = .ok (.iload_n 3, 1) := by decide +kernel
theorem dX8_forthLine_42 : decode cX8_forthLine 42 = .ok (.iload 6, 2) := by decide +kernel
theorem dX8_forthLine_44 : decode cX8_forthLine 44 = .ok (.iadd, 1) := by decide +kernel
theorem dX8_forthLine_45 : decode cX8_forthLine 45 = .ok (.istore 7, 2) := by decide +kernel
theorem dX8_forthLine_47 : decode cX8_forthLine 47 = .ok (.iload 4, 2) := by decide +kernel
theorem dX8_forthLine_49 : decode cX8_forthLine 49 = .ok (.iload 5, 2) := by decide +kernel
theorem dX8_forthLine_51 : decode cX8_forthLine 51 = .ok (.iadd, 1) := by decide +kernel
theorem dX8_forthLine_52 : decode cX8_forthLine 52 = .ok (.istore 8, 2) := by decide +kernel
theorem dX8_forthLine_54 : decode cX8_forthLine 54 = .ok (.iload 4, 2) := by decide +kernel
theorem dX8_forthLine_56 : decode cX8_forthLine 56 = .ok (.iload 5, 2) := by decide +kernel
theorem dX8_forthLine_58 : decode cX8_forthLine 58 = .ok (.isub, 1) := by decide +kernel
theorem dX8_forthLine_59 : decode cX8_forthLine 59 = .ok (.istore 9, 2) := by decide +kernel
theorem dX8_forthLine_61 : decode cX8_forthLine 61 = .ok (.iload_n 3, 1) := by decide +kernel
theorem dX8_forthLine_62 : decode cX8_forthLine 62 = .ok (.iload 6, 2) := by decide +kernel
theorem dX8_forthLine_64 : decode cX8_forthLine 64 = .ok (.isub, 1) := by decide +kernel
theorem dX8_forthLine_65 : decode cX8_forthLine 65 = .ok (.istore 10, 2) := by decide +kernel
theorem dX8_forthLine_67 : decode cX8_forthLine 67 = .ok (.aload_n 0, 1) := by decide +kernel
theorem dX8_forthLine_68 : decode cX8_forthLine 68 = .ok (.getfield 9, 3) := by decide +kernel
theorem dX8_forthLine_71 : decode cX8_forthLine 71 = .ok (.iload_n 1, 1) := by decide +kernel
theorem dX8_forthLine_72 : decode cX8_forthLine 72 = .ok (.iload 7, 2) := by decide +kernel
theorem dX8_forthLine_74 : decode cX8_forthLine 74 = .ok (.iload 8, 2) := by decide +kernel
theorem dX8_forthLine_76 : decode cX8_forthLine 76 = .ok (.iadd, 1) := by decide +kernel
theorem dX8_forthLine_77 : decode cX8_forthLine 77 = .ok (.iastore, 1) := by decide +kernel
theorem dX8_forthLine_78 : decode cX8_forthLine 78 = .ok (.aload_n 0, 1) := by decide +kernel
theorem dX8_forthLine_79 : decode cX8_forthLine 79 = .ok (.getfield 9, 3) := by decide +kernel
theorem dX8_forthLine_82 : decode cX8_forthLine 82 = .ok (.iload_n 1, 1) := by decide +kernel
theorem dX8_forthLine_83 : decode cX8_forthLine 83 = .ok (.iload_n 2, 1) := by decide +kernel
theorem dX8_forthLine_84 : decode cX8_forthLine 84 = .ok (.iadd, 1) := by decide +kernel
theorem dX8_forthLine_85 : decode cX8_forthLine 85 = .ok (.iconst 2, 1) := by decide +kernel
theorem dX8_forthLine_86 : decode cX8_forthLine 86 = .ok (.iload 10, 2) := by decide +kernel
theorem dX8_forthLine_88 : decode cX8_forthLine 88 = .ok (.imul, 1) := by decide +kernel
theorem dX8_forthLine_89 : decode cX8_forthLine 89 = .ok (.iload 9, 2) := by decide +kernel
theorem dX8_forthLine_91 : decode cX8_forthLine 91 = .ok (.iadd, 1) := by decide +kernel
theorem dX8_forthLine_92 : decode cX8_forthLine 92 = .ok (.iastore, 1) := by decide +kernel
theorem dX8_forthLine_93 : decode cX8_forthLine 93 = .ok (.aload_n 0, 1) := by decide +kernel
theorem dX8_forthLine_94 : decode cX8_forthLine 94 = .ok (.getfield 9, 3) := by decide +kernel
theorem dX8_forthLine_97 : decode cX8_forthLine 97 = .ok (.iload_n 1, 1) := by decide +kernel
theorem dX8_forthLine_98 : decode cX8_forthLine 98 = .ok (.iconst 2, 1) := by decide +kernel
theorem dX8_forthLine_99 : decode cX8_forthLine 99 = .ok (.iload_n 2, 1) := by decide +kernel
theorem dX8_forthLine_100 : decode cX8_forthLine 100 = .ok (.imul, 1) := by decide +kernel
theorem dX8_forthLine_101 : decode cX8_forthLine 101 = .ok (.iadd, 1) := by decide +kernel
theorem dX8_forthLine_102 : decode cX8_forthLine 102 = .ok (.iload 7, 2) := by decide +kernel
theorem dX8_forthLine_104 : decode cX8_forthLine 104 = .ok (.iload 8, 2) := by decide +kernel
theorem dX8_forthLine_106 : decode cX8_forthLine 106 = .ok (.isub, 1) := by decide +kernel
theorem dX8_forthLine_107 : decode cX8_forthLine 107 = .ok (.iastore, 1) := by decide +kernel
theorem dX8_forthLine_108 : decode cX8_forthLine 108 = .ok (.aload_n 0, 1) := by decide +kernel
theorem dX8_forthLine_109 : decode cX8_forthLine 109 = .ok (.getfield 9, 3) := by decide +kernel
theorem dX8_forthLine_112 : decode cX8_forthLine 112 = .ok (.iload_n 1, 1) := by decide +kernel
theorem dX8_forthLine_113 : decode cX8_forthLine 113 = .ok (.iconst 3, 1) := by decide +kernel
theorem dX8_forthLine_114 : decode cX8_forthLine 114 = .ok (.iload_n 2, 1) := by decide +kernel
theorem dX8_forthLine_115 : decode cX8_forthLine 115 = .ok (.imul, 1) := by decide +kernel
theorem dX8_forthLine_116 : decode cX8_forthLine 116 = .ok (.iadd, 1) := by decide +kernel
theorem dX8_forthLine_117 : decode cX8_forthLine 117 = .ok (.iload 10, 2) := by decide +kernel
theorem dX8_forthLine_119 : decode cX8_forthLine 119 = .ok (.iconst 2, 1) := by decide +kernel
theorem dX8_forthLine_120 : decode cX8_forthLine 120 = .ok (.iload 9, 2) := by decide +kernel
theorem dX8_forthLine_122 : decode cX8_forthLine 122 = .ok (.imul, 1) := by decide +kernel
theorem dX8_forthLine_123 : decode cX8_forthLine 123 = .ok (.isub, 1) := by decide +kernel
theorem dX8_forthLine_124 : decode cX8_forthLine 124 = .ok (.iastore, 1) := by decide +kernel
theorem dX8_forthLine_125 : decode cX8_forthLine 125 = .ok (.return_, 1) := by decide +kernel
theorem dX8_factorOf_0 : decode cX8_factorOf 0 = .ok (.iload_n 0, 1) := by decide +kernel
theorem dX8_factorOf_1 : decode cX8_factorOf 1 = .ok (.iconst 2, 1) := by decide +kernel
theorem dX8_factorOf_2 : decode cX8_factorOf 2 = .ok (.irem, 1) := by decide +kernel
theorem dX8_factorOf_3 : decode cX8_factorOf 3 = .ok (.iload_n 0, 1) := by decide +kernel
theorem dX8_factorOf_4 : decode cX8_factorOf 4 = .ok (.iconst 4, 1) := by decide +kernel
theorem dX8_factorOf_5 : decode cX8_factorOf 5 = .ok (.idiv, 1) := by decide +kernel
theorem dX8_factorOf_6 : decode cX8_factorOf 6 = .ok (.iconst 2, 1) := by decide +kernel
theorem dX8_factorOf_7 : decode cX8_factorOf 7 = .ok (.irem, 1) := by decide +kernel
theorem dX8_factorOf_8 : decode cX8_factorOf 8 = .ok (.iadd, 1) := by decide +kernel
theorem dX8_factorOf_9 : decode cX8_factorOf 9 = .ok (.istore_n 2, 1) := by decide +kernel
theorem dX8_factorOf_10 : decode cX8_factorOf 10 = .ok (.iconst 3, 1) := by decide +kernel
theorem dX8_factorOf_11 : decode cX8_factorOf 11 = .ok (.iload_n 1, 1) := by decide +kernel
theorem dX8_factorOf_12 : decode cX8_factorOf 12 = .ok (.bipush 6, 2) := by decide +kernel
theorem dX8_factorOf_14 : decode cX8_factorOf 14 = .ok (.irem, 1) := by decide +kernel
theorem dX8_factorOf_15 : decode cX8_factorOf 15 = .ok (.imul, 1) := by decide +kernel
theorem dX8_factorOf_16 : decode cX8_factorOf 16 = .ok (.iload_n 2, 1) := by decide +kernel
theorem dX8_factorOf_17 : decode cX8_factorOf 17 = .ok (.iadd, 1) := by decide +kernel
theorem dX8_factorOf_18 : decode cX8_factorOf 18 = .ok (.ireturn, 1) := by decide +kernel
theorem dX9_init_0 : decode cX9_init 0 = .ok (.aload_n 0, 1) := by decide +kernel
theorem dX9_init_1 : decode cX9_init 1 = .ok (.invokespecial 1, 3) := by decide +kernel
theorem dX9_init_4 : decode cX9_init 4 = .ok (.aload_n 0, 1) := by decide +kernel
theorem dX9_init_5 : decode cX9_init 5 = .ok (.new 7, 3) := by decide +kernel
theorem dX9_init_8 : decode cX9_init 8 = .ok (.dup, 1) := by decide +kernel
theorem dX9_init_9 : decode cX9_init 9 = .ok (.invokespecial 9, 3) := by decide +kernel
theorem dX9_init_12 : decode cX9_init 12 = .ok (.putfield 10, 3) := by decide +kernel
theorem dX9_init_15 : decode cX9_init 15 = .ok (.aload_n 0, 1) := by decide +kernel
theorem dX9_init_16 : decode cX9_init 16 = .ok (.new 16, 3) := by decide +kernel
theorem dX9_init_19 : decode cX9_init 19 = .ok (.dup, 1) := by decide +kernel
theorem dX9_init_20 : decode cX9_init 20 = .ok (.aload_n 0, 1) := by decide +kernel
theorem dX9_init_21 : decode cX9_init 21 = .ok (.getfield 10, 3) := by decide +kernel
theorem dX9_init_24 : decode cX9_init 24 = .ok (.invokespecial 18, 3) := by decide +kernel
theorem dX9_init_27 : decode cX9_init 27 = .ok (.putfield 21, 3) := by decide +kernel
theorem dX9_init_30 : decode cX9_init 30 = .ok (.aload_n 0, 1) := by decide +kernel
theorem dX9_init_31 : decode cX9_init 31 = .ok (.new 25, 3) := by decide +kernel
theorem dX9_init_34 : decode cX9_init 34 = .ok (.dup, 1) := by decide +kernel
theorem dX9_init_35 : decode cX9_init 35 = .ok (.aload_n 0, 1) := by decide +kernel
theorem dX9_init_36 : decode cX9_init 36 = .ok (.getfield 10, 3) := by decide +kernel
theorem dX9_init_39 : decode cX9_init 39 = .ok (.aload_n 0, 1) := by decide +kernel
theorem dX9_init_40 : decode cX9_init 40 = .ok (.getfield 21, 3) := by decide +kernel
theorem dX9_init_43 : decode cX9_init 43 = .ok (.invokespecial 27, 3) := by decide +kernel
theorem dX9_init_46 : decode cX9_init 46 = .ok (.putfield 30, 3) := by decide +kernel
theorem dX9_init_49 : decode cX9_init 49 = .ok (.aload_n 0, 1) := by decide +kernel
theorem dX9_init_50 : decode cX9_init 50 = .ok (.new 34, 3) := by decide +kernel
theorem dX9_init_53 : decode cX9_init 53 = .ok (.dup, 1) := by decide +kernel
theorem dX9_init_54 : decode cX9_init 54 = .ok (.invokespecial 36, 3) := by decide +kernel
theorem dX9_init_57 : decode cX9_init 57 = .ok (.putfield 37, 3) := by decide +kernel
theorem dX9_init_60 : decode cX9_init 60 = .ok (.aload_n 0, 1) := by decide +kernel
theorem dX9_init_61 : decode cX9_init 61 = .ok (.new 41, 3) := by decide +kernel
theorem dX9_init_64 : decode cX9_init 64 = .ok (.dup, 1) := by decide +kernel
theorem dX9_init_65 : decode cX9_init 65 = .ok (.aload_n 0, 1) := by decide +kernel
theorem dX9_init_66 : decode cX9_init 66 = .ok (.getfield 37, 3) := by decide +kernel
theorem dX9_init_69 : decode cX9_init 69 = .ok (.invokespecial 43, 3) := by decide +kernel
theorem dX9_init_72 : decode cX9_init 72 = .ok (.putfield 46, 3) := by decide +kernel
theorem dX9_init_75 : decode cX9_init 75 = .ok (.aload_n 0, 1) := by decide +kernel
theorem dX9_init_76 : decode cX9_init 76 = .ok (.new 50, 3) := by decide +kernel
theorem dX9_init_79 : decode cX9_init 79 = .ok (.dup, 1) := by decide +kernel
theorem dX9_init_80 : decode cX9_init 80 = .ok (.aload_n 0, 1) := by decide +kernel
theorem dX9_init_81 : decode cX9_init 81 = .ok (.getfield 37, 3) := by decide +kernel
theorem dX9_init_84 : decode cX9_init 84 = .ok (.invokespecial 52, 3) := by decide +kernel
theorem dX9_init_87 : decode cX9_init 87 = .ok (.putfield 53, 3) := by decide +kernel
theorem dX9_init_90 : decode cX9_init 90 = .ok (.aload_n 0, 1) := by decide +kernel
theorem dX9_init_91 : decode cX9_init 91 = .ok (.new 57, 3) := by decide +kernel
theorem dX9_init_94 : decode cX9_init 94 = .ok (.dup, 1) := by decide +kernel
theorem dX9_init_95 : decode cX9_init 95 = .ok (.invokespecial 59, 3) := by decide +kernel
theorem dX9_init_98 : decode cX9_init 98 = .ok (.putfield 60, 3) := by decide +kernel
theorem dX9_init_101 : decode cX9_init 101 = .ok (.aload_n 0, 1) := by decide +kernel
theorem dX9_init_102 : decode cX9_init 102 = .ok (.new 57, 3) := by decide +kernel
theorem dX9_init_105 : decode cX9_init 105 = .ok (.dup, 1) := by decide +kernel
theorem dX9_init_106 : decode cX9_init 106 = .ok (.invokespecial 59, 3) := by decide +kernel
theorem dX9_init_109 : decode cX9_init 109 = .ok (.putfield 64, 3) := by decide +kernel
theorem dX9_init_112 : decode cX9_init 112 = .ok (.aload_n 0, 1) := by decide +kernel
theorem dX9_init_113 : decode cX9_init 113 = .ok (.getfield 60, 3) := by decide +kernel
theorem dX9_init_116 : decode cX9_init 116 = .ok (.iconst 1, 1) := by decide +kernel
theorem dX9_init_117 : decode cX9_init 117 = .ok (.iconst 1, 1) := by decide +kernel
theorem dX9_init_118 : decode cX9_init 118 = .ok (.invokevirtual 67, 3) := by decide +kernel
theorem dX9_init_121 : decode cX9_init 121 = .ok (.return_, 1) := by decide +kernel
theorem dX9_begin_0 : decode cX9_begin 0 = .ok (.iload_n 1, 1) := by decide +kernel
theorem dX9_begin_1 : decode cX9_begin 1 = .ok (.iconst 1, 1) := by decide +kernel
theorem dX9_begin_2 : decode cX9_begin 2 = .ok (.bipush 8, 2) := by decide +kernel
theorem dX9_begin_4 : decode cX9_begin 4 = .ok (.invokestatic 71, 3) := by decide +kernel
theorem dX9_begin_7 : decode cX9_begin 7 = .ok (.ifCond .eq 13, 3) := by decide +kernel
theorem dX9_begin_10 : decode cX9_begin 10 = .ok (.iload_n 2, 1) := by decide +kernel
theorem dX9_begin_11 : decode cX9_begin 11 = .ok (.iconst 1, 1) := by decide +kernel
theorem dX9_begin_12 : decode cX9_begin 12 = .ok (.bipush 8, 2) := by decide +kernel
theorem dX9_begin_14 : decode cX9_begin 14 = .ok (.invokestatic 71, 3) := by decide +kernel
theorem dX9_begin_17 : decode cX9_begin 17 = .ok (.ifCond .ne 11, 3) := by decide +kernel
theorem dX9_begin_20 : decode cX9_begin 20 = .ok (.new 75, 3) := by decide +kernel
theorem dX9_begin_23 : decode cX9_begin 23 = .ok (.dup, 1) := by decide +kernel
theorem dX9_begin_24 : decode cX9_begin 24 = .ok (.invokespecial 77, 3) := by decide +kernel
theorem dX9_begin_27 : decode cX9_begin 27 = .ok (.athrow, 1) := by decide +kernel
theorem dX9_begin_28 : decode cX9_begin 28 = .ok (.aload_n 0, 1) := by decide +kernel
theorem dX9_begin_29 : decode cX9_begin 29 = .ok (.getfield 10, 3) := by decide +kernel
theorem dX9_begin_32 : decode cX9_begin 32 = .ok (.iload_n 1, 1) := by decide +kernel
theorem dX9_begin_33 : decode cX9_begin 33 = .ok (.iload_n 2, 1) := by decide +kernel
theorem dX9_begin_34 : decode cX9_begin 34 = .ok (.invokevirtual 78, 3) := by decide +kernel
theorem dX9_begin_37 : decode cX9_begin 37 = .ok (.aload_n 0, 1) := by decide +kernel
theorem dX9_begin_38 : decode cX9_begin 38 = .ok (.getfield 60, 3) := by decide +kernel
theorem dX9_begin_41 : decode cX9_begin 41 = .ok (.iload_n 1, 1) := by decide +kernel
theorem dX9_begin_42 : decode cX9_begin 42 = .ok (.iload_n 2, 1) := by decide +kernel
theorem dX9_begin_43 : decode cX9_begin 43 = .ok (.invokevirtual 67, 3) := by decide +kernel
theorem dX9_begin_46 : decode cX9_begin 46 = .ok (.return_, 1) := by decide +kernel
theorem dX9_put_0 : decode cX9_put 0 = .ok (.iload_n 1, 1) := by decide +kernel
theorem dX9_put_1 : decode cX9_put 1 = .ok (.iconst 0, 1) := by decide +kernel
theorem dX9_put_2 : decode cX9_put 2 = .ok (.aload_n 0, 1) := by decide +kernel
theorem dX9_put_3 : decode cX9_put 3 = .ok (.getfield 10, 3) := by decide +kernel
theorem dX9_put_6 : decode cX9_put 6 = .ok (.getfield 79, 3) := by decide +kernel
theorem dX9_put_9 : decode cX9_put 9 = .ok (.iconst 1, 1) := by decide +kernel
theorem dX9_put_10 : decode cX9_put 10 = .ok (.isub, 1) := by decide +kernel
theorem dX9_put_11 : decode cX9_put 11 = .ok (.invokestatic 71, 3) := by decide +kernel
theorem dX9_put_14 : decode cX9_put 14 = .ok (.ifCond .eq 22, 3) := by decide +kernel
theorem dX9_put_17 : decode cX9_put 17 = .ok (.iload_n 2, 1) := by decide +kernel
theorem dX9_put_18 : decode cX9_put 18 = .ok (.iconst 0, 1) := by decide +kernel
theorem dX9_put_19 : decode cX9_put 19 = .ok (.iconst 4, 1) := by decide +kernel
theorem dX9_put_20 : decode cX9_put 20 = .ok (.aload_n 0, 1) := by decide +kernel
theorem dX9_put_21 : decode cX9_put 21 = .ok (.getfield 10, 3) := by decide +kernel
theorem dX9_put_24 : decode cX9_put 24 = .ok (.getfield 83, 3) := by decide +kernel
theorem dX9_put_27 : decode cX9_put 27 = .ok (.imul, 1) := by decide +kernel
theorem dX9_put_28 : decode cX9_put 28 = .ok (.iconst 1, 1) := by decide +kernel
theorem dX9_put_29 : decode cX9_put 29 = .ok (.isub, 1) := by decide +kernel
theorem dX9_put_30 : decode cX9_put 30 = .ok (.invokestatic 71, 3) := by decide +kernel
theorem dX9_put_33 : decode cX9_put 33 = .ok (.ifCond .ne 11, 3) := by decide +kernel
theorem dX9_put_36 : decode cX9_put 36 = .ok (.new 75, 3) := by decide +kernel
theorem dX9_put_39 : decode cX9_put 39 = .ok (.dup, 1) := by decide +kernel
theorem dX9_put_40 : decode cX9_put 40 = .ok (.invokespecial 77, 3) := by decide +kernel
theorem dX9_put_43 : decode cX9_put 43 = .ok (.athrow, 1) := by decide +kernel
theorem dX9_put_44 : decode cX9_put 44 = .ok (.iconst 0, 1) := by decide +kernel
theorem dX9_put_45 : decode cX9_put 45 = .ok (.istore 4, 2) := by decide +kernel
theorem dX9_put_47 : decode cX9_put 47 = .ok (.iload 4, 2) := by decide +kernel
theorem dX9_put_49 : decode cX9_put 49 = .ok (.iconst 4, 1) := by decide +kernel
theorem dX9_put_50 : decode cX9_put 50 = .ok (.if_icmp .ge 29, 3) := by decide +kernel
theorem dX9_put_53 : decode cX9_put 53 = .ok (.aload_n 0, 1) := by decide +kernel
theorem dX9_put_54 : decode cX9_put 54 = .ok (.getfield 10, 3) := by decide +kernel
theorem dX9_put_57 : decode cX9_put 57 = .ok (.iconst 4, 1) := by decide +kernel
theorem dX9_put_58 : decode cX9_put 58 = .ok (.iload_n 1, 1) := by decide +kernel
theorem dX9_put_59 : decode cX9_put 59 = .ok (.imul, 1) := by decide +kernel
theorem dX9_put_60 : decode cX9_put 60 = .ok (.iload 4, 2) := by decide +kernel
theorem dX9_put_62 : decode cX9_put 62 = .ok (.iadd, 1) := by decide +kernel
theorem dX9_put_63 : decode cX9_put 63 = .ok (.iload_n 2, 1) := by decide +kernel
theorem dX9_put_64 : decode cX9_put 64 = .ok (.iload_n 3, 1) := by decide +kernel
theorem dX9_put_65 : decode cX9_put 65 = .ok (.iload 4, 2) := by decide +kernel
theorem dX9_put_67 : decode cX9_put 67 = .ok (.invokestatic 86, 3) := by decide +kernel
theorem dX9_put_70 : decode cX9_put 70 = .ok (.invokevirtual 90, 3) := by decide +kernel
theorem dX9_put_73 : decode cX9_put 73 = .ok (.iinc 4 1, 3) := by decide +kernel
theorem dX9_put_76 : decode cX9_put 76 = .ok (.goto (-29), 3) := by decide +kernel
theorem dX9_put_79 : decode cX9_put 79 = .ok (.return_, 1) := by decide +kernel
theorem dX9_pixel_0 : decode cX9_pixel 0 = .ok (.iload_n 1, 1) := by decide +kernel
theorem dX9_pixel_1 : decode cX9_pixel 1 = .ok (.iconst 0, 1) := by decide +kernel
theorem dX9_pixel_2 : decode cX9_pixel 2 = .ok (.iconst 4, 1) := by decide +kernel
theorem dX9_pixel_3 : decode cX9_pixel 3 = .ok (.aload_n 0, 1) := by decide +kernel
theorem dX9_pixel_4 : decode cX9_pixel 4 = .ok (.getfield 10, 3) := by decide +kernel
theorem dX9_pixel_7 : decode cX9_pixel 7 = .ok (.getfield 79, 3) := by decide +kernel
theorem dX9_pixel_10 : decode cX9_pixel 10 = .ok (.imul, 1) := by decide +kernel
theorem dX9_pixel_11 : decode cX9_pixel 11 = .ok (.iconst 1, 1) := by decide +kernel
theorem dX9_pixel_12 : decode cX9_pixel 12 = .ok (.isub, 1) := by decide +kernel
theorem dX9_pixel_13 : decode cX9_pixel 13 = .ok (.invokestatic 71, 3) := by decide +kernel
theorem dX9_pixel_16 : decode cX9_pixel 16 = .ok (.ifCond .eq 22, 3) := by decide +kernel
theorem dX9_pixel_19 : decode cX9_pixel 19 = .ok (.iload_n 2, 1) := by decide +kernel
theorem dX9_pixel_20 : decode cX9_pixel 20 = .ok (.iconst 0, 1) := by decide +kernel
theorem dX9_pixel_21 : decode cX9_pixel 21 = .ok (.iconst 4, 1) := by decide +kernel
theorem dX9_pixel_22 : decode cX9_pixel 22 = .ok (.aload_n 0, 1) := by decide +kernel
theorem dX9_pixel_23 : decode cX9_pixel 23 = .ok (.getfield 10, 3) := by decide +kernel
theorem dX9_pixel_26 : decode cX9_pixel 26 = .ok (.getfield 83, 3) := by decide +kernel
theorem dX9_pixel_29 : decode cX9_pixel 29 = .ok (.imul, 1) := by decide +kernel
theorem dX9_pixel_30 : decode cX9_pixel 30 = .ok (.iconst 1, 1) := by decide +kernel
theorem dX9_pixel_31 : decode cX9_pixel 31 = .ok (.isub, 1) := by decide +kernel
theorem dX9_pixel_32 : decode cX9_pixel 32 = .ok (.invokestatic 71, 3) := by decide +kernel
theorem dX9_pixel_35 : decode cX9_pixel 35 = .ok (.ifCond .ne 5, 3) := by decide +kernel
theorem dX9_pixel_38 : decode cX9_pixel 38 = .ok (.iconst (-1), 1) := by decide +kernel
theorem dX9_pixel_39 : decode cX9_pixel 39 = .ok (.ireturn, 1) := by decide +kernel
theorem dX9_pixel_40 : decode cX9_pixel 40 = .ok (.aload_n 0, 1) := by decide +kernel
theorem dX9_pixel_41 : decode cX9_pixel 41 = .ok (.getfield 10, 3) := by decide +kernel
theorem dX9_pixel_44 : decode cX9_pixel 44 = .ok (.iload_n 1, 1) := by decide +kernel
theorem dX9_pixel_45 : decode cX9_pixel 45 = .ok (.iload_n 2, 1) := by decide +kernel
theorem dX9_pixel_46 : decode cX9_pixel 46 = .ok (.invokevirtual 94, 3) := by decide +kernel
theorem dX9_pixel_49 : decode cX9_pixel 49 = .ok (.ireturn, 1) := by decide +kernel
theorem dX9_pack_0 : decode cX9_pack 0 = .ok (.iload_n 1, 1) := by decide +kernel
theorem dX9_pack_1 : decode cX9_pack 1 = .ok (.iconst 0, 1) := by decide +kernel
theorem dX9_pack_2 : decode cX9_pack 2 = .ok (.bipush 51, 2) := by decide +kernel
theorem dX9_pack_4 : decode cX9_pack 4 = .ok (.invokestatic 71, 3) := by decide +kernel
theorem dX9_pack_7 : decode cX9_pack 7 = .ok (.ifCond .ne 11, 3) := by decide +kernel
theorem dX9_pack_10 : decode cX9_pack 10 = .ok (.new 75, 3) := by decide +kernel
theorem dX9_pack_13 : decode cX9_pack 13 = .ok (.dup, 1) := by decide +kernel
theorem dX9_pack_14 : decode cX9_pack 14 = .ok (.invokespecial 77, 3) := by decide +kernel
theorem dX9_pack_17 : decode cX9_pack 17 = .ok (.athrow, 1) := by decide +kernel
theorem dX9_pack_18 : decode cX9_pack 18 = .ok (.aload_n 0, 1) := by decide +kernel
theorem dX9_pack_19 : decode cX9_pack 19 = .ok (.getfield 60, 3) := by decide +kernel
theorem dX9_pack_22 : decode cX9_pack 22 = .ok (.iload_n 1, 1) := by decide +kernel
theorem dX9_pack_23 : decode cX9_pack 23 = .ok (.putfield 97, 3) := by decide +kernel
theorem dX9_pack_26 : decode cX9_pack 26 = .ok (.aload_n 0, 1) := by decide +kernel
theorem dX9_pack_27 : decode cX9_pack 27 = .ok (.getfield 60, 3) := by decide +kernel
theorem dX9_pack_30 : decode cX9_pack 30 = .ok (.iload_n 2, 1) := by decide +kernel
theorem dX9_pack_31 : decode cX9_pack 31 = .ok (.putfield 100, 3) := by decide +kernel
theorem dX9_pack_34 : decode cX9_pack 34 = .ok (.iconst 0, 1) := by decide +kernel
theorem dX9_pack_35 : decode cX9_pack 35 = .ok (.istore_n 3, 1) := by decide +kernel
theorem dX9_pack_36 : decode cX9_pack 36 = .ok (.iload_n 3, 1) := by decide +kernel
theorem dX9_pack_37 : decode cX9_pack 37 = .ok (.aload_n 0, 1) := by decide +kernel
theorem dX9_pack_38 : decode cX9_pack 38 = .ok (.getfield 10, 3) := by decide +kernel
theorem dX9_pack_41 : decode cX9_pack 41 = .ok (.invokevirtual 104, 3) := by decide +kernel
theorem dX9_pack_44 : decode cX9_pack 44 = .ok (.if_icmp .ge 21, 3) := by decide +kernel
theorem dX9_pack_47 : decode cX9_pack 47 = .ok (.aload_n 0, 1) := by decide +kernel
theorem dX9_pack_48 : decode cX9_pack 48 = .ok (.getfield 30, 3) := by decide +kernel
theorem dX9_pack_51 : decode cX9_pack 51 = .ok (.aload_n 0, 1) := by decide +kernel
theorem dX9_pack_52 : decode cX9_pack 52 = .ok (.getfield 60, 3) := by decide +kernel
theorem dX9_pack_55 : decode cX9_pack 55 = .ok (.iload_n 3, 1) := by decide +kernel
theorem dX9_pack_56 : decode cX9_pack 56 = .ok (.invokevirtual 108, 3) := by decide +kernel
theorem dX9_pack_59 : decode cX9_pack 59 = .ok (.iinc 3 1, 3) := by decide +kernel
theorem dX9_pack_62 : decode cX9_pack 62 = .ok (.goto (-26), 3) := by decide +kernel
theorem dX9_pack_65 : decode cX9_pack 65 = .ok (.iload_n 2, 1) := by decide +kernel
theorem dX9_pack_66 : decode cX9_pack 66 = .ok (.ifCond .eq 11, 3) := by decide +kernel
theorem dX9_pack_69 : decode cX9_pack 69 = .ok (.aload_n 0, 1) := by decide +kernel
theorem dX9_pack_70 : decode cX9_pack 70 = .ok (.getfield 10, 3) := by decide +kernel
theorem dX9_pack_73 : decode cX9_pack 73 = .ok (.iload_n 1, 1) := by decide +kernel
theorem dX9_pack_74 : decode cX9_pack 74 = .ok (.invokevirtual 112, 3) := by decide +kernel
theorem dX9_pack_77 : decode cX9_pack 77 = .ok (.aload_n 0, 1) := by decide +kernel
theorem dX9_pack_78 : decode cX9_pack 78 = .ok (.getfield 46, 3) := by decide +kernel
theorem dX9_pack_81 : decode cX9_pack 81 = .ok (.aload_n 0, 1) := by decide +kernel
theorem dX9_pack_82 : decode cX9_pack 82 = .ok (.getfield 60, 3) := by decide +kernel
theorem dX9_pack_85 : decode cX9_pack 85 = .ok (.invokevirtual 116, 3) := by decide +kernel
theorem dX9_pack_88 : decode cX9_pack 88 = .ok (.aload_n 0, 1) := by decide +kernel
theorem dX9_pack_89 : decode cX9_pack 89 = .ok (.getfield 37, 3) := by decide +kernel
theorem dX9_pack_92 : decode cX9_pack 92 = .ok (.getfield 120, 3) := by decide +kernel
theorem dX9_pack_95 : decode cX9_pack 95 = .ok (.ireturn, 1) := by decide +kernel
theorem dX9_unpack_0 : decode cX9_unpack 0 = .ok (.aload_n 0, 1) := by decide +kernel
theorem dX9_unpack_1 : decode cX9_unpack 1 = .ok (.getfield 53, 3) := by decide +kernel
theorem dX9_unpack_4 : decode cX9_unpack 4 = .ok (.aload_n 0, 1) := by decide +kernel
theorem dX9_unpack_5 : decode cX9_unpack 5 = .ok (.getfield 64, 3) := by decide +kernel
theorem dX9_unpack_8 : decode cX9_unpack 8 = .ok (.invokevirtual 123, 3) := by decide +kernel
theorem dX9_unpack_11 : decode cX9_unpack 11 = .ok (.ifCond .ne 12, 3) := by decide +kernel
theorem dX9_unpack_14 : decode cX9_unpack 14 = .ok (.aload_n 0, 1) := by decide +kernel
theorem dX9_unpack_15 : decode cX9_unpack 15 = .ok (.getfield 53, 3) := by decide +kernel
theorem dX9_unpack_18 : decode cX9_unpack 18 = .ok (.invokevirtual 127, 3) := by decide +kernel
theorem dX9_unpack_21 : decode cX9_unpack 21 = .ok (.ineg, 1) := by decide +kernel
theorem dX9_unpack_22 : decode cX9_unpack 22 = .ok (.ireturn, 1) := by decide +kernel
theorem dX9_unpack_23 : decode cX9_unpack 23 = .ok (.aload_n 0, 1) := by decide +kernel
theorem dX9_unpack_24 : decode cX9_unpack 24 = .ok (.getfield 60, 3) := by decide +kernel
theorem dX9_unpack_27 : decode cX9_unpack 27 = .ok (.astore_n 1, 1) := by decide +kernel
theorem dX9_unpack_28 : decode cX9_unpack 28 = .ok (.aload_n 0, 1) := by decide +kernel
theorem dX9_unpack_29 : decode cX9_unpack 29 = .ok (.aload_n 0, 1) := by decide +kernel
theorem dX9_unpack_30 : decode cX9_unpack 30 = .ok (.getfield 64, 3) := by decide +kernel
theorem dX9_unpack_33 : decode cX9_unpack 33 = .ok (.putfield 60, 3) := by decide +kernel
theorem dX9_unpack_36 : decode cX9_unpack 36 = .ok (.aload_n 0, 1) := by decide +kernel
theorem dX9_unpack_37 : decode cX9_unpack 37 = .ok (.aload_n 1, 1) := by decide +kernel
theorem dX9_unpack_38 : decode cX9_unpack 38 = .ok (.putfield 64, 3) := by decide +kernel
theorem dX9_unpack_41 : decode cX9_unpack 41 = .ok (.aload_n 0, 1) := by decide +kernel
theorem dX9_unpack_42 : decode cX9_unpack 42 = .ok (.getfield 10, 3) := by decide +kernel
theorem dX9_unpack_45 : decode cX9_unpack 45 = .ok (.aload_n 0, 1) := by decide +kernel
theorem dX9_unpack_46 : decode cX9_unpack 46 = .ok (.getfield 60, 3) := by decide +kernel
theorem dX9_unpack_49 : decode cX9_unpack 49 = .ok (.getfield 130, 3) := by decide +kernel
theorem dX9_unpack_52 : decode cX9_unpack 52 = .ok (.aload_n 0, 1) := by decide +kernel
theorem dX9_unpack_53 : decode cX9_unpack 53 = .ok (.getfield 60, 3) := by decide +kernel
theorem dX9_unpack_56 : decode cX9_unpack 56 = .ok (.getfield 131, 3) := by decide +kernel
theorem dX9_unpack_59 : decode cX9_unpack 59 = .ok (.invokevirtual 78, 3) := by decide +kernel
theorem dX9_unpack_62 : decode cX9_unpack 62 = .ok (.iconst 0, 1) := by decide +kernel
theorem dX9_unpack_63 : decode cX9_unpack 63 = .ok (.istore_n 2, 1) := by decide +kernel
theorem dX9_unpack_64 : decode cX9_unpack 64 = .ok (.iload_n 2, 1) := by decide +kernel
theorem dX9_unpack_65 : decode cX9_unpack 65 = .ok (.aload_n 0, 1) := by decide +kernel
theorem dX9_unpack_66 : decode cX9_unpack 66 = .ok (.getfield 10, 3) := by decide +kernel
theorem dX9_unpack_69 : decode cX9_unpack 69 = .ok (.invokevirtual 104, 3) := by decide +kernel
theorem dX9_unpack_72 : decode cX9_unpack 72 = .ok (.if_icmp .ge 21, 3) := by decide +kernel
theorem dX9_unpack_75 : decode cX9_unpack 75 = .ok (.aload_n 0, 1) := by decide +kernel
theorem dX9_unpack_76 : decode cX9_unpack 76 = .ok (.getfield 30, 3) := by decide +kernel
theorem dX9_unpack_79 : decode cX9_unpack 79 = .ok (.aload_n 0, 1) := by decide +kernel
theorem dX9_unpack_80 : decode cX9_unpack 80 = .ok (.getfield 60, 3) := by decide +kernel
theorem dX9_unpack_83 : decode cX9_unpack 83 = .ok (.iload_n 2, 1) := by decide +kernel
theorem dX9_unpack_84 : decode cX9_unpack 84 = .ok (.invokevirtual 132, 3) := by decide +kernel
theorem dX9_unpack_87 : decode cX9_unpack 87 = .ok (.iinc 2 1, 3) := by decide +kernel
theorem dX9_unpack_90 : decode cX9_unpack 90 = .ok (.goto (-26), 3) := by decide +kernel
theorem dX9_unpack_93 : decode cX9_unpack 93 = .ok (.aload_n 0, 1) := by decide +kernel
theorem dX9_unpack_94 : decode cX9_unpack 94 = .ok (.getfield 60, 3) := by decide +kernel
theorem dX9_unpack_97 : decode cX9_unpack 97 = .ok (.getfield 100, 3) := by decide +kernel
theorem dX9_unpack_100 : decode cX9_unpack 100 = .ok (.ifCond .eq 17, 3) := by decide +kernel
theorem dX9_unpack_103 : decode cX9_unpack 103 = .ok (.aload_n 0, 1) := by decide +kernel
theorem dX9_unpack_104 : decode cX9_unpack 104 = .ok (.getfield 10, 3) := by decide +kernel
theorem dX9_unpack_107 : decode cX9_unpack 107 = .ok (.aload_n 0, 1) := by decide +kernel
theorem dX9_unpack_108 : decode cX9_unpack 108 = .ok (.getfield 60, 3) := by decide +kernel
theorem dX9_unpack_111 : decode cX9_unpack 111 = .ok (.getfield 97, 3) := by decide +kernel
theorem dX9_unpack_114 : decode cX9_unpack 114 = .ok (.invokevirtual 112, 3) := by decide +kernel
theorem dX9_unpack_117 : decode cX9_unpack 117 = .ok (.iconst 0, 1) := by decide +kernel
theorem dX9_unpack_118 : decode cX9_unpack 118 = .ok (.ireturn, 1) := by decide +kernel
theorem dX9_place_0 : decode cX9_place 0 = .ok (.aload_n 0, 1) := by decide +kernel
theorem dX9_place_1 : decode cX9_place 1 = .ok (.getfield 53, 3) := by decide +kernel
theorem dX9_place_4 : decode cX9_place 4 = .ok (.invokevirtual 135, 3) := by decide +kernel
theorem dX9_place_7 : decode cX9_place 7 = .ok (.ireturn, 1) := by decide +kernel
theorem dX9_feed_0 : decode cX9_feed 0 = .ok (.aload_n 0, 1) := by decide +kernel
theorem dX9_feed_1 : decode cX9_feed 1 = .ok (.getfield 37, 3) := by decide +kernel
theorem dX9_feed_4 : decode cX9_feed 4 = .ok (.getfield 120, 3) := by decide +kernel
theorem dX9_feed_7 : decode cX9_feed 7 = .ok (.iconst 4, 1) := by decide +kernel
theorem dX9_feed_8 : decode cX9_feed 8 = .ok (.iadd, 1) := by decide +kernel
theorem dX9_feed_9 : decode cX9_feed 9 = .ok (.sipush 8000, 3) := by decide +kernel
theorem dX9_feed_12 : decode cX9_feed 12 = .ok (.if_icmp .le 11, 3) := by decide +kernel
theorem dX9_feed_15 : decode cX9_feed 15 = .ok (.new 138, 3) := by decide +kernel
theorem dX9_feed_18 : decode cX9_feed 18 = .ok (.dup, 1) := by decide +kernel
theorem dX9_feed_19 : decode cX9_feed 19 = .ok (.invokespecial 140, 3) := by decide +kernel
theorem dX9_feed_22 : decode cX9_feed 22 = .ok (.athrow, 1) := by decide +kernel
theorem dX9_feed_23 : decode cX9_feed 23 = .ok (.iconst 0, 1) := by decide +kernel
theorem dX9_feed_24 : decode cX9_feed 24 = .ok (.istore_n 2, 1) := by decide +kernel
theorem dX9_feed_25 : decode cX9_feed 25 = .ok (.iload_n 2, 1) := by decide +kernel
theorem dX9_feed_26 : decode cX9_feed 26 = .ok (.iconst 4, 1) := by decide +kernel
theorem dX9_feed_27 : decode cX9_feed 27 = .ok (.if_icmp .ge 21, 3) := by decide +kernel
theorem dX9_feed_30 : decode cX9_feed 30 = .ok (.aload_n 0, 1) := by decide +kernel
theorem dX9_feed_31 : decode cX9_feed 31 = .ok (.getfield 37, 3) := by decide +kernel
theorem dX9_feed_34 : decode cX9_feed 34 = .ok (.iload_n 1, 1) := by decide +kernel
theorem dX9_feed_35 : decode cX9_feed 35 = .ok (.iload_n 2, 1) := by decide +kernel
theorem dX9_feed_36 : decode cX9_feed 36 = .ok (.invokestatic 86, 3) := by decide +kernel
theorem dX9_feed_39 : decode cX9_feed 39 = .ok (.invokevirtual 141, 3) := by decide +kernel
theorem dX9_feed_42 : decode cX9_feed 42 = .ok (.iinc 2 1, 3) := by decide +kernel
theorem dX9_feed_45 : decode cX9_feed 45 = .ok (.goto (-20), 3) := by decide +kernel
theorem dX9_feed_48 : decode cX9_feed 48 = .ok (.aload_n 0, 1) := by decide +kernel
theorem dX9_feed_49 : decode cX9_feed 49 = .ok (.getfield 37, 3) := by decide +kernel
theorem dX9_feed_52 : decode cX9_feed 52 = .ok (.getfield 120, 3) := by decide +kernel
theorem dX9_feed_55 : decode cX9_feed 55 = .ok (.ireturn, 1) := by decide +kernel
theorem dX9_end_0 : decode cX9_end 0 = .ok (.iload_n 1, 1) := by decide +kernel
theorem dX9_end_1 : decode cX9_end 1 = .ok (.iconst 0, 1) := by decide +kernel
theorem dX9_end_2 : decode cX9_end 2 = .ok (.aload_n 0, 1) := by decide +kernel
theorem dX9_end_3 : decode cX9_end 3 = .ok (.getfield 37, 3) := by decide +kernel
theorem dX9_end_6 : decode cX9_end 6 = .ok (.getfield 120, 3) := by decide +kernel
theorem dX9_end_9 : decode cX9_end 9 = .ok (.invokestatic 71, 3) := by decide +kernel
theorem dX9_end_12 : decode cX9_end 12 = .ok (.ifCond .ne 11, 3) := by decide +kernel
theorem dX9_end_15 : decode cX9_end 15 = .ok (.new 75, 3) := by decide +kernel
theorem dX9_end_18 : decode cX9_end 18 = .ok (.dup, 1) := by decide +kernel
theorem dX9_end_19 : decode cX9_end 19 = .ok (.invokespecial 77, 3) := by decide +kernel
theorem dX9_end_22 : decode cX9_end 22 = .ok (.athrow, 1) := by decide +kernel
theorem dX9_end_23 : decode cX9_end 23 = .ok (.aload_n 0, 1) := by decide +kernel
theorem dX9_end_24 : decode cX9_end 24 = .ok (.getfield 37, 3) := by decide +kernel
theorem dX9_end_27 : decode cX9_end 27 = .ok (.iload_n 1, 1) := by decide +kernel
theorem dX9_end_28 : decode cX9_end 28 = .ok (.putfield 120, 3) := by decide +kernel
theorem dX9_end_31 : decode cX9_end 31 = .ok (.return_, 1) := by decide +kernel
theorem dX9_alter_0 : decode cX9_alter 0 = .ok (.iload_n 1, 1) := by decide +kernel
theorem dX9_alter_1 : decode cX9_alter 1 = .ok (.iconst 0, 1) := by decide +kernel
theorem dX9_alter_2 : decode cX9_alter 2 = .ok (.aload_n 0, 1) := by decide +kernel
theorem dX9_alter_3 : decode cX9_alter 3 = .ok (.getfield 37, 3) := by decide +kernel
theorem dX9_alter_6 : decode cX9_alter 6 = .ok (.getfield 120, 3) := by decide +kernel
theorem dX9_alter_9 : decode cX9_alter 9 = .ok (.iconst 1, 1) := by decide +kernel
theorem dX9_alter_10 : decode cX9_alter 10 = .ok (.isub, 1) := by decide +kernel
theorem dX9_alter_11 : decode cX9_alter 11 = .ok (.invokestatic 71, 3) := by decide +kernel
theorem dX9_alter_14 : decode cX9_alter 14 = .ok (.ifCond .ne 11, 3) := by decide +kernel
theorem dX9_alter_17 : decode cX9_alter 17 = .ok (.new 75, 3) := by decide +kernel
theorem dX9_alter_20 : decode cX9_alter 20 = .ok (.dup, 1) := by decide +kernel
theorem dX9_alter_21 : decode cX9_alter 21 = .ok (.invokespecial 77, 3) := by decide +kernel
theorem dX9_alter_24 : decode cX9_alter 24 = .ok (.athrow, 1) := by decide +kernel
theorem dX9_alter_25 : decode cX9_alter 25 = .ok (.aload_n 0, 1) := by decide +kernel
theorem dX9_alter_26 : decode cX9_alter 26 = .ok (.getfield 37, 3) := by decide +kernel
theorem dX9_alter_29 : decode cX9_alter 29 = .ok (.iload_n 1, 1) := by decide +kernel
theorem dX9_alter_30 : decode cX9_alter 30 = .ok (.invokevirtual 144, 3) := by decide +kernel
theorem dX9_alter_33 : decode cX9_alter 33 = .ok (.istore_n 3, 1) := by decide +kernel
theorem dX9_alter_34 : decode cX9_alter 34 = .ok (.aload_n 0, 1) := by decide +kernel
theorem dX9_alter_35 : decode cX9_alter 35 = .ok (.getfield 37, 3) := by decide +kernel
theorem dX9_alter_38 : decode cX9_alter 38 = .ok (.iload_n 1, 1) := by decide +kernel
theorem dX9_alter_39 : decode cX9_alter 39 = .ok (.iload_n 2, 1) := by decide +kernel
theorem dX9_alter_40 : decode cX9_alter 40 = .ok (.invokevirtual 147, 3) := by decide +kernel
theorem dX9_alter_43 : decode cX9_alter 43 = .ok (.iload_n 3, 1) := by decide +kernel
theorem dX9_alter_44 : decode cX9_alter 44 = .ok (.ireturn, 1) := by decide +kernel
theorem dX9_bits_0 : decode cX9_bits 0 = .ok (.iload_n 1, 1) := by decide +kernel
theorem dX9_bits_1 : decode cX9_bits 1 = .ok (.iconst 0, 1) := by decide +kernel
theorem dX9_bits_2 : decode cX9_bits 2 = .ok (.aload_n 0, 1) := by decide +kernel
theorem dX9_bits_3 : decode cX9_bits 3 = .ok (.getfield 37, 3) := by decide +kernel
theorem dX9_bits_6 : decode cX9_bits 6 = .ok (.getfield 120, 3) := by decide +kernel
theorem dX9_bits_9 : decode cX9_bits 9 = .ok (.iconst 1, 1) := by decide +kernel
theorem dX9_bits_10 : decode cX9_bits 10 = .ok (.isub, 1) := by decide +kernel
theorem dX9_bits_11 : decode cX9_bits 11 = .ok (.invokestatic 71, 3) := by decide +kernel
theorem dX9_bits_14 : decode cX9_bits 14 = .ok (.ifCond .eq 14, 3) := by decide +kernel
theorem dX9_bits_17 : decode cX9_bits 17 = .ok (.aload_n 0, 1) := by decide +kernel
theorem dX9_bits_18 : decode cX9_bits 18 = .ok (.getfield 37, 3) := by decide +kernel
theorem dX9_bits_21 : decode cX9_bits 21 = .ok (.iload_n 1, 1) := by decide +kernel
theorem dX9_bits_22 : decode cX9_bits 22 = .ok (.invokevirtual 144, 3) := by decide +kernel
theorem dX9_bits_25 : decode cX9_bits 25 = .ok (.goto 4, 3) := by decide +kernel
theorem dX9_bits_28 : decode cX9_bits 28 = .ok (.iconst (-1), 1) := by decide +kernel
theorem dX9_bits_29 : decode cX9_bits 29 = .ok (.ireturn, 1) := by decide +kernel
theorem dX9_block_0 : decode cX9_block 0 = .ok (.iload_n 1, 1) := by decide +kernel
theorem dX9_block_1 : decode cX9_block 1 = .ok (.iconst 0, 1) := by decide +kernel
theorem dX9_block_2 : decode cX9_block 2 = .ok (.aload_n 0, 1) := by decide +kernel
theorem dX9_block_3 : decode cX9_block 3 = .ok (.getfield 60, 3) := by decide +kernel
theorem dX9_block_6 : decode cX9_block 6 = .ok (.invokevirtual 149, 3) := by decide +kernel
theorem dX9_block_9 : decode cX9_block 9 = .ok (.iconst 1, 1) := by decide +kernel
theorem dX9_block_10 : decode cX9_block 10 = .ok (.isub, 1) := by decide +kernel
theorem dX9_block_11 : decode cX9_block 11 = .ok (.invokestatic 71, 3) := by decide +kernel
theorem dX9_block_14 : decode cX9_block 14 = .ok (.ifCond .eq 13, 3) := by decide +kernel
theorem dX9_block_17 : decode cX9_block 17 = .ok (.iload_n 2, 1) := by decide +kernel
theorem dX9_block_18 : decode cX9_block 18 = .ok (.iconst (-1), 1) := by decide +kernel
theorem dX9_block_19 : decode cX9_block 19 = .ok (.bipush 15, 2) := by decide +kernel
theorem dX9_block_21 : decode cX9_block 21 = .ok (.invokestatic 71, 3) := by decide +kernel
theorem dX9_block_24 : decode cX9_block 24 = .ok (.ifCond .ne 11, 3) := by decide +kernel
theorem dX9_block_27 : decode cX9_block 27 = .ok (.new 75, 3) := by decide +kernel
theorem dX9_block_30 : decode cX9_block 30 = .ok (.dup, 1) := by decide +kernel
theorem dX9_block_31 : decode cX9_block 31 = .ok (.invokespecial 77, 3) := by decide +kernel
theorem dX9_block_34 : decode cX9_block 34 = .ok (.athrow, 1) := by decide +kernel
theorem dX9_block_35 : decode cX9_block 35 = .ok (.iload_n 2, 1) := by decide +kernel
theorem dX9_block_36 : decode cX9_block 36 = .ok (.iconst (-1), 1) := by decide +kernel
theorem dX9_block_37 : decode cX9_block 37 = .ok (.if_icmp .ne 15, 3) := by decide +kernel
theorem dX9_block_40 : decode cX9_block 40 = .ok (.aload_n 0, 1) := by decide +kernel
theorem dX9_block_41 : decode cX9_block 41 = .ok (.getfield 60, 3) := by decide +kernel
theorem dX9_block_44 : decode cX9_block 44 = .ok (.getfield 150, 3) := by decide +kernel
theorem dX9_block_47 : decode cX9_block 47 = .ok (.iload_n 1, 1) := by decide +kernel
theorem dX9_block_48 : decode cX9_block 48 = .ok (.iaload, 1) := by decide +kernel
theorem dX9_block_49 : decode cX9_block 49 = .ok (.goto 17, 3) := by decide +kernel
theorem dX9_block_52 : decode cX9_block 52 = .ok (.aload_n 0, 1) := by decide +kernel
theorem dX9_block_53 : decode cX9_block 53 = .ok (.getfield 60, 3) := by decide +kernel
theorem dX9_block_56 : decode cX9_block 56 = .ok (.getfield 154, 3) := by decide +kernel
theorem dX9_block_59 : decode cX9_block 59 = .ok (.bipush 16, 2) := by decide +kernel
theorem dX9_block_61 : decode cX9_block 61 = .ok (.iload_n 1, 1) := by decide +kernel
theorem dX9_block_62 : decode cX9_block 62 = .ok (.imul, 1) := by decide +kernel
theorem dX9_block_63 : decode cX9_block 63 = .ok (.iload_n 2, 1) := by decide +kernel
theorem dX9_block_64 : decode cX9_block 64 = .ok (.iadd, 1) := by decide +kernel
theorem dX9_block_65 : decode cX9_block 65 = .ok (.iaload, 1) := by decide +kernel
theorem dX9_block_66 : decode cX9_block 66 = .ok (.ireturn, 1) := by decide +kernel
theorem dX9_foretold_0 : decode cX9_foretold 0 = .ok (.iload_n 1, 1) := by decide +kernel
theorem dX9_foretold_1 : decode cX9_foretold 1 = .ok (.iconst 0, 1) := by decide +kernel
theorem dX9_foretold_2 : decode cX9_foretold 2 = .ok (.aload_n 0, 1) := by decide +kernel
theorem dX9_foretold_3 : decode cX9_foretold 3 = .ok (.getfield 10, 3) := by decide +kernel
theorem dX9_foretold_6 : decode cX9_foretold 6 = .ok (.invokevirtual 104, 3) := by decide +kernel
theorem dX9_foretold_9 : decode cX9_foretold 9 = .ok (.iconst 1, 1) := by decide +kernel
theorem dX9_foretold_10 : decode cX9_foretold 10 = .ok (.isub, 1) := by decide +kernel
theorem dX9_foretold_11 : decode cX9_foretold 11 = .ok (.invokestatic 71, 3) := by decide +kernel
theorem dX9_foretold_14 : decode cX9_foretold 14 = .ok (.ifCond .eq 32, 3) := by decide +kernel
theorem dX9_foretold_17 : decode cX9_foretold 17 = .ok (.iload_n 2, 1) := by decide +kernel
theorem dX9_foretold_18 : decode cX9_foretold 18 = .ok (.iconst 0, 1) := by decide +kernel
theorem dX9_foretold_19 : decode cX9_foretold 19 = .ok (.bipush 8, 2) := by decide +kernel
theorem dX9_foretold_21 : decode cX9_foretold 21 = .ok (.invokestatic 71, 3) := by decide +kernel
theorem dX9_foretold_24 : decode cX9_foretold 24 = .ok (.ifCond .eq 22, 3) := by decide +kernel
theorem dX9_foretold_27 : decode cX9_foretold 27 = .ok (.iload_n 3, 1) := by decide +kernel
theorem dX9_foretold_28 : decode cX9_foretold 28 = .ok (.iconst 0, 1) := by decide +kernel
theorem dX9_foretold_29 : decode cX9_foretold 29 = .ok (.iconst 3, 1) := by decide +kernel
theorem dX9_foretold_30 : decode cX9_foretold 30 = .ok (.invokestatic 71, 3) := by decide +kernel
theorem dX9_foretold_33 : decode cX9_foretold 33 = .ok (.ifCond .eq 13, 3) := by decide +kernel
theorem dX9_foretold_36 : decode cX9_foretold 36 = .ok (.iload 4, 2) := by decide +kernel
theorem dX9_foretold_38 : decode cX9_foretold 38 = .ok (.iconst 0, 1) := by decide +kernel
theorem dX9_foretold_39 : decode cX9_foretold 39 = .ok (.iconst 3, 1) := by decide +kernel
theorem dX9_foretold_40 : decode cX9_foretold 40 = .ok (.invokestatic 71, 3) := by decide +kernel
theorem dX9_foretold_43 : decode cX9_foretold 43 = .ok (.ifCond .ne 11, 3) := by decide +kernel
theorem dX9_foretold_46 : decode cX9_foretold 46 = .ok (.new 75, 3) := by decide +kernel
theorem dX9_foretold_49 : decode cX9_foretold 49 = .ok (.dup, 1) := by decide +kernel
theorem dX9_foretold_50 : decode cX9_foretold 50 = .ok (.invokespecial 77, 3) := by decide +kernel
theorem dX9_foretold_53 : decode cX9_foretold 53 = .ok (.athrow, 1) := by decide +kernel
theorem dX9_foretold_54 : decode cX9_foretold 54 = .ok (.aload_n 0, 1) := by decide +kernel
theorem dX9_foretold_55 : decode cX9_foretold 55 = .ok (.getfield 21, 3) := by decide +kernel
theorem dX9_foretold_58 : decode cX9_foretold 58 = .ok (.iload_n 1, 1) := by decide +kernel
theorem dX9_foretold_59 : decode cX9_foretold 59 = .ok (.invokevirtual 157, 3) := by decide +kernel
theorem dX9_foretold_62 : decode cX9_foretold 62 = .ok (.aload_n 0, 1) := by decide +kernel
theorem dX9_foretold_63 : decode cX9_foretold 63 = .ok (.getfield 21, 3) := by decide +kernel
theorem dX9_foretold_66 : decode cX9_foretold 66 = .ok (.iload_n 2, 1) := by decide +kernel
theorem dX9_foretold_67 : decode cX9_foretold 67 = .ok (.invokevirtual 160, 3) := by decide +kernel
theorem dX9_foretold_70 : decode cX9_foretold 70 = .ok (.ifCond .eq 17, 3) := by decide +kernel
theorem dX9_foretold_73 : decode cX9_foretold 73 = .ok (.aload_n 0, 1) := by decide +kernel
theorem dX9_foretold_74 : decode cX9_foretold 74 = .ok (.getfield 21, 3) := by decide +kernel
theorem dX9_foretold_77 : decode cX9_foretold 77 = .ok (.iload_n 2, 1) := by decide +kernel
theorem dX9_foretold_78 : decode cX9_foretold 78 = .ok (.iload_n 3, 1) := by decide +kernel
theorem dX9_foretold_79 : decode cX9_foretold 79 = .ok (.iload 4, 2) := by decide +kernel
theorem dX9_foretold_81 : decode cX9_foretold 81 = .ok (.invokevirtual 164, 3) := by decide +kernel
theorem dX9_foretold_84 : decode cX9_foretold 84 = .ok (.goto 4, 3) := by decide +kernel
theorem dX9_foretold_87 : decode cX9_foretold 87 = .ok (.iconst (-1), 1) := by decide +kernel
theorem dX9_foretold_88 : decode cX9_foretold 88 = .ok (.ireturn, 1) := by decide +kernel
theorem dX9_about_0 : decode cX9_about 0 = .ok (.iload_n 1, 1) := by decide +kernel
theorem dX9_about_1 : decode cX9_about 1 = .ok (.tableswitch 83 0 4 #[35, 43, 51, 59, 75], 35) := by decide +kernel
theorem dX9_about_36 : decode cX9_about 36 = .ok (.aload_n 0, 1) := by decide +kernel
theorem dX9_about_37 : decode cX9_about 37 = .ok (.getfield 10, 3) := by decide +kernel
theorem dX9_about_40 : decode cX9_about 40 = .ok (.getfield 79, 3) := by decide +kernel
theorem dX9_about_43 : decode cX9_about 43 = .ok (.ireturn, 1) := by decide +kernel
theorem dX9_about_44 : decode cX9_about 44 = .ok (.aload_n 0, 1) := by decide +kernel
theorem dX9_about_45 : decode cX9_about 45 = .ok (.getfield 10, 3) := by decide +kernel
theorem dX9_about_48 : decode cX9_about 48 = .ok (.getfield 83, 3) := by decide +kernel
theorem dX9_about_51 : decode cX9_about 51 = .ok (.ireturn, 1) := by decide +kernel
theorem dX9_about_52 : decode cX9_about 52 = .ok (.aload_n 0, 1) := by decide +kernel
theorem dX9_about_53 : decode cX9_about 53 = .ok (.getfield 60, 3) := by decide +kernel
theorem dX9_about_56 : decode cX9_about 56 = .ok (.getfield 97, 3) := by decide +kernel
theorem dX9_about_59 : decode cX9_about 59 = .ok (.ireturn, 1) := by decide +kernel
theorem dX9_about_60 : decode cX9_about 60 = .ok (.aload_n 0, 1) := by decide +kernel
theorem dX9_about_61 : decode cX9_about 61 = .ok (.getfield 60, 3) := by decide +kernel
theorem dX9_about_64 : decode cX9_about 64 = .ok (.getfield 100, 3) := by decide +kernel
theorem dX9_about_67 : decode cX9_about 67 = .ok (.ifCond .eq 7, 3) := by decide +kernel
theorem dX9_about_70 : decode cX9_about 70 = .ok (.iconst 1, 1) := by decide +kernel
theorem dX9_about_71 : decode cX9_about 71 = .ok (.goto 4, 3) := by decide +kernel
theorem dX9_about_74 : decode cX9_about 74 = .ok (.iconst 0, 1) := by decide +kernel
theorem dX9_about_75 : decode cX9_about 75 = .ok (.ireturn, 1) := by decide +kernel
theorem dX9_about_76 : decode cX9_about 76 = .ok (.aload_n 0, 1) := by decide +kernel
theorem dX9_about_77 : decode cX9_about 77 = .ok (.getfield 37, 3) := by decide +kernel
theorem dX9_about_80 : decode cX9_about 80 = .ok (.getfield 120, 3) := by decide +kernel
theorem dX9_about_83 : decode cX9_about 83 = .ok (.ireturn, 1) := by decide +kernel
theorem dX9_about_84 : decode cX9_about 84 = .ok (.new 75, 3) := by decide +kernel
theorem dX9_about_87 : decode cX9_about 87 = .ok (.dup, 1) := by decide +kernel
theorem dX9_about_88 : decode cX9_about 88 = .ok (.invokespecial 77, 3) := by decide +kernel
theorem dX9_about_91 : decode cX9_about 91 = .ok (.athrow, 1) := by decide +kernel
theorem dX9_isWithin_0 : decode cX9_isWithin 0 = .ok (.iload_n 0, 1) := by decide +kernel
theorem dX9_isWithin_1 : decode cX9_isWithin 1 = .ok (.iload_n 1, 1) := by decide +kernel
theorem dX9_isWithin_2 : decode cX9_isWithin 2 = .ok (.if_icmp .lt 12, 3) := by decide +kernel
theorem dX9_isWithin_5 : decode cX9_isWithin 5 = .ok (.iload_n 0, 1) := by decide +kernel
theorem dX9_isWithin_6 : decode cX9_isWithin 6 = .ok (.iload_n 2, 1) := by decide +kernel
theorem dX9_isWithin_7 : decode cX9_isWithin 7 = .ok (.if_icmp .gt 7, 3) := by decide +kernel
theorem dX9_isWithin_10 : decode cX9_isWithin 10 = .ok (.iconst 1, 1) := by decide +kernel
theorem dX9_isWithin_11 : decode cX9_isWithin 11 = .ok (.goto 4, 3) := by decide +kernel
theorem dX9_isWithin_14 : decode cX9_isWithin 14 = .ok (.iconst 0, 1) := by decide +kernel
theorem dX9_isWithin_15 : decode cX9_isWithin 15 = .ok (.ireturn, 1) := by decide +kernel
theorem dX9_hasNeeded_0 : decode cX9_hasNeeded 0 = .ok (.iload_n 0, 1) := by decide +kernel
theorem dX9_hasNeeded_1 : decode cX9_hasNeeded 1 = .ok (.tableswitch 57 0 8 #[51, 53, 55, 51, 57, 57, 57, 51, 53], 51) := by decide +kernel
theorem dX9_hasNeeded_52 : decode cX9_hasNeeded 52 = .ok (.iload_n 1, 1) := by decide +kernel
theorem dX9_hasNeeded_53 : decode cX9_hasNeeded 53 = .ok (.ireturn, 1) := by decide +kernel
theorem dX9_hasNeeded_54 : decode cX9_hasNeeded 54 = .ok (.iload_n 2, 1) := by decide +kernel
theorem dX9_hasNeeded_55 : decode cX9_hasNeeded 55 = .ok (.ireturn, 1) := by decide +kernel
theorem dX9_hasNeeded_56 : decode cX9_hasNeeded 56 = .ok (.iconst 1, 1) := by decide +kernel
theorem dX9_hasNeeded_57 : decode cX9_hasNeeded 57 = .ok (.ireturn, 1) := by decide +kernel
theorem dX9_hasNeeded_58 : decode cX9_hasNeeded 58 = .ok (.iload_n 1, 1) := by decide +kernel
theorem dX9_hasNeeded_59 : decode cX9_hasNeeded 59 = .ok (.ifCond .eq 11, 3) := by decide +kernel
theorem dX9_hasNeeded_62 : decode cX9_hasNeeded 62 = .ok (.iload_n 2, 1) := by decide +kernel
theorem dX9_hasNeeded_63 : decode cX9_hasNeeded 63 = .ok (.ifCond .eq 7, 3) := by decide +kernel
theorem dX9_hasNeeded_66 : decode cX9_hasNeeded 66 = .ok (.iconst 1, 1) := by decide +kernel
theorem dX9_hasNeeded_67 : decode cX9_hasNeeded 67 = .ok (.goto 4, 3) := by decide +kernel
theorem dX9_hasNeeded_70 : decode cX9_hasNeeded 70 = .ok (.iconst 0, 1) := by decide +kernel
theorem dX9_hasNeeded_71 : decode cX9_hasNeeded 71 = .ok (.ireturn, 1) := by decide +kernel
theorem dX9_byteOf_0 : decode cX9_byteOf 0 = .ok (.iload_n 0, 1) := by decide +kernel
theorem dX9_byteOf_1 : decode cX9_byteOf 1 = .ok (.bipush 24, 2) := by decide +kernel
theorem dX9_byteOf_3 : decode cX9_byteOf 3 = .ok (.bipush 8, 2) := by decide +kernel
theorem dX9_byteOf_5 : decode cX9_byteOf 5 = .ok (.iload_n 1, 1) := by decide +kernel
theorem dX9_byteOf_6 : decode cX9_byteOf 6 = .ok (.imul, 1) := by decide +kernel
theorem dX9_byteOf_7 : decode cX9_byteOf 7 = .ok (.isub, 1) := by decide +kernel
theorem dX9_byteOf_8 : decode cX9_byteOf 8 = .ok (.iushr, 1) := by decide +kernel
theorem dX9_byteOf_9 : decode cX9_byteOf 9 = .ok (.sipush 255, 3) := by decide +kernel
theorem dX9_byteOf_12 : decode cX9_byteOf 12 = .ok (.iand, 1) := by decide +kernel
theorem dX9_byteOf_13 : decode cX9_byteOf 13 = .ok (.ireturn, 1) := by decide +kernel
theorem dX9_bring_0 : decode cX9_bring 0 = .ok (.iload_n 0, 1) := by decide +kernel
theorem dX9_bring_1 : decode cX9_bring 1 = .ok (.iload_n 1, 1) := by decide +kernel
theorem dX9_bring_2 : decode cX9_bring 2 = .ok (.if_icmp .ge 7, 3) := by decide +kernel
theorem dX9_bring_5 : decode cX9_bring 5 = .ok (.iload_n 1, 1) := by decide +kernel
theorem dX9_bring_6 : decode cX9_bring 6 = .ok (.goto 13, 3) := by decide +kernel
theorem dX9_bring_9 : decode cX9_bring 9 = .ok (.iload_n 0, 1) := by decide +kernel
theorem dX9_bring_10 : decode cX9_bring 10 = .ok (.iload_n 2, 1) := by decide +kernel
theorem dX9_bring_11 : decode cX9_bring 11 = .ok (.if_icmp .le 7, 3) := by decide +kernel
theorem dX9_bring_14 : decode cX9_bring 14 = .ok (.iload_n 2, 1) := by decide +kernel
theorem dX9_bring_15 : decode cX9_bring 15 = .ok (.goto 4, 3) := by decide +kernel
theorem dX9_bring_18 : decode cX9_bring 18 = .ok (.iload_n 0, 1) := by decide +kernel
theorem dX9_bring_19 : decode cX9_bring 19 = .ok (.ireturn, 1) := by decide +kernel
theorem dX10_init_0 : decode cX10_init 0 = .ok (.aload_n 0, 1) := by decide +kernel
theorem dX10_init_1 : decode cX10_init 1 = .ok (.invokespecial 1, 3) := by decide +kernel
theorem dX10_init_4 : decode cX10_init 4 = .ok (.aload_n 0, 1) := by decide +kernel
theorem dX10_init_5 : decode cX10_init 5 = .ok (.iconst 1, 1) := by decide +kernel
theorem dX10_init_6 : decode cX10_init 6 = .ok (.putfield 7, 3) := by decide +kernel
theorem dX10_init_9 : decode cX10_init 9 = .ok (.aload_n 0, 1) := by decide +kernel
theorem dX10_init_10 : decode cX10_init 10 = .ok (.iconst 1, 1) := by decide +kernel
theorem dX10_init_11 : decode cX10_init 11 = .ok (.putfield 13, 3) := by decide +kernel
theorem dX10_init_14 : decode cX10_init 14 = .ok (.aload_n 0, 1) := by decide +kernel
theorem dX10_init_15 : decode cX10_init 15 = .ok (.sipush 1024, 3) := by decide +kernel
theorem dX10_init_18 : decode cX10_init 18 = .ok (.newarray .int, 2) := by decide +kernel
theorem dX10_init_20 : decode cX10_init 20 = .ok (.putfield 16, 3) := by decide +kernel
theorem dX10_init_23 : decode cX10_init 23 = .ok (.aload_n 0, 1) := by decide +kernel
theorem dX10_init_24 : decode cX10_init 24 = .ok (.sipush 1024, 3) := by decide +kernel
theorem dX10_init_27 : decode cX10_init 27 = .ok (.newarray .int, 2) := by decide +kernel
theorem dX10_init_29 : decode cX10_init 29 = .ok (.putfield 20, 3) := by decide +kernel
theorem dX10_init_32 : decode cX10_init 32 = .ok (.aload_n 0, 1) := by decide +kernel
theorem dX10_init_33 : decode cX10_init 33 = .ok (.sipush 1024, 3) := by decide +kernel
theorem dX10_init_36 : decode cX10_init 36 = .ok (.newarray .int, 2) := by decide +kernel
theorem dX10_init_38 : decode cX10_init 38 = .ok (.putfield 23, 3) := by decide +kernel
theorem dX10_init_41 : decode cX10_init 41 = .ok (.aload_n 0, 1) := by decide +kernel
theorem dX10_init_42 : decode cX10_init 42 = .ok (.bipush 64, 2) := by decide +kernel
theorem dX10_init_44 : decode cX10_init 44 = .ok (.newarray .int, 2) := by decide +kernel
theorem dX10_init_46 : decode cX10_init 46 = .ok (.putfield 26, 3) := by decide +kernel
theorem dX10_init_49 : decode cX10_init 49 = .ok (.aload_n 0, 1) := by decide +kernel
theorem dX10_init_50 : decode cX10_init 50 = .ok (.sipush 1024, 3) := by decide +kernel
theorem dX10_init_53 : decode cX10_init 53 = .ok (.newarray .int, 2) := by decide +kernel
theorem dX10_init_55 : decode cX10_init 55 = .ok (.putfield 29, 3) := by decide +kernel
theorem dX10_init_58 : decode cX10_init 58 = .ok (.aload_n 0, 1) := by decide +kernel
theorem dX10_init_59 : decode cX10_init 59 = .ok (.bipush 64, 2) := by decide +kernel
theorem dX10_init_61 : decode cX10_init 61 = .ok (.newarray .int, 2) := by decide +kernel
theorem dX10_init_63 : decode cX10_init 63 = .ok (.putfield 32, 3) := by decide +kernel
theorem dX10_init_66 : decode cX10_init 66 = .ok (.aload_n 0, 1) := by decide +kernel
theorem dX10_init_67 : decode cX10_init 67 = .ok (.sipush 1024, 3) := by decide +kernel
theorem dX10_init_70 : decode cX10_init 70 = .ok (.newarray .int, 2) := by decide +kernel
theorem dX10_init_72 : decode cX10_init 72 = .ok (.putfield 35, 3) := by decide +kernel
theorem dX10_init_75 : decode cX10_init 75 = .ok (.aload_n 0, 1) := by decide +kernel
theorem dX10_init_76 : decode cX10_init 76 = .ok (.sipush 8000, 3) := by decide +kernel
theorem dX10_init_79 : decode cX10_init 79 = .ok (.newarray .int, 2) := by decide +kernel
theorem dX10_init_81 : decode cX10_init 81 = .ok (.putfield 38, 3) := by decide +kernel
theorem dX10_init_84 : decode cX10_init 84 = .ok (.aload_n 0, 1) := by decide +kernel
theorem dX10_init_85 : decode cX10_init 85 = .ok (.iconst (-1), 1) := by decide +kernel
theorem dX10_init_86 : decode cX10_init 86 = .ok (.putfield 41, 3) := by decide +kernel
theorem dX10_init_89 : decode cX10_init 89 = .ok (.aload_n 0, 1) := by decide +kernel
theorem dX10_init_90 : decode cX10_init 90 = .ok (.bipush 16, 2) := by decide +kernel
theorem dX10_init_92 : decode cX10_init 92 = .ok (.newarray .int, 2) := by decide +kernel
theorem dX10_init_94 : decode cX10_init 94 = .ok (.putfield 44, 3) := by decide +kernel
theorem dX10_init_97 : decode cX10_init 97 = .ok (.aload_n 0, 1) := by decide +kernel
theorem dX10_init_98 : decode cX10_init 98 = .ok (.getfield 26, 3) := by decide +kernel
theorem dX10_init_101 : decode cX10_init 101 = .ok (.iconst 0, 1) := by decide +kernel
theorem dX10_init_102 : decode cX10_init 102 = .ok (.iconst (-1), 1) := by decide +kernel
theorem dX10_init_103 : decode cX10_init 103 = .ok (.iastore, 1) := by decide +kernel
theorem dX10_init_104 : decode cX10_init 104 = .ok (.return_, 1) := by decide +kernel
theorem dX10_thrown_0 : decode cX10_thrown 0 = .ok (.aload_n 0, 1) := by decide +kernel
theorem dX10_thrown_1 : decode cX10_thrown 1 = .ok (.getfield 47, 3) := by decide +kernel
theorem dX10_thrown_4 : decode cX10_thrown 4 = .ok (.ireturn, 1) := by decide +kernel
theorem dX10_fails_0 : decode cX10_fails 0 = .ok (.aload_n 0, 1) := by decide +kernel
theorem dX10_fails_1 : decode cX10_fails 1 = .ok (.iload_n 1, 1) := by decide +kernel
theorem dX10_fails_2 : decode cX10_fails 2 = .ok (.ifCond .eq 7, 3) := by decide +kernel
theorem dX10_fails_5 : decode cX10_fails 5 = .ok (.iload_n 2, 1) := by decide +kernel
theorem dX10_fails_6 : decode cX10_fails 6 = .ok (.goto 4, 3) := by decide +kernel
theorem dX10_fails_9 : decode cX10_fails 9 = .ok (.iconst 0, 1) := by decide +kernel
theorem dX10_fails_10 : decode cX10_fails 10 = .ok (.putfield 47, 3) := by decide +kernel
theorem dX10_fails_13 : decode cX10_fails 13 = .ok (.iload_n 1, 1) := by decide +kernel
theorem dX10_fails_14 : decode cX10_fails 14 = .ok (.ireturn, 1) := by decide +kernel
theorem dX10_within_0 : decode cX10_within 0 = .ok (.iload_n 0, 1) := by decide +kernel
theorem dX10_within_1 : decode cX10_within 1 = .ok (.iload_n 1, 1) := by decide +kernel
theorem dX10_within_2 : decode cX10_within 2 = .ok (.if_icmp .lt 12, 3) := by decide +kernel
theorem dX10_within_5 : decode cX10_within 5 = .ok (.iload_n 0, 1) := by decide +kernel
theorem dX10_within_6 : decode cX10_within 6 = .ok (.iload_n 2, 1) := by decide +kernel
theorem dX10_within_7 : decode cX10_within 7 = .ok (.if_icmp .gt 7, 3) := by decide +kernel
theorem dX10_within_10 : decode cX10_within 10 = .ok (.iconst 1, 1) := by decide +kernel
theorem dX10_within_11 : decode cX10_within 11 = .ok (.goto 4, 3) := by decide +kernel
theorem dX10_within_14 : decode cX10_within 14 = .ok (.iconst 0, 1) := by decide +kernel
theorem dX10_within_15 : decode cX10_within 15 = .ok (.ireturn, 1) := by decide +kernel
theorem dX10_down_0 : decode cX10_down 0 = .ok (.iload_n 0, 1) := by decide +kernel
theorem dX10_down_1 : decode cX10_down 1 = .ok (.ifCond .lt 9, 3) := by decide +kernel
theorem dX10_down_4 : decode cX10_down 4 = .ok (.iload_n 0, 1) := by decide +kernel
theorem dX10_down_5 : decode cX10_down 5 = .ok (.iload_n 1, 1) := by decide +kernel
theorem dX10_down_6 : decode cX10_down 6 = .ok (.idiv, 1) := by decide +kernel
theorem dX10_down_7 : decode cX10_down 7 = .ok (.goto 11, 3) := by decide +kernel
theorem dX10_down_10 : decode cX10_down 10 = .ok (.iload_n 1, 1) := by decide +kernel
theorem dX10_down_11 : decode cX10_down 11 = .ok (.iconst 1, 1) := by decide +kernel
theorem dX10_down_12 : decode cX10_down 12 = .ok (.isub, 1) := by decide +kernel
theorem dX10_down_13 : decode cX10_down 13 = .ok (.iload_n 0, 1) := by decide +kernel
theorem dX10_down_14 : decode cX10_down 14 = .ok (.isub, 1) := by decide +kernel
theorem dX10_down_15 : decode cX10_down 15 = .ok (.iload_n 1, 1) := by decide +kernel
theorem dX10_down_16 : decode cX10_down 16 = .ok (.idiv, 1) := by decide +kernel
theorem dX10_down_17 : decode cX10_down 17 = .ok (.ineg, 1) := by decide +kernel
theorem dX10_down_18 : decode cX10_down 18 = .ok (.ireturn, 1) := by decide +kernel
theorem dX10_size_0 : decode cX10_size 0 = .ok (.iload_n 0, 1) := by decide +kernel
theorem dX10_size_1 : decode cX10_size 1 = .ok (.ifCond .ge 8, 3) := by decide +kernel
theorem dX10_size_4 : decode cX10_size 4 = .ok (.iload_n 0, 1) := by decide +kernel
theorem dX10_size_5 : decode cX10_size 5 = .ok (.ineg, 1) := by decide +kernel
theorem dX10_size_6 : decode cX10_size 6 = .ok (.goto 4, 3) := by decide +kernel
theorem dX10_size_9 : decode cX10_size 9 = .ok (.iload_n 0, 1) := by decide +kernel
theorem dX10_size_10 : decode cX10_size 10 = .ok (.ireturn, 1) := by decide +kernel
theorem dX10_clip_0 : decode cX10_clip 0 = .ok (.iload_n 0, 1) := by decide +kernel
theorem dX10_clip_1 : decode cX10_clip 1 = .ok (.ifCond .ge 7, 3) := by decide +kernel
theorem dX10_clip_4 : decode cX10_clip 4 = .ok (.iconst 0, 1) := by decide +kernel
theorem dX10_clip_5 : decode cX10_clip 5 = .ok (.goto 17, 3) := by decide +kernel
theorem dX10_clip_8 : decode cX10_clip 8 = .ok (.iload_n 0, 1) := by decide +kernel
theorem dX10_clip_9 : decode cX10_clip 9 = .ok (.sipush 255, 3) := by decide +kernel
theorem dX10_clip_12 : decode cX10_clip 12 = .ok (.if_icmp .le 9, 3) := by decide +kernel
theorem dX10_clip_15 : decode cX10_clip 15 = .ok (.sipush 255, 3) := by decide +kernel
theorem dX10_clip_18 : decode cX10_clip 18 = .ok (.goto 4, 3) := by decide +kernel
theorem dX10_clip_21 : decode cX10_clip 21 = .ok (.iload_n 0, 1) := by decide +kernel
theorem dX10_clip_22 : decode cX10_clip 22 = .ok (.ireturn, 1) := by decide +kernel
theorem dX10_begin_0 : decode cX10_begin 0 = .ok (.aload_n 0, 1) := by decide +kernel
theorem dX10_begin_1 : decode cX10_begin 1 = .ok (.iload_n 1, 1) := by decide +kernel
