theorem dX10_forthLine_33 : decode cX10_forthLine 33 = .ok (.iload_n 1, 1) := by decide +kernel
theorem dX10_forthLine_34 : decode cX10_forthLine 34 = .ok (.iconst 3, 1) := by decide +kernel
theorem dX10_forthLine_35 : decode cX10_forthLine 35 = .ok (.iload_n 2, 1) := by decide +kernel
theorem dX10_forthLine_36 : decode cX10_forthLine 36 = .ok (.imul, 1) := by decide +kernel
theorem dX10_forthLine_37 : decode cX10_forthLine 37 = .ok (.iadd, 1) := by decide +kernel
theorem dX10_forthLine_38 : decode cX10_forthLine 38 = .ok (.iaload, 1) := by decide +kernel
theorem dX10_forthLine_39 : decode cX10_forthLine 39 = .ok (.istore 6, 2) := by decide +kernel
theorem dX10_forthLine_41 : decode cX10_forthLine 41 = .ok (.iload_n 3, 1) := by decide +kernel
theorem dX10_forthLine_42 : decode cX10_forthLine 42 = .ok (.iload 6, 2) := by decide +kernel
theorem dX10_forthLine_44 : decode cX10_forthLine 44 = .ok (.iadd, 1) := by decide +kernel
theorem dX10_forthLine_45 : decode cX10_forthLine 45 = .ok (.istore 7, 2) := by decide +kernel
theorem dX10_forthLine_47 : decode cX10_forthLine 47 = .ok (.iload 4, 2) := by decide +kernel
theorem dX10_forthLine_49 : decode cX10_forthLine 49 = .ok (.iload 5, 2) := by decide +kernel
theorem dX10_forthLine_51 : decode cX10_forthLine 51 = .ok (.iadd, 1) := by decide +kernel
theorem dX10_forthLine_52 : decode cX10_forthLine 52 = .ok (.istore 8, 2) := by decide +kernel
theorem dX10_forthLine_54 : decode cX10_forthLine 54 = .ok (.iload 4, 2) := by decide +kernel
theorem dX10_forthLine_56 : decode cX10_forthLine 56 = .ok (.iload 5, 2) := by decide +kernel
theorem dX10_forthLine_58 : decode cX10_forthLine 58 = .ok (.isub, 1) := by decide +kernel
theorem dX10_forthLine_59 : decode cX10_forthLine 59 = .ok (.istore 9, 2) := by decide +kernel
theorem dX10_forthLine_61 : decode cX10_forthLine 61 = .ok (.iload_n 3, 1) := by decide +kernel
theorem dX10_forthLine_62 : decode cX10_forthLine 62 = .ok (.iload 6, 2) := by decide +kernel
theorem dX10_forthLine_64 : decode cX10_forthLine 64 = .ok (.isub, 1) := by decide +kernel
theorem dX10_forthLine_65 : decode cX10_forthLine 65 = .ok (.istore 10, 2) := by decide +kernel
theorem dX10_forthLine_67 : decode cX10_forthLine 67 = .ok (.aload_n 0, 1) := by decide +kernel
theorem dX10_forthLine_68 : decode cX10_forthLine 68 = .ok (.getfield 44, 3) := by decide +kernel
theorem dX10_forthLine_71 : decode cX10_forthLine 71 = .ok (.iload_n 1, 1) := by decide +kernel
theorem dX10_forthLine_72 : decode cX10_forthLine 72 = .ok (.iload 7, 2) := by decide +kernel
theorem dX10_forthLine_74 : decode cX10_forthLine 74 = .ok (.iload 8, 2) := by decide +kernel
theorem dX10_forthLine_76 : decode cX10_forthLine 76 = .ok (.iadd, 1) := by decide +kernel
theorem dX10_forthLine_77 : decode cX10_forthLine 77 = .ok (.iastore, 1) := by decide +kernel
theorem dX10_forthLine_78 : decode cX10_forthLine 78 = .ok (.aload_n 0, 1) := by decide +kernel
theorem dX10_forthLine_79 : decode cX10_forthLine 79 = .ok (.getfield 44, 3) := by decide +kernel
theorem dX10_forthLine_82 : decode cX10_forthLine 82 = .ok (.iload_n 1, 1) := by decide +kernel
theorem dX10_forthLine_83 : decode cX10_forthLine 83 = .ok (.iload_n 2, 1) := by decide +kernel
theorem dX10_forthLine_84 : decode cX10_forthLine 84 = .ok (.iadd, 1) := by decide +kernel
theorem dX10_forthLine_85 : decode cX10_forthLine 85 = .ok (.iconst 2, 1) := by decide +kernel
theorem dX10_forthLine_86 : decode cX10_forthLine 86 = .ok (.iload 10, 2) := by decide +kernel
theorem dX10_forthLine_88 : decode cX10_forthLine 88 = .ok (.imul, 1) := by decide +kernel
theorem dX10_forthLine_89 : decode cX10_forthLine 89 = .ok (.iload 9, 2) := by decide +kernel
theorem dX10_forthLine_91 : decode cX10_forthLine 91 = .ok (.iadd, 1) := by decide +kernel
theorem dX10_forthLine_92 : decode cX10_forthLine 92 = .ok (.iastore, 1) := by decide +kernel
theorem dX10_forthLine_93 : decode cX10_forthLine 93 = .ok (.aload_n 0, 1) := by decide +kernel
theorem dX10_forthLine_94 : decode cX10_forthLine 94 = .ok (.getfield 44, 3) := by decide +kernel
theorem dX10_forthLine_97 : decode cX10_forthLine 97 = .ok (.iload_n 1, 1) := by decide +kernel
theorem dX10_forthLine_98 : decode cX10_forthLine 98 = .ok (.iconst 2, 1) := by decide +kernel
theorem dX10_forthLine_99 : decode cX10_forthLine 99 = .ok (.iload_n 2, 1) := by decide +kernel
theorem dX10_forthLine_100 : decode cX10_forthLine 100 = .ok (.imul, 1) := by decide +kernel
theorem dX10_forthLine_101 : decode cX10_forthLine 101 = .ok (.iadd, 1) := by decide +kernel
theorem dX10_forthLine_102 : decode cX10_forthLine 102 = .ok (.iload 7, 2) := by decide +kernel
theorem dX10_forthLine_104 : decode cX10_forthLine 104 = .ok (.iload 8, 2) := by decide +kernel
theorem dX10_forthLine_106 : decode cX10_forthLine 106 = .ok (.isub, 1) := by decide +kernel
theorem dX10_forthLine_107 : decode cX10_forthLine 107 = .ok (.iastore, 1) := by decide +kernel
theorem dX10_forthLine_108 : decode cX10_forthLine 108 = .ok (.aload_n 0, 1) := by decide +kernel
theorem dX10_forthLine_109 : decode cX10_forthLine 109 = .ok (.getfield 44, 3) := by decide +kernel
theorem dX10_forthLine_112 : decode cX10_forthLine 112 = .ok (.iload_n 1, 1) := by decide +kernel
theorem dX10_forthLine_113 : decode cX10_forthLine 113 = .ok (.iconst 3, 1) := by decide +kernel
theorem dX10_forthLine_114 : decode cX10_forthLine 114 = .ok (.iload_n 2, 1) := by decide +kernel
theorem dX10_forthLine_115 : decode cX10_forthLine 115 = .ok (.imul, 1) := by decide +kernel
theorem dX10_forthLine_116 : decode cX10_forthLine 116 = .ok (.iadd, 1) := by decide +kernel
theorem dX10_forthLine_117 : decode cX10_forthLine 117 = .ok (.iload 10, 2) := by decide +kernel
theorem dX10_forthLine_119 : decode cX10_forthLine 119 = .ok (.iconst 2, 1) := by decide +kernel
theorem dX10_forthLine_120 : decode cX10_forthLine 120 = .ok (.iload 9, 2) := by decide +kernel
theorem dX10_forthLine_122 : decode cX10_forthLine 122 = .ok (.imul, 1) := by decide +kernel
theorem dX10_forthLine_123 : decode cX10_forthLine 123 = .ok (.isub, 1) := by decide +kernel
theorem dX10_forthLine_124 : decode cX10_forthLine 124 = .ok (.iastore, 1) := by decide +kernel
theorem dX10_forthLine_125 : decode cX10_forthLine 125 = .ok (.return_, 1) := by decide +kernel
theorem dX10_placeOf_0 : decode cX10_placeOf 0 = .ok (.iconst 0, 1) := by decide +kernel
theorem dX10_placeOf_1 : decode cX10_placeOf 1 = .ok (.istore_n 1, 1) := by decide +kernel
theorem dX10_placeOf_2 : decode cX10_placeOf 2 = .ok (.iconst 0, 1) := by decide +kernel
theorem dX10_placeOf_3 : decode cX10_placeOf 3 = .ok (.istore_n 2, 1) := by decide +kernel
theorem dX10_placeOf_4 : decode cX10_placeOf 4 = .ok (.iload_n 0, 1) := by decide +kernel
theorem dX10_placeOf_5 : decode cX10_placeOf 5 = .ok (.istore_n 3, 1) := by decide +kernel
theorem dX10_placeOf_6 : decode cX10_placeOf 6 = .ok (.iload_n 3, 1) := by decide +kernel
theorem dX10_placeOf_7 : decode cX10_placeOf 7 = .ok (.iload_n 2, 1) := by decide +kernel
theorem dX10_placeOf_8 : decode cX10_placeOf 8 = .ok (.iconst 4, 1) := by decide +kernel
theorem dX10_placeOf_9 : decode cX10_placeOf 9 = .ok (.if_icmp .ge 7, 3) := by decide +kernel
theorem dX10_placeOf_12 : decode cX10_placeOf 12 = .ok (.iload_n 2, 1) := by decide +kernel
theorem dX10_placeOf_13 : decode cX10_placeOf 13 = .ok (.goto 7, 3) := by decide +kernel
theorem dX10_placeOf_16 : decode cX10_placeOf 16 = .ok (.bipush 6, 2) := by decide +kernel
theorem dX10_placeOf_18 : decode cX10_placeOf 18 = .ok (.iload_n 2, 1) := by decide +kernel
theorem dX10_placeOf_19 : decode cX10_placeOf 19 = .ok (.isub, 1) := by decide +kernel
theorem dX10_placeOf_20 : decode cX10_placeOf 20 = .ok (.if_icmp .le 27, 3) := by decide +kernel
theorem dX10_placeOf_23 : decode cX10_placeOf 23 = .ok (.iload_n 3, 1) := by decide +kernel
theorem dX10_placeOf_24 : decode cX10_placeOf 24 = .ok (.iload_n 2, 1) := by decide +kernel
theorem dX10_placeOf_25 : decode cX10_placeOf 25 = .ok (.iconst 4, 1) := by decide +kernel
theorem dX10_placeOf_26 : decode cX10_placeOf 26 = .ok (.if_icmp .ge 7, 3) := by decide +kernel
theorem dX10_placeOf_29 : decode cX10_placeOf 29 = .ok (.iload_n 2, 1) := by decide +kernel
theorem dX10_placeOf_30 : decode cX10_placeOf 30 = .ok (.goto 7, 3) := by decide +kernel
theorem dX10_placeOf_33 : decode cX10_placeOf 33 = .ok (.bipush 6, 2) := by decide +kernel
theorem dX10_placeOf_35 : decode cX10_placeOf 35 = .ok (.iload_n 2, 1) := by decide +kernel
theorem dX10_placeOf_36 : decode cX10_placeOf 36 = .ok (.isub, 1) := by decide +kernel
theorem dX10_placeOf_37 : decode cX10_placeOf 37 = .ok (.iconst 1, 1) := by decide +kernel
theorem dX10_placeOf_38 : decode cX10_placeOf 38 = .ok (.iadd, 1) := by decide +kernel
theorem dX10_placeOf_39 : decode cX10_placeOf 39 = .ok (.isub, 1) := by decide +kernel
theorem dX10_placeOf_40 : decode cX10_placeOf 40 = .ok (.istore_n 3, 1) := by decide +kernel
theorem dX10_placeOf_41 : decode cX10_placeOf 41 = .ok (.iinc 2 1, 3) := by decide +kernel
theorem dX10_placeOf_44 : decode cX10_placeOf 44 = .ok (.goto (-38), 3) := by decide +kernel
theorem dX10_placeOf_47 : decode cX10_placeOf 47 = .ok (.iload_n 2, 1) := by decide +kernel
theorem dX10_placeOf_48 : decode cX10_placeOf 48 = .ok (.iconst 4, 1) := by decide +kernel
theorem dX10_placeOf_49 : decode cX10_placeOf 49 = .ok (.if_icmp .ge 7, 3) := by decide +kernel
theorem dX10_placeOf_52 : decode cX10_placeOf 52 = .ok (.iconst 0, 1) := by decide +kernel
theorem dX10_placeOf_53 : decode cX10_placeOf 53 = .ok (.goto 6, 3) := by decide +kernel
theorem dX10_placeOf_56 : decode cX10_placeOf 56 = .ok (.iload_n 2, 1) := by decide +kernel
theorem dX10_placeOf_57 : decode cX10_placeOf 57 = .ok (.iconst 3, 1) := by decide +kernel
theorem dX10_placeOf_58 : decode cX10_placeOf 58 = .ok (.isub, 1) := by decide +kernel
theorem dX10_placeOf_59 : decode cX10_placeOf 59 = .ok (.istore 4, 2) := by decide +kernel
theorem dX10_placeOf_61 : decode cX10_placeOf 61 = .ok (.iload_n 2, 1) := by decide +kernel
theorem dX10_placeOf_62 : decode cX10_placeOf 62 = .ok (.iconst 4, 1) := by decide +kernel
theorem dX10_placeOf_63 : decode cX10_placeOf 63 = .ok (.if_icmp .ge 7, 3) := by decide +kernel
theorem dX10_placeOf_66 : decode cX10_placeOf 66 = .ok (.iload_n 2, 1) := by decide +kernel
theorem dX10_placeOf_67 : decode cX10_placeOf 67 = .ok (.goto 4, 3) := by decide +kernel
theorem dX10_placeOf_70 : decode cX10_placeOf 70 = .ok (.iconst 3, 1) := by decide +kernel
theorem dX10_placeOf_71 : decode cX10_placeOf 71 = .ok (.istore 5, 2) := by decide +kernel
theorem dX10_placeOf_73 : decode cX10_placeOf 73 = .ok (.iload_n 2, 1) := by decide +kernel
theorem dX10_placeOf_74 : decode cX10_placeOf 74 = .ok (.iconst 2, 1) := by decide +kernel
theorem dX10_placeOf_75 : decode cX10_placeOf 75 = .ok (.irem, 1) := by decide +kernel
theorem dX10_placeOf_76 : decode cX10_placeOf 76 = .ok (.iconst 1, 1) := by decide +kernel
theorem dX10_placeOf_77 : decode cX10_placeOf 77 = .ok (.if_icmp .ne 10, 3) := by decide +kernel
theorem dX10_placeOf_80 : decode cX10_placeOf 80 = .ok (.iload 5, 2) := by decide +kernel
theorem dX10_placeOf_82 : decode cX10_placeOf 82 = .ok (.iload_n 3, 1) := by decide +kernel
theorem dX10_placeOf_83 : decode cX10_placeOf 83 = .ok (.isub, 1) := by decide +kernel
theorem dX10_placeOf_84 : decode cX10_placeOf 84 = .ok (.goto 7, 3) := by decide +kernel
theorem dX10_placeOf_87 : decode cX10_placeOf 87 = .ok (.iload 4, 2) := by decide +kernel
theorem dX10_placeOf_89 : decode cX10_placeOf 89 = .ok (.iload_n 3, 1) := by decide +kernel
theorem dX10_placeOf_90 : decode cX10_placeOf 90 = .ok (.iadd, 1) := by decide +kernel
theorem dX10_placeOf_91 : decode cX10_placeOf 91 = .ok (.istore_n 1, 1) := by decide +kernel
theorem dX10_placeOf_92 : decode cX10_placeOf 92 = .ok (.iload_n 1, 1) := by decide +kernel
theorem dX10_placeOf_93 : decode cX10_placeOf 93 = .ok (.iconst 4, 1) := by decide +kernel
theorem dX10_placeOf_94 : decode cX10_placeOf 94 = .ok (.iload_n 2, 1) := by decide +kernel
theorem dX10_placeOf_95 : decode cX10_placeOf 95 = .ok (.iload_n 1, 1) := by decide +kernel
theorem dX10_placeOf_96 : decode cX10_placeOf 96 = .ok (.isub, 1) := by decide +kernel
theorem dX10_placeOf_97 : decode cX10_placeOf 97 = .ok (.imul, 1) := by decide +kernel
theorem dX10_placeOf_98 : decode cX10_placeOf 98 = .ok (.iadd, 1) := by decide +kernel
theorem dX10_placeOf_99 : decode cX10_placeOf 99 = .ok (.ireturn, 1) := by decide +kernel
theorem dX10_comesBack_0 : decode cX10_comesBack 0 = .ok (.iconst 0, 1) := by decide +kernel
theorem dX10_comesBack_1 : decode cX10_comesBack 1 = .ok (.istore 5, 2) := by decide +kernel
theorem dX10_comesBack_3 : decode cX10_comesBack 3 = .ok (.iload 5, 2) := by decide +kernel
theorem dX10_comesBack_5 : decode cX10_comesBack 5 = .ok (.bipush 16, 2) := by decide +kernel
theorem dX10_comesBack_7 : decode cX10_comesBack 7 = .ok (.if_icmp .ge 75, 3) := by decide +kernel
theorem dX10_comesBack_10 : decode cX10_comesBack 10 = .ok (.iload 5, 2) := by decide +kernel
theorem dX10_comesBack_12 : decode cX10_comesBack 12 = .ok (.invokestatic 106, 3) := by decide +kernel
theorem dX10_comesBack_15 : decode cX10_comesBack 15 = .ok (.istore 6, 2) := by decide +kernel
theorem dX10_comesBack_17 : decode cX10_comesBack 17 = .ok (.aload_n 3, 1) := by decide +kernel
theorem dX10_comesBack_18 : decode cX10_comesBack 18 = .ok (.bipush 16, 2) := by decide +kernel
theorem dX10_comesBack_20 : decode cX10_comesBack 20 = .ok (.iload_n 1, 1) := by decide +kernel
theorem dX10_comesBack_21 : decode cX10_comesBack 21 = .ok (.imul, 1) := by decide +kernel
theorem dX10_comesBack_22 : decode cX10_comesBack 22 = .ok (.iload 5, 2) := by decide +kernel
theorem dX10_comesBack_24 : decode cX10_comesBack 24 = .ok (.iadd, 1) := by decide +kernel
theorem dX10_comesBack_25 : decode cX10_comesBack 25 = .ok (.iaload, 1) := by decide +kernel
theorem dX10_comesBack_26 : decode cX10_comesBack 26 = .ok (.iload 4, 2) := by decide +kernel
theorem dX10_comesBack_28 : decode cX10_comesBack 28 = .ok (.iload 6, 2) := by decide +kernel
theorem dX10_comesBack_30 : decode cX10_comesBack 30 = .ok (.iconst 4, 1) := by decide +kernel
theorem dX10_comesBack_31 : decode cX10_comesBack 31 = .ok (.irem, 1) := by decide +kernel
theorem dX10_comesBack_32 : decode cX10_comesBack 32 = .ok (.iload 6, 2) := by decide +kernel
theorem dX10_comesBack_34 : decode cX10_comesBack 34 = .ok (.iconst 4, 1) := by decide +kernel
theorem dX10_comesBack_35 : decode cX10_comesBack 35 = .ok (.idiv, 1) := by decide +kernel
theorem dX10_comesBack_36 : decode cX10_comesBack 36 = .ok (.invokestatic 109, 3) := by decide +kernel
theorem dX10_comesBack_39 : decode cX10_comesBack 39 = .ok (.imul, 1) := by decide +kernel
theorem dX10_comesBack_40 : decode cX10_comesBack 40 = .ok (.istore 7, 2) := by decide +kernel
theorem dX10_comesBack_42 : decode cX10_comesBack 42 = .ok (.iconst 0, 1) := by decide +kernel
theorem dX10_comesBack_43 : decode cX10_comesBack 43 = .ok (.istore 8, 2) := by decide +kernel
theorem dX10_comesBack_45 : decode cX10_comesBack 45 = .ok (.iload 8, 2) := by decide +kernel
theorem dX10_comesBack_47 : decode cX10_comesBack 47 = .ok (.iload 4, 2) := by decide +kernel
theorem dX10_comesBack_49 : decode cX10_comesBack 49 = .ok (.bipush 6, 2) := by decide +kernel
theorem dX10_comesBack_51 : decode cX10_comesBack 51 = .ok (.idiv, 1) := by decide +kernel
theorem dX10_comesBack_52 : decode cX10_comesBack 52 = .ok (.if_icmp .ge 15, 3) := by decide +kernel
theorem dX10_comesBack_55 : decode cX10_comesBack 55 = .ok (.iconst 2, 1) := by decide +kernel
theorem dX10_comesBack_56 : decode cX10_comesBack 56 = .ok (.iload 7, 2) := by decide +kernel
theorem dX10_comesBack_58 : decode cX10_comesBack 58 = .ok (.imul, 1) := by decide +kernel
theorem dX10_comesBack_59 : decode cX10_comesBack 59 = .ok (.istore 7, 2) := by decide +kernel
theorem dX10_comesBack_61 : decode cX10_comesBack 61 = .ok (.iinc 8 1, 3) := by decide +kernel
theorem dX10_comesBack_64 : decode cX10_comesBack 64 = .ok (.goto (-19), 3) := by decide +kernel
theorem dX10_comesBack_67 : decode cX10_comesBack 67 = .ok (.aload_n 0, 1) := by decide +kernel
theorem dX10_comesBack_68 : decode cX10_comesBack 68 = .ok (.getfield 44, 3) := by decide +kernel
theorem dX10_comesBack_71 : decode cX10_comesBack 71 = .ok (.iload 6, 2) := by decide +kernel
theorem dX10_comesBack_73 : decode cX10_comesBack 73 = .ok (.iload 7, 2) := by decide +kernel
theorem dX10_comesBack_75 : decode cX10_comesBack 75 = .ok (.iastore, 1) := by decide +kernel
theorem dX10_comesBack_76 : decode cX10_comesBack 76 = .ok (.iinc 5 1, 3) := by decide +kernel
theorem dX10_comesBack_79 : decode cX10_comesBack 79 = .ok (.goto (-76), 3) := by decide +kernel
theorem dX10_comesBack_82 : decode cX10_comesBack 82 = .ok (.iconst 0, 1) := by decide +kernel
theorem dX10_comesBack_83 : decode cX10_comesBack 83 = .ok (.istore 5, 2) := by decide +kernel
theorem dX10_comesBack_85 : decode cX10_comesBack 85 = .ok (.iload 5, 2) := by decide +kernel
theorem dX10_comesBack_87 : decode cX10_comesBack 87 = .ok (.iconst 4, 1) := by decide +kernel
theorem dX10_comesBack_88 : decode cX10_comesBack 88 = .ok (.if_icmp .ge 18, 3) := by decide +kernel
theorem dX10_comesBack_91 : decode cX10_comesBack 91 = .ok (.aload_n 0, 1) := by decide +kernel
theorem dX10_comesBack_92 : decode cX10_comesBack 92 = .ok (.iconst 4, 1) := by decide +kernel
theorem dX10_comesBack_93 : decode cX10_comesBack 93 = .ok (.iload 5, 2) := by decide +kernel
theorem dX10_comesBack_95 : decode cX10_comesBack 95 = .ok (.imul, 1) := by decide +kernel
theorem dX10_comesBack_96 : decode cX10_comesBack 96 = .ok (.iconst 1, 1) := by decide +kernel
theorem dX10_comesBack_97 : decode cX10_comesBack 97 = .ok (.invokevirtual 112, 3) := by decide +kernel
theorem dX10_comesBack_100 : decode cX10_comesBack 100 = .ok (.iinc 5 1, 3) := by decide +kernel
theorem dX10_comesBack_103 : decode cX10_comesBack 103 = .ok (.goto (-18), 3) := by decide +kernel
theorem dX10_comesBack_106 : decode cX10_comesBack 106 = .ok (.iconst 0, 1) := by decide +kernel
theorem dX10_comesBack_107 : decode cX10_comesBack 107 = .ok (.istore 5, 2) := by decide +kernel
theorem dX10_comesBack_109 : decode cX10_comesBack 109 = .ok (.iload 5, 2) := by decide +kernel
theorem dX10_comesBack_111 : decode cX10_comesBack 111 = .ok (.iconst 4, 1) := by decide +kernel
theorem dX10_comesBack_112 : decode cX10_comesBack 112 = .ok (.if_icmp .ge 16, 3) := by decide +kernel
theorem dX10_comesBack_115 : decode cX10_comesBack 115 = .ok (.aload_n 0, 1) := by decide +kernel
theorem dX10_comesBack_116 : decode cX10_comesBack 116 = .ok (.iload 5, 2) := by decide +kernel
theorem dX10_comesBack_118 : decode cX10_comesBack 118 = .ok (.iconst 4, 1) := by decide +kernel
theorem dX10_comesBack_119 : decode cX10_comesBack 119 = .ok (.invokevirtual 112, 3) := by decide +kernel
theorem dX10_comesBack_122 : decode cX10_comesBack 122 = .ok (.iinc 5 1, 3) := by decide +kernel
theorem dX10_comesBack_125 : decode cX10_comesBack 125 = .ok (.goto (-16), 3) := by decide +kernel
theorem dX10_comesBack_128 : decode cX10_comesBack 128 = .ok (.iconst 0, 1) := by decide +kernel
theorem dX10_comesBack_129 : decode cX10_comesBack 129 = .ok (.istore 5, 2) := by decide +kernel
theorem dX10_comesBack_131 : decode cX10_comesBack 131 = .ok (.iload 5, 2) := by decide +kernel
theorem dX10_comesBack_133 : decode cX10_comesBack 133 = .ok (.bipush 16, 2) := by decide +kernel
theorem dX10_comesBack_135 : decode cX10_comesBack 135 = .ok (.if_icmp .ge 49, 3) := by decide +kernel
theorem dX10_comesBack_138 : decode cX10_comesBack 138 = .ok (.aload_n 0, 1) := by decide +kernel
theorem dX10_comesBack_139 : decode cX10_comesBack 139 = .ok (.getfield 44, 3) := by decide +kernel
theorem dX10_comesBack_142 : decode cX10_comesBack 142 = .ok (.iload 5, 2) := by decide +kernel
theorem dX10_comesBack_144 : decode cX10_comesBack 144 = .ok (.aload_n 0, 1) := by decide +kernel
theorem dX10_comesBack_145 : decode cX10_comesBack 145 = .ok (.iload_n 1, 1) := by decide +kernel
theorem dX10_comesBack_146 : decode cX10_comesBack 146 = .ok (.iload_n 2, 1) := by decide +kernel
theorem dX10_comesBack_147 : decode cX10_comesBack 147 = .ok (.iload 5, 2) := by decide +kernel
theorem dX10_comesBack_149 : decode cX10_comesBack 149 = .ok (.iconst 4, 1) := by decide +kernel
theorem dX10_comesBack_150 : decode cX10_comesBack 150 = .ok (.irem, 1) := by decide +kernel
theorem dX10_comesBack_151 : decode cX10_comesBack 151 = .ok (.iload 5, 2) := by decide +kernel
theorem dX10_comesBack_153 : decode cX10_comesBack 153 = .ok (.iconst 4, 1) := by decide +kernel
theorem dX10_comesBack_154 : decode cX10_comesBack 154 = .ok (.idiv, 1) := by decide +kernel
theorem dX10_comesBack_155 : decode cX10_comesBack 155 = .ok (.invokevirtual 116, 3) := by decide +kernel
theorem dX10_comesBack_158 : decode cX10_comesBack 158 = .ok (.aload_n 0, 1) := by decide +kernel
theorem dX10_comesBack_159 : decode cX10_comesBack 159 = .ok (.getfield 44, 3) := by decide +kernel
theorem dX10_comesBack_162 : decode cX10_comesBack 162 = .ok (.iload 5, 2) := by decide +kernel
theorem dX10_comesBack_164 : decode cX10_comesBack 164 = .ok (.iaload, 1) := by decide +kernel
theorem dX10_comesBack_165 : decode cX10_comesBack 165 = .ok (.bipush 32, 2) := by decide +kernel
theorem dX10_comesBack_167 : decode cX10_comesBack 167 = .ok (.iadd, 1) := by decide +kernel
theorem dX10_comesBack_168 : decode cX10_comesBack 168 = .ok (.bipush 64, 2) := by decide +kernel
theorem dX10_comesBack_170 : decode cX10_comesBack 170 = .ok (.invokestatic 104, 3) := by decide +kernel
theorem dX10_comesBack_173 : decode cX10_comesBack 173 = .ok (.iadd, 1) := by decide +kernel
theorem dX10_comesBack_174 : decode cX10_comesBack 174 = .ok (.invokestatic 119, 3) := by decide +kernel
theorem dX10_comesBack_177 : decode cX10_comesBack 177 = .ok (.iastore, 1) := by decide +kernel
theorem dX10_comesBack_178 : decode cX10_comesBack 178 = .ok (.iinc 5 1, 3) := by decide +kernel
theorem dX10_comesBack_181 : decode cX10_comesBack 181 = .ok (.goto (-50), 3) := by decide +kernel
theorem dX10_comesBack_184 : decode cX10_comesBack 184 = .ok (.iconst 0, 1) := by decide +kernel
theorem dX10_comesBack_185 : decode cX10_comesBack 185 = .ok (.istore 5, 2) := by decide +kernel
theorem dX10_comesBack_187 : decode cX10_comesBack 187 = .ok (.iload 5, 2) := by decide +kernel
theorem dX10_comesBack_189 : decode cX10_comesBack 189 = .ok (.bipush 16, 2) := by decide +kernel
theorem dX10_comesBack_191 : decode cX10_comesBack 191 = .ok (.if_icmp .ge 51, 3) := by decide +kernel
theorem dX10_comesBack_194 : decode cX10_comesBack 194 = .ok (.aload_n 0, 1) := by decide +kernel
theorem dX10_comesBack_195 : decode cX10_comesBack 195 = .ok (.getfield 16, 3) := by decide +kernel
theorem dX10_comesBack_198 : decode cX10_comesBack 198 = .ok (.bipush 32, 2) := by decide +kernel
theorem dX10_comesBack_200 : decode cX10_comesBack 200 = .ok (.iconst 4, 1) := by decide +kernel
theorem dX10_comesBack_201 : decode cX10_comesBack 201 = .ok (.iload_n 1, 1) := by decide +kernel
theorem dX10_comesBack_202 : decode cX10_comesBack 202 = .ok (.aload_n 0, 1) := by decide +kernel
theorem dX10_comesBack_203 : decode cX10_comesBack 203 = .ok (.getfield 7, 3) := by decide +kernel
theorem dX10_comesBack_206 : decode cX10_comesBack 206 = .ok (.idiv, 1) := by decide +kernel
theorem dX10_comesBack_207 : decode cX10_comesBack 207 = .ok (.imul, 1) := by decide +kernel
theorem dX10_comesBack_208 : decode cX10_comesBack 208 = .ok (.iload 5, 2) := by decide +kernel
theorem dX10_comesBack_210 : decode cX10_comesBack 210 = .ok (.iconst 4, 1) := by decide +kernel
theorem dX10_comesBack_211 : decode cX10_comesBack 211 = .ok (.idiv, 1) := by decide +kernel
theorem dX10_comesBack_212 : decode cX10_comesBack 212 = .ok (.iadd, 1) := by decide +kernel
theorem dX10_comesBack_213 : decode cX10_comesBack 213 = .ok (.imul, 1) := by decide +kernel
theorem dX10_comesBack_214 : decode cX10_comesBack 214 = .ok (.iconst 4, 1) := by decide +kernel
theorem dX10_comesBack_215 : decode cX10_comesBack 215 = .ok (.iload_n 1, 1) := by decide +kernel
theorem dX10_comesBack_216 : decode cX10_comesBack 216 = .ok (.aload_n 0, 1) := by decide +kernel
theorem dX10_comesBack_217 : decode cX10_comesBack 217 = .ok (.getfield 7, 3) := by decide +kernel
theorem dX10_comesBack_220 : decode cX10_comesBack 220 = .ok (.irem, 1) := by decide +kernel
theorem dX10_comesBack_221 : decode cX10_comesBack 221 = .ok (.imul, 1) := by decide +kernel
theorem dX10_comesBack_222 : decode cX10_comesBack 222 = .ok (.iadd, 1) := by decide +kernel
theorem dX10_comesBack_223 : decode cX10_comesBack 223 = .ok (.iload 5, 2) := by decide +kernel
theorem dX10_comesBack_225 : decode cX10_comesBack 225 = .ok (.iconst 4, 1) := by decide +kernel
theorem dX10_comesBack_226 : decode cX10_comesBack 226 = .ok (.irem, 1) := by decide +kernel
theorem dX10_comesBack_227 : decode cX10_comesBack 227 = .ok (.iadd, 1) := by decide +kernel
theorem dX10_comesBack_228 : decode cX10_comesBack 228 = .ok (.aload_n 0, 1) := by decide +kernel
theorem dX10_comesBack_229 : decode cX10_comesBack 229 = .ok (.getfield 44, 3) := by decide +kernel
theorem dX10_comesBack_232 : decode cX10_comesBack 232 = .ok (.iload 5, 2) := by decide +kernel
theorem dX10_comesBack_234 : decode cX10_comesBack 234 = .ok (.iaload, 1) := by decide +kernel
theorem dX10_comesBack_235 : decode cX10_comesBack 235 = .ok (.iastore, 1) := by decide +kernel
theorem dX10_comesBack_236 : decode cX10_comesBack 236 = .ok (.iinc 5 1, 3) := by decide +kernel
theorem dX10_comesBack_239 : decode cX10_comesBack 239 = .ok (.goto (-52), 3) := by decide +kernel
theorem dX10_comesBack_242 : decode cX10_comesBack 242 = .ok (.return_, 1) := by decide +kernel
theorem dX10_givenAt_0 : decode cX10_givenAt 0 = .ok (.aload_n 0, 1) := by decide +kernel
theorem dX10_givenAt_1 : decode cX10_givenAt 1 = .ok (.getfield 20, 3) := by decide +kernel
theorem dX10_givenAt_4 : decode cX10_givenAt 4 = .ok (.bipush 32, 2) := by decide +kernel
theorem dX10_givenAt_6 : decode cX10_givenAt 6 = .ok (.iconst 4, 1) := by decide +kernel
theorem dX10_givenAt_7 : decode cX10_givenAt 7 = .ok (.iload_n 1, 1) := by decide +kernel
theorem dX10_givenAt_8 : decode cX10_givenAt 8 = .ok (.aload_n 0, 1) := by decide +kernel
theorem dX10_givenAt_9 : decode cX10_givenAt 9 = .ok (.getfield 7, 3) := by decide +kernel
theorem dX10_givenAt_12 : decode cX10_givenAt 12 = .ok (.idiv, 1) := by decide +kernel
theorem dX10_givenAt_13 : decode cX10_givenAt 13 = .ok (.imul, 1) := by decide +kernel
theorem dX10_givenAt_14 : decode cX10_givenAt 14 = .ok (.iload_n 3, 1) := by decide +kernel
theorem dX10_givenAt_15 : decode cX10_givenAt 15 = .ok (.iadd, 1) := by decide +kernel
theorem dX10_givenAt_16 : decode cX10_givenAt 16 = .ok (.imul, 1) := by decide +kernel
theorem dX10_givenAt_17 : decode cX10_givenAt 17 = .ok (.iconst 4, 1) := by decide +kernel
theorem dX10_givenAt_18 : decode cX10_givenAt 18 = .ok (.iload_n 1, 1) := by decide +kernel
theorem dX10_givenAt_19 : decode cX10_givenAt 19 = .ok (.aload_n 0, 1) := by decide +kernel
theorem dX10_givenAt_20 : decode cX10_givenAt 20 = .ok (.getfield 7, 3) := by decide +kernel
theorem dX10_givenAt_23 : decode cX10_givenAt 23 = .ok (.irem, 1) := by decide +kernel
theorem dX10_givenAt_24 : decode cX10_givenAt 24 = .ok (.imul, 1) := by decide +kernel
theorem dX10_givenAt_25 : decode cX10_givenAt 25 = .ok (.iadd, 1) := by decide +kernel
theorem dX10_givenAt_26 : decode cX10_givenAt 26 = .ok (.iload_n 2, 1) := by decide +kernel
theorem dX10_givenAt_27 : decode cX10_givenAt 27 = .ok (.iadd, 1) := by decide +kernel
theorem dX10_givenAt_28 : decode cX10_givenAt 28 = .ok (.iaload, 1) := by decide +kernel
theorem dX10_givenAt_29 : decode cX10_givenAt 29 = .ok (.ireturn, 1) := by decide +kernel
theorem dX10_costOf_0 : decode cX10_costOf 0 = .ok (.iconst 0, 1) := by decide +kernel
theorem dX10_costOf_1 : decode cX10_costOf 1 = .ok (.istore_n 3, 1) := by decide +kernel
theorem dX10_costOf_2 : decode cX10_costOf 2 = .ok (.iconst 0, 1) := by decide +kernel
theorem dX10_costOf_3 : decode cX10_costOf 3 = .ok (.istore 4, 2) := by decide +kernel
theorem dX10_costOf_5 : decode cX10_costOf 5 = .ok (.iload 4, 2) := by decide +kernel
theorem dX10_costOf_7 : decode cX10_costOf 7 = .ok (.bipush 16, 2) := by decide +kernel
theorem dX10_costOf_9 : decode cX10_costOf 9 = .ok (.if_icmp .ge 43, 3) := by decide +kernel
theorem dX10_costOf_12 : decode cX10_costOf 12 = .ok (.iload_n 3, 1) := by decide +kernel
theorem dX10_costOf_13 : decode cX10_costOf 13 = .ok (.aload_n 0, 1) := by decide +kernel
theorem dX10_costOf_14 : decode cX10_costOf 14 = .ok (.iload_n 1, 1) := by decide +kernel
theorem dX10_costOf_15 : decode cX10_costOf 15 = .ok (.iload 4, 2) := by decide +kernel
theorem dX10_costOf_17 : decode cX10_costOf 17 = .ok (.iconst 4, 1) := by decide +kernel
theorem dX10_costOf_18 : decode cX10_costOf 18 = .ok (.irem, 1) := by decide +kernel
theorem dX10_costOf_19 : decode cX10_costOf 19 = .ok (.iload 4, 2) := by decide +kernel
theorem dX10_costOf_21 : decode cX10_costOf 21 = .ok (.iconst 4, 1) := by decide +kernel
theorem dX10_costOf_22 : decode cX10_costOf 22 = .ok (.idiv, 1) := by decide +kernel
theorem dX10_costOf_23 : decode cX10_costOf 23 = .ok (.invokevirtual 122, 3) := by decide +kernel
theorem dX10_costOf_26 : decode cX10_costOf 26 = .ok (.aload_n 0, 1) := by decide +kernel
theorem dX10_costOf_27 : decode cX10_costOf 27 = .ok (.iload_n 1, 1) := by decide +kernel
theorem dX10_costOf_28 : decode cX10_costOf 28 = .ok (.iload_n 2, 1) := by decide +kernel
theorem dX10_costOf_29 : decode cX10_costOf 29 = .ok (.iload 4, 2) := by decide +kernel
theorem dX10_costOf_31 : decode cX10_costOf 31 = .ok (.iconst 4, 1) := by decide +kernel
theorem dX10_costOf_32 : decode cX10_costOf 32 = .ok (.irem, 1) := by decide +kernel
theorem dX10_costOf_33 : decode cX10_costOf 33 = .ok (.iload 4, 2) := by decide +kernel
theorem dX10_costOf_35 : decode cX10_costOf 35 = .ok (.iconst 4, 1) := by decide +kernel
theorem dX10_costOf_36 : decode cX10_costOf 36 = .ok (.idiv, 1) := by decide +kernel
theorem dX10_costOf_37 : decode cX10_costOf 37 = .ok (.invokevirtual 116, 3) := by decide +kernel
theorem dX10_costOf_40 : decode cX10_costOf 40 = .ok (.isub, 1) := by decide +kernel
theorem dX10_costOf_41 : decode cX10_costOf 41 = .ok (.invokestatic 125, 3) := by decide +kernel
theorem dX10_costOf_44 : decode cX10_costOf 44 = .ok (.iadd, 1) := by decide +kernel
theorem dX10_costOf_45 : decode cX10_costOf 45 = .ok (.istore_n 3, 1) := by decide +kernel
theorem dX10_costOf_46 : decode cX10_costOf 46 = .ok (.iinc 4 1, 3) := by decide +kernel
theorem dX10_costOf_49 : decode cX10_costOf 49 = .ok (.goto (-44), 3) := by decide +kernel
theorem dX10_costOf_52 : decode cX10_costOf 52 = .ok (.iload_n 3, 1) := by decide +kernel
theorem dX10_costOf_53 : decode cX10_costOf 53 = .ok (.ireturn, 1) := by decide +kernel
theorem dX10_goForth_0 : decode cX10_goForth 0 = .ok (.iconst 0, 1) := by decide +kernel
theorem dX10_goForth_1 : decode cX10_goForth 1 = .ok (.istore 4, 2) := by decide +kernel
theorem dX10_goForth_3 : decode cX10_goForth 3 = .ok (.iload 4, 2) := by decide +kernel
theorem dX10_goForth_5 : decode cX10_goForth 5 = .ok (.bipush 16, 2) := by decide +kernel
theorem dX10_goForth_7 : decode cX10_goForth 7 = .ok (.if_icmp .ge 44, 3) := by decide +kernel
theorem dX10_goForth_10 : decode cX10_goForth 10 = .ok (.aload_n 0, 1) := by decide +kernel
theorem dX10_goForth_11 : decode cX10_goForth 11 = .ok (.getfield 44, 3) := by decide +kernel
theorem dX10_goForth_14 : decode cX10_goForth 14 = .ok (.iload 4, 2) := by decide +kernel
theorem dX10_goForth_16 : decode cX10_goForth 16 = .ok (.aload_n 0, 1) := by decide +kernel
theorem dX10_goForth_17 : decode cX10_goForth 17 = .ok (.iload_n 1, 1) := by decide +kernel
theorem dX10_goForth_18 : decode cX10_goForth 18 = .ok (.iload 4, 2) := by decide +kernel
theorem dX10_goForth_20 : decode cX10_goForth 20 = .ok (.iconst 4, 1) := by decide +kernel
theorem dX10_goForth_21 : decode cX10_goForth 21 = .ok (.irem, 1) := by decide +kernel
theorem dX10_goForth_22 : decode cX10_goForth 22 = .ok (.iload 4, 2) := by decide +kernel
theorem dX10_goForth_24 : decode cX10_goForth 24 = .ok (.iconst 4, 1) := by decide +kernel
theorem dX10_goForth_25 : decode cX10_goForth 25 = .ok (.idiv, 1) := by decide +kernel
theorem dX10_goForth_26 : decode cX10_goForth 26 = .ok (.invokevirtual 122, 3) := by decide +kernel
theorem dX10_goForth_29 : decode cX10_goForth 29 = .ok (.aload_n 0, 1) := by decide +kernel
theorem dX10_goForth_30 : decode cX10_goForth 30 = .ok (.iload_n 1, 1) := by decide +kernel
theorem dX10_goForth_31 : decode cX10_goForth 31 = .ok (.iload_n 2, 1) := by decide +kernel
theorem dX10_goForth_32 : decode cX10_goForth 32 = .ok (.iload 4, 2) := by decide +kernel
theorem dX10_goForth_34 : decode cX10_goForth 34 = .ok (.iconst 4, 1) := by decide +kernel
theorem dX10_goForth_35 : decode cX10_goForth 35 = .ok (.irem, 1) := by decide +kernel
theorem dX10_goForth_36 : decode cX10_goForth 36 = .ok (.iload 4, 2) := by decide +kernel
theorem dX10_goForth_38 : decode cX10_goForth 38 = .ok (.iconst 4, 1) := by decide +kernel
theorem dX10_goForth_39 : decode cX10_goForth 39 = .ok (.idiv, 1) := by decide +kernel
theorem dX10_goForth_40 : decode cX10_goForth 40 = .ok (.invokevirtual 116, 3) := by decide +kernel
theorem dX10_goForth_43 : decode cX10_goForth 43 = .ok (.isub, 1) := by decide +kernel
theorem dX10_goForth_44 : decode cX10_goForth 44 = .ok (.iastore, 1) := by decide +kernel
theorem dX10_goForth_45 : decode cX10_goForth 45 = .ok (.iinc 4 1, 3) := by decide +kernel
theorem dX10_goForth_48 : decode cX10_goForth 48 = .ok (.goto (-45), 3) := by decide +kernel
theorem dX10_goForth_51 : decode cX10_goForth 51 = .ok (.iconst 0, 1) := by decide +kernel
theorem dX10_goForth_52 : decode cX10_goForth 52 = .ok (.istore 4, 2) := by decide +kernel
theorem dX10_goForth_54 : decode cX10_goForth 54 = .ok (.iload 4, 2) := by decide +kernel
theorem dX10_goForth_56 : decode cX10_goForth 56 = .ok (.iconst 4, 1) := by decide +kernel
theorem dX10_goForth_57 : decode cX10_goForth 57 = .ok (.if_icmp .ge 18, 3) := by decide +kernel
theorem dX10_goForth_60 : decode cX10_goForth 60 = .ok (.aload_n 0, 1) := by decide +kernel
theorem dX10_goForth_61 : decode cX10_goForth 61 = .ok (.iconst 4, 1) := by decide +kernel
theorem dX10_goForth_62 : decode cX10_goForth 62 = .ok (.iload 4, 2) := by decide +kernel
theorem dX10_goForth_64 : decode cX10_goForth 64 = .ok (.imul, 1) := by decide +kernel
theorem dX10_goForth_65 : decode cX10_goForth 65 = .ok (.iconst 1, 1) := by decide +kernel
theorem dX10_goForth_66 : decode cX10_goForth 66 = .ok (.invokevirtual 128, 3) := by decide +kernel
theorem dX10_goForth_69 : decode cX10_goForth 69 = .ok (.iinc 4 1, 3) := by decide +kernel
theorem dX10_goForth_72 : decode cX10_goForth 72 = .ok (.goto (-18), 3) := by decide +kernel
theorem dX10_goForth_75 : decode cX10_goForth 75 = .ok (.iconst 0, 1) := by decide +kernel
theorem dX10_goForth_76 : decode cX10_goForth 76 = .ok (.istore 4, 2) := by decide +kernel
theorem dX10_goForth_78 : decode cX10_goForth 78 = .ok (.iload 4, 2) := by decide +kernel
theorem dX10_goForth_80 : decode cX10_goForth 80 = .ok (.iconst 4, 1) := by decide +kernel
theorem dX10_goForth_81 : decode cX10_goForth 81 = .ok (.if_icmp .ge 16, 3) := by decide +kernel
theorem dX10_goForth_84 : decode cX10_goForth 84 = .ok (.aload_n 0, 1) := by decide +kernel
theorem dX10_goForth_85 : decode cX10_goForth 85 = .ok (.iload 4, 2) := by decide +kernel
theorem dX10_goForth_87 : decode cX10_goForth 87 = .ok (.iconst 4, 1) := by decide +kernel
theorem dX10_goForth_88 : decode cX10_goForth 88 = .ok (.invokevirtual 128, 3) := by decide +kernel
theorem dX10_goForth_91 : decode cX10_goForth 91 = .ok (.iinc 4 1, 3) := by decide +kernel
theorem dX10_goForth_94 : decode cX10_goForth 94 = .ok (.goto (-16), 3) := by decide +kernel
theorem dX10_goForth_97 : decode cX10_goForth 97 = .ok (.ldc 131, 2) := by decide +kernel
theorem dX10_goForth_99 : decode cX10_goForth 99 = .ok (.istore 4, 2) := by decide +kernel
theorem dX10_goForth_101 : decode cX10_goForth 101 = .ok (.iconst 0, 1) := by decide +kernel
theorem dX10_goForth_102 : decode cX10_goForth 102 = .ok (.istore 5, 2) := by decide +kernel
theorem dX10_goForth_104 : decode cX10_goForth 104 = .ok (.iload 5, 2) := by decide +kernel
theorem dX10_goForth_106 : decode cX10_goForth 106 = .ok (.iload_n 3, 1) := by decide +kernel
theorem dX10_goForth_107 : decode cX10_goForth 107 = .ok (.bipush 6, 2) := by decide +kernel
theorem dX10_goForth_109 : decode cX10_goForth 109 = .ok (.idiv, 1) := by decide +kernel
theorem dX10_goForth_110 : decode cX10_goForth 110 = .ok (.if_icmp .ge 15, 3) := by decide +kernel
theorem dX10_goForth_113 : decode cX10_goForth 113 = .ok (.iconst 2, 1) := by decide +kernel
theorem dX10_goForth_114 : decode cX10_goForth 114 = .ok (.iload 4, 2) := by decide +kernel
theorem dX10_goForth_116 : decode cX10_goForth 116 = .ok (.imul, 1) := by decide +kernel
theorem dX10_goForth_117 : decode cX10_goForth 117 = .ok (.istore 4, 2) := by decide +kernel
theorem dX10_goForth_119 : decode cX10_goForth 119 = .ok (.iinc 5 1, 3) := by decide +kernel
theorem dX10_goForth_122 : decode cX10_goForth 122 = .ok (.goto (-18), 3) := by decide +kernel
theorem dX10_goForth_125 : decode cX10_goForth 125 = .ok (.iconst 0, 1) := by decide +kernel
theorem dX10_goForth_126 : decode cX10_goForth 126 = .ok (.istore 5, 2) := by decide +kernel
theorem dX10_goForth_128 : decode cX10_goForth 128 = .ok (.iload 5, 2) := by decide +kernel
theorem dX10_goForth_130 : decode cX10_goForth 130 = .ok (.bipush 16, 2) := by decide +kernel
theorem dX10_goForth_132 : decode cX10_goForth 132 = .ok (.if_icmp .ge 84, 3) := by decide +kernel
theorem dX10_goForth_135 : decode cX10_goForth 135 = .ok (.iload 5, 2) := by decide +kernel
theorem dX10_goForth_137 : decode cX10_goForth 137 = .ok (.invokestatic 106, 3) := by decide +kernel
theorem dX10_goForth_140 : decode cX10_goForth 140 = .ok (.istore 6, 2) := by decide +kernel
theorem dX10_goForth_142 : decode cX10_goForth 142 = .ok (.aload_n 0, 1) := by decide +kernel
theorem dX10_goForth_143 : decode cX10_goForth 143 = .ok (.getfield 44, 3) := by decide +kernel
theorem dX10_goForth_146 : decode cX10_goForth 146 = .ok (.iload 6, 2) := by decide +kernel
theorem dX10_goForth_148 : decode cX10_goForth 148 = .ok (.iaload, 1) := by decide +kernel
theorem dX10_goForth_149 : decode cX10_goForth 149 = .ok (.invokestatic 125, 3) := by decide +kernel
theorem dX10_goForth_152 : decode cX10_goForth 152 = .ok (.i2l, 1) := by decide +kernel
theorem dX10_goForth_153 : decode cX10_goForth 153 = .ok (.iload_n 3, 1) := by decide +kernel
theorem dX10_goForth_154 : decode cX10_goForth 154 = .ok (.iload 6, 2) := by decide +kernel
theorem dX10_goForth_156 : decode cX10_goForth 156 = .ok (.iconst 4, 1) := by decide +kernel
theorem dX10_goForth_157 : decode cX10_goForth 157 = .ok (.irem, 1) := by decide +kernel
theorem dX10_goForth_158 : decode cX10_goForth 158 = .ok (.iload 6, 2) := by decide +kernel
theorem dX10_goForth_160 : decode cX10_goForth 160 = .ok (.iconst 4, 1) := by decide +kernel
theorem dX10_goForth_161 : decode cX10_goForth 161 = .ok (.idiv, 1) := by decide +kernel
theorem dX10_goForth_162 : decode cX10_goForth 162 = .ok (.invokestatic 132, 3) := by decide +kernel
theorem dX10_goForth_165 : decode cX10_goForth 165 = .ok (.i2l, 1) := by decide +kernel
theorem dX10_goForth_166 : decode cX10_goForth 166 = .ok (.lmul, 1) := by decide +kernel
theorem dX10_goForth_167 : decode cX10_goForth 167 = .ok (.iload 4, 2) := by decide +kernel
theorem dX10_goForth_169 : decode cX10_goForth 169 = .ok (.iconst 3, 1) := by decide +kernel
theorem dX10_goForth_170 : decode cX10_goForth 170 = .ok (.idiv, 1) := by decide +kernel
theorem dX10_goForth_171 : decode cX10_goForth 171 = .ok (.i2l, 1) := by decide +kernel
theorem dX10_goForth_172 : decode cX10_goForth 172 = .ok (.ladd, 1) := by decide +kernel
theorem dX10_goForth_173 : decode cX10_goForth 173 = .ok (.iload 4, 2) := by decide +kernel
theorem dX10_goForth_175 : decode cX10_goForth 175 = .ok (.i2l, 1) := by decide +kernel
theorem dX10_goForth_176 : decode cX10_goForth 176 = .ok (.ldiv, 1) := by decide +kernel
theorem dX10_goForth_177 : decode cX10_goForth 177 = .ok (.l2i, 1) := by decide +kernel
theorem dX10_goForth_178 : decode cX10_goForth 178 = .ok (.istore 7, 2) := by decide +kernel
theorem dX10_goForth_180 : decode cX10_goForth 180 = .ok (.aload_n 0, 1) := by decide +kernel
theorem dX10_goForth_181 : decode cX10_goForth 181 = .ok (.getfield 29, 3) := by decide +kernel
theorem dX10_goForth_184 : decode cX10_goForth 184 = .ok (.bipush 16, 2) := by decide +kernel
theorem dX10_goForth_186 : decode cX10_goForth 186 = .ok (.iload_n 1, 1) := by decide +kernel
theorem dX10_goForth_187 : decode cX10_goForth 187 = .ok (.imul, 1) := by decide +kernel
theorem dX10_goForth_188 : decode cX10_goForth 188 = .ok (.iload 5, 2) := by decide +kernel
theorem dX10_goForth_190 : decode cX10_goForth 190 = .ok (.iadd, 1) := by decide +kernel
theorem dX10_goForth_191 : decode cX10_goForth 191 = .ok (.aload_n 0, 1) := by decide +kernel
theorem dX10_goForth_192 : decode cX10_goForth 192 = .ok (.getfield 44, 3) := by decide +kernel
theorem dX10_goForth_195 : decode cX10_goForth 195 = .ok (.iload 6, 2) := by decide +kernel
theorem dX10_goForth_197 : decode cX10_goForth 197 = .ok (.iaload, 1) := by decide +kernel
theorem dX10_goForth_198 : decode cX10_goForth 198 = .ok (.ifCond .ge 9, 3) := by decide +kernel
theorem dX10_goForth_201 : decode cX10_goForth 201 = .ok (.iload 7, 2) := by decide +kernel
theorem dX10_goForth_203 : decode cX10_goForth 203 = .ok (.ineg, 1) := by decide +kernel
theorem dX10_goForth_204 : decode cX10_goForth 204 = .ok (.goto 5, 3) := by decide +kernel
theorem dX10_goForth_207 : decode cX10_goForth 207 = .ok (.iload 7, 2) := by decide +kernel
theorem dX10_goForth_209 : decode cX10_goForth 209 = .ok (.iastore, 1) := by decide +kernel
theorem dX10_goForth_210 : decode cX10_goForth 210 = .ok (.iinc 5 1, 3) := by decide +kernel
theorem dX10_goForth_213 : decode cX10_goForth 213 = .ok (.goto (-85), 3) := by decide +kernel
theorem dX10_goForth_216 : decode cX10_goForth 216 = .ok (.return_, 1) := by decide +kernel
theorem dX10_smooth_0 : decode cX10_smooth 0 = .ok (.aload_n 0, 1) := by decide +kernel
theorem dX10_smooth_1 : decode cX10_smooth 1 = .ok (.getfield 16, 3) := by decide +kernel
theorem dX10_smooth_4 : decode cX10_smooth 4 = .ok (.iload_n 1, 1) := by decide +kernel
theorem dX10_smooth_5 : decode cX10_smooth 5 = .ok (.iconst 2, 1) := by decide +kernel
theorem dX10_smooth_6 : decode cX10_smooth 6 = .ok (.iload_n 2, 1) := by decide +kernel
theorem dX10_smooth_7 : decode cX10_smooth 7 = .ok (.imul, 1) := by decide +kernel
theorem dX10_smooth_8 : decode cX10_smooth 8 = .ok (.isub, 1) := by decide +kernel
theorem dX10_smooth_9 : decode cX10_smooth 9 = .ok (.iaload, 1) := by decide +kernel
theorem dX10_smooth_10 : decode cX10_smooth 10 = .ok (.istore_n 3, 1) := by decide +kernel
theorem dX10_smooth_11 : decode cX10_smooth 11 = .ok (.aload_n 0, 1) := by decide +kernel
theorem dX10_smooth_12 : decode cX10_smooth 12 = .ok (.getfield 16, 3) := by decide +kernel
theorem dX10_smooth_15 : decode cX10_smooth 15 = .ok (.iload_n 1, 1) := by decide +kernel
theorem dX10_smooth_16 : decode cX10_smooth 16 = .ok (.iload_n 2, 1) := by decide +kernel
theorem dX10_smooth_17 : decode cX10_smooth 17 = .ok (.isub, 1) := by decide +kernel
theorem dX10_smooth_18 : decode cX10_smooth 18 = .ok (.iaload, 1) := by decide +kernel
theorem dX10_smooth_19 : decode cX10_smooth 19 = .ok (.istore 4, 2) := by decide +kernel
theorem dX10_smooth_21 : decode cX10_smooth 21 = .ok (.aload_n 0, 1) := by decide +kernel
theorem dX10_smooth_22 : decode cX10_smooth 22 = .ok (.getfield 16, 3) := by decide +kernel
theorem dX10_smooth_25 : decode cX10_smooth 25 = .ok (.iload_n 1, 1) := by decide +kernel
theorem dX10_smooth_26 : decode cX10_smooth 26 = .ok (.iaload, 1) := by decide +kernel
theorem dX10_smooth_27 : decode cX10_smooth 27 = .ok (.istore 5, 2) := by decide +kernel
theorem dX10_smooth_29 : decode cX10_smooth 29 = .ok (.aload_n 0, 1) := by decide +kernel
theorem dX10_smooth_30 : decode cX10_smooth 30 = .ok (.getfield 16, 3) := by decide +kernel
theorem dX10_smooth_33 : decode cX10_smooth 33 = .ok (.iload_n 1, 1) := by decide +kernel
theorem dX10_smooth_34 : decode cX10_smooth 34 = .ok (.iload_n 2, 1) := by decide +kernel
theorem dX10_smooth_35 : decode cX10_smooth 35 = .ok (.iadd, 1) := by decide +kernel
theorem dX10_smooth_36 : decode cX10_smooth 36 = .ok (.iaload, 1) := by decide +kernel
theorem dX10_smooth_37 : decode cX10_smooth 37 = .ok (.istore 6, 2) := by decide +kernel
theorem dX10_smooth_39 : decode cX10_smooth 39 = .ok (.aload_n 0, 1) := by decide +kernel
theorem dX10_smooth_40 : decode cX10_smooth 40 = .ok (.getfield 58, 3) := by decide +kernel
theorem dX10_smooth_43 : decode cX10_smooth 43 = .ok (.iconst 4, 1) := by decide +kernel
theorem dX10_smooth_44 : decode cX10_smooth 44 = .ok (.idiv, 1) := by decide +kernel
theorem dX10_smooth_45 : decode cX10_smooth 45 = .ok (.iconst 1, 1) := by decide +kernel
theorem dX10_smooth_46 : decode cX10_smooth 46 = .ok (.iadd, 1) := by decide +kernel
theorem dX10_smooth_47 : decode cX10_smooth 47 = .ok (.istore 7, 2) := by decide +kernel
theorem dX10_smooth_49 : decode cX10_smooth 49 = .ok (.iload 4, 2) := by decide +kernel
theorem dX10_smooth_51 : decode cX10_smooth 51 = .ok (.iload 5, 2) := by decide +kernel
theorem dX10_smooth_53 : decode cX10_smooth 53 = .ok (.isub, 1) := by decide +kernel
theorem dX10_smooth_54 : decode cX10_smooth 54 = .ok (.invokestatic 125, 3) := by decide +kernel
theorem dX10_smooth_57 : decode cX10_smooth 57 = .ok (.aload_n 0, 1) := by decide +kernel
theorem dX10_smooth_58 : decode cX10_smooth 58 = .ok (.getfield 58, 3) := by decide +kernel
theorem dX10_smooth_61 : decode cX10_smooth 61 = .ok (.aload_n 0, 1) := by decide +kernel
theorem dX10_smooth_62 : decode cX10_smooth 62 = .ok (.getfield 58, 3) := by decide +kernel
theorem dX10_smooth_65 : decode cX10_smooth 65 = .ok (.imul, 1) := by decide +kernel
theorem dX10_smooth_66 : decode cX10_smooth 66 = .ok (.bipush 24, 2) := by decide +kernel
theorem dX10_smooth_68 : decode cX10_smooth 68 = .ok (.idiv, 1) := by decide +kernel
theorem dX10_smooth_69 : decode cX10_smooth 69 = .ok (.if_icmp .ge 28, 3) := by decide +kernel
theorem dX10_smooth_72 : decode cX10_smooth 72 = .ok (.iload 4, 2) := by decide +kernel
theorem dX10_smooth_74 : decode cX10_smooth 74 = .ok (.iload_n 3, 1) := by decide +kernel
theorem dX10_smooth_75 : decode cX10_smooth 75 = .ok (.isub, 1) := by decide +kernel
theorem dX10_smooth_76 : decode cX10_smooth 76 = .ok (.invokestatic 125, 3) := by decide +kernel
theorem dX10_smooth_79 : decode cX10_smooth 79 = .ok (.iload 7, 2) := by decide +kernel
theorem dX10_smooth_81 : decode cX10_smooth 81 = .ok (.if_icmp .ge 16, 3) := by decide +kernel
theorem dX10_smooth_84 : decode cX10_smooth 84 = .ok (.iload 6, 2) := by decide +kernel
theorem dX10_smooth_86 : decode cX10_smooth 86 = .ok (.iload 5, 2) := by decide +kernel
theorem dX10_smooth_88 : decode cX10_smooth 88 = .ok (.isub, 1) := by decide +kernel
theorem dX10_smooth_89 : decode cX10_smooth 89 = .ok (.invokestatic 125, 3) := by decide +kernel
theorem dX10_smooth_92 : decode cX10_smooth 92 = .ok (.iload 7, 2) := by decide +kernel
theorem dX10_smooth_94 : decode cX10_smooth 94 = .ok (.if_icmp .lt 4, 3) := by decide +kernel
theorem dX10_smooth_97 : decode cX10_smooth 97 = .ok (.return_, 1) := by decide +kernel
theorem dX10_smooth_98 : decode cX10_smooth 98 = .ok (.aload_n 0, 1) := by decide +kernel
theorem dX10_smooth_99 : decode cX10_smooth 99 = .ok (.getfield 58, 3) := by decide +kernel
theorem dX10_smooth_102 : decode cX10_smooth 102 = .ok (.bipush 8, 2) := by decide +kernel
theorem dX10_smooth_104 : decode cX10_smooth 104 = .ok (.idiv, 1) := by decide +kernel
theorem dX10_smooth_105 : decode cX10_smooth 105 = .ok (.iconst 1, 1) := by decide +kernel
theorem dX10_smooth_106 : decode cX10_smooth 106 = .ok (.iadd, 1) := by decide +kernel
theorem dX10_smooth_107 : decode cX10_smooth 107 = .ok (.istore 8, 2) := by decide +kernel
theorem dX10_smooth_109 : decode cX10_smooth 109 = .ok (.iconst 4, 1) := by decide +kernel
theorem dX10_smooth_110 : decode cX10_smooth 110 = .ok (.iload 5, 2) := by decide +kernel
theorem dX10_smooth_112 : decode cX10_smooth 112 = .ok (.iload 4, 2) := by decide +kernel
theorem dX10_smooth_114 : decode cX10_smooth 114 = .ok (.isub, 1) := by decide +kernel
theorem dX10_smooth_115 : decode cX10_smooth 115 = .ok (.imul, 1) := by decide +kernel
theorem dX10_smooth_116 : decode cX10_smooth 116 = .ok (.iload_n 3, 1) := by decide +kernel
theorem dX10_smooth_117 : decode cX10_smooth 117 = .ok (.iadd, 1) := by decide +kernel
theorem dX10_smooth_118 : decode cX10_smooth 118 = .ok (.iload 6, 2) := by decide +kernel
theorem dX10_smooth_120 : decode cX10_smooth 120 = .ok (.isub, 1) := by decide +kernel
theorem dX10_smooth_121 : decode cX10_smooth 121 = .ok (.iconst 4, 1) := by decide +kernel
theorem dX10_smooth_122 : decode cX10_smooth 122 = .ok (.iadd, 1) := by decide +kernel
theorem dX10_smooth_123 : decode cX10_smooth 123 = .ok (.bipush 8, 2) := by decide +kernel
theorem dX10_smooth_125 : decode cX10_smooth 125 = .ok (.invokestatic 104, 3) := by decide +kernel
theorem dX10_smooth_128 : decode cX10_smooth 128 = .ok (.istore 9, 2) := by decide +kernel
theorem dX10_smooth_130 : decode cX10_smooth 130 = .ok (.iload 9, 2) := by decide +kernel
theorem dX10_smooth_132 : decode cX10_smooth 132 = .ok (.iload 8, 2) := by decide +kernel
theorem dX10_smooth_134 : decode cX10_smooth 134 = .ok (.ineg, 1) := by decide +kernel
theorem dX10_smooth_135 : decode cX10_smooth 135 = .ok (.if_icmp .ge 9, 3) := by decide +kernel
theorem dX10_smooth_138 : decode cX10_smooth 138 = .ok (.iload 8, 2) := by decide +kernel
theorem dX10_smooth_140 : decode cX10_smooth 140 = .ok (.ineg, 1) := by decide +kernel
theorem dX10_smooth_141 : decode cX10_smooth 141 = .ok (.goto 17, 3) := by decide +kernel
theorem dX10_smooth_144 : decode cX10_smooth 144 = .ok (.iload 9, 2) := by decide +kernel
theorem dX10_smooth_146 : decode cX10_smooth 146 = .ok (.iload 8, 2) := by decide +kernel
theorem dX10_smooth_148 : decode cX10_smooth 148 = .ok (.if_icmp .le 8, 3) := by decide +kernel
theorem dX10_smooth_151 : decode cX10_smooth 151 = .ok (.iload 8, 2) := by decide +kernel
theorem dX10_smooth_153 : decode cX10_smooth 153 = .ok (.goto 5, 3) := by decide +kernel
theorem dX10_smooth_156 : decode cX10_smooth 156 = .ok (.iload 9, 2) := by decide +kernel
theorem dX10_smooth_158 : decode cX10_smooth 158 = .ok (.istore 9, 2) := by decide +kernel
theorem dX10_smooth_160 : decode cX10_smooth 160 = .ok (.aload_n 0, 1) := by decide +kernel
theorem dX10_smooth_161 : decode cX10_smooth 161 = .ok (.getfield 16, 3) := by decide +kernel
theorem dX10_smooth_164 : decode cX10_smooth 164 = .ok (.iload_n 1, 1) := by decide +kernel
theorem dX10_smooth_165 : decode cX10_smooth 165 = .ok (.iload_n 2, 1) := by decide +kernel
theorem dX10_smooth_166 : decode cX10_smooth 166 = .ok (.isub, 1) := by decide +kernel
theorem dX10_smooth_167 : decode cX10_smooth 167 = .ok (.iload 4, 2) := by decide +kernel
theorem dX10_smooth_169 : decode cX10_smooth 169 = .ok (.iload 9, 2) := by decide +kernel
theorem dX10_smooth_171 : decode cX10_smooth 171 = .ok (.iadd, 1) := by decide +kernel
theorem dX10_smooth_172 : decode cX10_smooth 172 = .ok (.invokestatic 119, 3) := by decide +kernel
theorem dX10_smooth_175 : decode cX10_smooth 175 = .ok (.iastore, 1) := by decide +kernel
theorem dX10_smooth_176 : decode cX10_smooth 176 = .ok (.aload_n 0, 1) := by decide +kernel
theorem dX10_smooth_177 : decode cX10_smooth 177 = .ok (.getfield 16, 3) := by decide +kernel
theorem dX10_smooth_180 : decode cX10_smooth 180 = .ok (.iload_n 1, 1) := by decide +kernel
theorem dX10_smooth_181 : decode cX10_smooth 181 = .ok (.iload 5, 2) := by decide +kernel
theorem dX10_smooth_183 : decode cX10_smooth 183 = .ok (.iload 9, 2) := by decide +kernel
theorem dX10_smooth_185 : decode cX10_smooth 185 = .ok (.isub, 1) := by decide +kernel
theorem dX10_smooth_186 : decode cX10_smooth 186 = .ok (.invokestatic 119, 3) := by decide +kernel
theorem dX10_smooth_189 : decode cX10_smooth 189 = .ok (.iastore, 1) := by decide +kernel
theorem dX10_smooth_190 : decode cX10_smooth 190 = .ok (.return_, 1) := by decide +kernel
theorem dX10_smoothAll_0 : decode cX10_smoothAll 0 = .ok (.iconst 4, 1) := by decide +kernel
theorem dX10_smoothAll_1 : decode cX10_smoothAll 1 = .ok (.istore_n 1, 1) := by decide +kernel
theorem dX10_smoothAll_2 : decode cX10_smoothAll 2 = .ok (.iload_n 1, 1) := by decide +kernel
theorem dX10_smoothAll_3 : decode cX10_smoothAll 3 = .ok (.iconst 4, 1) := by decide +kernel
theorem dX10_smoothAll_4 : decode cX10_smoothAll 4 = .ok (.aload_n 0, 1) := by decide +kernel
theorem dX10_smoothAll_5 : decode cX10_smoothAll 5 = .ok (.getfield 7, 3) := by decide +kernel
theorem dX10_smoothAll_8 : decode cX10_smoothAll 8 = .ok (.imul, 1) := by decide +kernel
theorem dX10_smoothAll_9 : decode cX10_smoothAll 9 = .ok (.if_icmp .ge 38, 3) := by decide +kernel
theorem dX10_smoothAll_12 : decode cX10_smoothAll 12 = .ok (.iconst 0, 1) := by decide +kernel
theorem dX10_smoothAll_13 : decode cX10_smoothAll 13 = .ok (.istore_n 2, 1) := by decide +kernel
theorem dX10_smoothAll_14 : decode cX10_smoothAll 14 = .ok (.iload_n 2, 1) := by decide +kernel
theorem dX10_smoothAll_15 : decode cX10_smoothAll 15 = .ok (.iconst 4, 1) := by decide +kernel
theorem dX10_smoothAll_16 : decode cX10_smoothAll 16 = .ok (.aload_n 0, 1) := by decide +kernel
theorem dX10_smoothAll_17 : decode cX10_smoothAll 17 = .ok (.getfield 13, 3) := by decide +kernel
theorem dX10_smoothAll_20 : decode cX10_smoothAll 20 = .ok (.imul, 1) := by decide +kernel
theorem dX10_smoothAll_21 : decode cX10_smoothAll 21 = .ok (.if_icmp .ge 20, 3) := by decide +kernel
theorem dX10_smoothAll_24 : decode cX10_smoothAll 24 = .ok (.aload_n 0, 1) := by decide +kernel
theorem dX10_smoothAll_25 : decode cX10_smoothAll 25 = .ok (.bipush 32, 2) := by decide +kernel
theorem dX10_smoothAll_27 : decode cX10_smoothAll 27 = .ok (.iload_n 2, 1) := by decide +kernel
theorem dX10_smoothAll_28 : decode cX10_smoothAll 28 = .ok (.imul, 1) := by decide +kernel
theorem dX10_smoothAll_29 : decode cX10_smoothAll 29 = .ok (.iload_n 1, 1) := by decide +kernel
theorem dX10_smoothAll_30 : decode cX10_smoothAll 30 = .ok (.iadd, 1) := by decide +kernel
theorem dX10_smoothAll_31 : decode cX10_smoothAll 31 = .ok (.iconst 1, 1) := by decide +kernel
theorem dX10_smoothAll_32 : decode cX10_smoothAll 32 = .ok (.invokevirtual 135, 3) := by decide +kernel
theorem dX10_smoothAll_35 : decode cX10_smoothAll 35 = .ok (.iinc 2 1, 3) := by decide +kernel
theorem dX10_smoothAll_38 : decode cX10_smoothAll 38 = .ok (.goto (-24), 3) := by decide +kernel
theorem dX10_smoothAll_41 : decode cX10_smoothAll 41 = .ok (.iinc 1 4, 3) := by decide +kernel
theorem dX10_smoothAll_44 : decode cX10_smoothAll 44 = .ok (.goto (-42), 3) := by decide +kernel
theorem dX10_smoothAll_47 : decode cX10_smoothAll 47 = .ok (.iconst 4, 1) := by decide +kernel
theorem dX10_smoothAll_48 : decode cX10_smoothAll 48 = .ok (.istore_n 1, 1) := by decide +kernel
theorem dX10_smoothAll_49 : decode cX10_smoothAll 49 = .ok (.iload_n 1, 1) := by decide +kernel
theorem dX10_smoothAll_50 : decode cX10_smoothAll 50 = .ok (.iconst 4, 1) := by decide +kernel
theorem dX10_smoothAll_51 : decode cX10_smoothAll 51 = .ok (.aload_n 0, 1) := by decide +kernel
theorem dX10_smoothAll_52 : decode cX10_smoothAll 52 = .ok (.getfield 13, 3) := by decide +kernel
theorem dX10_smoothAll_55 : decode cX10_smoothAll 55 = .ok (.imul, 1) := by decide +kernel
theorem dX10_smoothAll_56 : decode cX10_smoothAll 56 = .ok (.if_icmp .ge 39, 3) := by decide +kernel
theorem dX10_smoothAll_59 : decode cX10_smoothAll 59 = .ok (.iconst 0, 1) := by decide +kernel
theorem dX10_smoothAll_60 : decode cX10_smoothAll 60 = .ok (.istore_n 2, 1) := by decide +kernel
theorem dX10_smoothAll_61 : decode cX10_smoothAll 61 = .ok (.iload_n 2, 1) := by decide +kernel
theorem dX10_smoothAll_62 : decode cX10_smoothAll 62 = .ok (.iconst 4, 1) := by decide +kernel
theorem dX10_smoothAll_63 : decode cX10_smoothAll 63 = .ok (.aload_n 0, 1) := by decide +kernel
theorem dX10_smoothAll_64 : decode cX10_smoothAll 64 = .ok (.getfield 7, 3) := by decide +kernel
theorem dX10_smoothAll_67 : decode cX10_smoothAll 67 = .ok (.imul, 1) := by decide +kernel
theorem dX10_smoothAll_68 : decode cX10_smoothAll 68 = .ok (.if_icmp .ge 21, 3) := by decide +kernel
theorem dX10_smoothAll_71 : decode cX10_smoothAll 71 = .ok (.aload_n 0, 1) := by decide +kernel
theorem dX10_smoothAll_72 : decode cX10_smoothAll 72 = .ok (.bipush 32, 2) := by decide +kernel
theorem dX10_smoothAll_74 : decode cX10_smoothAll 74 = .ok (.iload_n 1, 1) := by decide +kernel
theorem dX10_smoothAll_75 : decode cX10_smoothAll 75 = .ok (.imul, 1) := by decide +kernel
theorem dX10_smoothAll_76 : decode cX10_smoothAll 76 = .ok (.iload_n 2, 1) := by decide +kernel
theorem dX10_smoothAll_77 : decode cX10_smoothAll 77 = .ok (.iadd, 1) := by decide +kernel
theorem dX10_smoothAll_78 : decode cX10_smoothAll 78 = .ok (.bipush 32, 2) := by decide +kernel
theorem dX10_smoothAll_80 : decode cX10_smoothAll 80 = .ok (.invokevirtual 135, 3) := by decide +kernel
theorem dX10_smoothAll_83 : decode cX10_smoothAll 83 = .ok (.iinc 2 1, 3) := by decide +kernel
theorem dX10_smoothAll_86 : decode cX10_smoothAll 86 = .ok (.goto (-25), 3) := by decide +kernel
theorem dX10_smoothAll_89 : decode cX10_smoothAll 89 = .ok (.iinc 1 4, 3) := by decide +kernel
theorem dX10_smoothAll_92 : decode cX10_smoothAll 92 = .ok (.goto (-43), 3) := by decide +kernel
theorem dX10_smoothAll_95 : decode cX10_smoothAll 95 = .ok (.return_, 1) := by decide +kernel
theorem dX10_write_0 : decode cX10_write 0 = .ok (.iload_n 2, 1) := by decide +kernel
theorem dX10_write_1 : decode cX10_write 1 = .ok (.iconst 1, 1) := by decide +kernel
theorem dX10_write_2 : decode cX10_write 2 = .ok (.isub, 1) := by decide +kernel
theorem dX10_write_3 : decode cX10_write 3 = .ok (.istore_n 3, 1) := by decide +kernel
theorem dX10_write_4 : decode cX10_write 4 = .ok (.iload_n 3, 1) := by decide +kernel
theorem dX10_write_5 : decode cX10_write 5 = .ok (.ifCond .lt 73, 3) := by decide +kernel
theorem dX10_write_8 : decode cX10_write 8 = .ok (.aload_n 0, 1) := by decide +kernel
theorem dX10_write_9 : decode cX10_write 9 = .ok (.getfield 138, 3) := by decide +kernel
theorem dX10_write_12 : decode cX10_write 12 = .ok (.bipush 8, 2) := by decide +kernel
theorem dX10_write_14 : decode cX10_write 14 = .ok (.irem, 1) := by decide +kernel
theorem dX10_write_15 : decode cX10_write 15 = .ok (.ifCond .ne 16, 3) := by decide +kernel
theorem dX10_write_18 : decode cX10_write 18 = .ok (.aload_n 0, 1) := by decide +kernel
theorem dX10_write_19 : decode cX10_write 19 = .ok (.getfield 38, 3) := by decide +kernel
theorem dX10_write_22 : decode cX10_write 22 = .ok (.aload_n 0, 1) := by decide +kernel
theorem dX10_write_23 : decode cX10_write 23 = .ok (.getfield 138, 3) := by decide +kernel
theorem dX10_write_26 : decode cX10_write 26 = .ok (.bipush 8, 2) := by decide +kernel
theorem dX10_write_28 : decode cX10_write 28 = .ok (.idiv, 1) := by decide +kernel
theorem dX10_write_29 : decode cX10_write 29 = .ok (.iconst 0, 1) := by decide +kernel
theorem dX10_write_30 : decode cX10_write 30 = .ok (.iastore, 1) := by decide +kernel
theorem dX10_write_31 : decode cX10_write 31 = .ok (.aload_n 0, 1) := by decide +kernel
theorem dX10_write_32 : decode cX10_write 32 = .ok (.getfield 38, 3) := by decide +kernel
theorem dX10_write_35 : decode cX10_write 35 = .ok (.aload_n 0, 1) := by decide +kernel
theorem dX10_write_36 : decode cX10_write 36 = .ok (.getfield 138, 3) := by decide +kernel
theorem dX10_write_39 : decode cX10_write 39 = .ok (.bipush 8, 2) := by decide +kernel
theorem dX10_write_41 : decode cX10_write 41 = .ok (.idiv, 1) := by decide +kernel
theorem dX10_write_42 : decode cX10_write 42 = .ok (.dup2, 1) := by decide +kernel
theorem dX10_write_43 : decode cX10_write 43 = .ok (.iaload, 1) := by decide +kernel
theorem dX10_write_44 : decode cX10_write 44 = .ok (.iload_n 1, 1) := by decide +kernel
theorem dX10_write_45 : decode cX10_write 45 = .ok (.iload_n 3, 1) := by decide +kernel
theorem dX10_write_46 : decode cX10_write 46 = .ok (.ishr, 1) := by decide +kernel
theorem dX10_write_47 : decode cX10_write 47 = .ok (.iconst 1, 1) := by decide +kernel
theorem dX10_write_48 : decode cX10_write 48 = .ok (.iand, 1) := by decide +kernel
theorem dX10_write_49 : decode cX10_write 49 = .ok (.bipush 7, 2) := by decide +kernel
theorem dX10_write_51 : decode cX10_write 51 = .ok (.aload_n 0, 1) := by decide +kernel
theorem dX10_write_52 : decode cX10_write 52 = .ok (.getfield 138, 3) := by decide +kernel
theorem dX10_write_55 : decode cX10_write 55 = .ok (.bipush 8, 2) := by decide +kernel
theorem dX10_write_57 : decode cX10_write 57 = .ok (.irem, 1) := by decide +kernel
theorem dX10_write_58 : decode cX10_write 58 = .ok (.isub, 1) := by decide +kernel
theorem dX10_write_59 : decode cX10_write 59 = .ok (.ishl, 1) := by decide +kernel
theorem dX10_write_60 : decode cX10_write 60 = .ok (.iadd, 1) := by decide +kernel
theorem dX10_write_61 : decode cX10_write 61 = .ok (.iastore, 1) := by decide +kernel
theorem dX10_write_62 : decode cX10_write 62 = .ok (.aload_n 0, 1) := by decide +kernel
theorem dX10_write_63 : decode cX10_write 63 = .ok (.dup, 1) := by decide +kernel
theorem dX10_write_64 : decode cX10_write 64 = .ok (.getfield 138, 3) := by decide +kernel
theorem dX10_write_67 : decode cX10_write 67 = .ok (.iconst 1, 1) := by decide +kernel
theorem dX10_write_68 : decode cX10_write 68 = .ok (.iadd, 1) := by decide +kernel
theorem dX10_write_69 : decode cX10_write 69 = .ok (.putfield 138, 3) := by decide +kernel
theorem dX10_write_72 : decode cX10_write 72 = .ok (.iinc 3 (-1), 3) := by decide +kernel
theorem dX10_write_75 : decode cX10_write 75 = .ok (.goto (-71), 3) := by decide +kernel
theorem dX10_write_78 : decode cX10_write 78 = .ok (.return_, 1) := by decide +kernel
theorem dX10_writeU_0 : decode cX10_writeU 0 = .ok (.iconst 0, 1) := by decide +kernel
theorem dX10_writeU_1 : decode cX10_writeU 1 = .ok (.istore_n 2, 1) := by decide +kernel
theorem dX10_writeU_2 : decode cX10_writeU 2 = .ok (.iconst 2, 1) := by decide +kernel
theorem dX10_writeU_3 : decode cX10_writeU 3 = .ok (.iload_n 2, 1) := by decide +kernel
theorem dX10_writeU_4 : decode cX10_writeU 4 = .ok (.ishl, 1) := by decide +kernel
theorem dX10_writeU_5 : decode cX10_writeU 5 = .ok (.iconst 1, 1) := by decide +kernel
theorem dX10_writeU_6 : decode cX10_writeU 6 = .ok (.isub, 1) := by decide +kernel
theorem dX10_writeU_7 : decode cX10_writeU 7 = .ok (.iload_n 1, 1) := by decide +kernel
theorem dX10_writeU_8 : decode cX10_writeU 8 = .ok (.if_icmp .gt 9, 3) := by decide +kernel
theorem dX10_writeU_11 : decode cX10_writeU 11 = .ok (.iinc 2 1, 3) := by decide +kernel
theorem dX10_writeU_14 : decode cX10_writeU 14 = .ok (.goto (-12), 3) := by decide +kernel
theorem dX10_writeU_17 : decode cX10_writeU 17 = .ok (.aload_n 0, 1) := by decide +kernel
theorem dX10_writeU_18 : decode cX10_writeU 18 = .ok (.iconst 0, 1) := by decide +kernel
theorem dX10_writeU_19 : decode cX10_writeU 19 = .ok (.iload_n 2, 1) := by decide +kernel
theorem dX10_writeU_20 : decode cX10_writeU 20 = .ok (.invokevirtual 141, 3) := by decide +kernel
theorem dX10_writeU_23 : decode cX10_writeU 23 = .ok (.aload_n 0, 1) := by decide +kernel
theorem dX10_writeU_24 : decode cX10_writeU 24 = .ok (.iconst 1, 1) := by decide +kernel
theorem dX10_writeU_25 : decode cX10_writeU 25 = .ok (.iconst 1, 1) := by decide +kernel
theorem dX10_writeU_26 : decode cX10_writeU 26 = .ok (.invokevirtual 141, 3) := by decide +kernel
theorem dX10_writeU_29 : decode cX10_writeU 29 = .ok (.aload_n 0, 1) := by decide +kernel
theorem dX10_writeU_30 : decode cX10_writeU 30 = .ok (.iload_n 1, 1) := by decide +kernel
theorem dX10_writeU_31 : decode cX10_writeU 31 = .ok (.iconst 1, 1) := by decide +kernel
theorem dX10_writeU_32 : decode cX10_writeU 32 = .ok (.iload_n 2, 1) := by decide +kernel
theorem dX10_writeU_33 : decode cX10_writeU 33 = .ok (.ishl, 1) := by decide +kernel
theorem dX10_writeU_34 : decode cX10_writeU 34 = .ok (.isub, 1) := by decide +kernel
theorem dX10_writeU_35 : decode cX10_writeU 35 = .ok (.iconst 1, 1) := by decide +kernel
theorem dX10_writeU_36 : decode cX10_writeU 36 = .ok (.iadd, 1) := by decide +kernel
theorem dX10_writeU_37 : decode cX10_writeU 37 = .ok (.iload_n 2, 1) := by decide +kernel
theorem dX10_writeU_38 : decode cX10_writeU 38 = .ok (.invokevirtual 141, 3) := by decide +kernel
theorem dX10_writeU_41 : decode cX10_writeU 41 = .ok (.return_, 1) := by decide +kernel
theorem dX10_writeS_0 : decode cX10_writeS 0 = .ok (.aload_n 0, 1) := by decide +kernel
theorem dX10_writeS_1 : decode cX10_writeS 1 = .ok (.iload_n 1, 1) := by decide +kernel
theorem dX10_writeS_2 : decode cX10_writeS 2 = .ok (.ifCond .le 11, 3) := by decide +kernel
theorem dX10_writeS_5 : decode cX10_writeS 5 = .ok (.iconst 2, 1) := by decide +kernel
theorem dX10_writeS_6 : decode cX10_writeS 6 = .ok (.iload_n 1, 1) := by decide +kernel
theorem dX10_writeS_7 : decode cX10_writeS 7 = .ok (.imul, 1) := by decide +kernel
theorem dX10_writeS_8 : decode cX10_writeS 8 = .ok (.iconst 1, 1) := by decide +kernel
theorem dX10_writeS_9 : decode cX10_writeS 9 = .ok (.isub, 1) := by decide +kernel
theorem dX10_writeS_10 : decode cX10_writeS 10 = .ok (.goto 7, 3) := by decide +kernel
theorem dX10_writeS_13 : decode cX10_writeS 13 = .ok (.bipush (-2), 2) := by decide +kernel
theorem dX10_writeS_15 : decode cX10_writeS 15 = .ok (.iload_n 1, 1) := by decide +kernel
theorem dX10_writeS_16 : decode cX10_writeS 16 = .ok (.imul, 1) := by decide +kernel
theorem dX10_writeS_17 : decode cX10_writeS 17 = .ok (.invokevirtual 144, 3) := by decide +kernel
theorem dX10_writeS_20 : decode cX10_writeS 20 = .ok (.return_, 1) := by decide +kernel
theorem dX10_likely_0 : decode cX10_likely 0 = .ok (.aload_n 0, 1) := by decide +kernel
theorem dX10_likely_1 : decode cX10_likely 1 = .ok (.iload_n 2, 1) := by decide +kernel
theorem dX10_likely_2 : decode cX10_likely 2 = .ok (.invokevirtual 72, 3) := by decide +kernel
theorem dX10_likely_5 : decode cX10_likely 5 = .ok (.ifCond .eq 11, 3) := by decide +kernel
theorem dX10_likely_8 : decode cX10_likely 8 = .ok (.aload_n 0, 1) := by decide +kernel
theorem dX10_likely_9 : decode cX10_likely 9 = .ok (.iload_n 2, 1) := by decide +kernel
theorem dX10_likely_10 : decode cX10_likely 10 = .ok (.invokevirtual 76, 3) := by decide +kernel
theorem dX10_likely_13 : decode cX10_likely 13 = .ok (.ifCond .ne 5, 3) := by decide +kernel
theorem dX10_likely_16 : decode cX10_likely 16 = .ok (.iconst 2, 1) := by decide +kernel
theorem dX10_likely_17 : decode cX10_likely 17 = .ok (.ireturn, 1) := by decide +kernel
theorem dX10_likely_18 : decode cX10_likely 18 = .ok (.aload_n 1, 1) := by decide +kernel
theorem dX10_likely_19 : decode cX10_likely 19 = .ok (.iload_n 2, 1) := by decide +kernel
theorem dX10_likely_20 : decode cX10_likely 20 = .ok (.aload_n 0, 1) := by decide +kernel
theorem dX10_likely_21 : decode cX10_likely 21 = .ok (.getfield 7, 3) := by decide +kernel
theorem dX10_likely_24 : decode cX10_likely 24 = .ok (.isub, 1) := by decide +kernel
theorem dX10_likely_25 : decode cX10_likely 25 = .ok (.iaload, 1) := by decide +kernel
theorem dX10_likely_26 : decode cX10_likely 26 = .ok (.istore_n 3, 1) := by decide +kernel
theorem dX10_likely_27 : decode cX10_likely 27 = .ok (.aload_n 1, 1) := by decide +kernel
theorem dX10_likely_28 : decode cX10_likely 28 = .ok (.iload_n 2, 1) := by decide +kernel
theorem dX10_likely_29 : decode cX10_likely 29 = .ok (.iconst 1, 1) := by decide +kernel
theorem dX10_likely_30 : decode cX10_likely 30 = .ok (.isub, 1) := by decide +kernel
theorem dX10_likely_31 : decode cX10_likely 31 = .ok (.iaload, 1) := by decide +kernel
theorem dX10_likely_32 : decode cX10_likely 32 = .ok (.istore 4, 2) := by decide +kernel
theorem dX10_likely_34 : decode cX10_likely 34 = .ok (.iload_n 3, 1) := by decide +kernel
theorem dX10_likely_35 : decode cX10_likely 35 = .ok (.iload 4, 2) := by decide +kernel
theorem dX10_likely_37 : decode cX10_likely 37 = .ok (.if_icmp .ge 7, 3) := by decide +kernel
theorem dX10_likely_40 : decode cX10_likely 40 = .ok (.iload_n 3, 1) := by decide +kernel
theorem dX10_likely_41 : decode cX10_likely 41 = .ok (.goto 5, 3) := by decide +kernel
theorem dX10_likely_44 : decode cX10_likely 44 = .ok (.iload 4, 2) := by decide +kernel
theorem dX10_likely_46 : decode cX10_likely 46 = .ok (.ireturn, 1) := by decide +kernel
theorem dX10_writeBlock_0 : decode cX10_writeBlock 0 = .ok (.aload_n 0, 1) := by decide +kernel
theorem dX10_writeBlock_1 : decode cX10_writeBlock 1 = .ok (.getfield 26, 3) := by decide +kernel
theorem dX10_writeBlock_4 : decode cX10_writeBlock 4 = .ok (.iload_n 1, 1) := by decide +kernel
theorem dX10_writeBlock_5 : decode cX10_writeBlock 5 = .ok (.iaload, 1) := by decide +kernel
theorem dX10_writeBlock_6 : decode cX10_writeBlock 6 = .ok (.istore_n 2, 1) := by decide +kernel
theorem dX10_writeBlock_7 : decode cX10_writeBlock 7 = .ok (.aload_n 0, 1) := by decide +kernel
theorem dX10_writeBlock_8 : decode cX10_writeBlock 8 = .ok (.aload_n 0, 1) := by decide +kernel
theorem dX10_writeBlock_9 : decode cX10_writeBlock 9 = .ok (.getfield 26, 3) := by decide +kernel
theorem dX10_writeBlock_12 : decode cX10_writeBlock 12 = .ok (.iload_n 1, 1) := by decide +kernel
theorem dX10_writeBlock_13 : decode cX10_writeBlock 13 = .ok (.invokevirtual 148, 3) := by decide +kernel
theorem dX10_writeBlock_16 : decode cX10_writeBlock 16 = .ok (.istore_n 3, 1) := by decide +kernel
theorem dX10_writeBlock_17 : decode cX10_writeBlock 17 = .ok (.iload_n 2, 1) := by decide +kernel
theorem dX10_writeBlock_18 : decode cX10_writeBlock 18 = .ok (.iload_n 3, 1) := by decide +kernel
theorem dX10_writeBlock_19 : decode cX10_writeBlock 19 = .ok (.if_icmp .ne 12, 3) := by decide +kernel
theorem dX10_writeBlock_22 : decode cX10_writeBlock 22 = .ok (.aload_n 0, 1) := by decide +kernel
theorem dX10_writeBlock_23 : decode cX10_writeBlock 23 = .ok (.iconst 1, 1) := by decide +kernel
theorem dX10_writeBlock_24 : decode cX10_writeBlock 24 = .ok (.iconst 1, 1) := by decide +kernel
theorem dX10_writeBlock_25 : decode cX10_writeBlock 25 = .ok (.invokevirtual 141, 3) := by decide +kernel
theorem dX10_writeBlock_28 : decode cX10_writeBlock 28 = .ok (.goto 26, 3) := by decide +kernel
theorem dX10_writeBlock_31 : decode cX10_writeBlock 31 = .ok (.aload_n 0, 1) := by decide +kernel
theorem dX10_writeBlock_32 : decode cX10_writeBlock 32 = .ok (.iconst 0, 1) := by decide +kernel
theorem dX10_writeBlock_33 : decode cX10_writeBlock 33 = .ok (.iconst 1, 1) := by decide +kernel
theorem dX10_writeBlock_34 : decode cX10_writeBlock 34 = .ok (.invokevirtual 141, 3) := by decide +kernel
theorem dX10_writeBlock_37 : decode cX10_writeBlock 37 = .ok (.aload_n 0, 1) := by decide +kernel
theorem dX10_writeBlock_38 : decode cX10_writeBlock 38 = .ok (.iload_n 2, 1) := by decide +kernel
theorem dX10_writeBlock_39 : decode cX10_writeBlock 39 = .ok (.iload_n 3, 1) := by decide +kernel
theorem dX10_writeBlock_40 : decode cX10_writeBlock 40 = .ok (.if_icmp .le 9, 3) := by decide +kernel
theorem dX10_writeBlock_43 : decode cX10_writeBlock 43 = .ok (.iload_n 2, 1) := by decide +kernel
theorem dX10_writeBlock_44 : decode cX10_writeBlock 44 = .ok (.iconst 1, 1) := by decide +kernel
theorem dX10_writeBlock_45 : decode cX10_writeBlock 45 = .ok (.isub, 1) := by decide +kernel
theorem dX10_writeBlock_46 : decode cX10_writeBlock 46 = .ok (.goto 4, 3) := by decide +kernel
theorem dX10_writeBlock_49 : decode cX10_writeBlock 49 = .ok (.iload_n 2, 1) := by decide +kernel
theorem dX10_writeBlock_50 : decode cX10_writeBlock 50 = .ok (.iconst 3, 1) := by decide +kernel
theorem dX10_writeBlock_51 : decode cX10_writeBlock 51 = .ok (.invokevirtual 141, 3) := by decide +kernel
theorem dX10_writeBlock_54 : decode cX10_writeBlock 54 = .ok (.iconst 0, 1) := by decide +kernel
theorem dX10_writeBlock_55 : decode cX10_writeBlock 55 = .ok (.istore 4, 2) := by decide +kernel
theorem dX10_writeBlock_57 : decode cX10_writeBlock 57 = .ok (.iconst 0, 1) := by decide +kernel
theorem dX10_writeBlock_58 : decode cX10_writeBlock 58 = .ok (.istore 5, 2) := by decide +kernel
theorem dX10_writeBlock_60 : decode cX10_writeBlock 60 = .ok (.iload 5, 2) := by decide +kernel
theorem dX10_writeBlock_62 : decode cX10_writeBlock 62 = .ok (.bipush 16, 2) := by decide +kernel
theorem dX10_writeBlock_64 : decode cX10_writeBlock 64 = .ok (.if_icmp .ge 34, 3) := by decide +kernel
theorem dX10_writeBlock_67 : decode cX10_writeBlock 67 = .ok (.iload 4, 2) := by decide +kernel
theorem dX10_writeBlock_69 : decode cX10_writeBlock 69 = .ok (.aload_n 0, 1) := by decide +kernel
theorem dX10_writeBlock_70 : decode cX10_writeBlock 70 = .ok (.getfield 29, 3) := by decide +kernel
theorem dX10_writeBlock_73 : decode cX10_writeBlock 73 = .ok (.bipush 16, 2) := by decide +kernel
theorem dX10_writeBlock_75 : decode cX10_writeBlock 75 = .ok (.iload_n 1, 1) := by decide +kernel
theorem dX10_writeBlock_76 : decode cX10_writeBlock 76 = .ok (.imul, 1) := by decide +kernel
theorem dX10_writeBlock_77 : decode cX10_writeBlock 77 = .ok (.iload 5, 2) := by decide +kernel
theorem dX10_writeBlock_79 : decode cX10_writeBlock 79 = .ok (.iadd, 1) := by decide +kernel
theorem dX10_writeBlock_80 : decode cX10_writeBlock 80 = .ok (.iaload, 1) := by decide +kernel
theorem dX10_writeBlock_81 : decode cX10_writeBlock 81 = .ok (.ifCond .eq 7, 3) := by decide +kernel
theorem dX10_writeBlock_84 : decode cX10_writeBlock 84 = .ok (.iconst 1, 1) := by decide +kernel
theorem dX10_writeBlock_85 : decode cX10_writeBlock 85 = .ok (.goto 4, 3) := by decide +kernel
theorem dX10_writeBlock_88 : decode cX10_writeBlock 88 = .ok (.iconst 0, 1) := by decide +kernel
theorem dX10_writeBlock_89 : decode cX10_writeBlock 89 = .ok (.iadd, 1) := by decide +kernel
theorem dX10_writeBlock_90 : decode cX10_writeBlock 90 = .ok (.istore 4, 2) := by decide +kernel
theorem dX10_writeBlock_92 : decode cX10_writeBlock 92 = .ok (.iinc 5 1, 3) := by decide +kernel
theorem dX10_writeBlock_95 : decode cX10_writeBlock 95 = .ok (.goto (-35), 3) := by decide +kernel
theorem dX10_writeBlock_98 : decode cX10_writeBlock 98 = .ok (.aload_n 0, 1) := by decide +kernel
theorem dX10_writeBlock_99 : decode cX10_writeBlock 99 = .ok (.iload 4, 2) := by decide +kernel
theorem dX10_writeBlock_101 : decode cX10_writeBlock 101 = .ok (.invokevirtual 144, 3) := by decide +kernel
theorem dX10_writeBlock_104 : decode cX10_writeBlock 104 = .ok (.iconst 0, 1) := by decide +kernel
theorem dX10_writeBlock_105 : decode cX10_writeBlock 105 = .ok (.istore 5, 2) := by decide +kernel
theorem dX10_writeBlock_107 : decode cX10_writeBlock 107 = .ok (.iconst 0, 1) := by decide +kernel
theorem dX10_writeBlock_108 : decode cX10_writeBlock 108 = .ok (.istore 6, 2) := by decide +kernel
theorem dX10_writeBlock_110 : decode cX10_writeBlock 110 = .ok (.iload 6, 2) := by decide +kernel
theorem dX10_writeBlock_112 : decode cX10_writeBlock 112 = .ok (.bipush 16, 2) := by decide +kernel
theorem dX10_writeBlock_114 : decode cX10_writeBlock 114 = .ok (.if_icmp .ge 49, 3) := by decide +kernel
theorem dX10_writeBlock_117 : decode cX10_writeBlock 117 = .ok (.aload_n 0, 1) := by decide +kernel
theorem dX10_writeBlock_118 : decode cX10_writeBlock 118 = .ok (.getfield 29, 3) := by decide +kernel
theorem dX10_writeBlock_121 : decode cX10_writeBlock 121 = .ok (.bipush 16, 2) := by decide +kernel
theorem dX10_writeBlock_123 : decode cX10_writeBlock 123 = .ok (.iload_n 1, 1) := by decide +kernel
theorem dX10_writeBlock_124 : decode cX10_writeBlock 124 = .ok (.imul, 1) := by decide +kernel
theorem dX10_writeBlock_125 : decode cX10_writeBlock 125 = .ok (.iload 6, 2) := by decide +kernel
theorem dX10_writeBlock_127 : decode cX10_writeBlock 127 = .ok (.iadd, 1) := by decide +kernel
theorem dX10_writeBlock_128 : decode cX10_writeBlock 128 = .ok (.iaload, 1) := by decide +kernel
theorem dX10_writeBlock_129 : decode cX10_writeBlock 129 = .ok (.istore 7, 2) := by decide +kernel
theorem dX10_writeBlock_131 : decode cX10_writeBlock 131 = .ok (.iload 7, 2) := by decide +kernel
theorem dX10_writeBlock_133 : decode cX10_writeBlock 133 = .ok (.ifCond .ne 9, 3) := by decide +kernel
theorem dX10_writeBlock_136 : decode cX10_writeBlock 136 = .ok (.iinc 5 1, 3) := by decide +kernel
theorem dX10_writeBlock_139 : decode cX10_writeBlock 139 = .ok (.goto 18, 3) := by decide +kernel
theorem dX10_writeBlock_142 : decode cX10_writeBlock 142 = .ok (.aload_n 0, 1) := by decide +kernel
theorem dX10_writeBlock_143 : decode cX10_writeBlock 143 = .ok (.iload 5, 2) := by decide +kernel
theorem dX10_writeBlock_145 : decode cX10_writeBlock 145 = .ok (.invokevirtual 144, 3) := by decide +kernel
theorem dX10_writeBlock_148 : decode cX10_writeBlock 148 = .ok (.aload_n 0, 1) := by decide +kernel
theorem dX10_writeBlock_149 : decode cX10_writeBlock 149 = .ok (.iload 7, 2) := by decide +kernel
theorem dX10_writeBlock_151 : decode cX10_writeBlock 151 = .ok (.invokevirtual 152, 3) := by decide +kernel
theorem dX10_writeBlock_154 : decode cX10_writeBlock 154 = .ok (.iconst 0, 1) := by decide +kernel
theorem dX10_writeBlock_155 : decode cX10_writeBlock 155 = .ok (.istore 5, 2) := by decide +kernel
theorem dX10_writeBlock_157 : decode cX10_writeBlock 157 = .ok (.iinc 6 1, 3) := by decide +kernel
theorem dX10_writeBlock_160 : decode cX10_writeBlock 160 = .ok (.goto (-50), 3) := by decide +kernel
theorem dX10_writeBlock_163 : decode cX10_writeBlock 163 = .ok (.return_, 1) := by decide +kernel
theorem dX10_pack_0 : decode cX10_pack 0 = .ok (.aload_n 0, 1) := by decide +kernel
theorem dX10_pack_1 : decode cX10_pack 1 = .ok (.iload_n 1, 1) := by decide +kernel
theorem dX10_pack_2 : decode cX10_pack 2 = .ok (.iconst 0, 1) := by decide +kernel
theorem dX10_pack_3 : decode cX10_pack 3 = .ok (.bipush 51, 2) := by decide +kernel
theorem dX10_pack_5 : decode cX10_pack 5 = .ok (.invokestatic 50, 3) := by decide +kernel
theorem dX10_pack_8 : decode cX10_pack 8 = .ok (.ifCond .ne 7, 3) := by decide +kernel
theorem dX10_pack_11 : decode cX10_pack 11 = .ok (.iconst 1, 1) := by decide +kernel
theorem dX10_pack_12 : decode cX10_pack 12 = .ok (.goto 4, 3) := by decide +kernel
theorem dX10_pack_15 : decode cX10_pack 15 = .ok (.iconst 0, 1) := by decide +kernel
theorem dX10_pack_16 : decode cX10_pack 16 = .ok (.iconst 1, 1) := by decide +kernel
theorem dX10_pack_17 : decode cX10_pack 17 = .ok (.invokevirtual 54, 3) := by decide +kernel
theorem dX10_pack_20 : decode cX10_pack 20 = .ok (.ifCond .eq 5, 3) := by decide +kernel
theorem dX10_pack_23 : decode cX10_pack 23 = .ok (.iconst 0, 1) := by decide +kernel
theorem dX10_pack_24 : decode cX10_pack 24 = .ok (.ireturn, 1) := by decide +kernel
theorem dX10_pack_25 : decode cX10_pack 25 = .ok (.aload_n 0, 1) := by decide +kernel
theorem dX10_pack_26 : decode cX10_pack 26 = .ok (.iload_n 1, 1) := by decide +kernel
theorem dX10_pack_27 : decode cX10_pack 27 = .ok (.putfield 58, 3) := by decide +kernel
theorem dX10_pack_30 : decode cX10_pack 30 = .ok (.aload_n 0, 1) := by decide +kernel
theorem dX10_pack_31 : decode cX10_pack 31 = .ok (.iload_n 2, 1) := by decide +kernel
theorem dX10_pack_32 : decode cX10_pack 32 = .ok (.putfield 61, 3) := by decide +kernel
theorem dX10_pack_35 : decode cX10_pack 35 = .ok (.iconst 0, 1) := by decide +kernel
theorem dX10_pack_36 : decode cX10_pack 36 = .ok (.istore_n 3, 1) := by decide +kernel
theorem dX10_pack_37 : decode cX10_pack 37 = .ok (.iload_n 3, 1) := by decide +kernel
theorem dX10_pack_38 : decode cX10_pack 38 = .ok (.sipush 1024, 3) := by decide +kernel
theorem dX10_pack_41 : decode cX10_pack 41 = .ok (.if_icmp .ge 21, 3) := by decide +kernel
theorem dX10_pack_44 : decode cX10_pack 44 = .ok (.aload_n 0, 1) := by decide +kernel
theorem dX10_pack_45 : decode cX10_pack 45 = .ok (.getfield 20, 3) := by decide +kernel
theorem dX10_pack_48 : decode cX10_pack 48 = .ok (.iload_n 3, 1) := by decide +kernel
theorem dX10_pack_49 : decode cX10_pack 49 = .ok (.aload_n 0, 1) := by decide +kernel
theorem dX10_pack_50 : decode cX10_pack 50 = .ok (.getfield 16, 3) := by decide +kernel
theorem dX10_pack_53 : decode cX10_pack 53 = .ok (.iload_n 3, 1) := by decide +kernel
theorem dX10_pack_54 : decode cX10_pack 54 = .ok (.iaload, 1) := by decide +kernel
theorem dX10_pack_55 : decode cX10_pack 55 = .ok (.iastore, 1) := by decide +kernel
theorem dX10_pack_56 : decode cX10_pack 56 = .ok (.iinc 3 1, 3) := by decide +kernel
theorem dX10_pack_59 : decode cX10_pack 59 = .ok (.goto (-22), 3) := by decide +kernel
theorem dX10_pack_62 : decode cX10_pack 62 = .ok (.aload_n 0, 1) := by decide +kernel
theorem dX10_pack_63 : decode cX10_pack 63 = .ok (.iconst 0, 1) := by decide +kernel
theorem dX10_pack_64 : decode cX10_pack 64 = .ok (.putfield 138, 3) := by decide +kernel
theorem dX10_pack_67 : decode cX10_pack 67 = .ok (.aload_n 0, 1) := by decide +kernel
theorem dX10_pack_68 : decode cX10_pack 68 = .ok (.aload_n 0, 1) := by decide +kernel
theorem dX10_pack_69 : decode cX10_pack 69 = .ok (.getfield 7, 3) := by decide +kernel
theorem dX10_pack_72 : decode cX10_pack 72 = .ok (.iconst 1, 1) := by decide +kernel
theorem dX10_pack_73 : decode cX10_pack 73 = .ok (.isub, 1) := by decide +kernel
theorem dX10_pack_74 : decode cX10_pack 74 = .ok (.invokevirtual 144, 3) := by decide +kernel
theorem dX10_pack_77 : decode cX10_pack 77 = .ok (.aload_n 0, 1) := by decide +kernel
theorem dX10_pack_78 : decode cX10_pack 78 = .ok (.aload_n 0, 1) := by decide +kernel
theorem dX10_pack_79 : decode cX10_pack 79 = .ok (.getfield 13, 3) := by decide +kernel
theorem dX10_pack_82 : decode cX10_pack 82 = .ok (.iconst 1, 1) := by decide +kernel
theorem dX10_pack_83 : decode cX10_pack 83 = .ok (.isub, 1) := by decide +kernel
theorem dX10_pack_84 : decode cX10_pack 84 = .ok (.invokevirtual 144, 3) := by decide +kernel
theorem dX10_pack_87 : decode cX10_pack 87 = .ok (.aload_n 0, 1) := by decide +kernel
theorem dX10_pack_88 : decode cX10_pack 88 = .ok (.aload_n 0, 1) := by decide +kernel
theorem dX10_pack_89 : decode cX10_pack 89 = .ok (.getfield 58, 3) := by decide +kernel
theorem dX10_pack_92 : decode cX10_pack 92 = .ok (.invokevirtual 144, 3) := by decide +kernel
theorem dX10_pack_95 : decode cX10_pack 95 = .ok (.aload_n 0, 1) := by decide +kernel
theorem dX10_pack_96 : decode cX10_pack 96 = .ok (.aload_n 0, 1) := by decide +kernel
theorem dX10_pack_97 : decode cX10_pack 97 = .ok (.getfield 61, 3) := by decide +kernel
theorem dX10_pack_100 : decode cX10_pack 100 = .ok (.ifCond .eq 7, 3) := by decide +kernel
theorem dX10_pack_103 : decode cX10_pack 103 = .ok (.iconst 1, 1) := by decide +kernel
