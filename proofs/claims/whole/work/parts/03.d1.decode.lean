theorem dX3_blocks_5 : decode cX3_blocks 5 = .ok (.getfield 19, 3) := by decide +kernel
theorem dX3_blocks_8 : decode cX3_blocks 8 = .ok (.imul, 1) := by decide +kernel
theorem dX3_blocks_9 : decode cX3_blocks 9 = .ok (.ireturn, 1) := by decide +kernel
theorem dX3_leftOf_0 : decode cX3_leftOf 0 = .ok (.iconst 4, 1) := by decide +kernel
theorem dX3_leftOf_1 : decode cX3_leftOf 1 = .ok (.iload_n 1, 1) := by decide +kernel
theorem dX3_leftOf_2 : decode cX3_leftOf 2 = .ok (.aload_n 0, 1) := by decide +kernel
theorem dX3_leftOf_3 : decode cX3_leftOf 3 = .ok (.getfield 15, 3) := by decide +kernel
theorem dX3_leftOf_6 : decode cX3_leftOf 6 = .ok (.irem, 1) := by decide +kernel
theorem dX3_leftOf_7 : decode cX3_leftOf 7 = .ok (.imul, 1) := by decide +kernel
theorem dX3_leftOf_8 : decode cX3_leftOf 8 = .ok (.ireturn, 1) := by decide +kernel
theorem dX3_topOf_0 : decode cX3_topOf 0 = .ok (.iconst 4, 1) := by decide +kernel
theorem dX3_topOf_1 : decode cX3_topOf 1 = .ok (.iload_n 1, 1) := by decide +kernel
theorem dX3_topOf_2 : decode cX3_topOf 2 = .ok (.aload_n 0, 1) := by decide +kernel
theorem dX3_topOf_3 : decode cX3_topOf 3 = .ok (.getfield 15, 3) := by decide +kernel
theorem dX3_topOf_6 : decode cX3_topOf 6 = .ok (.idiv, 1) := by decide +kernel
theorem dX3_topOf_7 : decode cX3_topOf 7 = .ok (.imul, 1) := by decide +kernel
theorem dX3_topOf_8 : decode cX3_topOf 8 = .ok (.ireturn, 1) := by decide +kernel
theorem dX3_get_0 : decode cX3_get 0 = .ok (.aload_n 0, 1) := by decide +kernel
theorem dX3_get_1 : decode cX3_get 1 = .ok (.getfield 11, 3) := by decide +kernel
theorem dX3_get_4 : decode cX3_get 4 = .ok (.bipush 32, 2) := by decide +kernel
theorem dX3_get_6 : decode cX3_get 6 = .ok (.iload_n 2, 1) := by decide +kernel
theorem dX3_get_7 : decode cX3_get 7 = .ok (.imul, 1) := by decide +kernel
theorem dX3_get_8 : decode cX3_get 8 = .ok (.iload_n 1, 1) := by decide +kernel
theorem dX3_get_9 : decode cX3_get 9 = .ok (.iadd, 1) := by decide +kernel
theorem dX3_get_10 : decode cX3_get 10 = .ok (.iaload, 1) := by decide +kernel
theorem dX3_get_11 : decode cX3_get 11 = .ok (.ireturn, 1) := by decide +kernel
theorem dX3_set_0 : decode cX3_set 0 = .ok (.aload_n 0, 1) := by decide +kernel
theorem dX3_set_1 : decode cX3_set 1 = .ok (.getfield 11, 3) := by decide +kernel
theorem dX3_set_4 : decode cX3_set 4 = .ok (.bipush 32, 2) := by decide +kernel
theorem dX3_set_6 : decode cX3_set 6 = .ok (.iload_n 2, 1) := by decide +kernel
theorem dX3_set_7 : decode cX3_set 7 = .ok (.imul, 1) := by decide +kernel
theorem dX3_set_8 : decode cX3_set 8 = .ok (.iload_n 1, 1) := by decide +kernel
theorem dX3_set_9 : decode cX3_set 9 = .ok (.iadd, 1) := by decide +kernel
theorem dX3_set_10 : decode cX3_set 10 = .ok (.iload_n 3, 1) := by decide +kernel
theorem dX3_set_11 : decode cX3_set 11 = .ok (.iastore, 1) := by decide +kernel
theorem dX3_set_12 : decode cX3_set 12 = .ok (.return_, 1) := by decide +kernel
theorem dX3_smoothEdges_0 : decode cX3_smoothEdges 0 = .ok (.iconst 4, 1) := by decide +kernel
theorem dX3_smoothEdges_1 : decode cX3_smoothEdges 1 = .ok (.istore_n 2, 1) := by decide +kernel
theorem dX3_smoothEdges_2 : decode cX3_smoothEdges 2 = .ok (.iload_n 2, 1) := by decide +kernel
theorem dX3_smoothEdges_3 : decode cX3_smoothEdges 3 = .ok (.iconst 4, 1) := by decide +kernel
theorem dX3_smoothEdges_4 : decode cX3_smoothEdges 4 = .ok (.aload_n 0, 1) := by decide +kernel
theorem dX3_smoothEdges_5 : decode cX3_smoothEdges 5 = .ok (.getfield 15, 3) := by decide +kernel
theorem dX3_smoothEdges_8 : decode cX3_smoothEdges 8 = .ok (.imul, 1) := by decide +kernel
theorem dX3_smoothEdges_9 : decode cX3_smoothEdges 9 = .ok (.if_icmp .ge 39, 3) := by decide +kernel
theorem dX3_smoothEdges_12 : decode cX3_smoothEdges 12 = .ok (.iconst 0, 1) := by decide +kernel
theorem dX3_smoothEdges_13 : decode cX3_smoothEdges 13 = .ok (.istore_n 3, 1) := by decide +kernel
theorem dX3_smoothEdges_14 : decode cX3_smoothEdges 14 = .ok (.iload_n 3, 1) := by decide +kernel
theorem dX3_smoothEdges_15 : decode cX3_smoothEdges 15 = .ok (.iconst 4, 1) := by decide +kernel
theorem dX3_smoothEdges_16 : decode cX3_smoothEdges 16 = .ok (.aload_n 0, 1) := by decide +kernel
theorem dX3_smoothEdges_17 : decode cX3_smoothEdges 17 = .ok (.getfield 19, 3) := by decide +kernel
theorem dX3_smoothEdges_20 : decode cX3_smoothEdges 20 = .ok (.imul, 1) := by decide +kernel
theorem dX3_smoothEdges_21 : decode cX3_smoothEdges 21 = .ok (.if_icmp .ge 21, 3) := by decide +kernel
theorem dX3_smoothEdges_24 : decode cX3_smoothEdges 24 = .ok (.aload_n 0, 1) := by decide +kernel
theorem dX3_smoothEdges_25 : decode cX3_smoothEdges 25 = .ok (.bipush 32, 2) := by decide +kernel
theorem dX3_smoothEdges_27 : decode cX3_smoothEdges 27 = .ok (.iload_n 3, 1) := by decide +kernel
theorem dX3_smoothEdges_28 : decode cX3_smoothEdges 28 = .ok (.imul, 1) := by decide +kernel
theorem dX3_smoothEdges_29 : decode cX3_smoothEdges 29 = .ok (.iload_n 2, 1) := by decide +kernel
theorem dX3_smoothEdges_30 : decode cX3_smoothEdges 30 = .ok (.iadd, 1) := by decide +kernel
theorem dX3_smoothEdges_31 : decode cX3_smoothEdges 31 = .ok (.iconst 1, 1) := by decide +kernel
theorem dX3_smoothEdges_32 : decode cX3_smoothEdges 32 = .ok (.iload_n 1, 1) := by decide +kernel
theorem dX3_smoothEdges_33 : decode cX3_smoothEdges 33 = .ok (.invokevirtual 22, 3) := by decide +kernel
theorem dX3_smoothEdges_36 : decode cX3_smoothEdges 36 = .ok (.iinc 3 1, 3) := by decide +kernel
theorem dX3_smoothEdges_39 : decode cX3_smoothEdges 39 = .ok (.goto (-25), 3) := by decide +kernel
theorem dX3_smoothEdges_42 : decode cX3_smoothEdges 42 = .ok (.iinc 2 4, 3) := by decide +kernel
theorem dX3_smoothEdges_45 : decode cX3_smoothEdges 45 = .ok (.goto (-43), 3) := by decide +kernel
theorem dX3_smoothEdges_48 : decode cX3_smoothEdges 48 = .ok (.iconst 4, 1) := by decide +kernel
theorem dX3_smoothEdges_49 : decode cX3_smoothEdges 49 = .ok (.istore_n 2, 1) := by decide +kernel
theorem dX3_smoothEdges_50 : decode cX3_smoothEdges 50 = .ok (.iload_n 2, 1) := by decide +kernel
theorem dX3_smoothEdges_51 : decode cX3_smoothEdges 51 = .ok (.iconst 4, 1) := by decide +kernel
theorem dX3_smoothEdges_52 : decode cX3_smoothEdges 52 = .ok (.aload_n 0, 1) := by decide +kernel
theorem dX3_smoothEdges_53 : decode cX3_smoothEdges 53 = .ok (.getfield 19, 3) := by decide +kernel
theorem dX3_smoothEdges_56 : decode cX3_smoothEdges 56 = .ok (.imul, 1) := by decide +kernel
theorem dX3_smoothEdges_57 : decode cX3_smoothEdges 57 = .ok (.if_icmp .ge 40, 3) := by decide +kernel
theorem dX3_smoothEdges_60 : decode cX3_smoothEdges 60 = .ok (.iconst 0, 1) := by decide +kernel
theorem dX3_smoothEdges_61 : decode cX3_smoothEdges 61 = .ok (.istore_n 3, 1) := by decide +kernel
theorem dX3_smoothEdges_62 : decode cX3_smoothEdges 62 = .ok (.iload_n 3, 1) := by decide +kernel
theorem dX3_smoothEdges_63 : decode cX3_smoothEdges 63 = .ok (.iconst 4, 1) := by decide +kernel
theorem dX3_smoothEdges_64 : decode cX3_smoothEdges 64 = .ok (.aload_n 0, 1) := by decide +kernel
theorem dX3_smoothEdges_65 : decode cX3_smoothEdges 65 = .ok (.getfield 15, 3) := by decide +kernel
theorem dX3_smoothEdges_68 : decode cX3_smoothEdges 68 = .ok (.imul, 1) := by decide +kernel
theorem dX3_smoothEdges_69 : decode cX3_smoothEdges 69 = .ok (.if_icmp .ge 22, 3) := by decide +kernel
theorem dX3_smoothEdges_72 : decode cX3_smoothEdges 72 = .ok (.aload_n 0, 1) := by decide +kernel
theorem dX3_smoothEdges_73 : decode cX3_smoothEdges 73 = .ok (.bipush 32, 2) := by decide +kernel
theorem dX3_smoothEdges_75 : decode cX3_smoothEdges 75 = .ok (.iload_n 2, 1) := by decide +kernel
theorem dX3_smoothEdges_76 : decode cX3_smoothEdges 76 = .ok (.imul, 1) := by decide +kernel
theorem dX3_smoothEdges_77 : decode cX3_smoothEdges 77 = .ok (.iload_n 3, 1) := by decide +kernel
theorem dX3_smoothEdges_78 : decode cX3_smoothEdges 78 = .ok (.iadd, 1) := by decide +kernel
theorem dX3_smoothEdges_79 : decode cX3_smoothEdges 79 = .ok (.bipush 32, 2) := by decide +kernel
theorem dX3_smoothEdges_81 : decode cX3_smoothEdges 81 = .ok (.iload_n 1, 1) := by decide +kernel
theorem dX3_smoothEdges_82 : decode cX3_smoothEdges 82 = .ok (.invokevirtual 22, 3) := by decide +kernel
theorem dX3_smoothEdges_85 : decode cX3_smoothEdges 85 = .ok (.iinc 3 1, 3) := by decide +kernel
theorem dX3_smoothEdges_88 : decode cX3_smoothEdges 88 = .ok (.goto (-26), 3) := by decide +kernel
theorem dX3_smoothEdges_91 : decode cX3_smoothEdges 91 = .ok (.iinc 2 4, 3) := by decide +kernel
theorem dX3_smoothEdges_94 : decode cX3_smoothEdges 94 = .ok (.goto (-44), 3) := by decide +kernel
theorem dX3_smoothEdges_97 : decode cX3_smoothEdges 97 = .ok (.return_, 1) := by decide +kernel
theorem dX3_smoothAcross_0 : decode cX3_smoothAcross 0 = .ok (.aload_n 0, 1) := by decide +kernel
theorem dX3_smoothAcross_1 : decode cX3_smoothAcross 1 = .ok (.getfield 11, 3) := by decide +kernel
theorem dX3_smoothAcross_4 : decode cX3_smoothAcross 4 = .ok (.iload_n 1, 1) := by decide +kernel
theorem dX3_smoothAcross_5 : decode cX3_smoothAcross 5 = .ok (.iconst 2, 1) := by decide +kernel
theorem dX3_smoothAcross_6 : decode cX3_smoothAcross 6 = .ok (.iload_n 2, 1) := by decide +kernel
theorem dX3_smoothAcross_7 : decode cX3_smoothAcross 7 = .ok (.imul, 1) := by decide +kernel
theorem dX3_smoothAcross_8 : decode cX3_smoothAcross 8 = .ok (.isub, 1) := by decide +kernel
theorem dX3_smoothAcross_9 : decode cX3_smoothAcross 9 = .ok (.iaload, 1) := by decide +kernel
theorem dX3_smoothAcross_10 : decode cX3_smoothAcross 10 = .ok (.istore 4, 2) := by decide +kernel
theorem dX3_smoothAcross_12 : decode cX3_smoothAcross 12 = .ok (.aload_n 0, 1) := by decide +kernel
theorem dX3_smoothAcross_13 : decode cX3_smoothAcross 13 = .ok (.getfield 11, 3) := by decide +kernel
theorem dX3_smoothAcross_16 : decode cX3_smoothAcross 16 = .ok (.iload_n 1, 1) := by decide +kernel
theorem dX3_smoothAcross_17 : decode cX3_smoothAcross 17 = .ok (.iload_n 2, 1) := by decide +kernel
theorem dX3_smoothAcross_18 : decode cX3_smoothAcross 18 = .ok (.isub, 1) := by decide +kernel
theorem dX3_smoothAcross_19 : decode cX3_smoothAcross 19 = .ok (.iaload, 1) := by decide +kernel
theorem dX3_smoothAcross_20 : decode cX3_smoothAcross 20 = .ok (.istore 5, 2) := by decide +kernel
theorem dX3_smoothAcross_22 : decode cX3_smoothAcross 22 = .ok (.aload_n 0, 1) := by decide +kernel
theorem dX3_smoothAcross_23 : decode cX3_smoothAcross 23 = .ok (.getfield 11, 3) := by decide +kernel
theorem dX3_smoothAcross_26 : decode cX3_smoothAcross 26 = .ok (.iload_n 1, 1) := by decide +kernel
theorem dX3_smoothAcross_27 : decode cX3_smoothAcross 27 = .ok (.iaload, 1) := by decide +kernel
theorem dX3_smoothAcross_28 : decode cX3_smoothAcross 28 = .ok (.istore 6, 2) := by decide +kernel
theorem dX3_smoothAcross_30 : decode cX3_smoothAcross 30 = .ok (.aload_n 0, 1) := by decide +kernel
theorem dX3_smoothAcross_31 : decode cX3_smoothAcross 31 = .ok (.getfield 11, 3) := by decide +kernel
theorem dX3_smoothAcross_34 : decode cX3_smoothAcross 34 = .ok (.iload_n 1, 1) := by decide +kernel
theorem dX3_smoothAcross_35 : decode cX3_smoothAcross 35 = .ok (.iload_n 2, 1) := by decide +kernel
theorem dX3_smoothAcross_36 : decode cX3_smoothAcross 36 = .ok (.iadd, 1) := by decide +kernel
theorem dX3_smoothAcross_37 : decode cX3_smoothAcross 37 = .ok (.iaload, 1) := by decide +kernel
theorem dX3_smoothAcross_38 : decode cX3_smoothAcross 38 = .ok (.istore 7, 2) := by decide +kernel
theorem dX3_smoothAcross_40 : decode cX3_smoothAcross 40 = .ok (.iload_n 3, 1) := by decide +kernel
theorem dX3_smoothAcross_41 : decode cX3_smoothAcross 41 = .ok (.iconst 4, 1) := by decide +kernel
theorem dX3_smoothAcross_42 : decode cX3_smoothAcross 42 = .ok (.idiv, 1) := by decide +kernel
theorem dX3_smoothAcross_43 : decode cX3_smoothAcross 43 = .ok (.iconst 1, 1) := by decide +kernel
theorem dX3_smoothAcross_44 : decode cX3_smoothAcross 44 = .ok (.iadd, 1) := by decide +kernel
theorem dX3_smoothAcross_45 : decode cX3_smoothAcross 45 = .ok (.istore 8, 2) := by decide +kernel
theorem dX3_smoothAcross_47 : decode cX3_smoothAcross 47 = .ok (.iload 5, 2) := by decide +kernel
theorem dX3_smoothAcross_49 : decode cX3_smoothAcross 49 = .ok (.iload 6, 2) := by decide +kernel
theorem dX3_smoothAcross_51 : decode cX3_smoothAcross 51 = .ok (.isub, 1) := by decide +kernel
theorem dX3_smoothAcross_52 : decode cX3_smoothAcross 52 = .ok (.invokestatic 26, 3) := by decide +kernel
theorem dX3_smoothAcross_55 : decode cX3_smoothAcross 55 = .ok (.iload_n 3, 1) := by decide +kernel
theorem dX3_smoothAcross_56 : decode cX3_smoothAcross 56 = .ok (.iload_n 3, 1) := by decide +kernel
theorem dX3_smoothAcross_57 : decode cX3_smoothAcross 57 = .ok (.imul, 1) := by decide +kernel
theorem dX3_smoothAcross_58 : decode cX3_smoothAcross 58 = .ok (.bipush 24, 2) := by decide +kernel
theorem dX3_smoothAcross_60 : decode cX3_smoothAcross 60 = .ok (.idiv, 1) := by decide +kernel
theorem dX3_smoothAcross_61 : decode cX3_smoothAcross 61 = .ok (.if_icmp .ge 29, 3) := by decide +kernel
theorem dX3_smoothAcross_64 : decode cX3_smoothAcross 64 = .ok (.iload 5, 2) := by decide +kernel
theorem dX3_smoothAcross_66 : decode cX3_smoothAcross 66 = .ok (.iload 4, 2) := by decide +kernel
theorem dX3_smoothAcross_68 : decode cX3_smoothAcross 68 = .ok (.isub, 1) := by decide +kernel
theorem dX3_smoothAcross_69 : decode cX3_smoothAcross 69 = .ok (.invokestatic 26, 3) := by decide +kernel
theorem dX3_smoothAcross_72 : decode cX3_smoothAcross 72 = .ok (.iload 8, 2) := by decide +kernel
theorem dX3_smoothAcross_74 : decode cX3_smoothAcross 74 = .ok (.if_icmp .ge 16, 3) := by decide +kernel
theorem dX3_smoothAcross_77 : decode cX3_smoothAcross 77 = .ok (.iload 7, 2) := by decide +kernel
theorem dX3_smoothAcross_79 : decode cX3_smoothAcross 79 = .ok (.iload 6, 2) := by decide +kernel
theorem dX3_smoothAcross_81 : decode cX3_smoothAcross 81 = .ok (.isub, 1) := by decide +kernel
theorem dX3_smoothAcross_82 : decode cX3_smoothAcross 82 = .ok (.invokestatic 26, 3) := by decide +kernel
theorem dX3_smoothAcross_85 : decode cX3_smoothAcross 85 = .ok (.iload 8, 2) := by decide +kernel
theorem dX3_smoothAcross_87 : decode cX3_smoothAcross 87 = .ok (.if_icmp .lt 4, 3) := by decide +kernel
theorem dX3_smoothAcross_90 : decode cX3_smoothAcross 90 = .ok (.return_, 1) := by decide +kernel
theorem dX3_smoothAcross_91 : decode cX3_smoothAcross 91 = .ok (.iload_n 3, 1) := by decide +kernel
theorem dX3_smoothAcross_92 : decode cX3_smoothAcross 92 = .ok (.bipush 8, 2) := by decide +kernel
theorem dX3_smoothAcross_94 : decode cX3_smoothAcross 94 = .ok (.idiv, 1) := by decide +kernel
theorem dX3_smoothAcross_95 : decode cX3_smoothAcross 95 = .ok (.iconst 1, 1) := by decide +kernel
theorem dX3_smoothAcross_96 : decode cX3_smoothAcross 96 = .ok (.iadd, 1) := by decide +kernel
theorem dX3_smoothAcross_97 : decode cX3_smoothAcross 97 = .ok (.istore 9, 2) := by decide +kernel
theorem dX3_smoothAcross_99 : decode cX3_smoothAcross 99 = .ok (.iconst 4, 1) := by decide +kernel
theorem dX3_smoothAcross_100 : decode cX3_smoothAcross 100 = .ok (.iload 6, 2) := by decide +kernel
theorem dX3_smoothAcross_102 : decode cX3_smoothAcross 102 = .ok (.iload 5, 2) := by decide +kernel
theorem dX3_smoothAcross_104 : decode cX3_smoothAcross 104 = .ok (.isub, 1) := by decide +kernel
theorem dX3_smoothAcross_105 : decode cX3_smoothAcross 105 = .ok (.imul, 1) := by decide +kernel
theorem dX3_smoothAcross_106 : decode cX3_smoothAcross 106 = .ok (.iload 4, 2) := by decide +kernel
theorem dX3_smoothAcross_108 : decode cX3_smoothAcross 108 = .ok (.iadd, 1) := by decide +kernel
theorem dX3_smoothAcross_109 : decode cX3_smoothAcross 109 = .ok (.iload 7, 2) := by decide +kernel
theorem dX3_smoothAcross_111 : decode cX3_smoothAcross 111 = .ok (.isub, 1) := by decide +kernel
theorem dX3_smoothAcross_112 : decode cX3_smoothAcross 112 = .ok (.iconst 4, 1) := by decide +kernel
theorem dX3_smoothAcross_113 : decode cX3_smoothAcross 113 = .ok (.iadd, 1) := by decide +kernel
theorem dX3_smoothAcross_114 : decode cX3_smoothAcross 114 = .ok (.iconst 3, 1) := by decide +kernel
theorem dX3_smoothAcross_115 : decode cX3_smoothAcross 115 = .ok (.ishr, 1) := by decide +kernel
theorem dX3_smoothAcross_116 : decode cX3_smoothAcross 116 = .ok (.iload 9, 2) := by decide +kernel
theorem dX3_smoothAcross_118 : decode cX3_smoothAcross 118 = .ok (.ineg, 1) := by decide +kernel
theorem dX3_smoothAcross_119 : decode cX3_smoothAcross 119 = .ok (.iload 9, 2) := by decide +kernel
theorem dX3_smoothAcross_121 : decode cX3_smoothAcross 121 = .ok (.invokestatic 32, 3) := by decide +kernel
theorem dX3_smoothAcross_124 : decode cX3_smoothAcross 124 = .ok (.istore 10, 2) := by decide +kernel
theorem dX3_smoothAcross_126 : decode cX3_smoothAcross 126 = .ok (.aload_n 0, 1) := by decide +kernel
theorem dX3_smoothAcross_127 : decode cX3_smoothAcross 127 = .ok (.getfield 11, 3) := by decide +kernel
theorem dX3_smoothAcross_130 : decode cX3_smoothAcross 130 = .ok (.iload_n 1, 1) := by decide +kernel
theorem dX3_smoothAcross_131 : decode cX3_smoothAcross 131 = .ok (.iload_n 2, 1) := by decide +kernel
theorem dX3_smoothAcross_132 : decode cX3_smoothAcross 132 = .ok (.isub, 1) := by decide +kernel
theorem dX3_smoothAcross_133 : decode cX3_smoothAcross 133 = .ok (.iload 5, 2) := by decide +kernel
theorem dX3_smoothAcross_135 : decode cX3_smoothAcross 135 = .ok (.iload 10, 2) := by decide +kernel
theorem dX3_smoothAcross_137 : decode cX3_smoothAcross 137 = .ok (.iadd, 1) := by decide +kernel
theorem dX3_smoothAcross_138 : decode cX3_smoothAcross 138 = .ok (.iconst 0, 1) := by decide +kernel
theorem dX3_smoothAcross_139 : decode cX3_smoothAcross 139 = .ok (.sipush 255, 3) := by decide +kernel
theorem dX3_smoothAcross_142 : decode cX3_smoothAcross 142 = .ok (.invokestatic 32, 3) := by decide +kernel
theorem dX3_smoothAcross_145 : decode cX3_smoothAcross 145 = .ok (.iastore, 1) := by decide +kernel
theorem dX3_smoothAcross_146 : decode cX3_smoothAcross 146 = .ok (.aload_n 0, 1) := by decide +kernel
theorem dX3_smoothAcross_147 : decode cX3_smoothAcross 147 = .ok (.getfield 11, 3) := by decide +kernel
theorem dX3_smoothAcross_150 : decode cX3_smoothAcross 150 = .ok (.iload_n 1, 1) := by decide +kernel
theorem dX3_smoothAcross_151 : decode cX3_smoothAcross 151 = .ok (.iload 6, 2) := by decide +kernel
theorem dX3_smoothAcross_153 : decode cX3_smoothAcross 153 = .ok (.iload 10, 2) := by decide +kernel
theorem dX3_smoothAcross_155 : decode cX3_smoothAcross 155 = .ok (.isub, 1) := by decide +kernel
theorem dX3_smoothAcross_156 : decode cX3_smoothAcross 156 = .ok (.iconst 0, 1) := by decide +kernel
theorem dX3_smoothAcross_157 : decode cX3_smoothAcross 157 = .ok (.sipush 255, 3) := by decide +kernel
theorem dX3_smoothAcross_160 : decode cX3_smoothAcross 160 = .ok (.invokestatic 32, 3) := by decide +kernel
theorem dX3_smoothAcross_163 : decode cX3_smoothAcross 163 = .ok (.iastore, 1) := by decide +kernel
theorem dX3_smoothAcross_164 : decode cX3_smoothAcross 164 = .ok (.return_, 1) := by decide +kernel
theorem dX4_init_0 : decode cX4_init 0 = .ok (.aload_n 0, 1) := by decide +kernel
theorem dX4_init_1 : decode cX4_init 1 = .ok (.invokespecial 3, 3) := by decide +kernel
theorem dX4_init_4 : decode cX4_init 4 = .ok (.aload_n 0, 1) := by decide +kernel
theorem dX4_init_5 : decode cX4_init 5 = .ok (.bipush 64, 2) := by decide +kernel
theorem dX4_init_7 : decode cX4_init 7 = .ok (.newarray .int, 2) := by decide +kernel
theorem dX4_init_9 : decode cX4_init 9 = .ok (.putfield 9, 3) := by decide +kernel
theorem dX4_init_12 : decode cX4_init 12 = .ok (.aload_n 0, 1) := by decide +kernel
theorem dX4_init_13 : decode cX4_init 13 = .ok (.sipush 1024, 3) := by decide +kernel
theorem dX4_init_16 : decode cX4_init 16 = .ok (.newarray .int, 2) := by decide +kernel
theorem dX4_init_18 : decode cX4_init 18 = .ok (.putfield 15, 3) := by decide +kernel
theorem dX4_init_21 : decode cX4_init 21 = .ok (.aload_n 0, 1) := by decide +kernel
theorem dX4_init_22 : decode cX4_init 22 = .ok (.iconst 1, 1) := by decide +kernel
theorem dX4_init_23 : decode cX4_init 23 = .ok (.putfield 18, 3) := by decide +kernel
theorem dX4_init_26 : decode cX4_init 26 = .ok (.aload_n 0, 1) := by decide +kernel
theorem dX4_init_27 : decode cX4_init 27 = .ok (.iconst 1, 1) := by decide +kernel
theorem dX4_init_28 : decode cX4_init 28 = .ok (.putfield 22, 3) := by decide +kernel
theorem dX4_init_31 : decode cX4_init 31 = .ok (.return_, 1) := by decide +kernel
theorem dX4_clear_0 : decode cX4_clear 0 = .ok (.aload_n 0, 1) := by decide +kernel
theorem dX4_clear_1 : decode cX4_clear 1 = .ok (.iload_n 1, 1) := by decide +kernel
theorem dX4_clear_2 : decode cX4_clear 2 = .ok (.putfield 18, 3) := by decide +kernel
theorem dX4_clear_5 : decode cX4_clear 5 = .ok (.aload_n 0, 1) := by decide +kernel
theorem dX4_clear_6 : decode cX4_clear 6 = .ok (.iload_n 2, 1) := by decide +kernel
theorem dX4_clear_7 : decode cX4_clear 7 = .ok (.putfield 22, 3) := by decide +kernel
theorem dX4_clear_10 : decode cX4_clear 10 = .ok (.aload_n 0, 1) := by decide +kernel
theorem dX4_clear_11 : decode cX4_clear 11 = .ok (.iconst 0, 1) := by decide +kernel
theorem dX4_clear_12 : decode cX4_clear 12 = .ok (.putfield 25, 3) := by decide +kernel
theorem dX4_clear_15 : decode cX4_clear 15 = .ok (.aload_n 0, 1) := by decide +kernel
theorem dX4_clear_16 : decode cX4_clear 16 = .ok (.iconst 0, 1) := by decide +kernel
theorem dX4_clear_17 : decode cX4_clear 17 = .ok (.putfield 28, 3) := by decide +kernel
theorem dX4_clear_20 : decode cX4_clear 20 = .ok (.iconst 0, 1) := by decide +kernel
theorem dX4_clear_21 : decode cX4_clear 21 = .ok (.istore_n 3, 1) := by decide +kernel
theorem dX4_clear_22 : decode cX4_clear 22 = .ok (.iload_n 3, 1) := by decide +kernel
theorem dX4_clear_23 : decode cX4_clear 23 = .ok (.aload_n 0, 1) := by decide +kernel
theorem dX4_clear_24 : decode cX4_clear 24 = .ok (.getfield 9, 3) := by decide +kernel
theorem dX4_clear_27 : decode cX4_clear 27 = .ok (.arraylength, 1) := by decide +kernel
theorem dX4_clear_28 : decode cX4_clear 28 = .ok (.if_icmp .ge 16, 3) := by decide +kernel
theorem dX4_clear_31 : decode cX4_clear 31 = .ok (.aload_n 0, 1) := by decide +kernel
theorem dX4_clear_32 : decode cX4_clear 32 = .ok (.getfield 9, 3) := by decide +kernel
theorem dX4_clear_35 : decode cX4_clear 35 = .ok (.iload_n 3, 1) := by decide +kernel
theorem dX4_clear_36 : decode cX4_clear 36 = .ok (.iconst (-1), 1) := by decide +kernel
theorem dX4_clear_37 : decode cX4_clear 37 = .ok (.iastore, 1) := by decide +kernel
theorem dX4_clear_38 : decode cX4_clear 38 = .ok (.iinc 3 1, 3) := by decide +kernel
theorem dX4_clear_41 : decode cX4_clear 41 = .ok (.goto (-19), 3) := by decide +kernel
theorem dX4_clear_44 : decode cX4_clear 44 = .ok (.iconst 0, 1) := by decide +kernel
theorem dX4_clear_45 : decode cX4_clear 45 = .ok (.istore_n 3, 1) := by decide +kernel
theorem dX4_clear_46 : decode cX4_clear 46 = .ok (.iload_n 3, 1) := by decide +kernel
theorem dX4_clear_47 : decode cX4_clear 47 = .ok (.aload_n 0, 1) := by decide +kernel
theorem dX4_clear_48 : decode cX4_clear 48 = .ok (.getfield 15, 3) := by decide +kernel
theorem dX4_clear_51 : decode cX4_clear 51 = .ok (.arraylength, 1) := by decide +kernel
theorem dX4_clear_52 : decode cX4_clear 52 = .ok (.if_icmp .ge 16, 3) := by decide +kernel
theorem dX4_clear_55 : decode cX4_clear 55 = .ok (.aload_n 0, 1) := by decide +kernel
theorem dX4_clear_56 : decode cX4_clear 56 = .ok (.getfield 15, 3) := by decide +kernel
theorem dX4_clear_59 : decode cX4_clear 59 = .ok (.iload_n 3, 1) := by decide +kernel
theorem dX4_clear_60 : decode cX4_clear 60 = .ok (.iconst 0, 1) := by decide +kernel
theorem dX4_clear_61 : decode cX4_clear 61 = .ok (.iastore, 1) := by decide +kernel
theorem dX4_clear_62 : decode cX4_clear 62 = .ok (.iinc 3 1, 3) := by decide +kernel
theorem dX4_clear_65 : decode cX4_clear 65 = .ok (.goto (-19), 3) := by decide +kernel
theorem dX4_clear_68 : decode cX4_clear 68 = .ok (.return_, 1) := by decide +kernel
theorem dX4_blocks_0 : decode cX4_blocks 0 = .ok (.aload_n 0, 1) := by decide +kernel
theorem dX4_blocks_1 : decode cX4_blocks 1 = .ok (.getfield 18, 3) := by decide +kernel
theorem dX4_blocks_4 : decode cX4_blocks 4 = .ok (.aload_n 0, 1) := by decide +kernel
theorem dX4_blocks_5 : decode cX4_blocks 5 = .ok (.getfield 22, 3) := by decide +kernel
theorem dX4_blocks_8 : decode cX4_blocks 8 = .ok (.imul, 1) := by decide +kernel
theorem dX4_blocks_9 : decode cX4_blocks 9 = .ok (.ireturn, 1) := by decide +kernel
theorem dX4_hasAbove_0 : decode cX4_hasAbove 0 = .ok (.iload_n 1, 1) := by decide +kernel
theorem dX4_hasAbove_1 : decode cX4_hasAbove 1 = .ok (.aload_n 0, 1) := by decide +kernel
theorem dX4_hasAbove_2 : decode cX4_hasAbove 2 = .ok (.getfield 18, 3) := by decide +kernel
theorem dX4_hasAbove_5 : decode cX4_hasAbove 5 = .ok (.if_icmp .lt 7, 3) := by decide +kernel
theorem dX4_hasAbove_8 : decode cX4_hasAbove 8 = .ok (.iconst 1, 1) := by decide +kernel
theorem dX4_hasAbove_9 : decode cX4_hasAbove 9 = .ok (.goto 4, 3) := by decide +kernel
theorem dX4_hasAbove_12 : decode cX4_hasAbove 12 = .ok (.iconst 0, 1) := by decide +kernel
theorem dX4_hasAbove_13 : decode cX4_hasAbove 13 = .ok (.ireturn, 1) := by decide +kernel
theorem dX4_hasLeft_0 : decode cX4_hasLeft 0 = .ok (.iload_n 1, 1) := by decide +kernel
theorem dX4_hasLeft_1 : decode cX4_hasLeft 1 = .ok (.aload_n 0, 1) := by decide +kernel
theorem dX4_hasLeft_2 : decode cX4_hasLeft 2 = .ok (.getfield 18, 3) := by decide +kernel
theorem dX4_hasLeft_5 : decode cX4_hasLeft 5 = .ok (.irem, 1) := by decide +kernel
theorem dX4_hasLeft_6 : decode cX4_hasLeft 6 = .ok (.ifCond .le 7, 3) := by decide +kernel
theorem dX4_hasLeft_9 : decode cX4_hasLeft 9 = .ok (.iconst 1, 1) := by decide +kernel
theorem dX4_hasLeft_10 : decode cX4_hasLeft 10 = .ok (.goto 4, 3) := by decide +kernel
theorem dX4_hasLeft_13 : decode cX4_hasLeft 13 = .ok (.iconst 0, 1) := by decide +kernel
theorem dX4_hasLeft_14 : decode cX4_hasLeft 14 = .ok (.ireturn, 1) := by decide +kernel
theorem dX4_likelyMode_0 : decode cX4_likelyMode 0 = .ok (.aload_n 0, 1) := by decide +kernel
theorem dX4_likelyMode_1 : decode cX4_likelyMode 1 = .ok (.iload_n 1, 1) := by decide +kernel
theorem dX4_likelyMode_2 : decode cX4_likelyMode 2 = .ok (.invokevirtual 32, 3) := by decide +kernel
theorem dX4_likelyMode_5 : decode cX4_likelyMode 5 = .ok (.ifCond .eq 11, 3) := by decide +kernel
theorem dX4_likelyMode_8 : decode cX4_likelyMode 8 = .ok (.aload_n 0, 1) := by decide +kernel
theorem dX4_likelyMode_9 : decode cX4_likelyMode 9 = .ok (.iload_n 1, 1) := by decide +kernel
theorem dX4_likelyMode_10 : decode cX4_likelyMode 10 = .ok (.invokevirtual 36, 3) := by decide +kernel
theorem dX4_likelyMode_13 : decode cX4_likelyMode 13 = .ok (.ifCond .ne 5, 3) := by decide +kernel
theorem dX4_likelyMode_16 : decode cX4_likelyMode 16 = .ok (.iconst 2, 1) := by decide +kernel
theorem dX4_likelyMode_17 : decode cX4_likelyMode 17 = .ok (.ireturn, 1) := by decide +kernel
theorem dX4_likelyMode_18 : decode cX4_likelyMode 18 = .ok (.aload_n 0, 1) := by decide +kernel
theorem dX4_likelyMode_19 : decode cX4_likelyMode 19 = .ok (.getfield 9, 3) := by decide +kernel
theorem dX4_likelyMode_22 : decode cX4_likelyMode 22 = .ok (.iload_n 1, 1) := by decide +kernel
theorem dX4_likelyMode_23 : decode cX4_likelyMode 23 = .ok (.aload_n 0, 1) := by decide +kernel
theorem dX4_likelyMode_24 : decode cX4_likelyMode 24 = .ok (.getfield 18, 3) := by decide +kernel
theorem dX4_likelyMode_27 : decode cX4_likelyMode 27 = .ok (.isub, 1) := by decide +kernel
theorem dX4_likelyMode_28 : decode cX4_likelyMode 28 = .ok (.iaload, 1) := by decide +kernel
theorem dX4_likelyMode_29 : decode cX4_likelyMode 29 = .ok (.aload_n 0, 1) := by decide +kernel
theorem dX4_likelyMode_30 : decode cX4_likelyMode 30 = .ok (.getfield 9, 3) := by decide +kernel
theorem dX4_likelyMode_33 : decode cX4_likelyMode 33 = .ok (.iload_n 1, 1) := by decide +kernel
theorem dX4_likelyMode_34 : decode cX4_likelyMode 34 = .ok (.iconst 1, 1) := by decide +kernel
theorem dX4_likelyMode_35 : decode cX4_likelyMode 35 = .ok (.isub, 1) := by decide +kernel
theorem dX4_likelyMode_36 : decode cX4_likelyMode 36 = .ok (.iaload, 1) := by decide +kernel
theorem dX4_likelyMode_37 : decode cX4_likelyMode 37 = .ok (.invokestatic 39, 3) := by decide +kernel
theorem dX4_likelyMode_40 : decode cX4_likelyMode 40 = .ok (.ireturn, 1) := by decide +kernel
theorem dX5_init_0 : decode cX5_init 0 = .ok (.aload_n 0, 1) := by decide +kernel
theorem dX5_init_1 : decode cX5_init 1 = .ok (.invokespecial 3, 3) := by decide +kernel
theorem dX5_init_4 : decode cX5_init 4 = .ok (.aload_n 0, 1) := by decide +kernel
theorem dX5_init_5 : decode cX5_init 5 = .ok (.new 9, 3) := by decide +kernel
theorem dX5_init_8 : decode cX5_init 8 = .ok (.dup, 1) := by decide +kernel
theorem dX5_init_9 : decode cX5_init 9 = .ok (.aload_n 1, 1) := by decide +kernel
theorem dX5_init_10 : decode cX5_init 10 = .ok (.invokespecial 11, 3) := by decide +kernel
theorem dX5_init_13 : decode cX5_init 13 = .ok (.putfield 14, 3) := by decide +kernel
theorem dX5_init_16 : decode cX5_init 16 = .ok (.return_, 1) := by decide +kernel
theorem dX5_fault_0 : decode cX5_fault 0 = .ok (.aload_n 0, 1) := by decide +kernel
theorem dX5_fault_1 : decode cX5_fault 1 = .ok (.getfield 14, 3) := by decide +kernel
theorem dX5_fault_4 : decode cX5_fault 4 = .ok (.getfield 20, 3) := by decide +kernel
theorem dX5_fault_7 : decode cX5_fault 7 = .ok (.ireturn, 1) := by decide +kernel
theorem dX5_faultPlace_0 : decode cX5_faultPlace 0 = .ok (.aload_n 0, 1) := by decide +kernel
theorem dX5_faultPlace_1 : decode cX5_faultPlace 1 = .ok (.getfield 14, 3) := by decide +kernel
theorem dX5_faultPlace_4 : decode cX5_faultPlace 4 = .ok (.getfield 24, 3) := by decide +kernel
theorem dX5_faultPlace_7 : decode cX5_faultPlace 7 = .ok (.ireturn, 1) := by decide +kernel
theorem dX5_read_0 : decode cX5_read 0 = .ok (.aload_n 0, 1) := by decide +kernel
theorem dX5_read_1 : decode cX5_read 1 = .ok (.getfield 14, 3) := by decide +kernel
theorem dX5_read_4 : decode cX5_read 4 = .ok (.invokevirtual 27, 3) := by decide +kernel
theorem dX5_read_7 : decode cX5_read 7 = .ok (.aload_n 0, 1) := by decide +kernel
theorem dX5_read_8 : decode cX5_read 8 = .ok (.aload_n 1, 1) := by decide +kernel
theorem dX5_read_9 : decode cX5_read 9 = .ok (.invokevirtual 30, 3) := by decide +kernel
theorem dX5_read_12 : decode cX5_read 12 = .ok (.ifCond .ne 5, 3) := by decide +kernel
theorem dX5_read_15 : decode cX5_read 15 = .ok (.iconst 0, 1) := by decide +kernel
theorem dX5_read_16 : decode cX5_read 16 = .ok (.ireturn, 1) := by decide +kernel
theorem dX5_read_17 : decode cX5_read 17 = .ok (.iconst 0, 1) := by decide +kernel
theorem dX5_read_18 : decode cX5_read 18 = .ok (.istore_n 2, 1) := by decide +kernel
theorem dX5_read_19 : decode cX5_read 19 = .ok (.iload_n 2, 1) := by decide +kernel
theorem dX5_read_20 : decode cX5_read 20 = .ok (.aload_n 1, 1) := by decide +kernel
theorem dX5_read_21 : decode cX5_read 21 = .ok (.invokevirtual 34, 3) := by decide +kernel
theorem dX5_read_24 : decode cX5_read 24 = .ok (.if_icmp .ge 29, 3) := by decide +kernel
theorem dX5_read_27 : decode cX5_read 27 = .ok (.aload_n 0, 1) := by decide +kernel
theorem dX5_read_28 : decode cX5_read 28 = .ok (.aload_n 1, 1) := by decide +kernel
theorem dX5_read_29 : decode cX5_read 29 = .ok (.iload_n 2, 1) := by decide +kernel
theorem dX5_read_30 : decode cX5_read 30 = .ok (.invokevirtual 40, 3) := by decide +kernel
theorem dX5_read_33 : decode cX5_read 33 = .ok (.ifCond .eq 12, 3) := by decide +kernel
theorem dX5_read_36 : decode cX5_read 36 = .ok (.aload_n 0, 1) := by decide +kernel
theorem dX5_read_37 : decode cX5_read 37 = .ok (.aload_n 1, 1) := by decide +kernel
theorem dX5_read_38 : decode cX5_read 38 = .ok (.iload_n 2, 1) := by decide +kernel
theorem dX5_read_39 : decode cX5_read 39 = .ok (.invokevirtual 44, 3) := by decide +kernel
theorem dX5_read_42 : decode cX5_read 42 = .ok (.ifCond .ne 5, 3) := by decide +kernel
theorem dX5_read_45 : decode cX5_read 45 = .ok (.iconst 0, 1) := by decide +kernel
theorem dX5_read_46 : decode cX5_read 46 = .ok (.ireturn, 1) := by decide +kernel
theorem dX5_read_47 : decode cX5_read 47 = .ok (.iinc 2 1, 3) := by decide +kernel
theorem dX5_read_50 : decode cX5_read 50 = .ok (.goto (-31), 3) := by decide +kernel
theorem dX5_read_53 : decode cX5_read 53 = .ok (.aload_n 0, 1) := by decide +kernel
theorem dX5_read_54 : decode cX5_read 54 = .ok (.getfield 14, 3) := by decide +kernel
theorem dX5_read_57 : decode cX5_read 57 = .ok (.invokevirtual 47, 3) := by decide +kernel
theorem dX5_read_60 : decode cX5_read 60 = .ok (.ireturn, 1) := by decide +kernel
theorem dX5_readHead_0 : decode cX5_readHead 0 = .ok (.aload_n 0, 1) := by decide +kernel
theorem dX5_readHead_1 : decode cX5_readHead 1 = .ok (.getfield 14, 3) := by decide +kernel
theorem dX5_readHead_4 : decode cX5_readHead 4 = .ok (.bipush 7, 2) := by decide +kernel
theorem dX5_readHead_6 : decode cX5_readHead 6 = .ok (.iconst 2, 1) := by decide +kernel
theorem dX5_readHead_7 : decode cX5_readHead 7 = .ok (.invokevirtual 51, 3) := by decide +kernel
theorem dX5_readHead_10 : decode cX5_readHead 10 = .ok (.istore_n 2, 1) := by decide +kernel
theorem dX5_readHead_11 : decode cX5_readHead 11 = .ok (.iload_n 2, 1) := by decide +kernel
theorem dX5_readHead_12 : decode cX5_readHead 12 = .ok (.iconst (-1), 1) := by decide +kernel
theorem dX5_readHead_13 : decode cX5_readHead 13 = .ok (.if_icmp .ne 5, 3) := by decide +kernel
theorem dX5_readHead_16 : decode cX5_readHead 16 = .ok (.iconst 0, 1) := by decide +kernel
theorem dX5_readHead_17 : decode cX5_readHead 17 = .ok (.ireturn, 1) := by decide +kernel
theorem dX5_readHead_18 : decode cX5_readHead 18 = .ok (.aload_n 0, 1) := by decide +kernel
theorem dX5_readHead_19 : decode cX5_readHead 19 = .ok (.getfield 14, 3) := by decide +kernel
theorem dX5_readHead_22 : decode cX5_readHead 22 = .ok (.bipush 7, 2) := by decide +kernel
theorem dX5_readHead_24 : decode cX5_readHead 24 = .ok (.iconst 2, 1) := by decide +kernel
theorem dX5_readHead_25 : decode cX5_readHead 25 = .ok (.invokevirtual 51, 3) := by decide +kernel
theorem dX5_readHead_28 : decode cX5_readHead 28 = .ok (.istore_n 3, 1) := by decide +kernel
theorem dX5_readHead_29 : decode cX5_readHead 29 = .ok (.iload_n 3, 1) := by decide +kernel
theorem dX5_readHead_30 : decode cX5_readHead 30 = .ok (.iconst (-1), 1) := by decide +kernel
theorem dX5_readHead_31 : decode cX5_readHead 31 = .ok (.if_icmp .ne 5, 3) := by decide +kernel
theorem dX5_readHead_34 : decode cX5_readHead 34 = .ok (.iconst 0, 1) := by decide +kernel
theorem dX5_readHead_35 : decode cX5_readHead 35 = .ok (.ireturn, 1) := by decide +kernel
theorem dX5_readHead_36 : decode cX5_readHead 36 = .ok (.aload_n 0, 1) := by decide +kernel
theorem dX5_readHead_37 : decode cX5_readHead 37 = .ok (.getfield 14, 3) := by decide +kernel
theorem dX5_readHead_40 : decode cX5_readHead 40 = .ok (.bipush 51, 2) := by decide +kernel
theorem dX5_readHead_42 : decode cX5_readHead 42 = .ok (.iconst 2, 1) := by decide +kernel
theorem dX5_readHead_43 : decode cX5_readHead 43 = .ok (.invokevirtual 51, 3) := by decide +kernel
theorem dX5_readHead_46 : decode cX5_readHead 46 = .ok (.istore 4, 2) := by decide +kernel
theorem dX5_readHead_48 : decode cX5_readHead 48 = .ok (.iload 4, 2) := by decide +kernel
theorem dX5_readHead_50 : decode cX5_readHead 50 = .ok (.iconst (-1), 1) := by decide +kernel
theorem dX5_readHead_51 : decode cX5_readHead 51 = .ok (.if_icmp .ne 5, 3) := by decide +kernel
theorem dX5_readHead_54 : decode cX5_readHead 54 = .ok (.iconst 0, 1) := by decide +kernel
theorem dX5_readHead_55 : decode cX5_readHead 55 = .ok (.ireturn, 1) := by decide +kernel
theorem dX5_readHead_56 : decode cX5_readHead 56 = .ok (.aload_n 0, 1) := by decide +kernel
theorem dX5_readHead_57 : decode cX5_readHead 57 = .ok (.getfield 14, 3) := by decide +kernel
theorem dX5_readHead_60 : decode cX5_readHead 60 = .ok (.iconst 1, 1) := by decide +kernel
theorem dX5_readHead_61 : decode cX5_readHead 61 = .ok (.invokevirtual 55, 3) := by decide +kernel
theorem dX5_readHead_64 : decode cX5_readHead 64 = .ok (.istore 5, 2) := by decide +kernel
theorem dX5_readHead_66 : decode cX5_readHead 66 = .ok (.iload 5, 2) := by decide +kernel
theorem dX5_readHead_68 : decode cX5_readHead 68 = .ok (.iconst (-1), 1) := by decide +kernel
theorem dX5_readHead_69 : decode cX5_readHead 69 = .ok (.if_icmp .ne 5, 3) := by decide +kernel
theorem dX5_readHead_72 : decode cX5_readHead 72 = .ok (.iconst 0, 1) := by decide +kernel
theorem dX5_readHead_73 : decode cX5_readHead 73 = .ok (.ireturn, 1) := by decide +kernel
theorem dX5_readHead_74 : decode cX5_readHead 74 = .ok (.aload_n 1, 1) := by decide +kernel
theorem dX5_readHead_75 : decode cX5_readHead 75 = .ok (.iload_n 2, 1) := by decide +kernel
theorem dX5_readHead_76 : decode cX5_readHead 76 = .ok (.iconst 1, 1) := by decide +kernel
theorem dX5_readHead_77 : decode cX5_readHead 77 = .ok (.iadd, 1) := by decide +kernel
theorem dX5_readHead_78 : decode cX5_readHead 78 = .ok (.iload_n 3, 1) := by decide +kernel
theorem dX5_readHead_79 : decode cX5_readHead 79 = .ok (.iconst 1, 1) := by decide +kernel
theorem dX5_readHead_80 : decode cX5_readHead 80 = .ok (.iadd, 1) := by decide +kernel
theorem dX5_readHead_81 : decode cX5_readHead 81 = .ok (.invokevirtual 59, 3) := by decide +kernel
theorem dX5_readHead_84 : decode cX5_readHead 84 = .ok (.aload_n 1, 1) := by decide +kernel
theorem dX5_readHead_85 : decode cX5_readHead 85 = .ok (.iload 4, 2) := by decide +kernel
theorem dX5_readHead_87 : decode cX5_readHead 87 = .ok (.putfield 63, 3) := by decide +kernel
theorem dX5_readHead_90 : decode cX5_readHead 90 = .ok (.aload_n 1, 1) := by decide +kernel
theorem dX5_readHead_91 : decode cX5_readHead 91 = .ok (.iload 5, 2) := by decide +kernel
theorem dX5_readHead_93 : decode cX5_readHead 93 = .ok (.iconst 1, 1) := by decide +kernel
theorem dX5_readHead_94 : decode cX5_readHead 94 = .ok (.if_icmp .ne 7, 3) := by decide +kernel
theorem dX5_readHead_97 : decode cX5_readHead 97 = .ok (.iconst 1, 1) := by decide +kernel
theorem dX5_readHead_98 : decode cX5_readHead 98 = .ok (.goto 4, 3) := by decide +kernel
theorem dX5_readHead_101 : decode cX5_readHead 101 = .ok (.iconst 0, 1) := by decide +kernel
theorem dX5_readHead_102 : decode cX5_readHead 102 = .ok (.putfield 66, 3) := by decide +kernel
theorem dX5_readHead_105 : decode cX5_readHead 105 = .ok (.iconst 1, 1) := by decide +kernel
theorem dX5_readHead_106 : decode cX5_readHead 106 = .ok (.ireturn, 1) := by decide +kernel
theorem dX5_readMode_0 : decode cX5_readMode 0 = .ok (.aload_n 1, 1) := by decide +kernel
theorem dX5_readMode_1 : decode cX5_readMode 1 = .ok (.iload_n 2, 1) := by decide +kernel
theorem dX5_readMode_2 : decode cX5_readMode 2 = .ok (.invokevirtual 70, 3) := by decide +kernel
theorem dX5_readMode_5 : decode cX5_readMode 5 = .ok (.istore_n 3, 1) := by decide +kernel
theorem dX5_readMode_6 : decode cX5_readMode 6 = .ok (.aload_n 0, 1) := by decide +kernel
theorem dX5_readMode_7 : decode cX5_readMode 7 = .ok (.getfield 14, 3) := by decide +kernel
theorem dX5_readMode_10 : decode cX5_readMode 10 = .ok (.iconst 1, 1) := by decide +kernel
theorem dX5_readMode_11 : decode cX5_readMode 11 = .ok (.invokevirtual 55, 3) := by decide +kernel
theorem dX5_readMode_14 : decode cX5_readMode 14 = .ok (.istore 4, 2) := by decide +kernel
theorem dX5_readMode_16 : decode cX5_readMode 16 = .ok (.iload 4, 2) := by decide +kernel
theorem dX5_readMode_18 : decode cX5_readMode 18 = .ok (.iconst (-1), 1) := by decide +kernel
theorem dX5_readMode_19 : decode cX5_readMode 19 = .ok (.if_icmp .ne 5, 3) := by decide +kernel
theorem dX5_readMode_22 : decode cX5_readMode 22 = .ok (.iconst 0, 1) := by decide +kernel
theorem dX5_readMode_23 : decode cX5_readMode 23 = .ok (.ireturn, 1) := by decide +kernel
theorem dX5_readMode_24 : decode cX5_readMode 24 = .ok (.iload 4, 2) := by decide +kernel
theorem dX5_readMode_26 : decode cX5_readMode 26 = .ok (.iconst 1, 1) := by decide +kernel
theorem dX5_readMode_27 : decode cX5_readMode 27 = .ok (.if_icmp .ne 12, 3) := by decide +kernel
theorem dX5_readMode_30 : decode cX5_readMode 30 = .ok (.aload_n 1, 1) := by decide +kernel
theorem dX5_readMode_31 : decode cX5_readMode 31 = .ok (.getfield 73, 3) := by decide +kernel
theorem dX5_readMode_34 : decode cX5_readMode 34 = .ok (.iload_n 2, 1) := by decide +kernel
theorem dX5_readMode_35 : decode cX5_readMode 35 = .ok (.iload_n 3, 1) := by decide +kernel
theorem dX5_readMode_36 : decode cX5_readMode 36 = .ok (.iastore, 1) := by decide +kernel
theorem dX5_readMode_37 : decode cX5_readMode 37 = .ok (.iconst 1, 1) := by decide +kernel
theorem dX5_readMode_38 : decode cX5_readMode 38 = .ok (.ireturn, 1) := by decide +kernel
theorem dX5_readMode_39 : decode cX5_readMode 39 = .ok (.aload_n 0, 1) := by decide +kernel
theorem dX5_readMode_40 : decode cX5_readMode 40 = .ok (.getfield 14, 3) := by decide +kernel
theorem dX5_readMode_43 : decode cX5_readMode 43 = .ok (.getfield 77, 3) := by decide +kernel
theorem dX5_readMode_46 : decode cX5_readMode 46 = .ok (.istore 5, 2) := by decide +kernel
theorem dX5_readMode_48 : decode cX5_readMode 48 = .ok (.aload_n 0, 1) := by decide +kernel
theorem dX5_readMode_49 : decode cX5_readMode 49 = .ok (.getfield 14, 3) := by decide +kernel
theorem dX5_readMode_52 : decode cX5_readMode 52 = .ok (.iconst 3, 1) := by decide +kernel
theorem dX5_readMode_53 : decode cX5_readMode 53 = .ok (.invokevirtual 55, 3) := by decide +kernel
theorem dX5_readMode_56 : decode cX5_readMode 56 = .ok (.istore 6, 2) := by decide +kernel
theorem dX5_readMode_58 : decode cX5_readMode 58 = .ok (.iload 6, 2) := by decide +kernel
theorem dX5_readMode_60 : decode cX5_readMode 60 = .ok (.iconst (-1), 1) := by decide +kernel
theorem dX5_readMode_61 : decode cX5_readMode 61 = .ok (.if_icmp .ne 5, 3) := by decide +kernel
theorem dX5_readMode_64 : decode cX5_readMode 64 = .ok (.iconst 0, 1) := by decide +kernel
theorem dX5_readMode_65 : decode cX5_readMode 65 = .ok (.ireturn, 1) := by decide +kernel
theorem dX5_readMode_66 : decode cX5_readMode 66 = .ok (.iload 6, 2) := by decide +kernel
theorem dX5_readMode_68 : decode cX5_readMode 68 = .ok (.iload_n 3, 1) := by decide +kernel
theorem dX5_readMode_69 : decode cX5_readMode 69 = .ok (.if_icmp .ge 8, 3) := by decide +kernel
theorem dX5_readMode_72 : decode cX5_readMode 72 = .ok (.iload 6, 2) := by decide +kernel
theorem dX5_readMode_74 : decode cX5_readMode 74 = .ok (.goto 7, 3) := by decide +kernel
theorem dX5_readMode_77 : decode cX5_readMode 77 = .ok (.iload 6, 2) := by decide +kernel
theorem dX5_readMode_79 : decode cX5_readMode 79 = .ok (.iconst 1, 1) := by decide +kernel
theorem dX5_readMode_80 : decode cX5_readMode 80 = .ok (.iadd, 1) := by decide +kernel
theorem dX5_readMode_81 : decode cX5_readMode 81 = .ok (.istore 7, 2) := by decide +kernel
theorem dX5_readMode_83 : decode cX5_readMode 83 = .ok (.iload 7, 2) := by decide +kernel
theorem dX5_readMode_85 : decode cX5_readMode 85 = .ok (.aload_n 1, 1) := by decide +kernel
theorem dX5_readMode_86 : decode cX5_readMode 86 = .ok (.iload_n 2, 1) := by decide +kernel
theorem dX5_readMode_87 : decode cX5_readMode 87 = .ok (.invokevirtual 80, 3) := by decide +kernel
theorem dX5_readMode_90 : decode cX5_readMode 90 = .ok (.aload_n 1, 1) := by decide +kernel
theorem dX5_readMode_91 : decode cX5_readMode 91 = .ok (.iload_n 2, 1) := by decide +kernel
theorem dX5_readMode_92 : decode cX5_readMode 92 = .ok (.invokevirtual 84, 3) := by decide +kernel
theorem dX5_readMode_95 : decode cX5_readMode 95 = .ok (.invokestatic 87, 3) := by decide +kernel
theorem dX5_readMode_98 : decode cX5_readMode 98 = .ok (.ifCond .ne 15, 3) := by decide +kernel
theorem dX5_readMode_101 : decode cX5_readMode 101 = .ok (.aload_n 0, 1) := by decide +kernel
theorem dX5_readMode_102 : decode cX5_readMode 102 = .ok (.getfield 14, 3) := by decide +kernel
theorem dX5_readMode_105 : decode cX5_readMode 105 = .ok (.iconst 3, 1) := by decide +kernel
theorem dX5_readMode_106 : decode cX5_readMode 106 = .ok (.iload 5, 2) := by decide +kernel
theorem dX5_readMode_108 : decode cX5_readMode 108 = .ok (.invokevirtual 91, 3) := by decide +kernel
theorem dX5_readMode_111 : decode cX5_readMode 111 = .ok (.iconst 0, 1) := by decide +kernel
theorem dX5_readMode_112 : decode cX5_readMode 112 = .ok (.ireturn, 1) := by decide +kernel
theorem dX5_readMode_113 : decode cX5_readMode 113 = .ok (.aload_n 1, 1) := by decide +kernel
theorem dX5_readMode_114 : decode cX5_readMode 114 = .ok (.getfield 73, 3) := by decide +kernel
theorem dX5_readMode_117 : decode cX5_readMode 117 = .ok (.iload_n 2, 1) := by decide +kernel
theorem dX5_readMode_118 : decode cX5_readMode 118 = .ok (.iload 7, 2) := by decide +kernel
theorem dX5_readMode_120 : decode cX5_readMode 120 = .ok (.iastore, 1) := by decide +kernel
theorem dX5_readMode_121 : decode cX5_readMode 121 = .ok (.iconst 1, 1) := by decide +kernel
theorem dX5_readMode_122 : decode cX5_readMode 122 = .ok (.ireturn, 1) := by decide +kernel
theorem dX5_readLevels_0 : decode cX5_readLevels 0 = .ok (.aload_n 0, 1) := by decide +kernel
theorem dX5_readLevels_1 : decode cX5_readLevels 1 = .ok (.getfield 14, 3) := by decide +kernel
theorem dX5_readLevels_4 : decode cX5_readLevels 4 = .ok (.bipush 16, 2) := by decide +kernel
theorem dX5_readLevels_6 : decode cX5_readLevels 6 = .ok (.iconst 4, 1) := by decide +kernel
theorem dX5_readLevels_7 : decode cX5_readLevels 7 = .ok (.invokevirtual 51, 3) := by decide +kernel
theorem dX5_readLevels_10 : decode cX5_readLevels 10 = .ok (.istore_n 3, 1) := by decide +kernel
theorem dX5_readLevels_11 : decode cX5_readLevels 11 = .ok (.iconst 0, 1) := by decide +kernel
theorem dX5_readLevels_12 : decode cX5_readLevels 12 = .ok (.istore 4, 2) := by decide +kernel
theorem dX5_readLevels_14 : decode cX5_readLevels 14 = .ok (.iconst 0, 1) := by decide +kernel
theorem dX5_readLevels_15 : decode cX5_readLevels 15 = .ok (.istore 5, 2) := by decide +kernel
theorem dX5_readLevels_17 : decode cX5_readLevels 17 = .ok (.iload 5, 2) := by decide +kernel
theorem dX5_readLevels_19 : decode cX5_readLevels 19 = .ok (.iload_n 3, 1) := by decide +kernel
theorem dX5_readLevels_20 : decode cX5_readLevels 20 = .ok (.if_icmp .ge 72, 3) := by decide +kernel
theorem dX5_readLevels_23 : decode cX5_readLevels 23 = .ok (.aload_n 0, 1) := by decide +kernel
theorem dX5_readLevels_24 : decode cX5_readLevels 24 = .ok (.getfield 14, 3) := by decide +kernel
theorem dX5_readLevels_27 : decode cX5_readLevels 27 = .ok (.bipush 15, 2) := by decide +kernel
theorem dX5_readLevels_29 : decode cX5_readLevels 29 = .ok (.iload 4, 2) := by decide +kernel
theorem dX5_readLevels_31 : decode cX5_readLevels 31 = .ok (.isub, 1) := by decide +kernel
theorem dX5_readLevels_32 : decode cX5_readLevels 32 = .ok (.iconst 5, 1) := by decide +kernel
theorem dX5_readLevels_33 : decode cX5_readLevels 33 = .ok (.invokevirtual 51, 3) := by decide +kernel
theorem dX5_readLevels_36 : decode cX5_readLevels 36 = .ok (.istore 6, 2) := by decide +kernel
theorem dX5_readLevels_38 : decode cX5_readLevels 38 = .ok (.iload 6, 2) := by decide +kernel
theorem dX5_readLevels_40 : decode cX5_readLevels 40 = .ok (.iconst (-1), 1) := by decide +kernel
theorem dX5_readLevels_41 : decode cX5_readLevels 41 = .ok (.if_icmp .ne 5, 3) := by decide +kernel
theorem dX5_readLevels_44 : decode cX5_readLevels 44 = .ok (.iconst 0, 1) := by decide +kernel
theorem dX5_readLevels_45 : decode cX5_readLevels 45 = .ok (.ireturn, 1) := by decide +kernel
theorem dX5_readLevels_46 : decode cX5_readLevels 46 = .ok (.aload_n 0, 1) := by decide +kernel
theorem dX5_readLevels_47 : decode cX5_readLevels 47 = .ok (.getfield 14, 3) := by decide +kernel
theorem dX5_readLevels_50 : decode cX5_readLevels 50 = .ok (.invokevirtual 94, 3) := by decide +kernel
theorem dX5_readLevels_53 : decode cX5_readLevels 53 = .ok (.istore 7, 2) := by decide +kernel
theorem dX5_readLevels_55 : decode cX5_readLevels 55 = .ok (.iload 7, 2) := by decide +kernel
theorem dX5_readLevels_57 : decode cX5_readLevels 57 = .ok (.ifCond .ne 5, 3) := by decide +kernel
theorem dX5_readLevels_60 : decode cX5_readLevels 60 = .ok (.iconst 0, 1) := by decide +kernel
theorem dX5_readLevels_61 : decode cX5_readLevels 61 = .ok (.ireturn, 1) := by decide +kernel
theorem dX5_readLevels_62 : decode cX5_readLevels 62 = .ok (.iload 4, 2) := by decide +kernel
theorem dX5_readLevels_64 : decode cX5_readLevels 64 = .ok (.iload 6, 2) := by decide +kernel
theorem dX5_readLevels_66 : decode cX5_readLevels 66 = .ok (.iadd, 1) := by decide +kernel
theorem dX5_readLevels_67 : decode cX5_readLevels 67 = .ok (.istore 4, 2) := by decide +kernel
theorem dX5_readLevels_69 : decode cX5_readLevels 69 = .ok (.aload_n 1, 1) := by decide +kernel
theorem dX5_readLevels_70 : decode cX5_readLevels 70 = .ok (.getfield 97, 3) := by decide +kernel
theorem dX5_readLevels_73 : decode cX5_readLevels 73 = .ok (.bipush 16, 2) := by decide +kernel
theorem dX5_readLevels_75 : decode cX5_readLevels 75 = .ok (.iload_n 2, 1) := by decide +kernel
theorem dX5_readLevels_76 : decode cX5_readLevels 76 = .ok (.imul, 1) := by decide +kernel
theorem dX5_readLevels_77 : decode cX5_readLevels 77 = .ok (.iload 4, 2) := by decide +kernel
theorem dX5_readLevels_79 : decode cX5_readLevels 79 = .ok (.iadd, 1) := by decide +kernel
theorem dX5_readLevels_80 : decode cX5_readLevels 80 = .ok (.iload 7, 2) := by decide +kernel
theorem dX5_readLevels_82 : decode cX5_readLevels 82 = .ok (.iastore, 1) := by decide +kernel
theorem dX5_readLevels_83 : decode cX5_readLevels 83 = .ok (.iinc 4 1, 3) := by decide +kernel
theorem dX5_readLevels_86 : decode cX5_readLevels 86 = .ok (.iinc 5 1, 3) := by decide +kernel
theorem dX5_readLevels_89 : decode cX5_readLevels 89 = .ok (.goto (-72), 3) := by decide +kernel
theorem dX5_readLevels_92 : decode cX5_readLevels 92 = .ok (.iload_n 3, 1) := by decide +kernel
theorem dX5_readLevels_93 : decode cX5_readLevels 93 = .ok (.iconst (-1), 1) := by decide +kernel
theorem dX5_readLevels_94 : decode cX5_readLevels 94 = .ok (.if_icmp .eq 7, 3) := by decide +kernel
theorem dX5_readLevels_97 : decode cX5_readLevels 97 = .ok (.iconst 1, 1) := by decide +kernel
theorem dX5_readLevels_98 : decode cX5_readLevels 98 = .ok (.goto 4, 3) := by decide +kernel
theorem dX5_readLevels_101 : decode cX5_readLevels 101 = .ok (.iconst 0, 1) := by decide +kernel
theorem dX5_readLevels_102 : decode cX5_readLevels 102 = .ok (.ireturn, 1) := by decide +kernel
theorem dX6_init_0 : decode cX6_init 0 = .ok (.aload_n 0, 1) := by decide +kernel
theorem dX6_init_1 : decode cX6_init 1 = .ok (.invokespecial 3, 3) := by decide +kernel
theorem dX6_init_4 : decode cX6_init 4 = .ok (.aload_n 0, 1) := by decide +kernel
theorem dX6_init_5 : decode cX6_init 5 = .ok (.aload_n 1, 1) := by decide +kernel
theorem dX6_init_6 : decode cX6_init 6 = .ok (.putfield 9, 3) := by decide +kernel
theorem dX6_init_9 : decode cX6_init 9 = .ok (.return_, 1) := by decide +kernel
theorem dX6_write_0 : decode cX6_write 0 = .ok (.aload_n 0, 1) := by decide +kernel
theorem dX6_write_1 : decode cX6_write 1 = .ok (.getfield 9, 3) := by decide +kernel
theorem dX6_write_4 : decode cX6_write 4 = .ok (.iconst 0, 1) := by decide +kernel
theorem dX6_write_5 : decode cX6_write 5 = .ok (.putfield 15, 3) := by decide +kernel
theorem dX6_write_8 : decode cX6_write 8 = .ok (.aload_n 0, 1) := by decide +kernel
theorem dX6_write_9 : decode cX6_write 9 = .ok (.iconst 0, 1) := by decide +kernel
theorem dX6_write_10 : decode cX6_write 10 = .ok (.putfield 21, 3) := by decide +kernel
theorem dX6_write_13 : decode cX6_write 13 = .ok (.aload_n 0, 1) := by decide +kernel
theorem dX6_write_14 : decode cX6_write 14 = .ok (.iconst 0, 1) := by decide +kernel
theorem dX6_write_15 : decode cX6_write 15 = .ok (.putfield 24, 3) := by decide +kernel
theorem dX6_write_18 : decode cX6_write 18 = .ok (.aload_n 0, 1) := by decide +kernel
theorem dX6_write_19 : decode cX6_write 19 = .ok (.aload_n 1, 1) := by decide +kernel
theorem dX6_write_20 : decode cX6_write 20 = .ok (.getfield 27, 3) := by decide +kernel
theorem dX6_write_23 : decode cX6_write 23 = .ok (.iconst 1, 1) := by decide +kernel
theorem dX6_write_24 : decode cX6_write 24 = .ok (.isub, 1) := by decide +kernel
theorem dX6_write_25 : decode cX6_write 25 = .ok (.invokevirtual 32, 3) := by decide +kernel
theorem dX6_write_28 : decode cX6_write 28 = .ok (.aload_n 0, 1) := by decide +kernel
theorem dX6_write_29 : decode cX6_write 29 = .ok (.aload_n 1, 1) := by decide +kernel
theorem dX6_write_30 : decode cX6_write 30 = .ok (.getfield 36, 3) := by decide +kernel
theorem dX6_write_33 : decode cX6_write 33 = .ok (.iconst 1, 1) := by decide +kernel
theorem dX6_write_34 : decode cX6_write 34 = .ok (.isub, 1) := by decide +kernel
theorem dX6_write_35 : decode cX6_write 35 = .ok (.invokevirtual 32, 3) := by decide +kernel
theorem dX6_write_38 : decode cX6_write 38 = .ok (.aload_n 0, 1) := by decide +kernel
theorem dX6_write_39 : decode cX6_write 39 = .ok (.aload_n 1, 1) := by decide +kernel
theorem dX6_write_40 : decode cX6_write 40 = .ok (.getfield 39, 3) := by decide +kernel
theorem dX6_write_43 : decode cX6_write 43 = .ok (.invokevirtual 32, 3) := by decide +kernel
theorem dX6_write_46 : decode cX6_write 46 = .ok (.aload_n 0, 1) := by decide +kernel
theorem dX6_write_47 : decode cX6_write 47 = .ok (.aload_n 1, 1) := by decide +kernel
theorem dX6_write_48 : decode cX6_write 48 = .ok (.getfield 42, 3) := by decide +kernel
theorem dX6_write_51 : decode cX6_write 51 = .ok (.ifCond .eq 7, 3) := by decide +kernel
theorem dX6_write_54 : decode cX6_write 54 = .ok (.iconst 1, 1) := by decide +kernel
theorem dX6_write_55 : decode cX6_write 55 = .ok (.goto 4, 3) := by decide +kernel
theorem dX6_write_58 : decode cX6_write 58 = .ok (.iconst 0, 1) := by decide +kernel
theorem dX6_write_59 : decode cX6_write 59 = .ok (.iconst 1, 1) := by decide +kernel
theorem dX6_write_60 : decode cX6_write 60 = .ok (.invokevirtual 46, 3) := by decide +kernel
theorem dX6_write_63 : decode cX6_write 63 = .ok (.iconst 0, 1) := by decide +kernel
theorem dX6_write_64 : decode cX6_write 64 = .ok (.istore_n 2, 1) := by decide +kernel
theorem dX6_write_65 : decode cX6_write 65 = .ok (.iload_n 2, 1) := by decide +kernel
theorem dX6_write_66 : decode cX6_write 66 = .ok (.aload_n 1, 1) := by decide +kernel
theorem dX6_write_67 : decode cX6_write 67 = .ok (.invokevirtual 50, 3) := by decide +kernel
theorem dX6_write_70 : decode cX6_write 70 = .ok (.if_icmp .ge 36, 3) := by decide +kernel
theorem dX6_write_73 : decode cX6_write 73 = .ok (.aload_n 0, 1) := by decide +kernel
theorem dX6_write_74 : decode cX6_write 74 = .ok (.aload_n 1, 1) := by decide +kernel
theorem dX6_write_75 : decode cX6_write 75 = .ok (.getfield 54, 3) := by decide +kernel
theorem dX6_write_78 : decode cX6_write 78 = .ok (.iload_n 2, 1) := by decide +kernel
theorem dX6_write_79 : decode cX6_write 79 = .ok (.iaload, 1) := by decide +kernel
theorem dX6_write_80 : decode cX6_write 80 = .ok (.aload_n 1, 1) := by decide +kernel
theorem dX6_write_81 : decode cX6_write 81 = .ok (.iload_n 2, 1) := by decide +kernel
theorem dX6_write_82 : decode cX6_write 82 = .ok (.invokevirtual 58, 3) := by decide +kernel
theorem dX6_write_85 : decode cX6_write 85 = .ok (.invokevirtual 62, 3) := by decide +kernel
theorem dX6_write_88 : decode cX6_write 88 = .ok (.aload_n 0, 1) := by decide +kernel
theorem dX6_write_89 : decode cX6_write 89 = .ok (.aload_n 1, 1) := by decide +kernel
theorem dX6_write_90 : decode cX6_write 90 = .ok (.getfield 65, 3) := by decide +kernel
theorem dX6_write_93 : decode cX6_write 93 = .ok (.bipush 16, 2) := by decide +kernel
theorem dX6_write_95 : decode cX6_write 95 = .ok (.iload_n 2, 1) := by decide +kernel
theorem dX6_write_96 : decode cX6_write 96 = .ok (.imul, 1) := by decide +kernel
theorem dX6_write_97 : decode cX6_write 97 = .ok (.invokevirtual 68, 3) := by decide +kernel
theorem dX6_write_100 : decode cX6_write 100 = .ok (.iinc 2 1, 3) := by decide +kernel
theorem dX6_write_103 : decode cX6_write 103 = .ok (.goto (-38), 3) := by decide +kernel
theorem dX6_write_106 : decode cX6_write 106 = .ok (.aload_n 0, 1) := by decide +kernel
theorem dX6_write_107 : decode cX6_write 107 = .ok (.getfield 24, 3) := by decide +kernel
theorem dX6_write_110 : decode cX6_write 110 = .ok (.ifCond .le 15, 3) := by decide +kernel
theorem dX6_write_113 : decode cX6_write 113 = .ok (.aload_n 0, 1) := by decide +kernel
theorem dX6_write_114 : decode cX6_write 114 = .ok (.iconst 0, 1) := by decide +kernel
theorem dX6_write_115 : decode cX6_write 115 = .ok (.bipush 8, 2) := by decide +kernel
theorem dX6_write_117 : decode cX6_write 117 = .ok (.aload_n 0, 1) := by decide +kernel
theorem dX6_write_118 : decode cX6_write 118 = .ok (.getfield 24, 3) := by decide +kernel
theorem dX6_write_121 : decode cX6_write 121 = .ok (.isub, 1) := by decide +kernel
theorem dX6_write_122 : decode cX6_write 122 = .ok (.invokevirtual 46, 3) := by decide +kernel
theorem dX6_write_125 : decode cX6_write 125 = .ok (.return_, 1) := by decide +kernel
theorem dX6_writeMode_0 : decode cX6_writeMode 0 = .ok (.iload_n 1, 1) := by decide +kernel
theorem dX6_writeMode_1 : decode cX6_writeMode 1 = .ok (.iload_n 2, 1) := by decide +kernel
theorem dX6_writeMode_2 : decode cX6_writeMode 2 = .ok (.if_icmp .ne 12, 3) := by decide +kernel
theorem dX6_writeMode_5 : decode cX6_writeMode 5 = .ok (.aload_n 0, 1) := by decide +kernel
theorem dX6_writeMode_6 : decode cX6_writeMode 6 = .ok (.iconst 1, 1) := by decide +kernel
theorem dX6_writeMode_7 : decode cX6_writeMode 7 = .ok (.iconst 1, 1) := by decide +kernel
theorem dX6_writeMode_8 : decode cX6_writeMode 8 = .ok (.invokevirtual 46, 3) := by decide +kernel
theorem dX6_writeMode_11 : decode cX6_writeMode 11 = .ok (.goto 26, 3) := by decide +kernel
theorem dX6_writeMode_14 : decode cX6_writeMode 14 = .ok (.aload_n 0, 1) := by decide +kernel
theorem dX6_writeMode_15 : decode cX6_writeMode 15 = .ok (.iconst 0, 1) := by decide +kernel
theorem dX6_writeMode_16 : decode cX6_writeMode 16 = .ok (.iconst 1, 1) := by decide +kernel
theorem dX6_writeMode_17 : decode cX6_writeMode 17 = .ok (.invokevirtual 46, 3) := by decide +kernel
theorem dX6_writeMode_20 : decode cX6_writeMode 20 = .ok (.aload_n 0, 1) := by decide +kernel
theorem dX6_writeMode_21 : decode cX6_writeMode 21 = .ok (.iload_n 1, 1) := by decide +kernel
theorem dX6_writeMode_22 : decode cX6_writeMode 22 = .ok (.iload_n 2, 1) := by decide +kernel
theorem dX6_writeMode_23 : decode cX6_writeMode 23 = .ok (.if_icmp .le 9, 3) := by decide +kernel
theorem dX6_writeMode_26 : decode cX6_writeMode 26 = .ok (.iload_n 1, 1) := by decide +kernel
theorem dX6_writeMode_27 : decode cX6_writeMode 27 = .ok (.iconst 1, 1) := by decide +kernel
theorem dX6_writeMode_28 : decode cX6_writeMode 28 = .ok (.isub, 1) := by decide +kernel
theorem dX6_writeMode_29 : decode cX6_writeMode 29 = .ok (.goto 4, 3) := by decide +kernel
theorem dX6_writeMode_32 : decode cX6_writeMode 32 = .ok (.iload_n 1, 1) := by decide +kernel
theorem dX6_writeMode_33 : decode cX6_writeMode 33 = .ok (.iconst 3, 1) := by decide +kernel
theorem dX6_writeMode_34 : decode cX6_writeMode 34 = .ok (.invokevirtual 46, 3) := by decide +kernel
theorem dX6_writeMode_37 : decode cX6_writeMode 37 = .ok (.return_, 1) := by decide +kernel
theorem dX6_writeLevels_0 : decode cX6_writeLevels 0 = .ok (.iconst 0, 1) := by decide +kernel
theorem dX6_writeLevels_1 : decode cX6_writeLevels 1 = .ok (.istore_n 3, 1) := by decide +kernel
theorem dX6_writeLevels_2 : decode cX6_writeLevels 2 = .ok (.iconst 0, 1) := by decide +kernel
theorem dX6_writeLevels_3 : decode cX6_writeLevels 3 = .ok (.istore 4, 2) := by decide +kernel
theorem dX6_writeLevels_5 : decode cX6_writeLevels 5 = .ok (.iload 4, 2) := by decide +kernel
theorem dX6_writeLevels_7 : decode cX6_writeLevels 7 = .ok (.bipush 16, 2) := by decide +kernel
theorem dX6_writeLevels_9 : decode cX6_writeLevels 9 = .ok (.if_icmp .ge 21, 3) := by decide +kernel
theorem dX6_writeLevels_12 : decode cX6_writeLevels 12 = .ok (.aload_n 1, 1) := by decide +kernel
theorem dX6_writeLevels_13 : decode cX6_writeLevels 13 = .ok (.iload_n 2, 1) := by decide +kernel
theorem dX6_writeLevels_14 : decode cX6_writeLevels 14 = .ok (.iload 4, 2) := by decide +kernel
theorem dX6_writeLevels_16 : decode cX6_writeLevels 16 = .ok (.iadd, 1) := by decide +kernel
theorem dX6_writeLevels_17 : decode cX6_writeLevels 17 = .ok (.iaload, 1) := by decide +kernel
theorem dX6_writeLevels_18 : decode cX6_writeLevels 18 = .ok (.ifCond .eq 6, 3) := by decide +kernel
theorem dX6_writeLevels_21 : decode cX6_writeLevels 21 = .ok (.iinc 3 1, 3) := by decide +kernel
theorem dX6_writeLevels_24 : decode cX6_writeLevels 24 = .ok (.iinc 4 1, 3) := by decide +kernel
theorem dX6_writeLevels_27 : decode cX6_writeLevels 27 = .ok (.goto (-22), 3) := by decide +kernel
theorem dX6_writeLevels_30 : decode cX6_writeLevels 30 = .ok (.aload_n 0, 1) := by decide +kernel
theorem dX6_writeLevels_31 : decode cX6_writeLevels 31 = .ok (.iload_n 3, 1) := by decide +kernel
theorem dX6_writeLevels_32 : decode cX6_writeLevels 32 = .ok (.invokevirtual 32, 3) := by decide +kernel
theorem dX6_writeLevels_35 : decode cX6_writeLevels 35 = .ok (.iconst 0, 1) := by decide +kernel
theorem dX6_writeLevels_36 : decode cX6_writeLevels 36 = .ok (.istore 4, 2) := by decide +kernel
theorem dX6_writeLevels_38 : decode cX6_writeLevels 38 = .ok (.iconst 0, 1) := by decide +kernel
theorem dX6_writeLevels_39 : decode cX6_writeLevels 39 = .ok (.istore 5, 2) := by decide +kernel
theorem dX6_writeLevels_41 : decode cX6_writeLevels 41 = .ok (.iload 5, 2) := by decide +kernel
theorem dX6_writeLevels_43 : decode cX6_writeLevels 43 = .ok (.bipush 16, 2) := by decide +kernel
theorem dX6_writeLevels_45 : decode cX6_writeLevels 45 = .ok (.if_icmp .ge 60, 3) := by decide +kernel
theorem dX6_writeLevels_48 : decode cX6_writeLevels 48 = .ok (.aload_n 1, 1) := by decide +kernel
theorem dX6_writeLevels_49 : decode cX6_writeLevels 49 = .ok (.iload_n 2, 1) := by decide +kernel
theorem dX6_writeLevels_50 : decode cX6_writeLevels 50 = .ok (.iload 5, 2) := by decide +kernel
theorem dX6_writeLevels_52 : decode cX6_writeLevels 52 = .ok (.iadd, 1) := by decide +kernel
theorem dX6_writeLevels_53 : decode cX6_writeLevels 53 = .ok (.iaload, 1) := by decide +kernel
theorem dX6_writeLevels_54 : decode cX6_writeLevels 54 = .ok (.istore 6, 2) := by decide +kernel
theorem dX6_writeLevels_56 : decode cX6_writeLevels 56 = .ok (.iload 6, 2) := by decide +kernel
theorem dX6_writeLevels_58 : decode cX6_writeLevels 58 = .ok (.ifCond .ne 9, 3) := by decide +kernel
theorem dX6_writeLevels_61 : decode cX6_writeLevels 61 = .ok (.iinc 4 1, 3) := by decide +kernel
theorem dX6_writeLevels_64 : decode cX6_writeLevels 64 = .ok (.goto 35, 3) := by decide +kernel
theorem dX6_writeLevels_67 : decode cX6_writeLevels 67 = .ok (.aload_n 0, 1) := by decide +kernel
theorem dX6_writeLevels_68 : decode cX6_writeLevels 68 = .ok (.iload 4, 2) := by decide +kernel
theorem dX6_writeLevels_70 : decode cX6_writeLevels 70 = .ok (.invokevirtual 32, 3) := by decide +kernel
theorem dX6_writeLevels_73 : decode cX6_writeLevels 73 = .ok (.aload_n 0, 1) := by decide +kernel
theorem dX6_writeLevels_74 : decode cX6_writeLevels 74 = .ok (.iload 6, 2) := by decide +kernel
theorem dX6_writeLevels_76 : decode cX6_writeLevels 76 = .ok (.ifCond .le 12, 3) := by decide +kernel
theorem dX6_writeLevels_79 : decode cX6_writeLevels 79 = .ok (.iconst 2, 1) := by decide +kernel
theorem dX6_writeLevels_80 : decode cX6_writeLevels 80 = .ok (.iload 6, 2) := by decide +kernel
theorem dX6_writeLevels_82 : decode cX6_writeLevels 82 = .ok (.imul, 1) := by decide +kernel
theorem dX6_writeLevels_83 : decode cX6_writeLevels 83 = .ok (.iconst 1, 1) := by decide +kernel
theorem dX6_writeLevels_84 : decode cX6_writeLevels 84 = .ok (.isub, 1) := by decide +kernel
theorem dX6_writeLevels_85 : decode cX6_writeLevels 85 = .ok (.goto 8, 3) := by decide +kernel
theorem dX6_writeLevels_88 : decode cX6_writeLevels 88 = .ok (.bipush (-2), 2) := by decide +kernel
theorem dX6_writeLevels_90 : decode cX6_writeLevels 90 = .ok (.iload 6, 2) := by decide +kernel
theorem dX6_writeLevels_92 : decode cX6_writeLevels 92 = .ok (.imul, 1) := by decide +kernel
theorem dX6_writeLevels_93 : decode cX6_writeLevels 93 = .ok (.invokevirtual 32, 3) := by decide +kernel
theorem dX6_writeLevels_96 : decode cX6_writeLevels 96 = .ok (.iconst 0, 1) := by decide +kernel
theorem dX6_writeLevels_97 : decode cX6_writeLevels 97 = .ok (.istore 4, 2) := by decide +kernel
theorem dX6_writeLevels_99 : decode cX6_writeLevels 99 = .ok (.iinc 5 1, 3) := by decide +kernel
theorem dX6_writeLevels_102 : decode cX6_writeLevels 102 = .ok (.goto (-61), 3) := by decide +kernel
theorem dX6_writeLevels_105 : decode cX6_writeLevels 105 = .ok (.return_, 1) := by decide +kernel
theorem dX6_writeNumber_0 : decode cX6_writeNumber 0 = .ok (.iconst 0, 1) := by decide +kernel
theorem dX6_writeNumber_1 : decode cX6_writeNumber 1 = .ok (.istore_n 2, 1) := by decide +kernel
theorem dX6_writeNumber_2 : decode cX6_writeNumber 2 = .ok (.iload_n 2, 1) := by decide +kernel
theorem dX6_writeNumber_3 : decode cX6_writeNumber 3 = .ok (.bipush 15, 2) := by decide +kernel
theorem dX6_writeNumber_5 : decode cX6_writeNumber 5 = .ok (.if_icmp .ge 19, 3) := by decide +kernel
theorem dX6_writeNumber_8 : decode cX6_writeNumber 8 = .ok (.iload_n 1, 1) := by decide +kernel
theorem dX6_writeNumber_9 : decode cX6_writeNumber 9 = .ok (.iconst 1, 1) := by decide +kernel
theorem dX6_writeNumber_10 : decode cX6_writeNumber 10 = .ok (.iadd, 1) := by decide +kernel
theorem dX6_writeNumber_11 : decode cX6_writeNumber 11 = .ok (.iload_n 2, 1) := by decide +kernel
theorem dX6_writeNumber_12 : decode cX6_writeNumber 12 = .ok (.iconst 1, 1) := by decide +kernel
theorem dX6_writeNumber_13 : decode cX6_writeNumber 13 = .ok (.iadd, 1) := by decide +kernel
theorem dX6_writeNumber_14 : decode cX6_writeNumber 14 = .ok (.ishr, 1) := by decide +kernel
theorem dX6_writeNumber_15 : decode cX6_writeNumber 15 = .ok (.ifCond .eq 9, 3) := by decide +kernel
theorem dX6_writeNumber_18 : decode cX6_writeNumber 18 = .ok (.iinc 2 1, 3) := by decide +kernel
theorem dX6_writeNumber_21 : decode cX6_writeNumber 21 = .ok (.goto (-19), 3) := by decide +kernel
theorem dX6_writeNumber_24 : decode cX6_writeNumber 24 = .ok (.aload_n 0, 1) := by decide +kernel
theorem dX6_writeNumber_25 : decode cX6_writeNumber 25 = .ok (.iconst 0, 1) := by decide +kernel
theorem dX6_writeNumber_26 : decode cX6_writeNumber 26 = .ok (.iload_n 2, 1) := by decide +kernel
theorem dX6_writeNumber_27 : decode cX6_writeNumber 27 = .ok (.invokevirtual 46, 3) := by decide +kernel
theorem dX6_writeNumber_30 : decode cX6_writeNumber 30 = .ok (.aload_n 0, 1) := by decide +kernel
theorem dX6_writeNumber_31 : decode cX6_writeNumber 31 = .ok (.iload_n 1, 1) := by decide +kernel
theorem dX6_writeNumber_32 : decode cX6_writeNumber 32 = .ok (.iconst 1, 1) := by decide +kernel
theorem dX6_writeNumber_33 : decode cX6_writeNumber 33 = .ok (.iadd, 1) := by decide +kernel
theorem dX6_writeNumber_34 : decode cX6_writeNumber 34 = .ok (.iload_n 2, 1) := by decide +kernel
theorem dX6_writeNumber_35 : decode cX6_writeNumber 35 = .ok (.iconst 1, 1) := by decide +kernel
theorem dX6_writeNumber_36 : decode cX6_writeNumber 36 = .ok (.iadd, 1) := by decide +kernel
theorem dX6_writeNumber_37 : decode cX6_writeNumber 37 = .ok (.invokevirtual 46, 3) := by decide +kernel
theorem dX6_writeNumber_40 : decode cX6_writeNumber 40 = .ok (.return_, 1) := by decide +kernel
theorem dX6_writeBits_0 : decode cX6_writeBits 0 = .ok (.iload_n 2, 1) := by decide +kernel
theorem dX6_writeBits_1 : decode cX6_writeBits 1 = .ok (.iconst 1, 1) := by decide +kernel
theorem dX6_writeBits_2 : decode cX6_writeBits 2 = .ok (.isub, 1) := by decide +kernel
theorem dX6_writeBits_3 : decode cX6_writeBits 3 = .ok (.istore_n 3, 1) := by decide +kernel
theorem dX6_writeBits_4 : decode cX6_writeBits 4 = .ok (.iload_n 3, 1) := by decide +kernel
theorem dX6_writeBits_5 : decode cX6_writeBits 5 = .ok (.ifCond .lt 65, 3) := by decide +kernel
theorem dX6_writeBits_8 : decode cX6_writeBits 8 = .ok (.aload_n 0, 1) := by decide +kernel
theorem dX6_writeBits_9 : decode cX6_writeBits 9 = .ok (.iconst 2, 1) := by decide +kernel
theorem dX6_writeBits_10 : decode cX6_writeBits 10 = .ok (.aload_n 0, 1) := by decide +kernel
theorem dX6_writeBits_11 : decode cX6_writeBits 11 = .ok (.getfield 21, 3) := by decide +kernel
theorem dX6_writeBits_14 : decode cX6_writeBits 14 = .ok (.imul, 1) := by decide +kernel
theorem dX6_writeBits_15 : decode cX6_writeBits 15 = .ok (.iload_n 1, 1) := by decide +kernel
theorem dX6_writeBits_16 : decode cX6_writeBits 16 = .ok (.iload_n 3, 1) := by decide +kernel
theorem dX6_writeBits_17 : decode cX6_writeBits 17 = .ok (.ishr, 1) := by decide +kernel
theorem dX6_writeBits_18 : decode cX6_writeBits 18 = .ok (.iconst 1, 1) := by decide +kernel
theorem dX6_writeBits_19 : decode cX6_writeBits 19 = .ok (.iand, 1) := by decide +kernel
theorem dX6_writeBits_20 : decode cX6_writeBits 20 = .ok (.iadd, 1) := by decide +kernel
theorem dX6_writeBits_21 : decode cX6_writeBits 21 = .ok (.putfield 21, 3) := by decide +kernel
theorem dX6_writeBits_24 : decode cX6_writeBits 24 = .ok (.aload_n 0, 1) := by decide +kernel
theorem dX6_writeBits_25 : decode cX6_writeBits 25 = .ok (.dup, 1) := by decide +kernel
theorem dX6_writeBits_26 : decode cX6_writeBits 26 = .ok (.getfield 24, 3) := by decide +kernel
theorem dX6_writeBits_29 : decode cX6_writeBits 29 = .ok (.iconst 1, 1) := by decide +kernel
theorem dX6_writeBits_30 : decode cX6_writeBits 30 = .ok (.iadd, 1) := by decide +kernel
theorem dX6_writeBits_31 : decode cX6_writeBits 31 = .ok (.putfield 24, 3) := by decide +kernel
theorem dX6_writeBits_34 : decode cX6_writeBits 34 = .ok (.aload_n 0, 1) := by decide +kernel
theorem dX6_writeBits_35 : decode cX6_writeBits 35 = .ok (.getfield 24, 3) := by decide +kernel
theorem dX6_writeBits_38 : decode cX6_writeBits 38 = .ok (.bipush 8, 2) := by decide +kernel
theorem dX6_writeBits_40 : decode cX6_writeBits 40 = .ok (.if_icmp .ne 24, 3) := by decide +kernel
theorem dX6_writeBits_43 : decode cX6_writeBits 43 = .ok (.aload_n 0, 1) := by decide +kernel
theorem dX6_writeBits_44 : decode cX6_writeBits 44 = .ok (.getfield 9, 3) := by decide +kernel
theorem dX6_writeBits_47 : decode cX6_writeBits 47 = .ok (.aload_n 0, 1) := by decide +kernel
theorem dX6_writeBits_48 : decode cX6_writeBits 48 = .ok (.getfield 21, 3) := by decide +kernel
theorem dX6_writeBits_51 : decode cX6_writeBits 51 = .ok (.invokevirtual 72, 3) := by decide +kernel
theorem dX6_writeBits_54 : decode cX6_writeBits 54 = .ok (.aload_n 0, 1) := by decide +kernel
theorem dX6_writeBits_55 : decode cX6_writeBits 55 = .ok (.iconst 0, 1) := by decide +kernel
theorem dX6_writeBits_56 : decode cX6_writeBits 56 = .ok (.putfield 21, 3) := by decide +kernel
theorem dX6_writeBits_59 : decode cX6_writeBits 59 = .ok (.aload_n 0, 1) := by decide +kernel
theorem dX6_writeBits_60 : decode cX6_writeBits 60 = .ok (.iconst 0, 1) := by decide +kernel
theorem dX6_writeBits_61 : decode cX6_writeBits 61 = .ok (.putfield 24, 3) := by decide +kernel
theorem dX6_writeBits_64 : decode cX6_writeBits 64 = .ok (.iinc 3 (-1), 3) := by decide +kernel
theorem dX6_writeBits_67 : decode cX6_writeBits 67 = .ok (.goto (-63), 3) := by decide +kernel
theorem dX6_writeBits_70 : decode cX6_writeBits 70 = .ok (.return_, 1) := by decide +kernel
theorem dX7_init_0 : decode cX7_init 0 = .ok (.aload_n 0, 1) := by decide +kernel
theorem dX7_init_1 : decode cX7_init 1 = .ok (.invokespecial 3, 3) := by decide +kernel
theorem dX7_init_4 : decode cX7_init 4 = .ok (.aload_n 0, 1) := by decide +kernel
theorem dX7_init_5 : decode cX7_init 5 = .ok (.sipush 8000, 3) := by decide +kernel
theorem dX7_init_8 : decode cX7_init 8 = .ok (.newarray .byte, 2) := by decide +kernel
theorem dX7_init_10 : decode cX7_init 10 = .ok (.putfield 9, 3) := by decide +kernel
theorem dX7_init_13 : decode cX7_init 13 = .ok (.return_, 1) := by decide +kernel
theorem dX7_get_0 : decode cX7_get 0 = .ok (.aload_n 0, 1) := by decide +kernel
theorem dX7_get_1 : decode cX7_get 1 = .ok (.getfield 9, 3) := by decide +kernel
theorem dX7_get_4 : decode cX7_get 4 = .ok (.iload_n 1, 1) := by decide +kernel
theorem dX7_get_5 : decode cX7_get 5 = .ok (.baload, 1) := by decide +kernel
theorem dX7_get_6 : decode cX7_get 6 = .ok (.sipush 255, 3) := by decide +kernel
theorem dX7_get_9 : decode cX7_get 9 = .ok (.iand, 1) := by decide +kernel
theorem dX7_get_10 : decode cX7_get 10 = .ok (.ireturn, 1) := by decide +kernel
theorem dX7_set_0 : decode cX7_set 0 = .ok (.aload_n 0, 1) := by decide +kernel
theorem dX7_set_1 : decode cX7_set 1 = .ok (.getfield 9, 3) := by decide +kernel
theorem dX7_set_4 : decode cX7_set 4 = .ok (.iload_n 1, 1) := by decide +kernel
theorem dX7_set_5 : decode cX7_set 5 = .ok (.iload_n 2, 1) := by decide +kernel
theorem dX7_set_6 : decode cX7_set 6 = .ok (.i2b, 1) := by decide +kernel
theorem dX7_set_7 : decode cX7_set 7 = .ok (.bastore, 1) := by decide +kernel
theorem dX7_set_8 : decode cX7_set 8 = .ok (.return_, 1) := by decide +kernel
theorem dX7_add_0 : decode cX7_add 0 = .ok (.aload_n 0, 1) := by decide +kernel
theorem dX7_add_1 : decode cX7_add 1 = .ok (.getfield 15, 3) := by decide +kernel
theorem dX7_add_4 : decode cX7_add 4 = .ok (.sipush 8000, 3) := by decide +kernel
theorem dX7_add_7 : decode cX7_add 7 = .ok (.if_icmp .ge 22, 3) := by decide +kernel
theorem dX7_add_10 : decode cX7_add 10 = .ok (.aload_n 0, 1) := by decide +kernel
theorem dX7_add_11 : decode cX7_add 11 = .ok (.aload_n 0, 1) := by decide +kernel
theorem dX7_add_12 : decode cX7_add 12 = .ok (.getfield 15, 3) := by decide +kernel
theorem dX7_add_15 : decode cX7_add 15 = .ok (.iload_n 1, 1) := by decide +kernel
theorem dX7_add_16 : decode cX7_add 16 = .ok (.invokevirtual 19, 3) := by decide +kernel
theorem dX7_add_19 : decode cX7_add 19 = .ok (.aload_n 0, 1) := by decide +kernel
theorem dX7_add_20 : decode cX7_add 20 = .ok (.dup, 1) := by decide +kernel
theorem dX7_add_21 : decode cX7_add 21 = .ok (.getfield 15, 3) := by decide +kernel
theorem dX7_add_24 : decode cX7_add 24 = .ok (.iconst 1, 1) := by decide +kernel
theorem dX7_add_25 : decode cX7_add 25 = .ok (.iadd, 1) := by decide +kernel
theorem dX7_add_26 : decode cX7_add 26 = .ok (.putfield 15, 3) := by decide +kernel
theorem dX7_add_29 : decode cX7_add 29 = .ok (.return_, 1) := by decide +kernel
theorem dX7_bitAt_0 : decode cX7_bitAt 0 = .ok (.aload_n 0, 1) := by decide +kernel
theorem dX7_bitAt_1 : decode cX7_bitAt 1 = .ok (.getfield 9, 3) := by decide +kernel
theorem dX7_bitAt_4 : decode cX7_bitAt 4 = .ok (.iload_n 1, 1) := by decide +kernel
theorem dX7_bitAt_5 : decode cX7_bitAt 5 = .ok (.bipush 8, 2) := by decide +kernel
theorem dX7_bitAt_7 : decode cX7_bitAt 7 = .ok (.idiv, 1) := by decide +kernel
theorem dX7_bitAt_8 : decode cX7_bitAt 8 = .ok (.baload, 1) := by decide +kernel
theorem dX7_bitAt_9 : decode cX7_bitAt 9 = .ok (.bipush 7, 2) := by decide +kernel
theorem dX7_bitAt_11 : decode cX7_bitAt 11 = .ok (.iload_n 1, 1) := by decide +kernel
theorem dX7_bitAt_12 : decode cX7_bitAt 12 = .ok (.bipush 8, 2) := by decide +kernel
theorem dX7_bitAt_14 : decode cX7_bitAt 14 = .ok (.irem, 1) := by decide +kernel
theorem dX7_bitAt_15 : decode cX7_bitAt 15 = .ok (.isub, 1) := by decide +kernel
theorem dX7_bitAt_16 : decode cX7_bitAt 16 = .ok (.ishr, 1) := by decide +kernel
theorem dX7_bitAt_17 : decode cX7_bitAt 17 = .ok (.iconst 1, 1) := by decide +kernel
theorem dX7_bitAt_18 : decode cX7_bitAt 18 = .ok (.iand, 1) := by decide +kernel
theorem dX7_bitAt_19 : decode cX7_bitAt 19 = .ok (.ireturn, 1) := by decide +kernel
theorem dX8_init_0 : decode cX8_init 0 = .ok (.aload_n 0, 1) := by decide +kernel
theorem dX8_init_1 : decode cX8_init 1 = .ok (.invokespecial 3, 3) := by decide +kernel
theorem dX8_init_4 : decode cX8_init 4 = .ok (.aload_n 0, 1) := by decide +kernel
theorem dX8_init_5 : decode cX8_init 5 = .ok (.bipush 16, 2) := by decide +kernel
theorem dX8_init_7 : decode cX8_init 7 = .ok (.newarray .int, 2) := by decide +kernel
theorem dX8_init_9 : decode cX8_init 9 = .ok (.putfield 9, 3) := by decide +kernel
theorem dX8_init_12 : decode cX8_init 12 = .ok (.return_, 1) := by decide +kernel
theorem dX8_back_0 : decode cX8_back 0 = .ok (.iconst 0, 1) := by decide +kernel
theorem dX8_back_1 : decode cX8_back 1 = .ok (.istore 4, 2) := by decide +kernel
theorem dX8_back_3 : decode cX8_back 3 = .ok (.iload 4, 2) := by decide +kernel
theorem dX8_back_5 : decode cX8_back 5 = .ok (.bipush 16, 2) := by decide +kernel
theorem dX8_back_7 : decode cX8_back 7 = .ok (.if_icmp .ge 46, 3) := by decide +kernel
theorem dX8_back_10 : decode cX8_back 10 = .ok (.getstatic 15, 3) := by decide +kernel
theorem dX8_back_13 : decode cX8_back 13 = .ok (.iload 4, 2) := by decide +kernel
theorem dX8_back_15 : decode cX8_back 15 = .ok (.iaload, 1) := by decide +kernel
theorem dX8_back_16 : decode cX8_back 16 = .ok (.istore 5, 2) := by decide +kernel
theorem dX8_back_18 : decode cX8_back 18 = .ok (.aload_n 0, 1) := by decide +kernel
theorem dX8_back_19 : decode cX8_back 19 = .ok (.getfield 9, 3) := by decide +kernel
theorem dX8_back_22 : decode cX8_back 22 = .ok (.iload 5, 2) := by decide +kernel
theorem dX8_back_24 : decode cX8_back 24 = .ok (.aload_n 1, 1) := by decide +kernel
theorem dX8_back_25 : decode cX8_back 25 = .ok (.iload_n 2, 1) := by decide +kernel
theorem dX8_back_26 : decode cX8_back 26 = .ok (.iload 4, 2) := by decide +kernel
theorem dX8_back_28 : decode cX8_back 28 = .ok (.iadd, 1) := by decide +kernel
theorem dX8_back_29 : decode cX8_back 29 = .ok (.iaload, 1) := by decide +kernel
theorem dX8_back_30 : decode cX8_back 30 = .ok (.getstatic 18, 3) := by decide +kernel
theorem dX8_back_33 : decode cX8_back 33 = .ok (.iload 5, 2) := by decide +kernel
theorem dX8_back_35 : decode cX8_back 35 = .ok (.iload_n 3, 1) := by decide +kernel
theorem dX8_back_36 : decode cX8_back 36 = .ok (.invokestatic 21, 3) := by decide +kernel
theorem dX8_back_39 : decode cX8_back 39 = .ok (.iaload, 1) := by decide +kernel
theorem dX8_back_40 : decode cX8_back 40 = .ok (.imul, 1) := by decide +kernel
theorem dX8_back_41 : decode cX8_back 41 = .ok (.iload_n 3, 1) := by decide +kernel
theorem dX8_back_42 : decode cX8_back 42 = .ok (.bipush 6, 2) := by decide +kernel
theorem dX8_back_44 : decode cX8_back 44 = .ok (.idiv, 1) := by decide +kernel
theorem dX8_back_45 : decode cX8_back 45 = .ok (.ishl, 1) := by decide +kernel
theorem dX8_back_46 : decode cX8_back 46 = .ok (.iastore, 1) := by decide +kernel
theorem dX8_back_47 : decode cX8_back 47 = .ok (.iinc 4 1, 3) := by decide +kernel
theorem dX8_back_50 : decode cX8_back 50 = .ok (.goto (-47), 3) := by decide +kernel
theorem dX8_back_53 : decode cX8_back 53 = .ok (.iconst 0, 1) := by decide +kernel
theorem dX8_back_54 : decode cX8_back 54 = .ok (.istore 4, 2) := by decide +kernel
theorem dX8_back_56 : decode cX8_back 56 = .ok (.iload 4, 2) := by decide +kernel
theorem dX8_back_58 : decode cX8_back 58 = .ok (.iconst 4, 1) := by decide +kernel
theorem dX8_back_59 : decode cX8_back 59 = .ok (.if_icmp .ge 18, 3) := by decide +kernel
theorem dX8_back_62 : decode cX8_back 62 = .ok (.aload_n 0, 1) := by decide +kernel
theorem dX8_back_63 : decode cX8_back 63 = .ok (.iconst 4, 1) := by decide +kernel
theorem dX8_back_64 : decode cX8_back 64 = .ok (.iload 4, 2) := by decide +kernel
theorem dX8_back_66 : decode cX8_back 66 = .ok (.imul, 1) := by decide +kernel
theorem dX8_back_67 : decode cX8_back 67 = .ok (.iconst 1, 1) := by decide +kernel
theorem dX8_back_68 : decode cX8_back 68 = .ok (.invokevirtual 25, 3) := by decide +kernel
theorem dX8_back_71 : decode cX8_back 71 = .ok (.iinc 4 1, 3) := by decide +kernel
theorem dX8_back_74 : decode cX8_back 74 = .ok (.goto (-18), 3) := by decide +kernel
theorem dX8_back_77 : decode cX8_back 77 = .ok (.iconst 0, 1) := by decide +kernel
theorem dX8_back_78 : decode cX8_back 78 = .ok (.istore 4, 2) := by decide +kernel
theorem dX8_back_80 : decode cX8_back 80 = .ok (.iload 4, 2) := by decide +kernel
theorem dX8_back_82 : decode cX8_back 82 = .ok (.iconst 4, 1) := by decide +kernel
theorem dX8_back_83 : decode cX8_back 83 = .ok (.if_icmp .ge 16, 3) := by decide +kernel
theorem dX8_back_86 : decode cX8_back 86 = .ok (.aload_n 0, 1) := by decide +kernel
theorem dX8_back_87 : decode cX8_back 87 = .ok (.iload 4, 2) := by decide +kernel
theorem dX8_back_89 : decode cX8_back 89 = .ok (.iconst 4, 1) := by decide +kernel
theorem dX8_back_90 : decode cX8_back 90 = .ok (.invokevirtual 25, 3) := by decide +kernel
theorem dX8_back_93 : decode cX8_back 93 = .ok (.iinc 4 1, 3) := by decide +kernel
theorem dX8_back_96 : decode cX8_back 96 = .ok (.goto (-16), 3) := by decide +kernel
theorem dX8_back_99 : decode cX8_back 99 = .ok (.iconst 0, 1) := by decide +kernel
theorem dX8_back_100 : decode cX8_back 100 = .ok (.istore 4, 2) := by decide +kernel
theorem dX8_back_102 : decode cX8_back 102 = .ok (.iload 4, 2) := by decide +kernel
theorem dX8_back_104 : decode cX8_back 104 = .ok (.bipush 16, 2) := by decide +kernel
theorem dX8_back_106 : decode cX8_back 106 = .ok (.if_icmp .ge 29, 3) := by decide +kernel
theorem dX8_back_109 : decode cX8_back 109 = .ok (.aload_n 0, 1) := by decide +kernel
theorem dX8_back_110 : decode cX8_back 110 = .ok (.getfield 9, 3) := by decide +kernel
theorem dX8_back_113 : decode cX8_back 113 = .ok (.iload 4, 2) := by decide +kernel
theorem dX8_back_115 : decode cX8_back 115 = .ok (.aload_n 0, 1) := by decide +kernel
theorem dX8_back_116 : decode cX8_back 116 = .ok (.getfield 9, 3) := by decide +kernel
theorem dX8_back_119 : decode cX8_back 119 = .ok (.iload 4, 2) := by decide +kernel
theorem dX8_back_121 : decode cX8_back 121 = .ok (.iaload, 1) := by decide +kernel
theorem dX8_back_122 : decode cX8_back 122 = .ok (.bipush 32, 2) := by decide +kernel
theorem dX8_back_124 : decode cX8_back 124 = .ok (.iadd, 1) := by decide +kernel
