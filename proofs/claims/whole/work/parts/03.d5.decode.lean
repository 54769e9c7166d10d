theorem dX10_pack_104 : decode cX10_pack 104 = .ok (.goto 4, 3) := by decide +kernel
theorem dX10_pack_107 : decode cX10_pack 107 = .ok (.iconst 0, 1) := by decide +kernel
theorem dX10_pack_108 : decode cX10_pack 108 = .ok (.iconst 1, 1) := by decide +kernel
theorem dX10_pack_109 : decode cX10_pack 109 = .ok (.invokevirtual 141, 3) := by decide +kernel
theorem dX10_pack_112 : decode cX10_pack 112 = .ok (.iconst 0, 1) := by decide +kernel
theorem dX10_pack_113 : decode cX10_pack 113 = .ok (.istore_n 3, 1) := by decide +kernel
theorem dX10_pack_114 : decode cX10_pack 114 = .ok (.iload_n 3, 1) := by decide +kernel
theorem dX10_pack_115 : decode cX10_pack 115 = .ok (.aload_n 0, 1) := by decide +kernel
theorem dX10_pack_116 : decode cX10_pack 116 = .ok (.getfield 7, 3) := by decide +kernel
theorem dX10_pack_119 : decode cX10_pack 119 = .ok (.aload_n 0, 1) := by decide +kernel
theorem dX10_pack_120 : decode cX10_pack 120 = .ok (.getfield 13, 3) := by decide +kernel
theorem dX10_pack_123 : decode cX10_pack 123 = .ok (.imul, 1) := by decide +kernel
theorem dX10_pack_124 : decode cX10_pack 124 = .ok (.if_icmp .ge 104, 3) := by decide +kernel
theorem dX10_pack_127 : decode cX10_pack 127 = .ok (.iconst (-1), 1) := by decide +kernel
theorem dX10_pack_128 : decode cX10_pack 128 = .ok (.istore 4, 2) := by decide +kernel
theorem dX10_pack_130 : decode cX10_pack 130 = .ok (.iconst 0, 1) := by decide +kernel
theorem dX10_pack_131 : decode cX10_pack 131 = .ok (.istore 5, 2) := by decide +kernel
theorem dX10_pack_133 : decode cX10_pack 133 = .ok (.iload 5, 2) := by decide +kernel
theorem dX10_pack_135 : decode cX10_pack 135 = .ok (.bipush 9, 2) := by decide +kernel
theorem dX10_pack_137 : decode cX10_pack 137 = .ok (.if_icmp .ge 46, 3) := by decide +kernel
theorem dX10_pack_140 : decode cX10_pack 140 = .ok (.aload_n 0, 1) := by decide +kernel
theorem dX10_pack_141 : decode cX10_pack 141 = .ok (.iload_n 3, 1) := by decide +kernel
theorem dX10_pack_142 : decode cX10_pack 142 = .ok (.iload 5, 2) := by decide +kernel
theorem dX10_pack_144 : decode cX10_pack 144 = .ok (.invokevirtual 155, 3) := by decide +kernel
theorem dX10_pack_147 : decode cX10_pack 147 = .ok (.ifCond .eq 30, 3) := by decide +kernel
theorem dX10_pack_150 : decode cX10_pack 150 = .ok (.iload 4, 2) := by decide +kernel
theorem dX10_pack_152 : decode cX10_pack 152 = .ok (.iconst (-1), 1) := by decide +kernel
theorem dX10_pack_153 : decode cX10_pack 153 = .ok (.if_icmp .eq 20, 3) := by decide +kernel
theorem dX10_pack_156 : decode cX10_pack 156 = .ok (.aload_n 0, 1) := by decide +kernel
theorem dX10_pack_157 : decode cX10_pack 157 = .ok (.iload_n 3, 1) := by decide +kernel
theorem dX10_pack_158 : decode cX10_pack 158 = .ok (.iload 5, 2) := by decide +kernel
theorem dX10_pack_160 : decode cX10_pack 160 = .ok (.invokevirtual 159, 3) := by decide +kernel
theorem dX10_pack_163 : decode cX10_pack 163 = .ok (.aload_n 0, 1) := by decide +kernel
theorem dX10_pack_164 : decode cX10_pack 164 = .ok (.iload_n 3, 1) := by decide +kernel
theorem dX10_pack_165 : decode cX10_pack 165 = .ok (.iload 4, 2) := by decide +kernel
theorem dX10_pack_167 : decode cX10_pack 167 = .ok (.invokevirtual 159, 3) := by decide +kernel
theorem dX10_pack_170 : decode cX10_pack 170 = .ok (.if_icmp .ge 7, 3) := by decide +kernel
theorem dX10_pack_173 : decode cX10_pack 173 = .ok (.iload 5, 2) := by decide +kernel
theorem dX10_pack_175 : decode cX10_pack 175 = .ok (.istore 4, 2) := by decide +kernel
theorem dX10_pack_177 : decode cX10_pack 177 = .ok (.iinc 5 1, 3) := by decide +kernel
theorem dX10_pack_180 : decode cX10_pack 180 = .ok (.goto (-47), 3) := by decide +kernel
theorem dX10_pack_183 : decode cX10_pack 183 = .ok (.aload_n 0, 1) := by decide +kernel
theorem dX10_pack_184 : decode cX10_pack 184 = .ok (.getfield 26, 3) := by decide +kernel
theorem dX10_pack_187 : decode cX10_pack 187 = .ok (.iload_n 3, 1) := by decide +kernel
theorem dX10_pack_188 : decode cX10_pack 188 = .ok (.iload 4, 2) := by decide +kernel
theorem dX10_pack_190 : decode cX10_pack 190 = .ok (.iastore, 1) := by decide +kernel
theorem dX10_pack_191 : decode cX10_pack 191 = .ok (.aload_n 0, 1) := by decide +kernel
theorem dX10_pack_192 : decode cX10_pack 192 = .ok (.iload_n 3, 1) := by decide +kernel
theorem dX10_pack_193 : decode cX10_pack 193 = .ok (.iload 4, 2) := by decide +kernel
theorem dX10_pack_195 : decode cX10_pack 195 = .ok (.aload_n 0, 1) := by decide +kernel
theorem dX10_pack_196 : decode cX10_pack 196 = .ok (.getfield 58, 3) := by decide +kernel
theorem dX10_pack_199 : decode cX10_pack 199 = .ok (.invokevirtual 162, 3) := by decide +kernel
theorem dX10_pack_202 : decode cX10_pack 202 = .ok (.aload_n 0, 1) := by decide +kernel
theorem dX10_pack_203 : decode cX10_pack 203 = .ok (.iload_n 3, 1) := by decide +kernel
theorem dX10_pack_204 : decode cX10_pack 204 = .ok (.iload 4, 2) := by decide +kernel
theorem dX10_pack_206 : decode cX10_pack 206 = .ok (.aload_n 0, 1) := by decide +kernel
theorem dX10_pack_207 : decode cX10_pack 207 = .ok (.getfield 29, 3) := by decide +kernel
theorem dX10_pack_210 : decode cX10_pack 210 = .ok (.aload_n 0, 1) := by decide +kernel
theorem dX10_pack_211 : decode cX10_pack 211 = .ok (.getfield 58, 3) := by decide +kernel
theorem dX10_pack_214 : decode cX10_pack 214 = .ok (.invokevirtual 166, 3) := by decide +kernel
theorem dX10_pack_217 : decode cX10_pack 217 = .ok (.aload_n 0, 1) := by decide +kernel
theorem dX10_pack_218 : decode cX10_pack 218 = .ok (.iload_n 3, 1) := by decide +kernel
theorem dX10_pack_219 : decode cX10_pack 219 = .ok (.invokevirtual 170, 3) := by decide +kernel
theorem dX10_pack_222 : decode cX10_pack 222 = .ok (.iinc 3 1, 3) := by decide +kernel
theorem dX10_pack_225 : decode cX10_pack 225 = .ok (.goto (-111), 3) := by decide +kernel
theorem dX10_pack_228 : decode cX10_pack 228 = .ok (.aload_n 0, 1) := by decide +kernel
theorem dX10_pack_229 : decode cX10_pack 229 = .ok (.getfield 61, 3) := by decide +kernel
theorem dX10_pack_232 : decode cX10_pack 232 = .ok (.ifCond .eq 7, 3) := by decide +kernel
theorem dX10_pack_235 : decode cX10_pack 235 = .ok (.aload_n 0, 1) := by decide +kernel
theorem dX10_pack_236 : decode cX10_pack 236 = .ok (.invokevirtual 173, 3) := by decide +kernel
theorem dX10_pack_239 : decode cX10_pack 239 = .ok (.aload_n 0, 1) := by decide +kernel
theorem dX10_pack_240 : decode cX10_pack 240 = .ok (.aload_n 0, 1) := by decide +kernel
theorem dX10_pack_241 : decode cX10_pack 241 = .ok (.getfield 138, 3) := by decide +kernel
theorem dX10_pack_244 : decode cX10_pack 244 = .ok (.bipush 7, 2) := by decide +kernel
theorem dX10_pack_246 : decode cX10_pack 246 = .ok (.iadd, 1) := by decide +kernel
theorem dX10_pack_247 : decode cX10_pack 247 = .ok (.bipush 8, 2) := by decide +kernel
theorem dX10_pack_249 : decode cX10_pack 249 = .ok (.idiv, 1) := by decide +kernel
theorem dX10_pack_250 : decode cX10_pack 250 = .ok (.putfield 176, 3) := by decide +kernel
theorem dX10_pack_253 : decode cX10_pack 253 = .ok (.aload_n 0, 1) := by decide +kernel
theorem dX10_pack_254 : decode cX10_pack 254 = .ok (.getfield 176, 3) := by decide +kernel
theorem dX10_pack_257 : decode cX10_pack 257 = .ok (.ireturn, 1) := by decide +kernel
theorem dX10_stop_0 : decode cX10_stop 0 = .ok (.aload_n 0, 1) := by decide +kernel
theorem dX10_stop_1 : decode cX10_stop 1 = .ok (.getfield 178, 3) := by decide +kernel
theorem dX10_stop_4 : decode cX10_stop 4 = .ok (.ifCond .ne 13, 3) := by decide +kernel
theorem dX10_stop_7 : decode cX10_stop 7 = .ok (.aload_n 0, 1) := by decide +kernel
theorem dX10_stop_8 : decode cX10_stop 8 = .ok (.iload_n 1, 1) := by decide +kernel
theorem dX10_stop_9 : decode cX10_stop 9 = .ok (.putfield 178, 3) := by decide +kernel
theorem dX10_stop_12 : decode cX10_stop 12 = .ok (.aload_n 0, 1) := by decide +kernel
theorem dX10_stop_13 : decode cX10_stop 13 = .ok (.iload_n 2, 1) := by decide +kernel
theorem dX10_stop_14 : decode cX10_stop 14 = .ok (.putfield 41, 3) := by decide +kernel
theorem dX10_stop_17 : decode cX10_stop 17 = .ok (.iconst 0, 1) := by decide +kernel
theorem dX10_stop_18 : decode cX10_stop 18 = .ok (.ireturn, 1) := by decide +kernel
theorem dX10_read_0 : decode cX10_read 0 = .ok (.iconst 0, 1) := by decide +kernel
theorem dX10_read_1 : decode cX10_read 1 = .ok (.istore_n 3, 1) := by decide +kernel
theorem dX10_read_2 : decode cX10_read 2 = .ok (.iconst 0, 1) := by decide +kernel
theorem dX10_read_3 : decode cX10_read 3 = .ok (.istore 4, 2) := by decide +kernel
theorem dX10_read_5 : decode cX10_read 5 = .ok (.iload 4, 2) := by decide +kernel
theorem dX10_read_7 : decode cX10_read 7 = .ok (.iload_n 1, 1) := by decide +kernel
theorem dX10_read_8 : decode cX10_read 8 = .ok (.if_icmp .ge 77, 3) := by decide +kernel
theorem dX10_read_11 : decode cX10_read 11 = .ok (.aload_n 0, 1) := by decide +kernel
theorem dX10_read_12 : decode cX10_read 12 = .ok (.getfield 178, 3) := by decide +kernel
theorem dX10_read_15 : decode cX10_read 15 = .ok (.ifCond .ne 70, 3) := by decide +kernel
theorem dX10_read_18 : decode cX10_read 18 = .ok (.aload_n 0, 1) := by decide +kernel
theorem dX10_read_19 : decode cX10_read 19 = .ok (.getfield 138, 3) := by decide +kernel
theorem dX10_read_22 : decode cX10_read 22 = .ok (.bipush 8, 2) := by decide +kernel
theorem dX10_read_24 : decode cX10_read 24 = .ok (.aload_n 0, 1) := by decide +kernel
theorem dX10_read_25 : decode cX10_read 25 = .ok (.getfield 176, 3) := by decide +kernel
theorem dX10_read_28 : decode cX10_read 28 = .ok (.imul, 1) := by decide +kernel
theorem dX10_read_29 : decode cX10_read 29 = .ok (.if_icmp .ne 10, 3) := by decide +kernel
theorem dX10_read_32 : decode cX10_read 32 = .ok (.aload_n 0, 1) := by decide +kernel
theorem dX10_read_33 : decode cX10_read 33 = .ok (.iconst 1, 1) := by decide +kernel
theorem dX10_read_34 : decode cX10_read 34 = .ok (.iload_n 2, 1) := by decide +kernel
theorem dX10_read_35 : decode cX10_read 35 = .ok (.invokevirtual 181, 3) := by decide +kernel
theorem dX10_read_38 : decode cX10_read 38 = .ok (.ireturn, 1) := by decide +kernel
theorem dX10_read_39 : decode cX10_read 39 = .ok (.iconst 2, 1) := by decide +kernel
theorem dX10_read_40 : decode cX10_read 40 = .ok (.iload_n 3, 1) := by decide +kernel
theorem dX10_read_41 : decode cX10_read 41 = .ok (.imul, 1) := by decide +kernel
theorem dX10_read_42 : decode cX10_read 42 = .ok (.aload_n 0, 1) := by decide +kernel
theorem dX10_read_43 : decode cX10_read 43 = .ok (.getfield 38, 3) := by decide +kernel
theorem dX10_read_46 : decode cX10_read 46 = .ok (.aload_n 0, 1) := by decide +kernel
theorem dX10_read_47 : decode cX10_read 47 = .ok (.getfield 138, 3) := by decide +kernel
theorem dX10_read_50 : decode cX10_read 50 = .ok (.bipush 8, 2) := by decide +kernel
theorem dX10_read_52 : decode cX10_read 52 = .ok (.idiv, 1) := by decide +kernel
theorem dX10_read_53 : decode cX10_read 53 = .ok (.iaload, 1) := by decide +kernel
theorem dX10_read_54 : decode cX10_read 54 = .ok (.bipush 7, 2) := by decide +kernel
theorem dX10_read_56 : decode cX10_read 56 = .ok (.aload_n 0, 1) := by decide +kernel
theorem dX10_read_57 : decode cX10_read 57 = .ok (.getfield 138, 3) := by decide +kernel
theorem dX10_read_60 : decode cX10_read 60 = .ok (.bipush 8, 2) := by decide +kernel
theorem dX10_read_62 : decode cX10_read 62 = .ok (.irem, 1) := by decide +kernel
theorem dX10_read_63 : decode cX10_read 63 = .ok (.isub, 1) := by decide +kernel
theorem dX10_read_64 : decode cX10_read 64 = .ok (.ishr, 1) := by decide +kernel
theorem dX10_read_65 : decode cX10_read 65 = .ok (.iconst 1, 1) := by decide +kernel
theorem dX10_read_66 : decode cX10_read 66 = .ok (.iand, 1) := by decide +kernel
theorem dX10_read_67 : decode cX10_read 67 = .ok (.iadd, 1) := by decide +kernel
theorem dX10_read_68 : decode cX10_read 68 = .ok (.istore_n 3, 1) := by decide +kernel
theorem dX10_read_69 : decode cX10_read 69 = .ok (.aload_n 0, 1) := by decide +kernel
theorem dX10_read_70 : decode cX10_read 70 = .ok (.dup, 1) := by decide +kernel
theorem dX10_read_71 : decode cX10_read 71 = .ok (.getfield 138, 3) := by decide +kernel
theorem dX10_read_74 : decode cX10_read 74 = .ok (.iconst 1, 1) := by decide +kernel
theorem dX10_read_75 : decode cX10_read 75 = .ok (.iadd, 1) := by decide +kernel
theorem dX10_read_76 : decode cX10_read 76 = .ok (.putfield 138, 3) := by decide +kernel
theorem dX10_read_79 : decode cX10_read 79 = .ok (.iinc 4 1, 3) := by decide +kernel
theorem dX10_read_82 : decode cX10_read 82 = .ok (.goto (-77), 3) := by decide +kernel
theorem dX10_read_85 : decode cX10_read 85 = .ok (.iload_n 3, 1) := by decide +kernel
theorem dX10_read_86 : decode cX10_read 86 = .ok (.ireturn, 1) := by decide +kernel
theorem dX10_readU_0 : decode cX10_readU 0 = .ok (.aload_n 0, 1) := by decide +kernel
theorem dX10_readU_1 : decode cX10_readU 1 = .ok (.getfield 138, 3) := by decide +kernel
theorem dX10_readU_4 : decode cX10_readU 4 = .ok (.istore_n 1, 1) := by decide +kernel
theorem dX10_readU_5 : decode cX10_readU 5 = .ok (.iconst 0, 1) := by decide +kernel
theorem dX10_readU_6 : decode cX10_readU 6 = .ok (.istore_n 2, 1) := by decide +kernel
theorem dX10_readU_7 : decode cX10_readU 7 = .ok (.aload_n 0, 1) := by decide +kernel
theorem dX10_readU_8 : decode cX10_readU 8 = .ok (.getfield 178, 3) := by decide +kernel
theorem dX10_readU_11 : decode cX10_readU 11 = .ok (.ifCond .ne 38, 3) := by decide +kernel
theorem dX10_readU_14 : decode cX10_readU 14 = .ok (.aload_n 0, 1) := by decide +kernel
theorem dX10_readU_15 : decode cX10_readU 15 = .ok (.iconst 1, 1) := by decide +kernel
theorem dX10_readU_16 : decode cX10_readU 16 = .ok (.iload_n 1, 1) := by decide +kernel
theorem dX10_readU_17 : decode cX10_readU 17 = .ok (.invokevirtual 184, 3) := by decide +kernel
theorem dX10_readU_20 : decode cX10_readU 20 = .ok (.ifCond .ne 29, 3) := by decide +kernel
theorem dX10_readU_23 : decode cX10_readU 23 = .ok (.iinc 2 1, 3) := by decide +kernel
theorem dX10_readU_26 : decode cX10_readU 26 = .ok (.iload_n 2, 1) := by decide +kernel
theorem dX10_readU_27 : decode cX10_readU 27 = .ok (.bipush 15, 2) := by decide +kernel
theorem dX10_readU_29 : decode cX10_readU 29 = .ok (.if_icmp .le (-22), 3) := by decide +kernel
theorem dX10_readU_32 : decode cX10_readU 32 = .ok (.aload_n 0, 1) := by decide +kernel
theorem dX10_readU_33 : decode cX10_readU 33 = .ok (.getfield 178, 3) := by decide +kernel
theorem dX10_readU_36 : decode cX10_readU 36 = .ok (.ifCond .ne (-29), 3) := by decide +kernel
theorem dX10_readU_39 : decode cX10_readU 39 = .ok (.aload_n 0, 1) := by decide +kernel
theorem dX10_readU_40 : decode cX10_readU 40 = .ok (.iconst 1, 1) := by decide +kernel
theorem dX10_readU_41 : decode cX10_readU 41 = .ok (.iload_n 1, 1) := by decide +kernel
theorem dX10_readU_42 : decode cX10_readU 42 = .ok (.invokevirtual 181, 3) := by decide +kernel
theorem dX10_readU_45 : decode cX10_readU 45 = .ok (.pop, 1) := by decide +kernel
theorem dX10_readU_46 : decode cX10_readU 46 = .ok (.goto (-39), 3) := by decide +kernel
theorem dX10_readU_49 : decode cX10_readU 49 = .ok (.aload_n 0, 1) := by decide +kernel
theorem dX10_readU_50 : decode cX10_readU 50 = .ok (.iload_n 2, 1) := by decide +kernel
theorem dX10_readU_51 : decode cX10_readU 51 = .ok (.iload_n 1, 1) := by decide +kernel
theorem dX10_readU_52 : decode cX10_readU 52 = .ok (.invokevirtual 184, 3) := by decide +kernel
theorem dX10_readU_55 : decode cX10_readU 55 = .ok (.istore_n 3, 1) := by decide +kernel
theorem dX10_readU_56 : decode cX10_readU 56 = .ok (.aload_n 0, 1) := by decide +kernel
theorem dX10_readU_57 : decode cX10_readU 57 = .ok (.getfield 178, 3) := by decide +kernel
theorem dX10_readU_60 : decode cX10_readU 60 = .ok (.ifCond .ne 13, 3) := by decide +kernel
theorem dX10_readU_63 : decode cX10_readU 63 = .ok (.iconst 1, 1) := by decide +kernel
theorem dX10_readU_64 : decode cX10_readU 64 = .ok (.iload_n 2, 1) := by decide +kernel
theorem dX10_readU_65 : decode cX10_readU 65 = .ok (.ishl, 1) := by decide +kernel
theorem dX10_readU_66 : decode cX10_readU 66 = .ok (.iconst 1, 1) := by decide +kernel
theorem dX10_readU_67 : decode cX10_readU 67 = .ok (.isub, 1) := by decide +kernel
theorem dX10_readU_68 : decode cX10_readU 68 = .ok (.iload_n 3, 1) := by decide +kernel
theorem dX10_readU_69 : decode cX10_readU 69 = .ok (.iadd, 1) := by decide +kernel
theorem dX10_readU_70 : decode cX10_readU 70 = .ok (.goto 4, 3) := by decide +kernel
theorem dX10_readU_73 : decode cX10_readU 73 = .ok (.iconst 0, 1) := by decide +kernel
theorem dX10_readU_74 : decode cX10_readU 74 = .ok (.ireturn, 1) := by decide +kernel
theorem dX10_readBlock_0 : decode cX10_readBlock 0 = .ok (.aload_n 0, 1) := by decide +kernel
theorem dX10_readBlock_1 : decode cX10_readBlock 1 = .ok (.aload_n 0, 1) := by decide +kernel
theorem dX10_readBlock_2 : decode cX10_readBlock 2 = .ok (.getfield 32, 3) := by decide +kernel
theorem dX10_readBlock_5 : decode cX10_readBlock 5 = .ok (.iload_n 1, 1) := by decide +kernel
theorem dX10_readBlock_6 : decode cX10_readBlock 6 = .ok (.invokevirtual 148, 3) := by decide +kernel
theorem dX10_readBlock_9 : decode cX10_readBlock 9 = .ok (.istore_n 2, 1) := by decide +kernel
theorem dX10_readBlock_10 : decode cX10_readBlock 10 = .ok (.aload_n 0, 1) := by decide +kernel
theorem dX10_readBlock_11 : decode cX10_readBlock 11 = .ok (.iconst 1, 1) := by decide +kernel
theorem dX10_readBlock_12 : decode cX10_readBlock 12 = .ok (.aload_n 0, 1) := by decide +kernel
theorem dX10_readBlock_13 : decode cX10_readBlock 13 = .ok (.getfield 138, 3) := by decide +kernel
theorem dX10_readBlock_16 : decode cX10_readBlock 16 = .ok (.invokevirtual 184, 3) := by decide +kernel
theorem dX10_readBlock_19 : decode cX10_readBlock 19 = .ok (.iconst 1, 1) := by decide +kernel
theorem dX10_readBlock_20 : decode cX10_readBlock 20 = .ok (.if_icmp .ne 13, 3) := by decide +kernel
theorem dX10_readBlock_23 : decode cX10_readBlock 23 = .ok (.aload_n 0, 1) := by decide +kernel
theorem dX10_readBlock_24 : decode cX10_readBlock 24 = .ok (.getfield 32, 3) := by decide +kernel
theorem dX10_readBlock_27 : decode cX10_readBlock 27 = .ok (.iload_n 1, 1) := by decide +kernel
theorem dX10_readBlock_28 : decode cX10_readBlock 28 = .ok (.iload_n 2, 1) := by decide +kernel
theorem dX10_readBlock_29 : decode cX10_readBlock 29 = .ok (.iastore, 1) := by decide +kernel
theorem dX10_readBlock_30 : decode cX10_readBlock 30 = .ok (.goto 65, 3) := by decide +kernel
theorem dX10_readBlock_33 : decode cX10_readBlock 33 = .ok (.aload_n 0, 1) := by decide +kernel
theorem dX10_readBlock_34 : decode cX10_readBlock 34 = .ok (.getfield 138, 3) := by decide +kernel
theorem dX10_readBlock_37 : decode cX10_readBlock 37 = .ok (.istore_n 3, 1) := by decide +kernel
theorem dX10_readBlock_38 : decode cX10_readBlock 38 = .ok (.aload_n 0, 1) := by decide +kernel
theorem dX10_readBlock_39 : decode cX10_readBlock 39 = .ok (.iconst 3, 1) := by decide +kernel
theorem dX10_readBlock_40 : decode cX10_readBlock 40 = .ok (.iload_n 3, 1) := by decide +kernel
theorem dX10_readBlock_41 : decode cX10_readBlock 41 = .ok (.invokevirtual 184, 3) := by decide +kernel
theorem dX10_readBlock_44 : decode cX10_readBlock 44 = .ok (.istore 4, 2) := by decide +kernel
theorem dX10_readBlock_46 : decode cX10_readBlock 46 = .ok (.aload_n 0, 1) := by decide +kernel
theorem dX10_readBlock_47 : decode cX10_readBlock 47 = .ok (.getfield 32, 3) := by decide +kernel
theorem dX10_readBlock_50 : decode cX10_readBlock 50 = .ok (.iload_n 1, 1) := by decide +kernel
theorem dX10_readBlock_51 : decode cX10_readBlock 51 = .ok (.iload 4, 2) := by decide +kernel
theorem dX10_readBlock_53 : decode cX10_readBlock 53 = .ok (.iload_n 2, 1) := by decide +kernel
theorem dX10_readBlock_54 : decode cX10_readBlock 54 = .ok (.if_icmp .lt 10, 3) := by decide +kernel
theorem dX10_readBlock_57 : decode cX10_readBlock 57 = .ok (.iload 4, 2) := by decide +kernel
theorem dX10_readBlock_59 : decode cX10_readBlock 59 = .ok (.iconst 1, 1) := by decide +kernel
theorem dX10_readBlock_60 : decode cX10_readBlock 60 = .ok (.iadd, 1) := by decide +kernel
theorem dX10_readBlock_61 : decode cX10_readBlock 61 = .ok (.goto 5, 3) := by decide +kernel
theorem dX10_readBlock_64 : decode cX10_readBlock 64 = .ok (.iload 4, 2) := by decide +kernel
theorem dX10_readBlock_66 : decode cX10_readBlock 66 = .ok (.iastore, 1) := by decide +kernel
theorem dX10_readBlock_67 : decode cX10_readBlock 67 = .ok (.aload_n 0, 1) := by decide +kernel
theorem dX10_readBlock_68 : decode cX10_readBlock 68 = .ok (.getfield 178, 3) := by decide +kernel
theorem dX10_readBlock_71 : decode cX10_readBlock 71 = .ok (.ifCond .ne 24, 3) := by decide +kernel
theorem dX10_readBlock_74 : decode cX10_readBlock 74 = .ok (.aload_n 0, 1) := by decide +kernel
theorem dX10_readBlock_75 : decode cX10_readBlock 75 = .ok (.iload_n 1, 1) := by decide +kernel
theorem dX10_readBlock_76 : decode cX10_readBlock 76 = .ok (.aload_n 0, 1) := by decide +kernel
theorem dX10_readBlock_77 : decode cX10_readBlock 77 = .ok (.getfield 32, 3) := by decide +kernel
theorem dX10_readBlock_80 : decode cX10_readBlock 80 = .ok (.iload_n 1, 1) := by decide +kernel
theorem dX10_readBlock_81 : decode cX10_readBlock 81 = .ok (.iaload, 1) := by decide +kernel
theorem dX10_readBlock_82 : decode cX10_readBlock 82 = .ok (.invokevirtual 155, 3) := by decide +kernel
theorem dX10_readBlock_85 : decode cX10_readBlock 85 = .ok (.ifCond .ne 10, 3) := by decide +kernel
theorem dX10_readBlock_88 : decode cX10_readBlock 88 = .ok (.aload_n 0, 1) := by decide +kernel
theorem dX10_readBlock_89 : decode cX10_readBlock 89 = .ok (.iconst 3, 1) := by decide +kernel
theorem dX10_readBlock_90 : decode cX10_readBlock 90 = .ok (.iload_n 3, 1) := by decide +kernel
theorem dX10_readBlock_91 : decode cX10_readBlock 91 = .ok (.invokevirtual 181, 3) := by decide +kernel
theorem dX10_readBlock_94 : decode cX10_readBlock 94 = .ok (.pop, 1) := by decide +kernel
theorem dX10_readBlock_95 : decode cX10_readBlock 95 = .ok (.aload_n 0, 1) := by decide +kernel
theorem dX10_readBlock_96 : decode cX10_readBlock 96 = .ok (.getfield 178, 3) := by decide +kernel
theorem dX10_readBlock_99 : decode cX10_readBlock 99 = .ok (.ifCond .eq 4, 3) := by decide +kernel
theorem dX10_readBlock_102 : decode cX10_readBlock 102 = .ok (.return_, 1) := by decide +kernel
theorem dX10_readBlock_103 : decode cX10_readBlock 103 = .ok (.iconst 0, 1) := by decide +kernel
theorem dX10_readBlock_104 : decode cX10_readBlock 104 = .ok (.istore_n 3, 1) := by decide +kernel
theorem dX10_readBlock_105 : decode cX10_readBlock 105 = .ok (.iload_n 3, 1) := by decide +kernel
theorem dX10_readBlock_106 : decode cX10_readBlock 106 = .ok (.bipush 16, 2) := by decide +kernel
theorem dX10_readBlock_108 : decode cX10_readBlock 108 = .ok (.if_icmp .ge 21, 3) := by decide +kernel
theorem dX10_readBlock_111 : decode cX10_readBlock 111 = .ok (.aload_n 0, 1) := by decide +kernel
theorem dX10_readBlock_112 : decode cX10_readBlock 112 = .ok (.getfield 35, 3) := by decide +kernel
theorem dX10_readBlock_115 : decode cX10_readBlock 115 = .ok (.bipush 16, 2) := by decide +kernel
theorem dX10_readBlock_117 : decode cX10_readBlock 117 = .ok (.iload_n 1, 1) := by decide +kernel
theorem dX10_readBlock_118 : decode cX10_readBlock 118 = .ok (.imul, 1) := by decide +kernel
theorem dX10_readBlock_119 : decode cX10_readBlock 119 = .ok (.iload_n 3, 1) := by decide +kernel
theorem dX10_readBlock_120 : decode cX10_readBlock 120 = .ok (.iadd, 1) := by decide +kernel
theorem dX10_readBlock_121 : decode cX10_readBlock 121 = .ok (.iconst 0, 1) := by decide +kernel
theorem dX10_readBlock_122 : decode cX10_readBlock 122 = .ok (.iastore, 1) := by decide +kernel
theorem dX10_readBlock_123 : decode cX10_readBlock 123 = .ok (.iinc 3 1, 3) := by decide +kernel
theorem dX10_readBlock_126 : decode cX10_readBlock 126 = .ok (.goto (-21), 3) := by decide +kernel
theorem dX10_readBlock_129 : decode cX10_readBlock 129 = .ok (.aload_n 0, 1) := by decide +kernel
theorem dX10_readBlock_130 : decode cX10_readBlock 130 = .ok (.getfield 138, 3) := by decide +kernel
theorem dX10_readBlock_133 : decode cX10_readBlock 133 = .ok (.istore_n 3, 1) := by decide +kernel
theorem dX10_readBlock_134 : decode cX10_readBlock 134 = .ok (.aload_n 0, 1) := by decide +kernel
theorem dX10_readBlock_135 : decode cX10_readBlock 135 = .ok (.invokevirtual 187, 3) := by decide +kernel
theorem dX10_readBlock_138 : decode cX10_readBlock 138 = .ok (.istore 4, 2) := by decide +kernel
theorem dX10_readBlock_140 : decode cX10_readBlock 140 = .ok (.iload 4, 2) := by decide +kernel
theorem dX10_readBlock_142 : decode cX10_readBlock 142 = .ok (.bipush 16, 2) := by decide +kernel
theorem dX10_readBlock_144 : decode cX10_readBlock 144 = .ok (.if_icmp .le 10, 3) := by decide +kernel
theorem dX10_readBlock_147 : decode cX10_readBlock 147 = .ok (.aload_n 0, 1) := by decide +kernel
theorem dX10_readBlock_148 : decode cX10_readBlock 148 = .ok (.iconst 4, 1) := by decide +kernel
theorem dX10_readBlock_149 : decode cX10_readBlock 149 = .ok (.iload_n 3, 1) := by decide +kernel
theorem dX10_readBlock_150 : decode cX10_readBlock 150 = .ok (.invokevirtual 181, 3) := by decide +kernel
theorem dX10_readBlock_153 : decode cX10_readBlock 153 = .ok (.pop, 1) := by decide +kernel
theorem dX10_readBlock_154 : decode cX10_readBlock 154 = .ok (.iconst 0, 1) := by decide +kernel
theorem dX10_readBlock_155 : decode cX10_readBlock 155 = .ok (.istore 5, 2) := by decide +kernel
theorem dX10_readBlock_157 : decode cX10_readBlock 157 = .ok (.iconst 0, 1) := by decide +kernel
theorem dX10_readBlock_158 : decode cX10_readBlock 158 = .ok (.istore 6, 2) := by decide +kernel
theorem dX10_readBlock_160 : decode cX10_readBlock 160 = .ok (.iload 6, 2) := by decide +kernel
theorem dX10_readBlock_162 : decode cX10_readBlock 162 = .ok (.iload 4, 2) := by decide +kernel
theorem dX10_readBlock_164 : decode cX10_readBlock 164 = .ok (.if_icmp .ge 153, 3) := by decide +kernel
theorem dX10_readBlock_167 : decode cX10_readBlock 167 = .ok (.aload_n 0, 1) := by decide +kernel
theorem dX10_readBlock_168 : decode cX10_readBlock 168 = .ok (.getfield 178, 3) := by decide +kernel
theorem dX10_readBlock_171 : decode cX10_readBlock 171 = .ok (.ifCond .ne 146, 3) := by decide +kernel
theorem dX10_readBlock_174 : decode cX10_readBlock 174 = .ok (.aload_n 0, 1) := by decide +kernel
theorem dX10_readBlock_175 : decode cX10_readBlock 175 = .ok (.getfield 138, 3) := by decide +kernel
theorem dX10_readBlock_178 : decode cX10_readBlock 178 = .ok (.istore_n 3, 1) := by decide +kernel
theorem dX10_readBlock_179 : decode cX10_readBlock 179 = .ok (.iload 5, 2) := by decide +kernel
theorem dX10_readBlock_181 : decode cX10_readBlock 181 = .ok (.aload_n 0, 1) := by decide +kernel
theorem dX10_readBlock_182 : decode cX10_readBlock 182 = .ok (.invokevirtual 187, 3) := by decide +kernel
theorem dX10_readBlock_185 : decode cX10_readBlock 185 = .ok (.iadd, 1) := by decide +kernel
theorem dX10_readBlock_186 : decode cX10_readBlock 186 = .ok (.istore 5, 2) := by decide +kernel
theorem dX10_readBlock_188 : decode cX10_readBlock 188 = .ok (.aload_n 0, 1) := by decide +kernel
theorem dX10_readBlock_189 : decode cX10_readBlock 189 = .ok (.getfield 178, 3) := by decide +kernel
theorem dX10_readBlock_192 : decode cX10_readBlock 192 = .ok (.ifCond .ne 17, 3) := by decide +kernel
theorem dX10_readBlock_195 : decode cX10_readBlock 195 = .ok (.iload 5, 2) := by decide +kernel
theorem dX10_readBlock_197 : decode cX10_readBlock 197 = .ok (.bipush 15, 2) := by decide +kernel
theorem dX10_readBlock_199 : decode cX10_readBlock 199 = .ok (.if_icmp .le 10, 3) := by decide +kernel
theorem dX10_readBlock_202 : decode cX10_readBlock 202 = .ok (.aload_n 0, 1) := by decide +kernel
theorem dX10_readBlock_203 : decode cX10_readBlock 203 = .ok (.iconst 5, 1) := by decide +kernel
theorem dX10_readBlock_204 : decode cX10_readBlock 204 = .ok (.iload_n 3, 1) := by decide +kernel
theorem dX10_readBlock_205 : decode cX10_readBlock 205 = .ok (.invokevirtual 181, 3) := by decide +kernel
theorem dX10_readBlock_208 : decode cX10_readBlock 208 = .ok (.pop, 1) := by decide +kernel
theorem dX10_readBlock_209 : decode cX10_readBlock 209 = .ok (.aload_n 0, 1) := by decide +kernel
theorem dX10_readBlock_210 : decode cX10_readBlock 210 = .ok (.getfield 138, 3) := by decide +kernel
theorem dX10_readBlock_213 : decode cX10_readBlock 213 = .ok (.istore_n 3, 1) := by decide +kernel
theorem dX10_readBlock_214 : decode cX10_readBlock 214 = .ok (.aload_n 0, 1) := by decide +kernel
theorem dX10_readBlock_215 : decode cX10_readBlock 215 = .ok (.getfield 178, 3) := by decide +kernel
theorem dX10_readBlock_218 : decode cX10_readBlock 218 = .ok (.ifCond .ne 10, 3) := by decide +kernel
theorem dX10_readBlock_221 : decode cX10_readBlock 221 = .ok (.aload_n 0, 1) := by decide +kernel
theorem dX10_readBlock_222 : decode cX10_readBlock 222 = .ok (.invokevirtual 187, 3) := by decide +kernel
theorem dX10_readBlock_225 : decode cX10_readBlock 225 = .ok (.goto 4, 3) := by decide +kernel
theorem dX10_readBlock_228 : decode cX10_readBlock 228 = .ok (.iconst 0, 1) := by decide +kernel
theorem dX10_readBlock_229 : decode cX10_readBlock 229 = .ok (.istore 7, 2) := by decide +kernel
theorem dX10_readBlock_231 : decode cX10_readBlock 231 = .ok (.iload 7, 2) := by decide +kernel
theorem dX10_readBlock_233 : decode cX10_readBlock 233 = .ok (.iconst 2, 1) := by decide +kernel
theorem dX10_readBlock_234 : decode cX10_readBlock 234 = .ok (.irem, 1) := by decide +kernel
theorem dX10_readBlock_235 : decode cX10_readBlock 235 = .ok (.iconst 1, 1) := by decide +kernel
theorem dX10_readBlock_236 : decode cX10_readBlock 236 = .ok (.if_icmp .ne 12, 3) := by decide +kernel
theorem dX10_readBlock_239 : decode cX10_readBlock 239 = .ok (.iload 7, 2) := by decide +kernel
theorem dX10_readBlock_241 : decode cX10_readBlock 241 = .ok (.iconst 1, 1) := by decide +kernel
theorem dX10_readBlock_242 : decode cX10_readBlock 242 = .ok (.iadd, 1) := by decide +kernel
theorem dX10_readBlock_243 : decode cX10_readBlock 243 = .ok (.iconst 2, 1) := by decide +kernel
theorem dX10_readBlock_244 : decode cX10_readBlock 244 = .ok (.idiv, 1) := by decide +kernel
theorem dX10_readBlock_245 : decode cX10_readBlock 245 = .ok (.goto 8, 3) := by decide +kernel
theorem dX10_readBlock_248 : decode cX10_readBlock 248 = .ok (.iload 7, 2) := by decide +kernel
theorem dX10_readBlock_250 : decode cX10_readBlock 250 = .ok (.ineg, 1) := by decide +kernel
theorem dX10_readBlock_251 : decode cX10_readBlock 251 = .ok (.iconst 2, 1) := by decide +kernel
theorem dX10_readBlock_252 : decode cX10_readBlock 252 = .ok (.idiv, 1) := by decide +kernel
theorem dX10_readBlock_253 : decode cX10_readBlock 253 = .ok (.istore 8, 2) := by decide +kernel
theorem dX10_readBlock_255 : decode cX10_readBlock 255 = .ok (.aload_n 0, 1) := by decide +kernel
theorem dX10_readBlock_256 : decode cX10_readBlock 256 = .ok (.getfield 178, 3) := by decide +kernel
theorem dX10_readBlock_259 : decode cX10_readBlock 259 = .ok (.ifCond .ne 27, 3) := by decide +kernel
theorem dX10_readBlock_262 : decode cX10_readBlock 262 = .ok (.iload 8, 2) := by decide +kernel
theorem dX10_readBlock_264 : decode cX10_readBlock 264 = .ok (.ifCond .eq 14, 3) := by decide +kernel
theorem dX10_readBlock_267 : decode cX10_readBlock 267 = .ok (.iload 8, 2) := by decide +kernel
theorem dX10_readBlock_269 : decode cX10_readBlock 269 = .ok (.invokestatic 125, 3) := by decide +kernel
theorem dX10_readBlock_272 : decode cX10_readBlock 272 = .ok (.sipush 2048, 3) := by decide +kernel
theorem dX10_readBlock_275 : decode cX10_readBlock 275 = .ok (.if_icmp .le 11, 3) := by decide +kernel
theorem dX10_readBlock_278 : decode cX10_readBlock 278 = .ok (.aload_n 0, 1) := by decide +kernel
theorem dX10_readBlock_279 : decode cX10_readBlock 279 = .ok (.bipush 6, 2) := by decide +kernel
theorem dX10_readBlock_281 : decode cX10_readBlock 281 = .ok (.iload_n 3, 1) := by decide +kernel
theorem dX10_readBlock_282 : decode cX10_readBlock 282 = .ok (.invokevirtual 181, 3) := by decide +kernel
theorem dX10_readBlock_285 : decode cX10_readBlock 285 = .ok (.pop, 1) := by decide +kernel
theorem dX10_readBlock_286 : decode cX10_readBlock 286 = .ok (.aload_n 0, 1) := by decide +kernel
theorem dX10_readBlock_287 : decode cX10_readBlock 287 = .ok (.getfield 178, 3) := by decide +kernel
theorem dX10_readBlock_290 : decode cX10_readBlock 290 = .ok (.ifCond .eq 4, 3) := by decide +kernel
theorem dX10_readBlock_293 : decode cX10_readBlock 293 = .ok (.return_, 1) := by decide +kernel
theorem dX10_readBlock_294 : decode cX10_readBlock 294 = .ok (.aload_n 0, 1) := by decide +kernel
theorem dX10_readBlock_295 : decode cX10_readBlock 295 = .ok (.getfield 35, 3) := by decide +kernel
theorem dX10_readBlock_298 : decode cX10_readBlock 298 = .ok (.bipush 16, 2) := by decide +kernel
theorem dX10_readBlock_300 : decode cX10_readBlock 300 = .ok (.iload_n 1, 1) := by decide +kernel
theorem dX10_readBlock_301 : decode cX10_readBlock 301 = .ok (.imul, 1) := by decide +kernel
theorem dX10_readBlock_302 : decode cX10_readBlock 302 = .ok (.iload 5, 2) := by decide +kernel
theorem dX10_readBlock_304 : decode cX10_readBlock 304 = .ok (.iadd, 1) := by decide +kernel
theorem dX10_readBlock_305 : decode cX10_readBlock 305 = .ok (.iload 8, 2) := by decide +kernel
theorem dX10_readBlock_307 : decode cX10_readBlock 307 = .ok (.iastore, 1) := by decide +kernel
theorem dX10_readBlock_308 : decode cX10_readBlock 308 = .ok (.iinc 5 1, 3) := by decide +kernel
theorem dX10_readBlock_311 : decode cX10_readBlock 311 = .ok (.iinc 6 1, 3) := by decide +kernel
theorem dX10_readBlock_314 : decode cX10_readBlock 314 = .ok (.goto (-154), 3) := by decide +kernel
theorem dX10_readBlock_317 : decode cX10_readBlock 317 = .ok (.return_, 1) := by decide +kernel
theorem dX10_header_0 : decode cX10_header 0 = .ok (.aload_n 0, 1) := by decide +kernel
theorem dX10_header_1 : decode cX10_header 1 = .ok (.getfield 138, 3) := by decide +kernel
theorem dX10_header_4 : decode cX10_header 4 = .ok (.istore_n 2, 1) := by decide +kernel
theorem dX10_header_5 : decode cX10_header 5 = .ok (.aload_n 0, 1) := by decide +kernel
theorem dX10_header_6 : decode cX10_header 6 = .ok (.getfield 178, 3) := by decide +kernel
theorem dX10_header_9 : decode cX10_header 9 = .ok (.ifCond .ne 10, 3) := by decide +kernel
theorem dX10_header_12 : decode cX10_header 12 = .ok (.aload_n 0, 1) := by decide +kernel
theorem dX10_header_13 : decode cX10_header 13 = .ok (.invokevirtual 187, 3) := by decide +kernel
theorem dX10_header_16 : decode cX10_header 16 = .ok (.goto 4, 3) := by decide +kernel
theorem dX10_header_19 : decode cX10_header 19 = .ok (.iconst 0, 1) := by decide +kernel
theorem dX10_header_20 : decode cX10_header 20 = .ok (.istore_n 3, 1) := by decide +kernel
theorem dX10_header_21 : decode cX10_header 21 = .ok (.aload_n 0, 1) := by decide +kernel
theorem dX10_header_22 : decode cX10_header 22 = .ok (.getfield 178, 3) := by decide +kernel
theorem dX10_header_25 : decode cX10_header 25 = .ok (.ifCond .ne 15, 3) := by decide +kernel
theorem dX10_header_28 : decode cX10_header 28 = .ok (.iload_n 3, 1) := by decide +kernel
theorem dX10_header_29 : decode cX10_header 29 = .ok (.iload_n 1, 1) := by decide +kernel
theorem dX10_header_30 : decode cX10_header 30 = .ok (.if_icmp .le 10, 3) := by decide +kernel
theorem dX10_header_33 : decode cX10_header 33 = .ok (.aload_n 0, 1) := by decide +kernel
theorem dX10_header_34 : decode cX10_header 34 = .ok (.iconst 2, 1) := by decide +kernel
theorem dX10_header_35 : decode cX10_header 35 = .ok (.iload_n 2, 1) := by decide +kernel
theorem dX10_header_36 : decode cX10_header 36 = .ok (.invokevirtual 181, 3) := by decide +kernel
theorem dX10_header_39 : decode cX10_header 39 = .ok (.pop, 1) := by decide +kernel
theorem dX10_header_40 : decode cX10_header 40 = .ok (.iload_n 3, 1) := by decide +kernel
theorem dX10_header_41 : decode cX10_header 41 = .ok (.ireturn, 1) := by decide +kernel
theorem dX10_readAll_0 : decode cX10_readAll 0 = .ok (.aload_n 0, 1) := by decide +kernel
theorem dX10_readAll_1 : decode cX10_readAll 1 = .ok (.aload_n 0, 1) := by decide +kernel
theorem dX10_readAll_2 : decode cX10_readAll 2 = .ok (.bipush 7, 2) := by decide +kernel
theorem dX10_readAll_4 : decode cX10_readAll 4 = .ok (.invokevirtual 191, 3) := by decide +kernel
theorem dX10_readAll_7 : decode cX10_readAll 7 = .ok (.iconst 1, 1) := by decide +kernel
theorem dX10_readAll_8 : decode cX10_readAll 8 = .ok (.iadd, 1) := by decide +kernel
theorem dX10_readAll_9 : decode cX10_readAll 9 = .ok (.putfield 7, 3) := by decide +kernel
theorem dX10_readAll_12 : decode cX10_readAll 12 = .ok (.aload_n 0, 1) := by decide +kernel
theorem dX10_readAll_13 : decode cX10_readAll 13 = .ok (.aload_n 0, 1) := by decide +kernel
theorem dX10_readAll_14 : decode cX10_readAll 14 = .ok (.bipush 7, 2) := by decide +kernel
theorem dX10_readAll_16 : decode cX10_readAll 16 = .ok (.invokevirtual 191, 3) := by decide +kernel
theorem dX10_readAll_19 : decode cX10_readAll 19 = .ok (.iconst 1, 1) := by decide +kernel
theorem dX10_readAll_20 : decode cX10_readAll 20 = .ok (.iadd, 1) := by decide +kernel
theorem dX10_readAll_21 : decode cX10_readAll 21 = .ok (.putfield 13, 3) := by decide +kernel
theorem dX10_readAll_24 : decode cX10_readAll 24 = .ok (.aload_n 0, 1) := by decide +kernel
theorem dX10_readAll_25 : decode cX10_readAll 25 = .ok (.aload_n 0, 1) := by decide +kernel
theorem dX10_readAll_26 : decode cX10_readAll 26 = .ok (.bipush 51, 2) := by decide +kernel
theorem dX10_readAll_28 : decode cX10_readAll 28 = .ok (.invokevirtual 191, 3) := by decide +kernel
theorem dX10_readAll_31 : decode cX10_readAll 31 = .ok (.putfield 58, 3) := by decide +kernel
theorem dX10_readAll_34 : decode cX10_readAll 34 = .ok (.aload_n 0, 1) := by decide +kernel
theorem dX10_readAll_35 : decode cX10_readAll 35 = .ok (.aload_n 0, 1) := by decide +kernel
theorem dX10_readAll_36 : decode cX10_readAll 36 = .ok (.iconst 1, 1) := by decide +kernel
theorem dX10_readAll_37 : decode cX10_readAll 37 = .ok (.aload_n 0, 1) := by decide +kernel
theorem dX10_readAll_38 : decode cX10_readAll 38 = .ok (.getfield 138, 3) := by decide +kernel
theorem dX10_readAll_41 : decode cX10_readAll 41 = .ok (.invokevirtual 184, 3) := by decide +kernel
theorem dX10_readAll_44 : decode cX10_readAll 44 = .ok (.iconst 1, 1) := by decide +kernel
theorem dX10_readAll_45 : decode cX10_readAll 45 = .ok (.if_icmp .ne 7, 3) := by decide +kernel
theorem dX10_readAll_48 : decode cX10_readAll 48 = .ok (.iconst 1, 1) := by decide +kernel
theorem dX10_readAll_49 : decode cX10_readAll 49 = .ok (.goto 4, 3) := by decide +kernel
theorem dX10_readAll_52 : decode cX10_readAll 52 = .ok (.iconst 0, 1) := by decide +kernel
theorem dX10_readAll_53 : decode cX10_readAll 53 = .ok (.putfield 61, 3) := by decide +kernel
theorem dX10_readAll_56 : decode cX10_readAll 56 = .ok (.iconst 0, 1) := by decide +kernel
theorem dX10_readAll_57 : decode cX10_readAll 57 = .ok (.istore_n 1, 1) := by decide +kernel
theorem dX10_readAll_58 : decode cX10_readAll 58 = .ok (.iload_n 1, 1) := by decide +kernel
theorem dX10_readAll_59 : decode cX10_readAll 59 = .ok (.aload_n 0, 1) := by decide +kernel
theorem dX10_readAll_60 : decode cX10_readAll 60 = .ok (.getfield 7, 3) := by decide +kernel
theorem dX10_readAll_63 : decode cX10_readAll 63 = .ok (.aload_n 0, 1) := by decide +kernel
theorem dX10_readAll_64 : decode cX10_readAll 64 = .ok (.getfield 13, 3) := by decide +kernel
theorem dX10_readAll_67 : decode cX10_readAll 67 = .ok (.imul, 1) := by decide +kernel
theorem dX10_readAll_68 : decode cX10_readAll 68 = .ok (.if_icmp .ge 47, 3) := by decide +kernel
theorem dX10_readAll_71 : decode cX10_readAll 71 = .ok (.aload_n 0, 1) := by decide +kernel
theorem dX10_readAll_72 : decode cX10_readAll 72 = .ok (.getfield 178, 3) := by decide +kernel
theorem dX10_readAll_75 : decode cX10_readAll 75 = .ok (.ifCond .ne 40, 3) := by decide +kernel
theorem dX10_readAll_78 : decode cX10_readAll 78 = .ok (.aload_n 0, 1) := by decide +kernel
theorem dX10_readAll_79 : decode cX10_readAll 79 = .ok (.iload_n 1, 1) := by decide +kernel
theorem dX10_readAll_80 : decode cX10_readAll 80 = .ok (.invokevirtual 194, 3) := by decide +kernel
theorem dX10_readAll_83 : decode cX10_readAll 83 = .ok (.aload_n 0, 1) := by decide +kernel
theorem dX10_readAll_84 : decode cX10_readAll 84 = .ok (.getfield 178, 3) := by decide +kernel
theorem dX10_readAll_87 : decode cX10_readAll 87 = .ok (.ifCond .ne 22, 3) := by decide +kernel
theorem dX10_readAll_90 : decode cX10_readAll 90 = .ok (.aload_n 0, 1) := by decide +kernel
theorem dX10_readAll_91 : decode cX10_readAll 91 = .ok (.iload_n 1, 1) := by decide +kernel
theorem dX10_readAll_92 : decode cX10_readAll 92 = .ok (.aload_n 0, 1) := by decide +kernel
theorem dX10_readAll_93 : decode cX10_readAll 93 = .ok (.getfield 32, 3) := by decide +kernel
theorem dX10_readAll_96 : decode cX10_readAll 96 = .ok (.iload_n 1, 1) := by decide +kernel
theorem dX10_readAll_97 : decode cX10_readAll 97 = .ok (.iaload, 1) := by decide +kernel
theorem dX10_readAll_98 : decode cX10_readAll 98 = .ok (.aload_n 0, 1) := by decide +kernel
theorem dX10_readAll_99 : decode cX10_readAll 99 = .ok (.getfield 35, 3) := by decide +kernel
theorem dX10_readAll_102 : decode cX10_readAll 102 = .ok (.aload_n 0, 1) := by decide +kernel
theorem dX10_readAll_103 : decode cX10_readAll 103 = .ok (.getfield 58, 3) := by decide +kernel
theorem dX10_readAll_106 : decode cX10_readAll 106 = .ok (.invokevirtual 166, 3) := by decide +kernel
theorem dX10_readAll_109 : decode cX10_readAll 109 = .ok (.iinc 1 1, 3) := by decide +kernel
theorem dX10_readAll_112 : decode cX10_readAll 112 = .ok (.goto (-54), 3) := by decide +kernel
theorem dX10_readAll_115 : decode cX10_readAll 115 = .ok (.aload_n 0, 1) := by decide +kernel
theorem dX10_readAll_116 : decode cX10_readAll 116 = .ok (.getfield 178, 3) := by decide +kernel
theorem dX10_readAll_119 : decode cX10_readAll 119 = .ok (.ifCond .eq 4, 3) := by decide +kernel
theorem dX10_readAll_122 : decode cX10_readAll 122 = .ok (.return_, 1) := by decide +kernel
theorem dX10_readAll_123 : decode cX10_readAll 123 = .ok (.aload_n 0, 1) := by decide +kernel
theorem dX10_readAll_124 : decode cX10_readAll 124 = .ok (.getfield 138, 3) := by decide +kernel
theorem dX10_readAll_127 : decode cX10_readAll 127 = .ok (.istore_n 1, 1) := by decide +kernel
theorem dX10_readAll_128 : decode cX10_readAll 128 = .ok (.bipush 8, 2) := by decide +kernel
theorem dX10_readAll_130 : decode cX10_readAll 130 = .ok (.aload_n 0, 1) := by decide +kernel
theorem dX10_readAll_131 : decode cX10_readAll 131 = .ok (.getfield 176, 3) := by decide +kernel
theorem dX10_readAll_134 : decode cX10_readAll 134 = .ok (.imul, 1) := by decide +kernel
theorem dX10_readAll_135 : decode cX10_readAll 135 = .ok (.aload_n 0, 1) := by decide +kernel
theorem dX10_readAll_136 : decode cX10_readAll 136 = .ok (.getfield 138, 3) := by decide +kernel
theorem dX10_readAll_139 : decode cX10_readAll 139 = .ok (.isub, 1) := by decide +kernel
theorem dX10_readAll_140 : decode cX10_readAll 140 = .ok (.istore_n 2, 1) := by decide +kernel
theorem dX10_readAll_141 : decode cX10_readAll 141 = .ok (.iload_n 2, 1) := by decide +kernel
theorem dX10_readAll_142 : decode cX10_readAll 142 = .ok (.bipush 7, 2) := by decide +kernel
theorem dX10_readAll_144 : decode cX10_readAll 144 = .ok (.if_icmp .gt 15, 3) := by decide +kernel
theorem dX10_readAll_147 : decode cX10_readAll 147 = .ok (.aload_n 0, 1) := by decide +kernel
theorem dX10_readAll_148 : decode cX10_readAll 148 = .ok (.iload_n 2, 1) := by decide +kernel
theorem dX10_readAll_149 : decode cX10_readAll 149 = .ok (.aload_n 0, 1) := by decide +kernel
theorem dX10_readAll_150 : decode cX10_readAll 150 = .ok (.getfield 138, 3) := by decide +kernel
theorem dX10_readAll_153 : decode cX10_readAll 153 = .ok (.invokevirtual 184, 3) := by decide +kernel
theorem dX10_readAll_156 : decode cX10_readAll 156 = .ok (.ifCond .eq 11, 3) := by decide +kernel
theorem dX10_readAll_159 : decode cX10_readAll 159 = .ok (.aload_n 0, 1) := by decide +kernel
theorem dX10_readAll_160 : decode cX10_readAll 160 = .ok (.bipush 7, 2) := by decide +kernel
theorem dX10_readAll_162 : decode cX10_readAll 162 = .ok (.iload_n 1, 1) := by decide +kernel
theorem dX10_readAll_163 : decode cX10_readAll 163 = .ok (.invokevirtual 181, 3) := by decide +kernel
theorem dX10_readAll_166 : decode cX10_readAll 166 = .ok (.pop, 1) := by decide +kernel
theorem dX10_readAll_167 : decode cX10_readAll 167 = .ok (.return_, 1) := by decide +kernel
theorem dX10_unpack_0 : decode cX10_unpack 0 = .ok (.aload_n 0, 1) := by decide +kernel
theorem dX10_unpack_1 : decode cX10_unpack 1 = .ok (.iconst 0, 1) := by decide +kernel
theorem dX10_unpack_2 : decode cX10_unpack 2 = .ok (.putfield 47, 3) := by decide +kernel
theorem dX10_unpack_5 : decode cX10_unpack 5 = .ok (.aload_n 0, 1) := by decide +kernel
theorem dX10_unpack_6 : decode cX10_unpack 6 = .ok (.getfield 7, 3) := by decide +kernel
theorem dX10_unpack_9 : decode cX10_unpack 9 = .ok (.istore_n 1, 1) := by decide +kernel
theorem dX10_unpack_10 : decode cX10_unpack 10 = .ok (.aload_n 0, 1) := by decide +kernel
theorem dX10_unpack_11 : decode cX10_unpack 11 = .ok (.getfield 13, 3) := by decide +kernel
theorem dX10_unpack_14 : decode cX10_unpack 14 = .ok (.istore_n 2, 1) := by decide +kernel
theorem dX10_unpack_15 : decode cX10_unpack 15 = .ok (.aload_n 0, 1) := by decide +kernel
theorem dX10_unpack_16 : decode cX10_unpack 16 = .ok (.getfield 58, 3) := by decide +kernel
theorem dX10_unpack_19 : decode cX10_unpack 19 = .ok (.istore_n 3, 1) := by decide +kernel
theorem dX10_unpack_20 : decode cX10_unpack 20 = .ok (.aload_n 0, 1) := by decide +kernel
theorem dX10_unpack_21 : decode cX10_unpack 21 = .ok (.getfield 61, 3) := by decide +kernel
theorem dX10_unpack_24 : decode cX10_unpack 24 = .ok (.istore 4, 2) := by decide +kernel
theorem dX10_unpack_26 : decode cX10_unpack 26 = .ok (.iconst 0, 1) := by decide +kernel
theorem dX10_unpack_27 : decode cX10_unpack 27 = .ok (.istore 5, 2) := by decide +kernel
theorem dX10_unpack_29 : decode cX10_unpack 29 = .ok (.iload 5, 2) := by decide +kernel
theorem dX10_unpack_31 : decode cX10_unpack 31 = .ok (.sipush 1024, 3) := by decide +kernel
theorem dX10_unpack_34 : decode cX10_unpack 34 = .ok (.if_icmp .ge 23, 3) := by decide +kernel
theorem dX10_unpack_37 : decode cX10_unpack 37 = .ok (.aload_n 0, 1) := by decide +kernel
theorem dX10_unpack_38 : decode cX10_unpack 38 = .ok (.getfield 23, 3) := by decide +kernel
theorem dX10_unpack_41 : decode cX10_unpack 41 = .ok (.iload 5, 2) := by decide +kernel
theorem dX10_unpack_43 : decode cX10_unpack 43 = .ok (.aload_n 0, 1) := by decide +kernel
theorem dX10_unpack_44 : decode cX10_unpack 44 = .ok (.getfield 16, 3) := by decide +kernel
theorem dX10_unpack_47 : decode cX10_unpack 47 = .ok (.iload 5, 2) := by decide +kernel
theorem dX10_unpack_49 : decode cX10_unpack 49 = .ok (.iaload, 1) := by decide +kernel
theorem dX10_unpack_50 : decode cX10_unpack 50 = .ok (.iastore, 1) := by decide +kernel
theorem dX10_unpack_51 : decode cX10_unpack 51 = .ok (.iinc 5 1, 3) := by decide +kernel
theorem dX10_unpack_54 : decode cX10_unpack 54 = .ok (.goto (-25), 3) := by decide +kernel
theorem dX10_unpack_57 : decode cX10_unpack 57 = .ok (.aload_n 0, 1) := by decide +kernel
theorem dX10_unpack_58 : decode cX10_unpack 58 = .ok (.iconst 0, 1) := by decide +kernel
theorem dX10_unpack_59 : decode cX10_unpack 59 = .ok (.putfield 138, 3) := by decide +kernel
theorem dX10_unpack_62 : decode cX10_unpack 62 = .ok (.aload_n 0, 1) := by decide +kernel
theorem dX10_unpack_63 : decode cX10_unpack 63 = .ok (.iconst 0, 1) := by decide +kernel
theorem dX10_unpack_64 : decode cX10_unpack 64 = .ok (.putfield 178, 3) := by decide +kernel
theorem dX10_unpack_67 : decode cX10_unpack 67 = .ok (.aload_n 0, 1) := by decide +kernel
theorem dX10_unpack_68 : decode cX10_unpack 68 = .ok (.iconst (-1), 1) := by decide +kernel
theorem dX10_unpack_69 : decode cX10_unpack 69 = .ok (.putfield 41, 3) := by decide +kernel
theorem dX10_unpack_72 : decode cX10_unpack 72 = .ok (.aload_n 0, 1) := by decide +kernel
theorem dX10_unpack_73 : decode cX10_unpack 73 = .ok (.invokevirtual 197, 3) := by decide +kernel
theorem dX10_unpack_76 : decode cX10_unpack 76 = .ok (.aload_n 0, 1) := by decide +kernel
theorem dX10_unpack_77 : decode cX10_unpack 77 = .ok (.getfield 178, 3) := by decide +kernel
theorem dX10_unpack_80 : decode cX10_unpack 80 = .ok (.ifCond .eq 61, 3) := by decide +kernel
theorem dX10_unpack_83 : decode cX10_unpack 83 = .ok (.aload_n 0, 1) := by decide +kernel
theorem dX10_unpack_84 : decode cX10_unpack 84 = .ok (.iload_n 1, 1) := by decide +kernel
theorem dX10_unpack_85 : decode cX10_unpack 85 = .ok (.putfield 7, 3) := by decide +kernel
theorem dX10_unpack_88 : decode cX10_unpack 88 = .ok (.aload_n 0, 1) := by decide +kernel
theorem dX10_unpack_89 : decode cX10_unpack 89 = .ok (.iload_n 2, 1) := by decide +kernel
theorem dX10_unpack_90 : decode cX10_unpack 90 = .ok (.putfield 13, 3) := by decide +kernel
theorem dX10_unpack_93 : decode cX10_unpack 93 = .ok (.aload_n 0, 1) := by decide +kernel
theorem dX10_unpack_94 : decode cX10_unpack 94 = .ok (.iload_n 3, 1) := by decide +kernel
theorem dX10_unpack_95 : decode cX10_unpack 95 = .ok (.putfield 58, 3) := by decide +kernel
theorem dX10_unpack_98 : decode cX10_unpack 98 = .ok (.aload_n 0, 1) := by decide +kernel
theorem dX10_unpack_99 : decode cX10_unpack 99 = .ok (.iload 4, 2) := by decide +kernel
theorem dX10_unpack_101 : decode cX10_unpack 101 = .ok (.putfield 61, 3) := by decide +kernel
theorem dX10_unpack_104 : decode cX10_unpack 104 = .ok (.iconst 0, 1) := by decide +kernel
theorem dX10_unpack_105 : decode cX10_unpack 105 = .ok (.istore 5, 2) := by decide +kernel
theorem dX10_unpack_107 : decode cX10_unpack 107 = .ok (.iload 5, 2) := by decide +kernel
theorem dX10_unpack_109 : decode cX10_unpack 109 = .ok (.sipush 1024, 3) := by decide +kernel
theorem dX10_unpack_112 : decode cX10_unpack 112 = .ok (.if_icmp .ge 23, 3) := by decide +kernel
theorem dX10_unpack_115 : decode cX10_unpack 115 = .ok (.aload_n 0, 1) := by decide +kernel
theorem dX10_unpack_116 : decode cX10_unpack 116 = .ok (.getfield 16, 3) := by decide +kernel
theorem dX10_unpack_119 : decode cX10_unpack 119 = .ok (.iload 5, 2) := by decide +kernel
theorem dX10_unpack_121 : decode cX10_unpack 121 = .ok (.aload_n 0, 1) := by decide +kernel
theorem dX10_unpack_122 : decode cX10_unpack 122 = .ok (.getfield 23, 3) := by decide +kernel
theorem dX10_unpack_125 : decode cX10_unpack 125 = .ok (.iload 5, 2) := by decide +kernel
theorem dX10_unpack_127 : decode cX10_unpack 127 = .ok (.iaload, 1) := by decide +kernel
theorem dX10_unpack_128 : decode cX10_unpack 128 = .ok (.iastore, 1) := by decide +kernel
theorem dX10_unpack_129 : decode cX10_unpack 129 = .ok (.iinc 5 1, 3) := by decide +kernel
theorem dX10_unpack_132 : decode cX10_unpack 132 = .ok (.goto (-25), 3) := by decide +kernel
theorem dX10_unpack_135 : decode cX10_unpack 135 = .ok (.aload_n 0, 1) := by decide +kernel
theorem dX10_unpack_136 : decode cX10_unpack 136 = .ok (.getfield 178, 3) := by decide +kernel
theorem dX10_unpack_139 : decode cX10_unpack 139 = .ok (.ineg, 1) := by decide +kernel
theorem dX10_unpack_140 : decode cX10_unpack 140 = .ok (.ireturn, 1) := by decide +kernel
theorem dX10_unpack_141 : decode cX10_unpack 141 = .ok (.aload_n 0, 1) := by decide +kernel
theorem dX10_unpack_142 : decode cX10_unpack 142 = .ok (.getfield 61, 3) := by decide +kernel
theorem dX10_unpack_145 : decode cX10_unpack 145 = .ok (.ifCond .eq 7, 3) := by decide +kernel
theorem dX10_unpack_148 : decode cX10_unpack 148 = .ok (.aload_n 0, 1) := by decide +kernel
theorem dX10_unpack_149 : decode cX10_unpack 149 = .ok (.invokevirtual 173, 3) := by decide +kernel
theorem dX10_unpack_152 : decode cX10_unpack 152 = .ok (.iconst 0, 1) := by decide +kernel
theorem dX10_unpack_153 : decode cX10_unpack 153 = .ok (.istore 5, 2) := by decide +kernel
theorem dX10_unpack_155 : decode cX10_unpack 155 = .ok (.iload 5, 2) := by decide +kernel
theorem dX10_unpack_157 : decode cX10_unpack 157 = .ok (.bipush 64, 2) := by decide +kernel
theorem dX10_unpack_159 : decode cX10_unpack 159 = .ok (.if_icmp .ge 23, 3) := by decide +kernel
theorem dX10_unpack_162 : decode cX10_unpack 162 = .ok (.aload_n 0, 1) := by decide +kernel
theorem dX10_unpack_163 : decode cX10_unpack 163 = .ok (.getfield 26, 3) := by decide +kernel
theorem dX10_unpack_166 : decode cX10_unpack 166 = .ok (.iload 5, 2) := by decide +kernel
theorem dX10_unpack_168 : decode cX10_unpack 168 = .ok (.aload_n 0, 1) := by decide +kernel
theorem dX10_unpack_169 : decode cX10_unpack 169 = .ok (.getfield 32, 3) := by decide +kernel
theorem dX10_unpack_172 : decode cX10_unpack 172 = .ok (.iload 5, 2) := by decide +kernel
theorem dX10_unpack_174 : decode cX10_unpack 174 = .ok (.iaload, 1) := by decide +kernel
theorem dX10_unpack_175 : decode cX10_unpack 175 = .ok (.iastore, 1) := by decide +kernel
theorem dX10_unpack_176 : decode cX10_unpack 176 = .ok (.iinc 5 1, 3) := by decide +kernel
theorem dX10_unpack_179 : decode cX10_unpack 179 = .ok (.goto (-24), 3) := by decide +kernel
theorem dX10_unpack_182 : decode cX10_unpack 182 = .ok (.iconst 0, 1) := by decide +kernel
theorem dX10_unpack_183 : decode cX10_unpack 183 = .ok (.istore 5, 2) := by decide +kernel
theorem dX10_unpack_185 : decode cX10_unpack 185 = .ok (.iload 5, 2) := by decide +kernel
theorem dX10_unpack_187 : decode cX10_unpack 187 = .ok (.sipush 1024, 3) := by decide +kernel
theorem dX10_unpack_190 : decode cX10_unpack 190 = .ok (.if_icmp .ge 23, 3) := by decide +kernel
theorem dX10_unpack_193 : decode cX10_unpack 193 = .ok (.aload_n 0, 1) := by decide +kernel
theorem dX10_unpack_194 : decode cX10_unpack 194 = .ok (.getfield 29, 3) := by decide +kernel
theorem dX10_unpack_197 : decode cX10_unpack 197 = .ok (.iload 5, 2) := by decide +kernel
theorem dX10_unpack_199 : decode cX10_unpack 199 = .ok (.aload_n 0, 1) := by decide +kernel
theorem dX10_unpack_200 : decode cX10_unpack 200 = .ok (.getfield 35, 3) := by decide +kernel
theorem dX10_unpack_203 : decode cX10_unpack 203 = .ok (.iload 5, 2) := by decide +kernel
theorem dX10_unpack_205 : decode cX10_unpack 205 = .ok (.iaload, 1) := by decide +kernel
theorem dX10_unpack_206 : decode cX10_unpack 206 = .ok (.iastore, 1) := by decide +kernel
theorem dX10_unpack_207 : decode cX10_unpack 207 = .ok (.iinc 5 1, 3) := by decide +kernel
theorem dX10_unpack_210 : decode cX10_unpack 210 = .ok (.goto (-25), 3) := by decide +kernel
theorem dX10_unpack_213 : decode cX10_unpack 213 = .ok (.iconst 0, 1) := by decide +kernel
theorem dX10_unpack_214 : decode cX10_unpack 214 = .ok (.ireturn, 1) := by decide +kernel
theorem dX10_place_0 : decode cX10_place 0 = .ok (.aload_n 0, 1) := by decide +kernel
theorem dX10_place_1 : decode cX10_place 1 = .ok (.iconst 0, 1) := by decide +kernel
theorem dX10_place_2 : decode cX10_place 2 = .ok (.putfield 47, 3) := by decide +kernel
theorem dX10_place_5 : decode cX10_place 5 = .ok (.aload_n 0, 1) := by decide +kernel
theorem dX10_place_6 : decode cX10_place 6 = .ok (.getfield 41, 3) := by decide +kernel
theorem dX10_place_9 : decode cX10_place 9 = .ok (.ireturn, 1) := by decide +kernel
theorem dX10_feed_0 : decode cX10_feed 0 = .ok (.aload_n 0, 1) := by decide +kernel
theorem dX10_feed_1 : decode cX10_feed 1 = .ok (.aload_n 0, 1) := by decide +kernel
theorem dX10_feed_2 : decode cX10_feed 2 = .ok (.getfield 176, 3) := by decide +kernel
theorem dX10_feed_5 : decode cX10_feed 5 = .ok (.iconst 4, 1) := by decide +kernel
theorem dX10_feed_6 : decode cX10_feed 6 = .ok (.iadd, 1) := by decide +kernel
theorem dX10_feed_7 : decode cX10_feed 7 = .ok (.sipush 8000, 3) := by decide +kernel
theorem dX10_feed_10 : decode cX10_feed 10 = .ok (.if_icmp .le 7, 3) := by decide +kernel
theorem dX10_feed_13 : decode cX10_feed 13 = .ok (.iconst 1, 1) := by decide +kernel
theorem dX10_feed_14 : decode cX10_feed 14 = .ok (.goto 4, 3) := by decide +kernel
theorem dX10_feed_17 : decode cX10_feed 17 = .ok (.iconst 0, 1) := by decide +kernel
theorem dX10_feed_18 : decode cX10_feed 18 = .ok (.iconst 1, 1) := by decide +kernel
theorem dX10_feed_19 : decode cX10_feed 19 = .ok (.invokevirtual 54, 3) := by decide +kernel
theorem dX10_feed_22 : decode cX10_feed 22 = .ok (.ifCond .eq 5, 3) := by decide +kernel
theorem dX10_feed_25 : decode cX10_feed 25 = .ok (.iconst 0, 1) := by decide +kernel
theorem dX10_feed_26 : decode cX10_feed 26 = .ok (.ireturn, 1) := by decide +kernel
theorem dX10_feed_27 : decode cX10_feed 27 = .ok (.iconst 0, 1) := by decide +kernel
theorem dX10_feed_28 : decode cX10_feed 28 = .ok (.istore_n 2, 1) := by decide +kernel
theorem dX10_feed_29 : decode cX10_feed 29 = .ok (.iload_n 2, 1) := by decide +kernel
theorem dX10_feed_30 : decode cX10_feed 30 = .ok (.iconst 4, 1) := by decide +kernel
theorem dX10_feed_31 : decode cX10_feed 31 = .ok (.if_icmp .ge 33, 3) := by decide +kernel
theorem dX10_feed_34 : decode cX10_feed 34 = .ok (.aload_n 0, 1) := by decide +kernel
theorem dX10_feed_35 : decode cX10_feed 35 = .ok (.getfield 38, 3) := by decide +kernel
theorem dX10_feed_38 : decode cX10_feed 38 = .ok (.aload_n 0, 1) := by decide +kernel
theorem dX10_feed_39 : decode cX10_feed 39 = .ok (.getfield 176, 3) := by decide +kernel
theorem dX10_feed_42 : decode cX10_feed 42 = .ok (.iload_n 2, 1) := by decide +kernel
theorem dX10_feed_43 : decode cX10_feed 43 = .ok (.iadd, 1) := by decide +kernel
theorem dX10_feed_44 : decode cX10_feed 44 = .ok (.iload_n 1, 1) := by decide +kernel
theorem dX10_feed_45 : decode cX10_feed 45 = .ok (.bipush 24, 2) := by decide +kernel
theorem dX10_feed_47 : decode cX10_feed 47 = .ok (.bipush 8, 2) := by decide +kernel
theorem dX10_feed_49 : decode cX10_feed 49 = .ok (.iload_n 2, 1) := by decide +kernel
theorem dX10_feed_50 : decode cX10_feed 50 = .ok (.imul, 1) := by decide +kernel
theorem dX10_feed_51 : decode cX10_feed 51 = .ok (.isub, 1) := by decide +kernel
theorem dX10_feed_52 : decode cX10_feed 52 = .ok (.ishr, 1) := by decide +kernel
theorem dX10_feed_53 : decode cX10_feed 53 = .ok (.sipush 255, 3) := by decide +kernel
theorem dX10_feed_56 : decode cX10_feed 56 = .ok (.iand, 1) := by decide +kernel
theorem dX10_feed_57 : decode cX10_feed 57 = .ok (.iastore, 1) := by decide +kernel
theorem dX10_feed_58 : decode cX10_feed 58 = .ok (.iinc 2 1, 3) := by decide +kernel
theorem dX10_feed_61 : decode cX10_feed 61 = .ok (.goto (-32), 3) := by decide +kernel
theorem dX10_feed_64 : decode cX10_feed 64 = .ok (.aload_n 0, 1) := by decide +kernel
theorem dX10_feed_65 : decode cX10_feed 65 = .ok (.dup, 1) := by decide +kernel
theorem dX10_feed_66 : decode cX10_feed 66 = .ok (.getfield 176, 3) := by decide +kernel
theorem dX10_feed_69 : decode cX10_feed 69 = .ok (.iconst 4, 1) := by decide +kernel
theorem dX10_feed_70 : decode cX10_feed 70 = .ok (.iadd, 1) := by decide +kernel
theorem dX10_feed_71 : decode cX10_feed 71 = .ok (.putfield 176, 3) := by decide +kernel
theorem dX10_feed_74 : decode cX10_feed 74 = .ok (.aload_n 0, 1) := by decide +kernel
theorem dX10_feed_75 : decode cX10_feed 75 = .ok (.getfield 176, 3) := by decide +kernel
theorem dX10_feed_78 : decode cX10_feed 78 = .ok (.ireturn, 1) := by decide +kernel
theorem dX10_end_0 : decode cX10_end 0 = .ok (.aload_n 0, 1) := by decide +kernel
theorem dX10_end_1 : decode cX10_end 1 = .ok (.iload_n 1, 1) := by decide +kernel
theorem dX10_end_2 : decode cX10_end 2 = .ok (.ifCond .lt 11, 3) := by decide +kernel
theorem dX10_end_5 : decode cX10_end 5 = .ok (.iload_n 1, 1) := by decide +kernel
theorem dX10_end_6 : decode cX10_end 6 = .ok (.aload_n 0, 1) := by decide +kernel
theorem dX10_end_7 : decode cX10_end 7 = .ok (.getfield 176, 3) := by decide +kernel
theorem dX10_end_10 : decode cX10_end 10 = .ok (.if_icmp .le 7, 3) := by decide +kernel
theorem dX10_end_13 : decode cX10_end 13 = .ok (.iconst 1, 1) := by decide +kernel
theorem dX10_end_14 : decode cX10_end 14 = .ok (.goto 4, 3) := by decide +kernel
theorem dX10_end_17 : decode cX10_end 17 = .ok (.iconst 0, 1) := by decide +kernel
theorem dX10_end_18 : decode cX10_end 18 = .ok (.iconst 1, 1) := by decide +kernel
theorem dX10_end_19 : decode cX10_end 19 = .ok (.invokevirtual 54, 3) := by decide +kernel
theorem dX10_end_22 : decode cX10_end 22 = .ok (.ifCond .eq 4, 3) := by decide +kernel
theorem dX10_end_25 : decode cX10_end 25 = .ok (.return_, 1) := by decide +kernel
theorem dX10_end_26 : decode cX10_end 26 = .ok (.aload_n 0, 1) := by decide +kernel
theorem dX10_end_27 : decode cX10_end 27 = .ok (.iload_n 1, 1) := by decide +kernel
theorem dX10_end_28 : decode cX10_end 28 = .ok (.putfield 176, 3) := by decide +kernel
theorem dX10_end_31 : decode cX10_end 31 = .ok (.return_, 1) := by decide +kernel
theorem dX10_alter_0 : decode cX10_alter 0 = .ok (.aload_n 0, 1) := by decide +kernel
theorem dX10_alter_1 : decode cX10_alter 1 = .ok (.iload_n 1, 1) := by decide +kernel
theorem dX10_alter_2 : decode cX10_alter 2 = .ok (.ifCond .lt 11, 3) := by decide +kernel
theorem dX10_alter_5 : decode cX10_alter 5 = .ok (.iload_n 1, 1) := by decide +kernel
theorem dX10_alter_6 : decode cX10_alter 6 = .ok (.aload_n 0, 1) := by decide +kernel
theorem dX10_alter_7 : decode cX10_alter 7 = .ok (.getfield 176, 3) := by decide +kernel
theorem dX10_alter_10 : decode cX10_alter 10 = .ok (.if_icmp .lt 7, 3) := by decide +kernel
theorem dX10_alter_13 : decode cX10_alter 13 = .ok (.iconst 1, 1) := by decide +kernel
theorem dX10_alter_14 : decode cX10_alter 14 = .ok (.goto 4, 3) := by decide +kernel
theorem dX10_alter_17 : decode cX10_alter 17 = .ok (.iconst 0, 1) := by decide +kernel
theorem dX10_alter_18 : decode cX10_alter 18 = .ok (.iconst 1, 1) := by decide +kernel
theorem dX10_alter_19 : decode cX10_alter 19 = .ok (.invokevirtual 54, 3) := by decide +kernel
theorem dX10_alter_22 : decode cX10_alter 22 = .ok (.ifCond .eq 5, 3) := by decide +kernel
theorem dX10_alter_25 : decode cX10_alter 25 = .ok (.iconst 0, 1) := by decide +kernel
theorem dX10_alter_26 : decode cX10_alter 26 = .ok (.ireturn, 1) := by decide +kernel
theorem dX10_alter_27 : decode cX10_alter 27 = .ok (.aload_n 0, 1) := by decide +kernel
theorem dX10_alter_28 : decode cX10_alter 28 = .ok (.getfield 38, 3) := by decide +kernel
theorem dX10_alter_31 : decode cX10_alter 31 = .ok (.iload_n 1, 1) := by decide +kernel
theorem dX10_alter_32 : decode cX10_alter 32 = .ok (.iaload, 1) := by decide +kernel
theorem dX10_alter_33 : decode cX10_alter 33 = .ok (.istore_n 3, 1) := by decide +kernel
theorem dX10_alter_34 : decode cX10_alter 34 = .ok (.aload_n 0, 1) := by decide +kernel
theorem dX10_alter_35 : decode cX10_alter 35 = .ok (.getfield 38, 3) := by decide +kernel
theorem dX10_alter_38 : decode cX10_alter 38 = .ok (.iload_n 1, 1) := by decide +kernel
theorem dX10_alter_39 : decode cX10_alter 39 = .ok (.iload_n 2, 1) := by decide +kernel
theorem dX10_alter_40 : decode cX10_alter 40 = .ok (.sipush 255, 3) := by decide +kernel
theorem dX10_alter_43 : decode cX10_alter 43 = .ok (.iand, 1) := by decide +kernel
theorem dX10_alter_44 : decode cX10_alter 44 = .ok (.iastore, 1) := by decide +kernel
theorem dX10_alter_45 : decode cX10_alter 45 = .ok (.iload_n 3, 1) := by decide +kernel
theorem dX10_alter_46 : decode cX10_alter 46 = .ok (.ireturn, 1) := by decide +kernel
theorem dX10_bits_0 : decode cX10_bits 0 = .ok (.aload_n 0, 1) := by decide +kernel
theorem dX10_bits_1 : decode cX10_bits 1 = .ok (.iconst 0, 1) := by decide +kernel
theorem dX10_bits_2 : decode cX10_bits 2 = .ok (.putfield 47, 3) := by decide +kernel
theorem dX10_bits_5 : decode cX10_bits 5 = .ok (.iload_n 1, 1) := by decide +kernel
theorem dX10_bits_6 : decode cX10_bits 6 = .ok (.ifCond .lt 20, 3) := by decide +kernel
theorem dX10_bits_9 : decode cX10_bits 9 = .ok (.iload_n 1, 1) := by decide +kernel
theorem dX10_bits_10 : decode cX10_bits 10 = .ok (.aload_n 0, 1) := by decide +kernel
theorem dX10_bits_11 : decode cX10_bits 11 = .ok (.getfield 176, 3) := by decide +kernel
theorem dX10_bits_14 : decode cX10_bits 14 = .ok (.if_icmp .ge 12, 3) := by decide +kernel
theorem dX10_bits_17 : decode cX10_bits 17 = .ok (.aload_n 0, 1) := by decide +kernel
theorem dX10_bits_18 : decode cX10_bits 18 = .ok (.getfield 38, 3) := by decide +kernel
theorem dX10_bits_21 : decode cX10_bits 21 = .ok (.iload_n 1, 1) := by decide +kernel
theorem dX10_bits_22 : decode cX10_bits 22 = .ok (.iaload, 1) := by decide +kernel
theorem dX10_bits_23 : decode cX10_bits 23 = .ok (.goto 4, 3) := by decide +kernel
theorem dX10_bits_26 : decode cX10_bits 26 = .ok (.iconst (-1), 1) := by decide +kernel
theorem dX10_bits_27 : decode cX10_bits 27 = .ok (.ireturn, 1) := by decide +kernel
theorem dX10_block_0 : decode cX10_block 0 = .ok (.aload_n 0, 1) := by decide +kernel
theorem dX10_block_1 : decode cX10_block 1 = .ok (.iload_n 1, 1) := by decide +kernel
theorem dX10_block_2 : decode cX10_block 2 = .ok (.iconst 0, 1) := by decide +kernel
theorem dX10_block_3 : decode cX10_block 3 = .ok (.aload_n 0, 1) := by decide +kernel
theorem dX10_block_4 : decode cX10_block 4 = .ok (.getfield 7, 3) := by decide +kernel
theorem dX10_block_7 : decode cX10_block 7 = .ok (.aload_n 0, 1) := by decide +kernel
theorem dX10_block_8 : decode cX10_block 8 = .ok (.getfield 13, 3) := by decide +kernel
theorem dX10_block_11 : decode cX10_block 11 = .ok (.imul, 1) := by decide +kernel
theorem dX10_block_12 : decode cX10_block 12 = .ok (.iconst 1, 1) := by decide +kernel
theorem dX10_block_13 : decode cX10_block 13 = .ok (.isub, 1) := by decide +kernel
theorem dX10_block_14 : decode cX10_block 14 = .ok (.invokestatic 50, 3) := by decide +kernel
theorem dX10_block_17 : decode cX10_block 17 = .ok (.ifCond .eq 13, 3) := by decide +kernel
theorem dX10_block_20 : decode cX10_block 20 = .ok (.iload_n 2, 1) := by decide +kernel
theorem dX10_block_21 : decode cX10_block 21 = .ok (.iconst (-1), 1) := by decide +kernel
theorem dX10_block_22 : decode cX10_block 22 = .ok (.bipush 15, 2) := by decide +kernel
theorem dX10_block_24 : decode cX10_block 24 = .ok (.invokestatic 50, 3) := by decide +kernel
theorem dX10_block_27 : decode cX10_block 27 = .ok (.ifCond .ne 7, 3) := by decide +kernel
theorem dX10_block_30 : decode cX10_block 30 = .ok (.iconst 1, 1) := by decide +kernel
theorem dX10_block_31 : decode cX10_block 31 = .ok (.goto 4, 3) := by decide +kernel
theorem dX10_block_34 : decode cX10_block 34 = .ok (.iconst 0, 1) := by decide +kernel
theorem dX10_block_35 : decode cX10_block 35 = .ok (.iconst 1, 1) := by decide +kernel
theorem dX10_block_36 : decode cX10_block 36 = .ok (.invokevirtual 54, 3) := by decide +kernel
theorem dX10_block_39 : decode cX10_block 39 = .ok (.ifCond .eq 5, 3) := by decide +kernel
theorem dX10_block_42 : decode cX10_block 42 = .ok (.iconst 0, 1) := by decide +kernel
theorem dX10_block_43 : decode cX10_block 43 = .ok (.ireturn, 1) := by decide +kernel
theorem dX10_block_44 : decode cX10_block 44 = .ok (.iload_n 2, 1) := by decide +kernel
theorem dX10_block_45 : decode cX10_block 45 = .ok (.iconst (-1), 1) := by decide +kernel
theorem dX10_block_46 : decode cX10_block 46 = .ok (.if_icmp .ne 12, 3) := by decide +kernel
theorem dX10_block_49 : decode cX10_block 49 = .ok (.aload_n 0, 1) := by decide +kernel
theorem dX10_block_50 : decode cX10_block 50 = .ok (.getfield 26, 3) := by decide +kernel
theorem dX10_block_53 : decode cX10_block 53 = .ok (.iload_n 1, 1) := by decide +kernel
theorem dX10_block_54 : decode cX10_block 54 = .ok (.iaload, 1) := by decide +kernel
theorem dX10_block_55 : decode cX10_block 55 = .ok (.goto 14, 3) := by decide +kernel
theorem dX10_block_58 : decode cX10_block 58 = .ok (.aload_n 0, 1) := by decide +kernel
theorem dX10_block_59 : decode cX10_block 59 = .ok (.getfield 29, 3) := by decide +kernel
theorem dX10_block_62 : decode cX10_block 62 = .ok (.bipush 16, 2) := by decide +kernel
theorem dX10_block_64 : decode cX10_block 64 = .ok (.iload_n 1, 1) := by decide +kernel
theorem dX10_block_65 : decode cX10_block 65 = .ok (.imul, 1) := by decide +kernel
theorem dX10_block_66 : decode cX10_block 66 = .ok (.iload_n 2, 1) := by decide +kernel
theorem dX10_block_67 : decode cX10_block 67 = .ok (.iadd, 1) := by decide +kernel
theorem dX10_block_68 : decode cX10_block 68 = .ok (.iaload, 1) := by decide +kernel
theorem dX10_block_69 : decode cX10_block 69 = .ok (.ireturn, 1) := by decide +kernel
theorem dX10_foretold_0 : decode cX10_foretold 0 = .ok (.aload_n 0, 1) := by decide +kernel
theorem dX10_foretold_1 : decode cX10_foretold 1 = .ok (.iload_n 1, 1) := by decide +kernel
theorem dX10_foretold_2 : decode cX10_foretold 2 = .ok (.iconst 0, 1) := by decide +kernel
theorem dX10_foretold_3 : decode cX10_foretold 3 = .ok (.aload_n 0, 1) := by decide +kernel
theorem dX10_foretold_4 : decode cX10_foretold 4 = .ok (.getfield 7, 3) := by decide +kernel
theorem dX10_foretold_7 : decode cX10_foretold 7 = .ok (.aload_n 0, 1) := by decide +kernel
theorem dX10_foretold_8 : decode cX10_foretold 8 = .ok (.getfield 13, 3) := by decide +kernel
theorem dX10_foretold_11 : decode cX10_foretold 11 = .ok (.imul, 1) := by decide +kernel
theorem dX10_foretold_12 : decode cX10_foretold 12 = .ok (.iconst 1, 1) := by decide +kernel
theorem dX10_foretold_13 : decode cX10_foretold 13 = .ok (.isub, 1) := by decide +kernel
theorem dX10_foretold_14 : decode cX10_foretold 14 = .ok (.invokestatic 50, 3) := by decide +kernel
theorem dX10_foretold_17 : decode cX10_foretold 17 = .ok (.ifCond .eq 32, 3) := by decide +kernel
theorem dX10_foretold_20 : decode cX10_foretold 20 = .ok (.iload_n 2, 1) := by decide +kernel
theorem dX10_foretold_21 : decode cX10_foretold 21 = .ok (.iconst 0, 1) := by decide +kernel
theorem dX10_foretold_22 : decode cX10_foretold 22 = .ok (.bipush 8, 2) := by decide +kernel
theorem dX10_foretold_24 : decode cX10_foretold 24 = .ok (.invokestatic 50, 3) := by decide +kernel
theorem dX10_foretold_27 : decode cX10_foretold 27 = .ok (.ifCond .eq 22, 3) := by decide +kernel
theorem dX10_foretold_30 : decode cX10_foretold 30 = .ok (.iload_n 3, 1) := by decide +kernel
theorem dX10_foretold_31 : decode cX10_foretold 31 = .ok (.iconst 0, 1) := by decide +kernel
theorem dX10_foretold_32 : decode cX10_foretold 32 = .ok (.iconst 3, 1) := by decide +kernel
theorem dX10_foretold_33 : decode cX10_foretold 33 = .ok (.invokestatic 50, 3) := by decide +kernel
theorem dX10_foretold_36 : decode cX10_foretold 36 = .ok (.ifCond .eq 13, 3) := by decide +kernel
theorem dX10_foretold_39 : decode cX10_foretold 39 = .ok (.iload 4, 2) := by decide +kernel
theorem dX10_foretold_41 : decode cX10_foretold 41 = .ok (.iconst 0, 1) := by decide +kernel
theorem dX10_foretold_42 : decode cX10_foretold 42 = .ok (.iconst 3, 1) := by decide +kernel
theorem dX10_foretold_43 : decode cX10_foretold 43 = .ok (.invokestatic 50, 3) := by decide +kernel
theorem dX10_foretold_46 : decode cX10_foretold 46 = .ok (.ifCond .ne 7, 3) := by decide +kernel
theorem dX10_foretold_49 : decode cX10_foretold 49 = .ok (.iconst 1, 1) := by decide +kernel
theorem dX10_foretold_50 : decode cX10_foretold 50 = .ok (.goto 4, 3) := by decide +kernel
theorem dX10_foretold_53 : decode cX10_foretold 53 = .ok (.iconst 0, 1) := by decide +kernel
theorem dX10_foretold_54 : decode cX10_foretold 54 = .ok (.iconst 1, 1) := by decide +kernel
theorem dX10_foretold_55 : decode cX10_foretold 55 = .ok (.invokevirtual 54, 3) := by decide +kernel
theorem dX10_foretold_58 : decode cX10_foretold 58 = .ok (.ifCond .eq 5, 3) := by decide +kernel
theorem dX10_foretold_61 : decode cX10_foretold 61 = .ok (.iconst 0, 1) := by decide +kernel
theorem dX10_foretold_62 : decode cX10_foretold 62 = .ok (.ireturn, 1) := by decide +kernel
theorem dX10_foretold_63 : decode cX10_foretold 63 = .ok (.aload_n 0, 1) := by decide +kernel
theorem dX10_foretold_64 : decode cX10_foretold 64 = .ok (.iload_n 1, 1) := by decide +kernel
theorem dX10_foretold_65 : decode cX10_foretold 65 = .ok (.iload_n 2, 1) := by decide +kernel
theorem dX10_foretold_66 : decode cX10_foretold 66 = .ok (.invokevirtual 155, 3) := by decide +kernel
theorem dX10_foretold_69 : decode cX10_foretold 69 = .ok (.ifCond .eq 15, 3) := by decide +kernel
theorem dX10_foretold_72 : decode cX10_foretold 72 = .ok (.aload_n 0, 1) := by decide +kernel
theorem dX10_foretold_73 : decode cX10_foretold 73 = .ok (.iload_n 1, 1) := by decide +kernel
theorem dX10_foretold_74 : decode cX10_foretold 74 = .ok (.iload_n 2, 1) := by decide +kernel
theorem dX10_foretold_75 : decode cX10_foretold 75 = .ok (.iload_n 3, 1) := by decide +kernel
theorem dX10_foretold_76 : decode cX10_foretold 76 = .ok (.iload 4, 2) := by decide +kernel
theorem dX10_foretold_78 : decode cX10_foretold 78 = .ok (.invokevirtual 116, 3) := by decide +kernel
theorem dX10_foretold_81 : decode cX10_foretold 81 = .ok (.goto 4, 3) := by decide +kernel
theorem dX10_foretold_84 : decode cX10_foretold 84 = .ok (.iconst (-1), 1) := by decide +kernel
theorem dX10_foretold_85 : decode cX10_foretold 85 = .ok (.ireturn, 1) := by decide +kernel
theorem dX10_about_0 : decode cX10_about 0 = .ok (.aload_n 0, 1) := by decide +kernel
theorem dX10_about_1 : decode cX10_about 1 = .ok (.iload_n 1, 1) := by decide +kernel
theorem dX10_about_2 : decode cX10_about 2 = .ok (.iconst 0, 1) := by decide +kernel
theorem dX10_about_3 : decode cX10_about 3 = .ok (.iconst 4, 1) := by decide +kernel
theorem dX10_about_4 : decode cX10_about 4 = .ok (.invokestatic 50, 3) := by decide +kernel
theorem dX10_about_7 : decode cX10_about 7 = .ok (.ifCond .ne 7, 3) := by decide +kernel
theorem dX10_about_10 : decode cX10_about 10 = .ok (.iconst 1, 1) := by decide +kernel
theorem dX10_about_11 : decode cX10_about 11 = .ok (.goto 4, 3) := by decide +kernel
theorem dX10_about_14 : decode cX10_about 14 = .ok (.iconst 0, 1) := by decide +kernel
theorem dX10_about_15 : decode cX10_about 15 = .ok (.iconst 1, 1) := by decide +kernel
theorem dX10_about_16 : decode cX10_about 16 = .ok (.invokevirtual 54, 3) := by decide +kernel
theorem dX10_about_19 : decode cX10_about 19 = .ok (.ifCond .eq 5, 3) := by decide +kernel
theorem dX10_about_22 : decode cX10_about 22 = .ok (.iconst 0, 1) := by decide +kernel
theorem dX10_about_23 : decode cX10_about 23 = .ok (.ireturn, 1) := by decide +kernel
theorem dX10_about_24 : decode cX10_about 24 = .ok (.iload_n 1, 1) := by decide +kernel
theorem dX10_about_25 : decode cX10_about 25 = .ok (.ifCond .ne 10, 3) := by decide +kernel
theorem dX10_about_28 : decode cX10_about 28 = .ok (.aload_n 0, 1) := by decide +kernel
theorem dX10_about_29 : decode cX10_about 29 = .ok (.getfield 7, 3) := by decide +kernel
theorem dX10_about_32 : decode cX10_about 32 = .ok (.goto 51, 3) := by decide +kernel
theorem dX10_about_35 : decode cX10_about 35 = .ok (.iload_n 1, 1) := by decide +kernel
theorem dX10_about_36 : decode cX10_about 36 = .ok (.iconst 1, 1) := by decide +kernel
theorem dX10_about_37 : decode cX10_about 37 = .ok (.if_icmp .ne 10, 3) := by decide +kernel
theorem dX10_about_40 : decode cX10_about 40 = .ok (.aload_n 0, 1) := by decide +kernel
theorem dX10_about_41 : decode cX10_about 41 = .ok (.getfield 13, 3) := by decide +kernel
theorem dX10_about_44 : decode cX10_about 44 = .ok (.goto 39, 3) := by decide +kernel
theorem dX10_about_47 : decode cX10_about 47 = .ok (.iload_n 1, 1) := by decide +kernel
theorem dX10_about_48 : decode cX10_about 48 = .ok (.iconst 2, 1) := by decide +kernel
theorem dX10_about_49 : decode cX10_about 49 = .ok (.if_icmp .ne 10, 3) := by decide +kernel
theorem dX10_about_52 : decode cX10_about 52 = .ok (.aload_n 0, 1) := by decide +kernel
theorem dX10_about_53 : decode cX10_about 53 = .ok (.getfield 58, 3) := by decide +kernel
theorem dX10_about_56 : decode cX10_about 56 = .ok (.goto 27, 3) := by decide +kernel
theorem dX10_about_59 : decode cX10_about 59 = .ok (.iload_n 1, 1) := by decide +kernel
theorem dX10_about_60 : decode cX10_about 60 = .ok (.iconst 3, 1) := by decide +kernel
theorem dX10_about_61 : decode cX10_about 61 = .ok (.if_icmp .ne 18, 3) := by decide +kernel
theorem dX10_about_64 : decode cX10_about 64 = .ok (.aload_n 0, 1) := by decide +kernel
theorem dX10_about_65 : decode cX10_about 65 = .ok (.getfield 61, 3) := by decide +kernel
theorem dX10_about_68 : decode cX10_about 68 = .ok (.ifCond .eq 7, 3) := by decide +kernel
theorem dX10_about_71 : decode cX10_about 71 = .ok (.iconst 1, 1) := by decide +kernel
theorem dX10_about_72 : decode cX10_about 72 = .ok (.goto 11, 3) := by decide +kernel
theorem dX10_about_75 : decode cX10_about 75 = .ok (.iconst 0, 1) := by decide +kernel
theorem dX10_about_76 : decode cX10_about 76 = .ok (.goto 7, 3) := by decide +kernel
theorem dX10_about_79 : decode cX10_about 79 = .ok (.aload_n 0, 1) := by decide +kernel
theorem dX10_about_80 : decode cX10_about 80 = .ok (.getfield 176, 3) := by decide +kernel
theorem dX10_about_83 : decode cX10_about 83 = .ok (.ireturn, 1) := by decide +kernel
