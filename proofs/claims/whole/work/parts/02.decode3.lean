theorem dK8_heldCash_60 : decode cK8_heldCash 60 = .ok (.iaload, 1) := by decide +kernel
theorem dK8_heldCash_61 : decode cK8_heldCash 61 = .ok (.i2l, 1) := by decide +kernel
theorem dK8_heldCash_62 : decode cK8_heldCash 62 = .ok (.lmul, 1) := by decide +kernel
theorem dK8_heldCash_63 : decode cK8_heldCash 63 = .ok (.ladd, 1) := by decide +kernel
theorem dK8_heldCash_64 : decode cK8_heldCash 64 = .ok (.lstore_n 2, 1) := by decide +kernel
theorem dK8_heldCash_65 : decode cK8_heldCash 65 = .ok (.iinc 4 1, 3) := by decide +kernel
theorem dK8_heldCash_68 : decode cK8_heldCash 68 = .ok (.goto (-63), 3) := by decide +kernel
theorem dK8_heldCash_71 : decode cK8_heldCash 71 = .ok (.lload_n 2, 1) := by decide +kernel
theorem dK8_heldCash_72 : decode cK8_heldCash 72 = .ok (.lreturn, 1) := by decide +kernel
theorem dK8_heldGoods_0 : decode cK8_heldGoods 0 = .ok (.lconst 0, 1) := by decide +kernel
theorem dK8_heldGoods_1 : decode cK8_heldGoods 1 = .ok (.lstore_n 2, 1) := by decide +kernel
theorem dK8_heldGoods_2 : decode cK8_heldGoods 2 = .ok (.iconst 0, 1) := by decide +kernel
theorem dK8_heldGoods_3 : decode cK8_heldGoods 3 = .ok (.istore 4, 2) := by decide +kernel
theorem dK8_heldGoods_5 : decode cK8_heldGoods 5 = .ok (.iload 4, 2) := by decide +kernel
theorem dK8_heldGoods_7 : decode cK8_heldGoods 7 = .ok (.aload_n 0, 1) := by decide +kernel
theorem dK8_heldGoods_8 : decode cK8_heldGoods 8 = .ok (.getfield 105, 3) := by decide +kernel
theorem dK8_heldGoods_11 : decode cK8_heldGoods 11 = .ok (.if_icmp .ge 52, 3) := by decide +kernel
theorem dK8_heldGoods_14 : decode cK8_heldGoods 14 = .ok (.aload_n 0, 1) := by decide +kernel
theorem dK8_heldGoods_15 : decode cK8_heldGoods 15 = .ok (.getfield 38, 3) := by decide +kernel
theorem dK8_heldGoods_18 : decode cK8_heldGoods 18 = .ok (.iload 4, 2) := by decide +kernel
theorem dK8_heldGoods_20 : decode cK8_heldGoods 20 = .ok (.iaload, 1) := by decide +kernel
theorem dK8_heldGoods_21 : decode cK8_heldGoods 21 = .ok (.ifCond .ne 36, 3) := by decide +kernel
theorem dK8_heldGoods_24 : decode cK8_heldGoods 24 = .ok (.aload_n 0, 1) := by decide +kernel
theorem dK8_heldGoods_25 : decode cK8_heldGoods 25 = .ok (.getfield 26, 3) := by decide +kernel
theorem dK8_heldGoods_28 : decode cK8_heldGoods 28 = .ok (.iload 4, 2) := by decide +kernel
theorem dK8_heldGoods_30 : decode cK8_heldGoods 30 = .ok (.iaload, 1) := by decide +kernel
theorem dK8_heldGoods_31 : decode cK8_heldGoods 31 = .ok (.iload_n 1, 1) := by decide +kernel
theorem dK8_heldGoods_32 : decode cK8_heldGoods 32 = .ok (.if_icmp .ne 25, 3) := by decide +kernel
theorem dK8_heldGoods_35 : decode cK8_heldGoods 35 = .ok (.aload_n 0, 1) := by decide +kernel
theorem dK8_heldGoods_36 : decode cK8_heldGoods 36 = .ok (.getfield 29, 3) := by decide +kernel
theorem dK8_heldGoods_39 : decode cK8_heldGoods 39 = .ok (.iload 4, 2) := by decide +kernel
theorem dK8_heldGoods_41 : decode cK8_heldGoods 41 = .ok (.iaload, 1) := by decide +kernel
theorem dK8_heldGoods_42 : decode cK8_heldGoods 42 = .ok (.iconst 1, 1) := by decide +kernel
theorem dK8_heldGoods_43 : decode cK8_heldGoods 43 = .ok (.if_icmp .ne 14, 3) := by decide +kernel
theorem dK8_heldGoods_46 : decode cK8_heldGoods 46 = .ok (.lload_n 2, 1) := by decide +kernel
theorem dK8_heldGoods_47 : decode cK8_heldGoods 47 = .ok (.aload_n 0, 1) := by decide +kernel
theorem dK8_heldGoods_48 : decode cK8_heldGoods 48 = .ok (.getfield 32, 3) := by decide +kernel
theorem dK8_heldGoods_51 : decode cK8_heldGoods 51 = .ok (.iload 4, 2) := by decide +kernel
theorem dK8_heldGoods_53 : decode cK8_heldGoods 53 = .ok (.iaload, 1) := by decide +kernel
theorem dK8_heldGoods_54 : decode cK8_heldGoods 54 = .ok (.i2l, 1) := by decide +kernel
theorem dK8_heldGoods_55 : decode cK8_heldGoods 55 = .ok (.ladd, 1) := by decide +kernel
theorem dK8_heldGoods_56 : decode cK8_heldGoods 56 = .ok (.lstore_n 2, 1) := by decide +kernel
theorem dK8_heldGoods_57 : decode cK8_heldGoods 57 = .ok (.iinc 4 1, 3) := by decide +kernel
theorem dK8_heldGoods_60 : decode cK8_heldGoods 60 = .ok (.goto (-55), 3) := by decide +kernel
theorem dK8_heldGoods_63 : decode cK8_heldGoods 63 = .ok (.lload_n 2, 1) := by decide +kernel
theorem dK8_heldGoods_64 : decode cK8_heldGoods 64 = .ok (.lreturn, 1) := by decide +kernel
theorem dK8_freeCash_0 : decode cK8_freeCash 0 = .ok (.aload_n 0, 1) := by decide +kernel
theorem dK8_freeCash_1 : decode cK8_freeCash 1 = .ok (.getfield 19, 3) := by decide +kernel
theorem dK8_freeCash_4 : decode cK8_freeCash 4 = .ok (.iload_n 1, 1) := by decide +kernel
theorem dK8_freeCash_5 : decode cK8_freeCash 5 = .ok (.laload, 1) := by decide +kernel
theorem dK8_freeCash_6 : decode cK8_freeCash 6 = .ok (.aload_n 0, 1) := by decide +kernel
theorem dK8_freeCash_7 : decode cK8_freeCash 7 = .ok (.iload_n 1, 1) := by decide +kernel
theorem dK8_freeCash_8 : decode cK8_freeCash 8 = .ok (.invokevirtual 153, 3) := by decide +kernel
theorem dK8_freeCash_11 : decode cK8_freeCash 11 = .ok (.lsub, 1) := by decide +kernel
theorem dK8_freeCash_12 : decode cK8_freeCash 12 = .ok (.lreturn, 1) := by decide +kernel
theorem dK8_freeGoods_0 : decode cK8_freeGoods 0 = .ok (.aload_n 0, 1) := by decide +kernel
theorem dK8_freeGoods_1 : decode cK8_freeGoods 1 = .ok (.getfield 23, 3) := by decide +kernel
theorem dK8_freeGoods_4 : decode cK8_freeGoods 4 = .ok (.iload_n 1, 1) := by decide +kernel
theorem dK8_freeGoods_5 : decode cK8_freeGoods 5 = .ok (.laload, 1) := by decide +kernel
theorem dK8_freeGoods_6 : decode cK8_freeGoods 6 = .ok (.aload_n 0, 1) := by decide +kernel
theorem dK8_freeGoods_7 : decode cK8_freeGoods 7 = .ok (.iload_n 1, 1) := by decide +kernel
theorem dK8_freeGoods_8 : decode cK8_freeGoods 8 = .ok (.invokevirtual 156, 3) := by decide +kernel
theorem dK8_freeGoods_11 : decode cK8_freeGoods 11 = .ok (.lsub, 1) := by decide +kernel
theorem dK8_freeGoods_12 : decode cK8_freeGoods 12 = .ok (.lreturn, 1) := by decide +kernel
theorem dK8_ordered_0 : decode cK8_ordered 0 = .ok (.aload_n 0, 1) := by decide +kernel
theorem dK8_ordered_1 : decode cK8_ordered 1 = .ok (.iconst 1, 1) := by decide +kernel
theorem dK8_ordered_2 : decode cK8_ordered 2 = .ok (.invokevirtual 119, 3) := by decide +kernel
theorem dK8_ordered_5 : decode cK8_ordered 5 = .ok (.istore_n 2, 1) := by decide +kernel
theorem dK8_ordered_6 : decode cK8_ordered 6 = .ok (.aload_n 0, 1) := by decide +kernel
theorem dK8_ordered_7 : decode cK8_ordered 7 = .ok (.iconst 2, 1) := by decide +kernel
theorem dK8_ordered_8 : decode cK8_ordered 8 = .ok (.iconst 1, 1) := by decide +kernel
theorem dK8_ordered_9 : decode cK8_ordered 9 = .ok (.sipush 9999, 3) := by decide +kernel
theorem dK8_ordered_12 : decode cK8_ordered 12 = .ok (.invokevirtual 74, 3) := by decide +kernel
theorem dK8_ordered_15 : decode cK8_ordered 15 = .ok (.istore_n 3, 1) := by decide +kernel
theorem dK8_ordered_16 : decode cK8_ordered 16 = .ok (.iload_n 2, 1) := by decide +kernel
theorem dK8_ordered_17 : decode cK8_ordered 17 = .ok (.ifCond .lt 7, 3) := by decide +kernel
theorem dK8_ordered_20 : decode cK8_ordered 20 = .ok (.iload_n 3, 1) := by decide +kernel
theorem dK8_ordered_21 : decode cK8_ordered 21 = .ok (.ifCond .ge 6, 3) := by decide +kernel
theorem dK8_ordered_24 : decode cK8_ordered 24 = .ok (.bipush (-11), 2) := by decide +kernel
theorem dK8_ordered_26 : decode cK8_ordered 26 = .ok (.ireturn, 1) := by decide +kernel
theorem dK8_ordered_27 : decode cK8_ordered 27 = .ok (.aload_n 0, 1) := by decide +kernel
theorem dK8_ordered_28 : decode cK8_ordered 28 = .ok (.getfield 60, 3) := by decide +kernel
theorem dK8_ordered_31 : decode cK8_ordered 31 = .ok (.iconst 4, 1) := by decide +kernel
theorem dK8_ordered_32 : decode cK8_ordered 32 = .ok (.if_icmp .ne 66, 3) := by decide +kernel
theorem dK8_ordered_35 : decode cK8_ordered 35 = .ok (.aload_n 0, 1) := by decide +kernel
theorem dK8_ordered_36 : decode cK8_ordered 36 = .ok (.iconst 3, 1) := by decide +kernel
theorem dK8_ordered_37 : decode cK8_ordered 37 = .ok (.ldc 159, 2) := by decide +kernel
theorem dK8_ordered_39 : decode cK8_ordered 39 = .ok (.invokevirtual 112, 3) := by decide +kernel
theorem dK8_ordered_42 : decode cK8_ordered 42 = .ok (.ifCond .eq 56, 3) := by decide +kernel
theorem dK8_ordered_45 : decode cK8_ordered 45 = .ok (.aload_n 0, 1) := by decide +kernel
theorem dK8_ordered_46 : decode cK8_ordered 46 = .ok (.getfield 105, 3) := by decide +kernel
theorem dK8_ordered_49 : decode cK8_ordered 49 = .ok (.bipush 40, 2) := by decide +kernel
theorem dK8_ordered_51 : decode cK8_ordered 51 = .ok (.if_icmp .ne 6, 3) := by decide +kernel
theorem dK8_ordered_54 : decode cK8_ordered 54 = .ok (.bipush (-15), 2) := by decide +kernel
theorem dK8_ordered_56 : decode cK8_ordered 56 = .ok (.ireturn, 1) := by decide +kernel
theorem dK8_ordered_57 : decode cK8_ordered 57 = .ok (.iload_n 1, 1) := by decide +kernel
theorem dK8_ordered_58 : decode cK8_ordered 58 = .ok (.iconst 1, 1) := by decide +kernel
theorem dK8_ordered_59 : decode cK8_ordered 59 = .ok (.if_icmp .ne 17, 3) := by decide +kernel
theorem dK8_ordered_62 : decode cK8_ordered 62 = .ok (.aload_n 0, 1) := by decide +kernel
theorem dK8_ordered_63 : decode cK8_ordered 63 = .ok (.iload_n 2, 1) := by decide +kernel
theorem dK8_ordered_64 : decode cK8_ordered 64 = .ok (.invokevirtual 91, 3) := by decide +kernel
theorem dK8_ordered_67 : decode cK8_ordered 67 = .ok (.iload_n 3, 1) := by decide +kernel
theorem dK8_ordered_68 : decode cK8_ordered 68 = .ok (.i2l, 1) := by decide +kernel
theorem dK8_ordered_69 : decode cK8_ordered 69 = .ok (.lcmp, 1) := by decide +kernel
theorem dK8_ordered_70 : decode cK8_ordered 70 = .ok (.ifCond .ge 6, 3) := by decide +kernel
theorem dK8_ordered_73 : decode cK8_ordered 73 = .ok (.bipush (-16), 2) := by decide +kernel
theorem dK8_ordered_75 : decode cK8_ordered 75 = .ok (.ireturn, 1) := by decide +kernel
theorem dK8_ordered_76 : decode cK8_ordered 76 = .ok (.aload_n 0, 1) := by decide +kernel
theorem dK8_ordered_77 : decode cK8_ordered 77 = .ok (.iload_n 2, 1) := by decide +kernel
theorem dK8_ordered_78 : decode cK8_ordered 78 = .ok (.iload_n 1, 1) := by decide +kernel
theorem dK8_ordered_79 : decode cK8_ordered 79 = .ok (.iload_n 3, 1) := by decide +kernel
theorem dK8_ordered_80 : decode cK8_ordered 80 = .ok (.iconst 0, 1) := by decide +kernel
theorem dK8_ordered_81 : decode cK8_ordered 81 = .ok (.iconst 2, 1) := by decide +kernel
theorem dK8_ordered_82 : decode cK8_ordered 82 = .ok (.invokevirtual 140, 3) := by decide +kernel
theorem dK8_ordered_85 : decode cK8_ordered 85 = .ok (.istore 4, 2) := by decide +kernel
theorem dK8_ordered_87 : decode cK8_ordered 87 = .ok (.aload_n 0, 1) := by decide +kernel
theorem dK8_ordered_88 : decode cK8_ordered 88 = .ok (.iload 4, 2) := by decide +kernel
theorem dK8_ordered_90 : decode cK8_ordered 90 = .ok (.iload_n 3, 1) := by decide +kernel
theorem dK8_ordered_91 : decode cK8_ordered 91 = .ok (.iconst 1, 1) := by decide +kernel
theorem dK8_ordered_92 : decode cK8_ordered 92 = .ok (.invokevirtual 101, 3) := by decide +kernel
theorem dK8_ordered_95 : decode cK8_ordered 95 = .ok (.iload 4, 2) := by decide +kernel
theorem dK8_ordered_97 : decode cK8_ordered 97 = .ok (.ireturn, 1) := by decide +kernel
theorem dK8_ordered_98 : decode cK8_ordered 98 = .ok (.aload_n 0, 1) := by decide +kernel
theorem dK8_ordered_99 : decode cK8_ordered 99 = .ok (.iconst 4, 1) := by decide +kernel
theorem dK8_ordered_100 : decode cK8_ordered 100 = .ok (.iconst 1, 1) := by decide +kernel
theorem dK8_ordered_101 : decode cK8_ordered 101 = .ok (.sipush 9999, 3) := by decide +kernel
theorem dK8_ordered_104 : decode cK8_ordered 104 = .ok (.invokevirtual 74, 3) := by decide +kernel
theorem dK8_ordered_107 : decode cK8_ordered 107 = .ok (.istore 4, 2) := by decide +kernel
theorem dK8_ordered_109 : decode cK8_ordered 109 = .ok (.iconst 0, 1) := by decide +kernel
theorem dK8_ordered_110 : decode cK8_ordered 110 = .ok (.istore 5, 2) := by decide +kernel
theorem dK8_ordered_112 : decode cK8_ordered 112 = .ok (.aload_n 0, 1) := by decide +kernel
theorem dK8_ordered_113 : decode cK8_ordered 113 = .ok (.iconst 3, 1) := by decide +kernel
theorem dK8_ordered_114 : decode cK8_ordered 114 = .ok (.ldc 138, 2) := by decide +kernel
theorem dK8_ordered_116 : decode cK8_ordered 116 = .ok (.invokevirtual 112, 3) := by decide +kernel
theorem dK8_ordered_119 : decode cK8_ordered 119 = .ok (.ifCond .eq 8, 3) := by decide +kernel
theorem dK8_ordered_122 : decode cK8_ordered 122 = .ok (.iload 4, 2) := by decide +kernel
theorem dK8_ordered_124 : decode cK8_ordered 124 = .ok (.ifCond .ge 6, 3) := by decide +kernel
theorem dK8_ordered_127 : decode cK8_ordered 127 = .ok (.bipush (-11), 2) := by decide +kernel
theorem dK8_ordered_129 : decode cK8_ordered 129 = .ok (.ireturn, 1) := by decide +kernel
theorem dK8_ordered_130 : decode cK8_ordered 130 = .ok (.aload_n 0, 1) := by decide +kernel
theorem dK8_ordered_131 : decode cK8_ordered 131 = .ok (.getfield 60, 3) := by decide +kernel
theorem dK8_ordered_134 : decode cK8_ordered 134 = .ok (.bipush 6, 2) := by decide +kernel
theorem dK8_ordered_136 : decode cK8_ordered 136 = .ok (.if_icmp .ne 17, 3) := by decide +kernel
theorem dK8_ordered_139 : decode cK8_ordered 139 = .ok (.aload_n 0, 1) := by decide +kernel
theorem dK8_ordered_140 : decode cK8_ordered 140 = .ok (.iconst 5, 1) := by decide +kernel
theorem dK8_ordered_141 : decode cK8_ordered 141 = .ok (.ldc 160, 2) := by decide +kernel
theorem dK8_ordered_143 : decode cK8_ordered 143 = .ok (.invokevirtual 112, 3) := by decide +kernel
theorem dK8_ordered_146 : decode cK8_ordered 146 = .ok (.ifCond .eq 7, 3) := by decide +kernel
theorem dK8_ordered_149 : decode cK8_ordered 149 = .ok (.iconst 1, 1) := by decide +kernel
theorem dK8_ordered_150 : decode cK8_ordered 150 = .ok (.goto 4, 3) := by decide +kernel
theorem dK8_ordered_153 : decode cK8_ordered 153 = .ok (.iconst 0, 1) := by decide +kernel
theorem dK8_ordered_154 : decode cK8_ordered 154 = .ok (.istore 6, 2) := by decide +kernel
theorem dK8_ordered_156 : decode cK8_ordered 156 = .ok (.aload_n 0, 1) := by decide +kernel
theorem dK8_ordered_157 : decode cK8_ordered 157 = .ok (.getfield 60, 3) := by decide +kernel
theorem dK8_ordered_160 : decode cK8_ordered 160 = .ok (.bipush 6, 2) := by decide +kernel
theorem dK8_ordered_162 : decode cK8_ordered 162 = .ok (.if_icmp .ne 17, 3) := by decide +kernel
theorem dK8_ordered_165 : decode cK8_ordered 165 = .ok (.aload_n 0, 1) := by decide +kernel
theorem dK8_ordered_166 : decode cK8_ordered 166 = .ok (.iconst 5, 1) := by decide +kernel
theorem dK8_ordered_167 : decode cK8_ordered 167 = .ok (.ldc 161, 2) := by decide +kernel
theorem dK8_ordered_169 : decode cK8_ordered 169 = .ok (.invokevirtual 112, 3) := by decide +kernel
theorem dK8_ordered_172 : decode cK8_ordered 172 = .ok (.ifCond .eq 7, 3) := by decide +kernel
theorem dK8_ordered_175 : decode cK8_ordered 175 = .ok (.iconst 1, 1) := by decide +kernel
theorem dK8_ordered_176 : decode cK8_ordered 176 = .ok (.goto 4, 3) := by decide +kernel
theorem dK8_ordered_179 : decode cK8_ordered 179 = .ok (.iconst 0, 1) := by decide +kernel
theorem dK8_ordered_180 : decode cK8_ordered 180 = .ok (.istore 7, 2) := by decide +kernel
theorem dK8_ordered_182 : decode cK8_ordered 182 = .ok (.aload_n 0, 1) := by decide +kernel
theorem dK8_ordered_183 : decode cK8_ordered 183 = .ok (.getfield 60, 3) := by decide +kernel
theorem dK8_ordered_186 : decode cK8_ordered 186 = .ok (.bipush 6, 2) := by decide +kernel
theorem dK8_ordered_188 : decode cK8_ordered 188 = .ok (.if_icmp .ne 17, 3) := by decide +kernel
theorem dK8_ordered_191 : decode cK8_ordered 191 = .ok (.aload_n 0, 1) := by decide +kernel
theorem dK8_ordered_192 : decode cK8_ordered 192 = .ok (.iconst 5, 1) := by decide +kernel
theorem dK8_ordered_193 : decode cK8_ordered 193 = .ok (.ldc 163, 2) := by decide +kernel
theorem dK8_ordered_195 : decode cK8_ordered 195 = .ok (.invokevirtual 112, 3) := by decide +kernel
theorem dK8_ordered_198 : decode cK8_ordered 198 = .ok (.ifCond .eq 7, 3) := by decide +kernel
theorem dK8_ordered_201 : decode cK8_ordered 201 = .ok (.iconst 1, 1) := by decide +kernel
theorem dK8_ordered_202 : decode cK8_ordered 202 = .ok (.goto 4, 3) := by decide +kernel
theorem dK8_ordered_205 : decode cK8_ordered 205 = .ok (.iconst 0, 1) := by decide +kernel
theorem dK8_ordered_206 : decode cK8_ordered 206 = .ok (.istore 8, 2) := by decide +kernel
theorem dK8_ordered_208 : decode cK8_ordered 208 = .ok (.aload_n 0, 1) := by decide +kernel
theorem dK8_ordered_209 : decode cK8_ordered 209 = .ok (.getfield 60, 3) := by decide +kernel
theorem dK8_ordered_212 : decode cK8_ordered 212 = .ok (.bipush 7, 2) := by decide +kernel
theorem dK8_ordered_214 : decode cK8_ordered 214 = .ok (.if_icmp .ne 32, 3) := by decide +kernel
theorem dK8_ordered_217 : decode cK8_ordered 217 = .ok (.aload_n 0, 1) := by decide +kernel
theorem dK8_ordered_218 : decode cK8_ordered 218 = .ok (.iconst 5, 1) := by decide +kernel
theorem dK8_ordered_219 : decode cK8_ordered 219 = .ok (.ldc 165, 2) := by decide +kernel
theorem dK8_ordered_221 : decode cK8_ordered 221 = .ok (.invokevirtual 112, 3) := by decide +kernel
theorem dK8_ordered_224 : decode cK8_ordered 224 = .ok (.ifCond .eq 22, 3) := by decide +kernel
theorem dK8_ordered_227 : decode cK8_ordered 227 = .ok (.aload_n 0, 1) := by decide +kernel
theorem dK8_ordered_228 : decode cK8_ordered 228 = .ok (.bipush 6, 2) := by decide +kernel
theorem dK8_ordered_230 : decode cK8_ordered 230 = .ok (.iconst 1, 1) := by decide +kernel
theorem dK8_ordered_231 : decode cK8_ordered 231 = .ok (.bipush 99, 2) := by decide +kernel
theorem dK8_ordered_233 : decode cK8_ordered 233 = .ok (.invokevirtual 74, 3) := by decide +kernel
theorem dK8_ordered_236 : decode cK8_ordered 236 = .ok (.istore 5, 2) := by decide +kernel
theorem dK8_ordered_238 : decode cK8_ordered 238 = .ok (.iload 5, 2) := by decide +kernel
theorem dK8_ordered_240 : decode cK8_ordered 240 = .ok (.ifCond .ge 32, 3) := by decide +kernel
theorem dK8_ordered_243 : decode cK8_ordered 243 = .ok (.bipush (-11), 2) := by decide +kernel
theorem dK8_ordered_245 : decode cK8_ordered 245 = .ok (.ireturn, 1) := by decide +kernel
theorem dK8_ordered_246 : decode cK8_ordered 246 = .ok (.aload_n 0, 1) := by decide +kernel
theorem dK8_ordered_247 : decode cK8_ordered 247 = .ok (.getfield 60, 3) := by decide +kernel
theorem dK8_ordered_250 : decode cK8_ordered 250 = .ok (.iconst 5, 1) := by decide +kernel
theorem dK8_ordered_251 : decode cK8_ordered 251 = .ok (.if_icmp .eq 21, 3) := by decide +kernel
theorem dK8_ordered_254 : decode cK8_ordered 254 = .ok (.iload 6, 2) := by decide +kernel
theorem dK8_ordered_256 : decode cK8_ordered 256 = .ok (.ifCond .ne 16, 3) := by decide +kernel
theorem dK8_ordered_259 : decode cK8_ordered 259 = .ok (.iload 7, 2) := by decide +kernel
theorem dK8_ordered_261 : decode cK8_ordered 261 = .ok (.ifCond .ne 11, 3) := by decide +kernel
theorem dK8_ordered_264 : decode cK8_ordered 264 = .ok (.iload 8, 2) := by decide +kernel
theorem dK8_ordered_266 : decode cK8_ordered 266 = .ok (.ifCond .ne 6, 3) := by decide +kernel
theorem dK8_ordered_269 : decode cK8_ordered 269 = .ok (.bipush (-11), 2) := by decide +kernel
theorem dK8_ordered_271 : decode cK8_ordered 271 = .ok (.ireturn, 1) := by decide +kernel
theorem dK8_ordered_272 : decode cK8_ordered 272 = .ok (.aload_n 0, 1) := by decide +kernel
theorem dK8_ordered_273 : decode cK8_ordered 273 = .ok (.getfield 105, 3) := by decide +kernel
theorem dK8_ordered_276 : decode cK8_ordered 276 = .ok (.bipush 40, 2) := by decide +kernel
theorem dK8_ordered_278 : decode cK8_ordered 278 = .ok (.if_icmp .ne 6, 3) := by decide +kernel
theorem dK8_ordered_281 : decode cK8_ordered 281 = .ok (.bipush (-15), 2) := by decide +kernel
theorem dK8_ordered_283 : decode cK8_ordered 283 = .ok (.ireturn, 1) := by decide +kernel
theorem dK8_ordered_284 : decode cK8_ordered 284 = .ok (.iload_n 1, 1) := by decide +kernel
theorem dK8_ordered_285 : decode cK8_ordered 285 = .ok (.ifCond .ne 21, 3) := by decide +kernel
theorem dK8_ordered_288 : decode cK8_ordered 288 = .ok (.aload_n 0, 1) := by decide +kernel
theorem dK8_ordered_289 : decode cK8_ordered 289 = .ok (.iload_n 2, 1) := by decide +kernel
theorem dK8_ordered_290 : decode cK8_ordered 290 = .ok (.invokevirtual 126, 3) := by decide +kernel
theorem dK8_ordered_293 : decode cK8_ordered 293 = .ok (.iload_n 3, 1) := by decide +kernel
theorem dK8_ordered_294 : decode cK8_ordered 294 = .ok (.i2l, 1) := by decide +kernel
theorem dK8_ordered_295 : decode cK8_ordered 295 = .ok (.iload 4, 2) := by decide +kernel
theorem dK8_ordered_297 : decode cK8_ordered 297 = .ok (.i2l, 1) := by decide +kernel
theorem dK8_ordered_298 : decode cK8_ordered 298 = .ok (.lmul, 1) := by decide +kernel
theorem dK8_ordered_299 : decode cK8_ordered 299 = .ok (.lcmp, 1) := by decide +kernel
theorem dK8_ordered_300 : decode cK8_ordered 300 = .ok (.ifCond .ge 20, 3) := by decide +kernel
theorem dK8_ordered_303 : decode cK8_ordered 303 = .ok (.goto 14, 3) := by decide +kernel
theorem dK8_ordered_306 : decode cK8_ordered 306 = .ok (.aload_n 0, 1) := by decide +kernel
theorem dK8_ordered_307 : decode cK8_ordered 307 = .ok (.iload_n 2, 1) := by decide +kernel
theorem dK8_ordered_308 : decode cK8_ordered 308 = .ok (.invokevirtual 91, 3) := by decide +kernel
theorem dK8_ordered_311 : decode cK8_ordered 311 = .ok (.iload_n 3, 1) := by decide +kernel
theorem dK8_ordered_312 : decode cK8_ordered 312 = .ok (.i2l, 1) := by decide +kernel
theorem dK8_ordered_313 : decode cK8_ordered 313 = .ok (.lcmp, 1) := by decide +kernel
theorem dK8_ordered_314 : decode cK8_ordered 314 = .ok (.ifCond .ge 6, 3) := by decide +kernel
theorem dK8_ordered_317 : decode cK8_ordered 317 = .ok (.bipush (-16), 2) := by decide +kernel
theorem dK8_ordered_319 : decode cK8_ordered 319 = .ok (.ireturn, 1) := by decide +kernel
theorem dK8_ordered_320 : decode cK8_ordered 320 = .ok (.iload 7, 2) := by decide +kernel
theorem dK8_ordered_322 : decode cK8_ordered 322 = .ok (.ifCond .eq 17, 3) := by decide +kernel
theorem dK8_ordered_325 : decode cK8_ordered 325 = .ok (.aload_n 0, 1) := by decide +kernel
theorem dK8_ordered_326 : decode cK8_ordered 326 = .ok (.iload_n 2, 1) := by decide +kernel
theorem dK8_ordered_327 : decode cK8_ordered 327 = .ok (.iload_n 1, 1) := by decide +kernel
theorem dK8_ordered_328 : decode cK8_ordered 328 = .ok (.iload 4, 2) := by decide +kernel
theorem dK8_ordered_330 : decode cK8_ordered 330 = .ok (.invokevirtual 167, 3) := by decide +kernel
theorem dK8_ordered_333 : decode cK8_ordered 333 = .ok (.iload_n 3, 1) := by decide +kernel
theorem dK8_ordered_334 : decode cK8_ordered 334 = .ok (.i2l, 1) := by decide +kernel
theorem dK8_ordered_335 : decode cK8_ordered 335 = .ok (.lcmp, 1) := by decide +kernel
theorem dK8_ordered_336 : decode cK8_ordered 336 = .ok (.ifCond .lt 18, 3) := by decide +kernel
theorem dK8_ordered_339 : decode cK8_ordered 339 = .ok (.iload 8, 2) := by decide +kernel
theorem dK8_ordered_341 : decode cK8_ordered 341 = .ok (.ifCond .eq 16, 3) := by decide +kernel
theorem dK8_ordered_344 : decode cK8_ordered 344 = .ok (.aload_n 0, 1) := by decide +kernel
theorem dK8_ordered_345 : decode cK8_ordered 345 = .ok (.iload_n 1, 1) := by decide +kernel
theorem dK8_ordered_346 : decode cK8_ordered 346 = .ok (.iload 4, 2) := by decide +kernel
theorem dK8_ordered_348 : decode cK8_ordered 348 = .ok (.invokevirtual 171, 3) := by decide +kernel
theorem dK8_ordered_351 : decode cK8_ordered 351 = .ok (.ifCond .lt 6, 3) := by decide +kernel
theorem dK8_ordered_354 : decode cK8_ordered 354 = .ok (.bipush (-17), 2) := by decide +kernel
theorem dK8_ordered_356 : decode cK8_ordered 356 = .ok (.ireturn, 1) := by decide +kernel
theorem dK8_ordered_357 : decode cK8_ordered 357 = .ok (.aload_n 0, 1) := by decide +kernel
theorem dK8_ordered_358 : decode cK8_ordered 358 = .ok (.iload_n 2, 1) := by decide +kernel
theorem dK8_ordered_359 : decode cK8_ordered 359 = .ok (.iload_n 1, 1) := by decide +kernel
theorem dK8_ordered_360 : decode cK8_ordered 360 = .ok (.iload_n 3, 1) := by decide +kernel
theorem dK8_ordered_361 : decode cK8_ordered 361 = .ok (.iload 4, 2) := by decide +kernel
theorem dK8_ordered_363 : decode cK8_ordered 363 = .ok (.iconst 2, 1) := by decide +kernel
theorem dK8_ordered_364 : decode cK8_ordered 364 = .ok (.invokevirtual 140, 3) := by decide +kernel
theorem dK8_ordered_367 : decode cK8_ordered 367 = .ok (.istore 9, 2) := by decide +kernel
theorem dK8_ordered_369 : decode cK8_ordered 369 = .ok (.aload_n 0, 1) := by decide +kernel
theorem dK8_ordered_370 : decode cK8_ordered 370 = .ok (.iload 9, 2) := by decide +kernel
theorem dK8_ordered_372 : decode cK8_ordered 372 = .ok (.iload_n 3, 1) := by decide +kernel
theorem dK8_ordered_373 : decode cK8_ordered 373 = .ok (.iconst 0, 1) := by decide +kernel
theorem dK8_ordered_374 : decode cK8_ordered 374 = .ok (.invokevirtual 101, 3) := by decide +kernel
theorem dK8_ordered_377 : decode cK8_ordered 377 = .ok (.aload_n 0, 1) := by decide +kernel
theorem dK8_ordered_378 : decode cK8_ordered 378 = .ok (.getfield 32, 3) := by decide +kernel
theorem dK8_ordered_381 : decode cK8_ordered 381 = .ok (.iload 9, 2) := by decide +kernel
theorem dK8_ordered_383 : decode cK8_ordered 383 = .ok (.iaload, 1) := by decide +kernel
theorem dK8_ordered_384 : decode cK8_ordered 384 = .ok (.ifCond .le 35, 3) := by decide +kernel
theorem dK8_ordered_387 : decode cK8_ordered 387 = .ok (.iload 6, 2) := by decide +kernel
theorem dK8_ordered_389 : decode cK8_ordered 389 = .ok (.ifCond .ne 30, 3) := by decide +kernel
theorem dK8_ordered_392 : decode cK8_ordered 392 = .ok (.aload_n 0, 1) := by decide +kernel
theorem dK8_ordered_393 : decode cK8_ordered 393 = .ok (.getfield 38, 3) := by decide +kernel
theorem dK8_ordered_396 : decode cK8_ordered 396 = .ok (.iload 9, 2) := by decide +kernel
theorem dK8_ordered_398 : decode cK8_ordered 398 = .ok (.iconst 0, 1) := by decide +kernel
theorem dK8_ordered_399 : decode cK8_ordered 399 = .ok (.iastore, 1) := by decide +kernel
theorem dK8_ordered_400 : decode cK8_ordered 400 = .ok (.iload 5, 2) := by decide +kernel
theorem dK8_ordered_402 : decode cK8_ordered 402 = .ok (.ifCond .le 17, 3) := by decide +kernel
theorem dK8_ordered_405 : decode cK8_ordered 405 = .ok (.aload_n 0, 1) := by decide +kernel
theorem dK8_ordered_406 : decode cK8_ordered 406 = .ok (.getfield 41, 3) := by decide +kernel
theorem dK8_ordered_409 : decode cK8_ordered 409 = .ok (.iload 9, 2) := by decide +kernel
theorem dK8_ordered_411 : decode cK8_ordered 411 = .ok (.aload_n 0, 1) := by decide +kernel
theorem dK8_ordered_412 : decode cK8_ordered 412 = .ok (.getfield 150, 3) := by decide +kernel
theorem dK8_ordered_415 : decode cK8_ordered 415 = .ok (.iload 5, 2) := by decide +kernel
theorem dK8_ordered_417 : decode cK8_ordered 417 = .ok (.iadd, 1) := by decide +kernel
theorem dK8_ordered_418 : decode cK8_ordered 418 = .ok (.iastore, 1) := by decide +kernel
theorem dK8_ordered_419 : decode cK8_ordered 419 = .ok (.iload 9, 2) := by decide +kernel
theorem dK8_ordered_421 : decode cK8_ordered 421 = .ok (.ireturn, 1) := by decide +kernel
theorem dK8_isMatch_0 : decode cK8_isMatch 0 = .ok (.aload_n 0, 1) := by decide +kernel
theorem dK8_isMatch_1 : decode cK8_isMatch 1 = .ok (.getfield 38, 3) := by decide +kernel
theorem dK8_isMatch_4 : decode cK8_isMatch 4 = .ok (.iload_n 1, 1) := by decide +kernel
theorem dK8_isMatch_5 : decode cK8_isMatch 5 = .ok (.iaload, 1) := by decide +kernel
theorem dK8_isMatch_6 : decode cK8_isMatch 6 = .ok (.ifCond .ne 48, 3) := by decide +kernel
theorem dK8_isMatch_9 : decode cK8_isMatch 9 = .ok (.aload_n 0, 1) := by decide +kernel
theorem dK8_isMatch_10 : decode cK8_isMatch 10 = .ok (.getfield 29, 3) := by decide +kernel
theorem dK8_isMatch_13 : decode cK8_isMatch 13 = .ok (.iload_n 1, 1) := by decide +kernel
theorem dK8_isMatch_14 : decode cK8_isMatch 14 = .ok (.iaload, 1) := by decide +kernel
theorem dK8_isMatch_15 : decode cK8_isMatch 15 = .ok (.iload_n 2, 1) := by decide +kernel
theorem dK8_isMatch_16 : decode cK8_isMatch 16 = .ok (.if_icmp .eq 38, 3) := by decide +kernel
theorem dK8_isMatch_19 : decode cK8_isMatch 19 = .ok (.iload_n 3, 1) := by decide +kernel
theorem dK8_isMatch_20 : decode cK8_isMatch 20 = .ok (.ifCond .eq 30, 3) := by decide +kernel
theorem dK8_isMatch_23 : decode cK8_isMatch 23 = .ok (.iload_n 2, 1) := by decide +kernel
theorem dK8_isMatch_24 : decode cK8_isMatch 24 = .ok (.ifCond .ne 16, 3) := by decide +kernel
theorem dK8_isMatch_27 : decode cK8_isMatch 27 = .ok (.aload_n 0, 1) := by decide +kernel
theorem dK8_isMatch_28 : decode cK8_isMatch 28 = .ok (.getfield 35, 3) := by decide +kernel
theorem dK8_isMatch_31 : decode cK8_isMatch 31 = .ok (.iload_n 1, 1) := by decide +kernel
theorem dK8_isMatch_32 : decode cK8_isMatch 32 = .ok (.iaload, 1) := by decide +kernel
theorem dK8_isMatch_33 : decode cK8_isMatch 33 = .ok (.iload_n 3, 1) := by decide +kernel
theorem dK8_isMatch_34 : decode cK8_isMatch 34 = .ok (.if_icmp .gt 20, 3) := by decide +kernel
theorem dK8_isMatch_37 : decode cK8_isMatch 37 = .ok (.goto 13, 3) := by decide +kernel
theorem dK8_isMatch_40 : decode cK8_isMatch 40 = .ok (.aload_n 0, 1) := by decide +kernel
theorem dK8_isMatch_41 : decode cK8_isMatch 41 = .ok (.getfield 35, 3) := by decide +kernel
theorem dK8_isMatch_44 : decode cK8_isMatch 44 = .ok (.iload_n 1, 1) := by decide +kernel
theorem dK8_isMatch_45 : decode cK8_isMatch 45 = .ok (.iaload, 1) := by decide +kernel
theorem dK8_isMatch_46 : decode cK8_isMatch 46 = .ok (.iload_n 3, 1) := by decide +kernel
theorem dK8_isMatch_47 : decode cK8_isMatch 47 = .ok (.if_icmp .lt 7, 3) := by decide +kernel
theorem dK8_isMatch_50 : decode cK8_isMatch 50 = .ok (.iconst 1, 1) := by decide +kernel
theorem dK8_isMatch_51 : decode cK8_isMatch 51 = .ok (.goto 4, 3) := by decide +kernel
theorem dK8_isMatch_54 : decode cK8_isMatch 54 = .ok (.iconst 0, 1) := by decide +kernel
theorem dK8_isMatch_55 : decode cK8_isMatch 55 = .ok (.ireturn, 1) := by decide +kernel
theorem dK8_match_0 : decode cK8_match 0 = .ok (.iconst (-1), 1) := by decide +kernel
theorem dK8_match_1 : decode cK8_match 1 = .ok (.istore_n 3, 1) := by decide +kernel
theorem dK8_match_2 : decode cK8_match 2 = .ok (.iconst 0, 1) := by decide +kernel
theorem dK8_match_3 : decode cK8_match 3 = .ok (.istore 4, 2) := by decide +kernel
theorem dK8_match_5 : decode cK8_match 5 = .ok (.iload 4, 2) := by decide +kernel
theorem dK8_match_7 : decode cK8_match 7 = .ok (.aload_n 0, 1) := by decide +kernel
theorem dK8_match_8 : decode cK8_match 8 = .ok (.getfield 105, 3) := by decide +kernel
theorem dK8_match_11 : decode cK8_match 11 = .ok (.if_icmp .ge 66, 3) := by decide +kernel
theorem dK8_match_14 : decode cK8_match 14 = .ok (.aload_n 0, 1) := by decide +kernel
theorem dK8_match_15 : decode cK8_match 15 = .ok (.iload 4, 2) := by decide +kernel
theorem dK8_match_17 : decode cK8_match 17 = .ok (.iload_n 1, 1) := by decide +kernel
theorem dK8_match_18 : decode cK8_match 18 = .ok (.iload_n 2, 1) := by decide +kernel
theorem dK8_match_19 : decode cK8_match 19 = .ok (.invokevirtual 175, 3) := by decide +kernel
theorem dK8_match_22 : decode cK8_match 22 = .ok (.ifCond .eq 49, 3) := by decide +kernel
theorem dK8_match_25 : decode cK8_match 25 = .ok (.iload_n 3, 1) := by decide +kernel
theorem dK8_match_26 : decode cK8_match 26 = .ok (.ifCond .lt 42, 3) := by decide +kernel
theorem dK8_match_29 : decode cK8_match 29 = .ok (.iload_n 1, 1) := by decide +kernel
theorem dK8_match_30 : decode cK8_match 30 = .ok (.ifCond .ne 22, 3) := by decide +kernel
theorem dK8_match_33 : decode cK8_match 33 = .ok (.aload_n 0, 1) := by decide +kernel
theorem dK8_match_34 : decode cK8_match 34 = .ok (.getfield 35, 3) := by decide +kernel
theorem dK8_match_37 : decode cK8_match 37 = .ok (.iload 4, 2) := by decide +kernel
theorem dK8_match_39 : decode cK8_match 39 = .ok (.iaload, 1) := by decide +kernel
theorem dK8_match_40 : decode cK8_match 40 = .ok (.aload_n 0, 1) := by decide +kernel
theorem dK8_match_41 : decode cK8_match 41 = .ok (.getfield 35, 3) := by decide +kernel
theorem dK8_match_44 : decode cK8_match 44 = .ok (.iload_n 3, 1) := by decide +kernel
theorem dK8_match_45 : decode cK8_match 45 = .ok (.iaload, 1) := by decide +kernel
theorem dK8_match_46 : decode cK8_match 46 = .ok (.if_icmp .ge 25, 3) := by decide +kernel
theorem dK8_match_49 : decode cK8_match 49 = .ok (.goto 19, 3) := by decide +kernel
theorem dK8_match_52 : decode cK8_match 52 = .ok (.aload_n 0, 1) := by decide +kernel
theorem dK8_match_53 : decode cK8_match 53 = .ok (.getfield 35, 3) := by decide +kernel
theorem dK8_match_56 : decode cK8_match 56 = .ok (.iload 4, 2) := by decide +kernel
theorem dK8_match_58 : decode cK8_match 58 = .ok (.iaload, 1) := by decide +kernel
theorem dK8_match_59 : decode cK8_match 59 = .ok (.aload_n 0, 1) := by decide +kernel
theorem dK8_match_60 : decode cK8_match 60 = .ok (.getfield 35, 3) := by decide +kernel
theorem dK8_match_63 : decode cK8_match 63 = .ok (.iload_n 3, 1) := by decide +kernel
theorem dK8_match_64 : decode cK8_match 64 = .ok (.iaload, 1) := by decide +kernel
theorem dK8_match_65 : decode cK8_match 65 = .ok (.if_icmp .le 6, 3) := by decide +kernel
theorem dK8_match_68 : decode cK8_match 68 = .ok (.iload 4, 2) := by decide +kernel
theorem dK8_match_70 : decode cK8_match 70 = .ok (.istore_n 3, 1) := by decide +kernel
theorem dK8_match_71 : decode cK8_match 71 = .ok (.iinc 4 1, 3) := by decide +kernel
theorem dK8_match_74 : decode cK8_match 74 = .ok (.goto (-69), 3) := by decide +kernel
theorem dK8_match_77 : decode cK8_match 77 = .ok (.iload_n 3, 1) := by decide +kernel
theorem dK8_match_78 : decode cK8_match 78 = .ok (.ireturn, 1) := by decide +kernel
theorem dK8_sum_0 : decode cK8_sum 0 = .ok (.lconst 0, 1) := by decide +kernel
theorem dK8_sum_1 : decode cK8_sum 1 = .ok (.lstore 4, 2) := by decide +kernel
theorem dK8_sum_3 : decode cK8_sum 3 = .ok (.iconst 0, 1) := by decide +kernel
theorem dK8_sum_4 : decode cK8_sum 4 = .ok (.istore 6, 2) := by decide +kernel
theorem dK8_sum_6 : decode cK8_sum 6 = .ok (.iload 6, 2) := by decide +kernel
theorem dK8_sum_8 : decode cK8_sum 8 = .ok (.aload_n 0, 1) := by decide +kernel
theorem dK8_sum_9 : decode cK8_sum 9 = .ok (.getfield 105, 3) := by decide +kernel
theorem dK8_sum_12 : decode cK8_sum 12 = .ok (.if_icmp .ge 44, 3) := by decide +kernel
theorem dK8_sum_15 : decode cK8_sum 15 = .ok (.aload_n 0, 1) := by decide +kernel
theorem dK8_sum_16 : decode cK8_sum 16 = .ok (.iload 6, 2) := by decide +kernel
theorem dK8_sum_18 : decode cK8_sum 18 = .ok (.iload_n 2, 1) := by decide +kernel
theorem dK8_sum_19 : decode cK8_sum 19 = .ok (.iload_n 3, 1) := by decide +kernel
theorem dK8_sum_20 : decode cK8_sum 20 = .ok (.invokevirtual 175, 3) := by decide +kernel
theorem dK8_sum_23 : decode cK8_sum 23 = .ok (.ifCond .eq 27, 3) := by decide +kernel
theorem dK8_sum_26 : decode cK8_sum 26 = .ok (.aload_n 0, 1) := by decide +kernel
theorem dK8_sum_27 : decode cK8_sum 27 = .ok (.getfield 26, 3) := by decide +kernel
theorem dK8_sum_30 : decode cK8_sum 30 = .ok (.iload 6, 2) := by decide +kernel
theorem dK8_sum_32 : decode cK8_sum 32 = .ok (.iaload, 1) := by decide +kernel
theorem dK8_sum_33 : decode cK8_sum 33 = .ok (.iload_n 1, 1) := by decide +kernel
theorem dK8_sum_34 : decode cK8_sum 34 = .ok (.if_icmp .eq 16, 3) := by decide +kernel
theorem dK8_sum_37 : decode cK8_sum 37 = .ok (.lload 4, 2) := by decide +kernel
theorem dK8_sum_39 : decode cK8_sum 39 = .ok (.aload_n 0, 1) := by decide +kernel
theorem dK8_sum_40 : decode cK8_sum 40 = .ok (.getfield 32, 3) := by decide +kernel
theorem dK8_sum_43 : decode cK8_sum 43 = .ok (.iload 6, 2) := by decide +kernel
theorem dK8_sum_45 : decode cK8_sum 45 = .ok (.iaload, 1) := by decide +kernel
theorem dK8_sum_46 : decode cK8_sum 46 = .ok (.i2l, 1) := by decide +kernel
theorem dK8_sum_47 : decode cK8_sum 47 = .ok (.ladd, 1) := by decide +kernel
theorem dK8_sum_48 : decode cK8_sum 48 = .ok (.lstore 4, 2) := by decide +kernel
theorem dK8_sum_50 : decode cK8_sum 50 = .ok (.iinc 6 1, 3) := by decide +kernel
theorem dK8_sum_53 : decode cK8_sum 53 = .ok (.goto (-47), 3) := by decide +kernel
theorem dK8_sum_56 : decode cK8_sum 56 = .ok (.lload 4, 2) := by decide +kernel
theorem dK8_sum_58 : decode cK8_sum 58 = .ok (.lreturn, 1) := by decide +kernel
theorem dK8_meets_0 : decode cK8_meets 0 = .ok (.aload_n 0, 1) := by decide +kernel
theorem dK8_meets_1 : decode cK8_meets 1 = .ok (.getfield 26, 3) := by decide +kernel
theorem dK8_meets_4 : decode cK8_meets 4 = .ok (.iload_n 1, 1) := by decide +kernel
theorem dK8_meets_5 : decode cK8_meets 5 = .ok (.iaload, 1) := by decide +kernel
theorem dK8_meets_6 : decode cK8_meets 6 = .ok (.istore 4, 2) := by decide +kernel
theorem dK8_meets_8 : decode cK8_meets 8 = .ok (.aload_n 0, 1) := by decide +kernel
theorem dK8_meets_9 : decode cK8_meets 9 = .ok (.getfield 29, 3) := by decide +kernel
theorem dK8_meets_12 : decode cK8_meets 12 = .ok (.iload_n 1, 1) := by decide +kernel
theorem dK8_meets_13 : decode cK8_meets 13 = .ok (.iaload, 1) := by decide +kernel
theorem dK8_meets_14 : decode cK8_meets 14 = .ok (.istore 5, 2) := by decide +kernel
theorem dK8_meets_16 : decode cK8_meets 16 = .ok (.iload_n 2, 1) := by decide +kernel
theorem dK8_meets_17 : decode cK8_meets 17 = .ok (.istore 6, 2) := by decide +kernel
theorem dK8_meets_19 : decode cK8_meets 19 = .ok (.iload 6, 2) := by decide +kernel
theorem dK8_meets_21 : decode cK8_meets 21 = .ok (.ifCond .le 322, 3) := by decide +kernel
theorem dK8_meets_24 : decode cK8_meets 24 = .ok (.aload_n 0, 1) := by decide +kernel
theorem dK8_meets_25 : decode cK8_meets 25 = .ok (.iload 5, 2) := by decide +kernel
theorem dK8_meets_27 : decode cK8_meets 27 = .ok (.iload_n 3, 1) := by decide +kernel
theorem dK8_meets_28 : decode cK8_meets 28 = .ok (.ifCond .eq 7, 3) := by decide +kernel
theorem dK8_meets_31 : decode cK8_meets 31 = .ok (.iconst 0, 1) := by decide +kernel
theorem dK8_meets_32 : decode cK8_meets 32 = .ok (.goto 9, 3) := by decide +kernel
theorem dK8_meets_35 : decode cK8_meets 35 = .ok (.aload_n 0, 1) := by decide +kernel
theorem dK8_meets_36 : decode cK8_meets 36 = .ok (.getfield 35, 3) := by decide +kernel
theorem dK8_meets_39 : decode cK8_meets 39 = .ok (.iload_n 1, 1) := by decide +kernel
theorem dK8_meets_40 : decode cK8_meets 40 = .ok (.iaload, 1) := by decide +kernel
theorem dK8_meets_41 : decode cK8_meets 41 = .ok (.invokevirtual 171, 3) := by decide +kernel
theorem dK8_meets_44 : decode cK8_meets 44 = .ok (.istore 7, 2) := by decide +kernel
theorem dK8_meets_46 : decode cK8_meets 46 = .ok (.iload 7, 2) := by decide +kernel
theorem dK8_meets_48 : decode cK8_meets 48 = .ok (.ifCond .ge 4, 3) := by decide +kernel
theorem dK8_meets_51 : decode cK8_meets 51 = .ok (.return_, 1) := by decide +kernel
theorem dK8_meets_52 : decode cK8_meets 52 = .ok (.aload_n 0, 1) := by decide +kernel
theorem dK8_meets_53 : decode cK8_meets 53 = .ok (.getfield 26, 3) := by decide +kernel
theorem dK8_meets_56 : decode cK8_meets 56 = .ok (.iload 7, 2) := by decide +kernel
theorem dK8_meets_58 : decode cK8_meets 58 = .ok (.iaload, 1) := by decide +kernel
theorem dK8_meets_59 : decode cK8_meets 59 = .ok (.iload 4, 2) := by decide +kernel
theorem dK8_meets_61 : decode cK8_meets 61 = .ok (.if_icmp .ne 14, 3) := by decide +kernel
theorem dK8_meets_64 : decode cK8_meets 64 = .ok (.aload_n 0, 1) := by decide +kernel
theorem dK8_meets_65 : decode cK8_meets 65 = .ok (.getfield 38, 3) := by decide +kernel
theorem dK8_meets_68 : decode cK8_meets 68 = .ok (.iload 7, 2) := by decide +kernel
theorem dK8_meets_70 : decode cK8_meets 70 = .ok (.iconst 2, 1) := by decide +kernel
theorem dK8_meets_71 : decode cK8_meets 71 = .ok (.iastore, 1) := by decide +kernel
theorem dK8_meets_72 : decode cK8_meets 72 = .ok (.goto (-53), 3) := by decide +kernel
theorem dK8_meets_75 : decode cK8_meets 75 = .ok (.iload 6, 2) := by decide +kernel
theorem dK8_meets_77 : decode cK8_meets 77 = .ok (.aload_n 0, 1) := by decide +kernel
theorem dK8_meets_78 : decode cK8_meets 78 = .ok (.getfield 32, 3) := by decide +kernel
theorem dK8_meets_81 : decode cK8_meets 81 = .ok (.iload 7, 2) := by decide +kernel
theorem dK8_meets_83 : decode cK8_meets 83 = .ok (.iaload, 1) := by decide +kernel
theorem dK8_meets_84 : decode cK8_meets 84 = .ok (.invokestatic 179, 3) := by decide +kernel
theorem dK8_meets_87 : decode cK8_meets 87 = .ok (.istore 8, 2) := by decide +kernel
theorem dK8_meets_89 : decode cK8_meets 89 = .ok (.aload_n 0, 1) := by decide +kernel
theorem dK8_meets_90 : decode cK8_meets 90 = .ok (.getfield 35, 3) := by decide +kernel
theorem dK8_meets_93 : decode cK8_meets 93 = .ok (.iload 7, 2) := by decide +kernel
theorem dK8_meets_95 : decode cK8_meets 95 = .ok (.iaload, 1) := by decide +kernel
theorem dK8_meets_96 : decode cK8_meets 96 = .ok (.istore 9, 2) := by decide +kernel
theorem dK8_meets_98 : decode cK8_meets 98 = .ok (.iload_n 3, 1) := by decide +kernel
theorem dK8_meets_99 : decode cK8_meets 99 = .ok (.ifCond .eq 27, 3) := by decide +kernel
theorem dK8_meets_102 : decode cK8_meets 102 = .ok (.iload 5, 2) := by decide +kernel
theorem dK8_meets_104 : decode cK8_meets 104 = .ok (.ifCond .ne 22, 3) := by decide +kernel
theorem dK8_meets_107 : decode cK8_meets 107 = .ok (.iload 8, 2) := by decide +kernel
theorem dK8_meets_109 : decode cK8_meets 109 = .ok (.i2l, 1) := by decide +kernel
theorem dK8_meets_110 : decode cK8_meets 110 = .ok (.aload_n 0, 1) := by decide +kernel
theorem dK8_meets_111 : decode cK8_meets 111 = .ok (.iload 4, 2) := by decide +kernel
theorem dK8_meets_113 : decode cK8_meets 113 = .ok (.invokevirtual 126, 3) := by decide +kernel
theorem dK8_meets_116 : decode cK8_meets 116 = .ok (.iload 9, 2) := by decide +kernel
theorem dK8_meets_118 : decode cK8_meets 118 = .ok (.i2l, 1) := by decide +kernel
theorem dK8_meets_119 : decode cK8_meets 119 = .ok (.ldiv, 1) := by decide +kernel
theorem dK8_meets_120 : decode cK8_meets 120 = .ok (.invokestatic 95, 3) := by decide +kernel
theorem dK8_meets_123 : decode cK8_meets 123 = .ok (.l2i, 1) := by decide +kernel
theorem dK8_meets_124 : decode cK8_meets 124 = .ok (.istore 8, 2) := by decide +kernel
theorem dK8_meets_126 : decode cK8_meets 126 = .ok (.iload 8, 2) := by decide +kernel
theorem dK8_meets_128 : decode cK8_meets 128 = .ok (.ifCond .ne 4, 3) := by decide +kernel
theorem dK8_meets_131 : decode cK8_meets 131 = .ok (.return_, 1) := by decide +kernel
theorem dK8_meets_132 : decode cK8_meets 132 = .ok (.iload 5, 2) := by decide +kernel
theorem dK8_meets_134 : decode cK8_meets 134 = .ok (.ifCond .ne 8, 3) := by decide +kernel
theorem dK8_meets_137 : decode cK8_meets 137 = .ok (.iload 4, 2) := by decide +kernel
theorem dK8_meets_139 : decode cK8_meets 139 = .ok (.goto 10, 3) := by decide +kernel
theorem dK8_meets_142 : decode cK8_meets 142 = .ok (.aload_n 0, 1) := by decide +kernel
theorem dK8_meets_143 : decode cK8_meets 143 = .ok (.getfield 26, 3) := by decide +kernel
theorem dK8_meets_146 : decode cK8_meets 146 = .ok (.iload 7, 2) := by decide +kernel
theorem dK8_meets_148 : decode cK8_meets 148 = .ok (.iaload, 1) := by decide +kernel
theorem dK8_meets_149 : decode cK8_meets 149 = .ok (.istore 10, 2) := by decide +kernel
theorem dK8_meets_151 : decode cK8_meets 151 = .ok (.iload 5, 2) := by decide +kernel
theorem dK8_meets_153 : decode cK8_meets 153 = .ok (.ifCond .ne 13, 3) := by decide +kernel
theorem dK8_meets_156 : decode cK8_meets 156 = .ok (.aload_n 0, 1) := by decide +kernel
theorem dK8_meets_157 : decode cK8_meets 157 = .ok (.getfield 26, 3) := by decide +kernel
theorem dK8_meets_160 : decode cK8_meets 160 = .ok (.iload 7, 2) := by decide +kernel
theorem dK8_meets_162 : decode cK8_meets 162 = .ok (.iaload, 1) := by decide +kernel
theorem dK8_meets_163 : decode cK8_meets 163 = .ok (.goto 5, 3) := by decide +kernel
theorem dK8_meets_166 : decode cK8_meets 166 = .ok (.iload 4, 2) := by decide +kernel
theorem dK8_meets_168 : decode cK8_meets 168 = .ok (.istore 11, 2) := by decide +kernel
theorem dK8_meets_170 : decode cK8_meets 170 = .ok (.aload_n 0, 1) := by decide +kernel
theorem dK8_meets_171 : decode cK8_meets 171 = .ok (.getfield 181, 3) := by decide +kernel
theorem dK8_meets_174 : decode cK8_meets 174 = .ok (.sipush 200, 3) := by decide +kernel
theorem dK8_meets_177 : decode cK8_meets 177 = .ok (.irem, 1) := by decide +kernel
theorem dK8_meets_178 : decode cK8_meets 178 = .ok (.istore 12, 2) := by decide +kernel
theorem dK8_meets_180 : decode cK8_meets 180 = .ok (.aload_n 0, 1) := by decide +kernel
theorem dK8_meets_181 : decode cK8_meets 181 = .ok (.getfield 19, 3) := by decide +kernel
theorem dK8_meets_184 : decode cK8_meets 184 = .ok (.iload 10, 2) := by decide +kernel
theorem dK8_meets_186 : decode cK8_meets 186 = .ok (.dup2, 1) := by decide +kernel
theorem dK8_meets_187 : decode cK8_meets 187 = .ok (.laload, 1) := by decide +kernel
theorem dK8_meets_188 : decode cK8_meets 188 = .ok (.iload 8, 2) := by decide +kernel
theorem dK8_meets_190 : decode cK8_meets 190 = .ok (.i2l, 1) := by decide +kernel
theorem dK8_meets_191 : decode cK8_meets 191 = .ok (.iload 9, 2) := by decide +kernel
theorem dK8_meets_193 : decode cK8_meets 193 = .ok (.i2l, 1) := by decide +kernel
theorem dK8_meets_194 : decode cK8_meets 194 = .ok (.lmul, 1) := by decide +kernel
theorem dK8_meets_195 : decode cK8_meets 195 = .ok (.lsub, 1) := by decide +kernel
theorem dK8_meets_196 : decode cK8_meets 196 = .ok (.lastore, 1) := by decide +kernel
theorem dK8_meets_197 : decode cK8_meets 197 = .ok (.aload_n 0, 1) := by decide +kernel
theorem dK8_meets_198 : decode cK8_meets 198 = .ok (.getfield 23, 3) := by decide +kernel
theorem dK8_meets_201 : decode cK8_meets 201 = .ok (.iload 10, 2) := by decide +kernel
theorem dK8_meets_203 : decode cK8_meets 203 = .ok (.dup2, 1) := by decide +kernel
theorem dK8_meets_204 : decode cK8_meets 204 = .ok (.laload, 1) := by decide +kernel
theorem dK8_meets_205 : decode cK8_meets 205 = .ok (.iload 8, 2) := by decide +kernel
theorem dK8_meets_207 : decode cK8_meets 207 = .ok (.i2l, 1) := by decide +kernel
theorem dK8_meets_208 : decode cK8_meets 208 = .ok (.ladd, 1) := by decide +kernel
theorem dK8_meets_209 : decode cK8_meets 209 = .ok (.lastore, 1) := by decide +kernel
theorem dK8_meets_210 : decode cK8_meets 210 = .ok (.aload_n 0, 1) := by decide +kernel
theorem dK8_meets_211 : decode cK8_meets 211 = .ok (.getfield 19, 3) := by decide +kernel
theorem dK8_meets_214 : decode cK8_meets 214 = .ok (.iload 11, 2) := by decide +kernel
theorem dK8_meets_216 : decode cK8_meets 216 = .ok (.dup2, 1) := by decide +kernel
theorem dK8_meets_217 : decode cK8_meets 217 = .ok (.laload, 1) := by decide +kernel
theorem dK8_meets_218 : decode cK8_meets 218 = .ok (.iload 8, 2) := by decide +kernel
theorem dK8_meets_220 : decode cK8_meets 220 = .ok (.i2l, 1) := by decide +kernel
theorem dK8_meets_221 : decode cK8_meets 221 = .ok (.iload 9, 2) := by decide +kernel
theorem dK8_meets_223 : decode cK8_meets 223 = .ok (.i2l, 1) := by decide +kernel
theorem dK8_meets_224 : decode cK8_meets 224 = .ok (.lmul, 1) := by decide +kernel
theorem dK8_meets_225 : decode cK8_meets 225 = .ok (.ladd, 1) := by decide +kernel
theorem dK8_meets_226 : decode cK8_meets 226 = .ok (.lastore, 1) := by decide +kernel
theorem dK8_meets_227 : decode cK8_meets 227 = .ok (.aload_n 0, 1) := by decide +kernel
theorem dK8_meets_228 : decode cK8_meets 228 = .ok (.getfield 23, 3) := by decide +kernel
theorem dK8_meets_231 : decode cK8_meets 231 = .ok (.iload 11, 2) := by decide +kernel
theorem dK8_meets_233 : decode cK8_meets 233 = .ok (.dup2, 1) := by decide +kernel
theorem dK8_meets_234 : decode cK8_meets 234 = .ok (.laload, 1) := by decide +kernel
theorem dK8_meets_235 : decode cK8_meets 235 = .ok (.iload 8, 2) := by decide +kernel
theorem dK8_meets_237 : decode cK8_meets 237 = .ok (.i2l, 1) := by decide +kernel
theorem dK8_meets_238 : decode cK8_meets 238 = .ok (.lsub, 1) := by decide +kernel
theorem dK8_meets_239 : decode cK8_meets 239 = .ok (.lastore, 1) := by decide +kernel
theorem dK8_meets_240 : decode cK8_meets 240 = .ok (.aload_n 0, 1) := by decide +kernel
theorem dK8_meets_241 : decode cK8_meets 241 = .ok (.getfield 32, 3) := by decide +kernel
theorem dK8_meets_244 : decode cK8_meets 244 = .ok (.iload_n 1, 1) := by decide +kernel
theorem dK8_meets_245 : decode cK8_meets 245 = .ok (.dup2, 1) := by decide +kernel
theorem dK8_meets_246 : decode cK8_meets 246 = .ok (.iaload, 1) := by decide +kernel
theorem dK8_meets_247 : decode cK8_meets 247 = .ok (.iload 8, 2) := by decide +kernel
theorem dK8_meets_249 : decode cK8_meets 249 = .ok (.isub, 1) := by decide +kernel
theorem dK8_meets_250 : decode cK8_meets 250 = .ok (.iastore, 1) := by decide +kernel
theorem dK8_meets_251 : decode cK8_meets 251 = .ok (.aload_n 0, 1) := by decide +kernel
theorem dK8_meets_252 : decode cK8_meets 252 = .ok (.getfield 32, 3) := by decide +kernel
theorem dK8_meets_255 : decode cK8_meets 255 = .ok (.iload 7, 2) := by decide +kernel
theorem dK8_meets_257 : decode cK8_meets 257 = .ok (.dup2, 1) := by decide +kernel
theorem dK8_meets_258 : decode cK8_meets 258 = .ok (.iaload, 1) := by decide +kernel
theorem dK8_meets_259 : decode cK8_meets 259 = .ok (.iload 8, 2) := by decide +kernel
theorem dK8_meets_261 : decode cK8_meets 261 = .ok (.isub, 1) := by decide +kernel
theorem dK8_meets_262 : decode cK8_meets 262 = .ok (.iastore, 1) := by decide +kernel
theorem dK8_meets_263 : decode cK8_meets 263 = .ok (.iload 6, 2) := by decide +kernel
theorem dK8_meets_265 : decode cK8_meets 265 = .ok (.iload 8, 2) := by decide +kernel
theorem dK8_meets_267 : decode cK8_meets 267 = .ok (.isub, 1) := by decide +kernel
theorem dK8_meets_268 : decode cK8_meets 268 = .ok (.istore 6, 2) := by decide +kernel
theorem dK8_meets_270 : decode cK8_meets 270 = .ok (.aload_n 0, 1) := by decide +kernel
theorem dK8_meets_271 : decode cK8_meets 271 = .ok (.getfield 32, 3) := by decide +kernel
theorem dK8_meets_274 : decode cK8_meets 274 = .ok (.iload 7, 2) := by decide +kernel
theorem dK8_meets_276 : decode cK8_meets 276 = .ok (.iaload, 1) := by decide +kernel
theorem dK8_meets_277 : decode cK8_meets 277 = .ok (.ifCond .ne 11, 3) := by decide +kernel
theorem dK8_meets_280 : decode cK8_meets 280 = .ok (.aload_n 0, 1) := by decide +kernel
theorem dK8_meets_281 : decode cK8_meets 281 = .ok (.getfield 38, 3) := by decide +kernel
theorem dK8_meets_284 : decode cK8_meets 284 = .ok (.iload 7, 2) := by decide +kernel
theorem dK8_meets_286 : decode cK8_meets 286 = .ok (.iconst 2, 1) := by decide +kernel
theorem dK8_meets_287 : decode cK8_meets 287 = .ok (.iastore, 1) := by decide +kernel
theorem dK8_meets_288 : decode cK8_meets 288 = .ok (.aload_n 0, 1) := by decide +kernel
theorem dK8_meets_289 : decode cK8_meets 289 = .ok (.iload 9, 2) := by decide +kernel
theorem dK8_meets_291 : decode cK8_meets 291 = .ok (.putfield 108, 3) := by decide +kernel
theorem dK8_meets_294 : decode cK8_meets 294 = .ok (.aload_n 0, 1) := by decide +kernel
theorem dK8_meets_295 : decode cK8_meets 295 = .ok (.getfield 44, 3) := by decide +kernel
theorem dK8_meets_298 : decode cK8_meets 298 = .ok (.iload 12, 2) := by decide +kernel
theorem dK8_meets_300 : decode cK8_meets 300 = .ok (.iload 10, 2) := by decide +kernel
theorem dK8_meets_302 : decode cK8_meets 302 = .ok (.iastore, 1) := by decide +kernel
theorem dK8_meets_303 : decode cK8_meets 303 = .ok (.aload_n 0, 1) := by decide +kernel
theorem dK8_meets_304 : decode cK8_meets 304 = .ok (.getfield 47, 3) := by decide +kernel
theorem dK8_meets_307 : decode cK8_meets 307 = .ok (.iload 12, 2) := by decide +kernel
theorem dK8_meets_309 : decode cK8_meets 309 = .ok (.iload 11, 2) := by decide +kernel
theorem dK8_meets_311 : decode cK8_meets 311 = .ok (.iastore, 1) := by decide +kernel
theorem dK8_meets_312 : decode cK8_meets 312 = .ok (.aload_n 0, 1) := by decide +kernel
theorem dK8_meets_313 : decode cK8_meets 313 = .ok (.getfield 50, 3) := by decide +kernel
theorem dK8_meets_316 : decode cK8_meets 316 = .ok (.iload 12, 2) := by decide +kernel
theorem dK8_meets_318 : decode cK8_meets 318 = .ok (.iload 9, 2) := by decide +kernel
theorem dK8_meets_320 : decode cK8_meets 320 = .ok (.iastore, 1) := by decide +kernel
theorem dK8_meets_321 : decode cK8_meets 321 = .ok (.aload_n 0, 1) := by decide +kernel
theorem dK8_meets_322 : decode cK8_meets 322 = .ok (.getfield 53, 3) := by decide +kernel
theorem dK8_meets_325 : decode cK8_meets 325 = .ok (.iload 12, 2) := by decide +kernel
theorem dK8_meets_327 : decode cK8_meets 327 = .ok (.iload 8, 2) := by decide +kernel
theorem dK8_meets_329 : decode cK8_meets 329 = .ok (.iastore, 1) := by decide +kernel
theorem dK8_meets_330 : decode cK8_meets 330 = .ok (.aload_n 0, 1) := by decide +kernel
theorem dK8_meets_331 : decode cK8_meets 331 = .ok (.dup, 1) := by decide +kernel
theorem dK8_meets_332 : decode cK8_meets 332 = .ok (.getfield 181, 3) := by decide +kernel
theorem dK8_meets_335 : decode cK8_meets 335 = .ok (.iconst 1, 1) := by decide +kernel
theorem dK8_meets_336 : decode cK8_meets 336 = .ok (.iadd, 1) := by decide +kernel
theorem dK8_meets_337 : decode cK8_meets 337 = .ok (.putfield 181, 3) := by decide +kernel
theorem dK8_meets_340 : decode cK8_meets 340 = .ok (.goto (-321), 3) := by decide +kernel
theorem dK8_meets_343 : decode cK8_meets 343 = .ok (.return_, 1) := by decide +kernel
theorem dK8_order_0 : decode cK8_order 0 = .ok (.iload_n 1, 1) := by decide +kernel
theorem dK8_order_1 : decode cK8_order 1 = .ok (.ifCond .lt 20, 3) := by decide +kernel
theorem dK8_order_4 : decode cK8_order 4 = .ok (.iload_n 1, 1) := by decide +kernel
theorem dK8_order_5 : decode cK8_order 5 = .ok (.aload_n 0, 1) := by decide +kernel
theorem dK8_order_6 : decode cK8_order 6 = .ok (.getfield 105, 3) := by decide +kernel
theorem dK8_order_9 : decode cK8_order 9 = .ok (.if_icmp .ge 12, 3) := by decide +kernel
theorem dK8_order_12 : decode cK8_order 12 = .ok (.iload_n 2, 1) := by decide +kernel
theorem dK8_order_13 : decode cK8_order 13 = .ok (.ifCond .lt 8, 3) := by decide +kernel
theorem dK8_order_16 : decode cK8_order 16 = .ok (.iload_n 2, 1) := by decide +kernel
theorem dK8_order_17 : decode cK8_order 17 = .ok (.iconst 5, 1) := by decide +kernel
theorem dK8_order_18 : decode cK8_order 18 = .ok (.if_icmp .le 5, 3) := by decide +kernel
theorem dK8_order_21 : decode cK8_order 21 = .ok (.iconst (-1), 1) := by decide +kernel
theorem dK8_order_22 : decode cK8_order 22 = .ok (.ireturn, 1) := by decide +kernel
theorem dK8_order_23 : decode cK8_order 23 = .ok (.iload_n 2, 1) := by decide +kernel
theorem dK8_order_24 : decode cK8_order 24 = .ok (.ifCond .ne 12, 3) := by decide +kernel
theorem dK8_order_27 : decode cK8_order 27 = .ok (.aload_n 0, 1) := by decide +kernel
theorem dK8_order_28 : decode cK8_order 28 = .ok (.getfield 26, 3) := by decide +kernel
theorem dK8_order_31 : decode cK8_order 31 = .ok (.iload_n 1, 1) := by decide +kernel
theorem dK8_order_32 : decode cK8_order 32 = .ok (.iaload, 1) := by decide +kernel
theorem dK8_order_33 : decode cK8_order 33 = .ok (.goto 65, 3) := by decide +kernel
theorem dK8_order_36 : decode cK8_order 36 = .ok (.iload_n 2, 1) := by decide +kernel
theorem dK8_order_37 : decode cK8_order 37 = .ok (.iconst 1, 1) := by decide +kernel
theorem dK8_order_38 : decode cK8_order 38 = .ok (.if_icmp .ne 12, 3) := by decide +kernel
theorem dK8_order_41 : decode cK8_order 41 = .ok (.aload_n 0, 1) := by decide +kernel
theorem dK8_order_42 : decode cK8_order 42 = .ok (.getfield 29, 3) := by decide +kernel
theorem dK8_order_45 : decode cK8_order 45 = .ok (.iload_n 1, 1) := by decide +kernel
theorem dK8_order_46 : decode cK8_order 46 = .ok (.iaload, 1) := by decide +kernel
theorem dK8_order_47 : decode cK8_order 47 = .ok (.goto 51, 3) := by decide +kernel
theorem dK8_order_50 : decode cK8_order 50 = .ok (.iload_n 2, 1) := by decide +kernel
theorem dK8_order_51 : decode cK8_order 51 = .ok (.iconst 2, 1) := by decide +kernel
theorem dK8_order_52 : decode cK8_order 52 = .ok (.if_icmp .ne 12, 3) := by decide +kernel
theorem dK8_order_55 : decode cK8_order 55 = .ok (.aload_n 0, 1) := by decide +kernel
theorem dK8_order_56 : decode cK8_order 56 = .ok (.getfield 32, 3) := by decide +kernel
theorem dK8_order_59 : decode cK8_order 59 = .ok (.iload_n 1, 1) := by decide +kernel
theorem dK8_order_60 : decode cK8_order 60 = .ok (.iaload, 1) := by decide +kernel
theorem dK8_order_61 : decode cK8_order 61 = .ok (.goto 37, 3) := by decide +kernel
theorem dK8_order_64 : decode cK8_order 64 = .ok (.iload_n 2, 1) := by decide +kernel
theorem dK8_order_65 : decode cK8_order 65 = .ok (.iconst 3, 1) := by decide +kernel
theorem dK8_order_66 : decode cK8_order 66 = .ok (.if_icmp .ne 12, 3) := by decide +kernel
theorem dK8_order_69 : decode cK8_order 69 = .ok (.aload_n 0, 1) := by decide +kernel
theorem dK8_order_70 : decode cK8_order 70 = .ok (.getfield 35, 3) := by decide +kernel
theorem dK8_order_73 : decode cK8_order 73 = .ok (.iload_n 1, 1) := by decide +kernel
theorem dK8_order_74 : decode cK8_order 74 = .ok (.iaload, 1) := by decide +kernel
theorem dK8_order_75 : decode cK8_order 75 = .ok (.goto 23, 3) := by decide +kernel
theorem dK8_order_78 : decode cK8_order 78 = .ok (.iload_n 2, 1) := by decide +kernel
theorem dK8_order_79 : decode cK8_order 79 = .ok (.iconst 4, 1) := by decide +kernel
theorem dK8_order_80 : decode cK8_order 80 = .ok (.if_icmp .ne 12, 3) := by decide +kernel
theorem dK8_order_83 : decode cK8_order 83 = .ok (.aload_n 0, 1) := by decide +kernel
theorem dK8_order_84 : decode cK8_order 84 = .ok (.getfield 38, 3) := by decide +kernel
theorem dK8_order_87 : decode cK8_order 87 = .ok (.iload_n 1, 1) := by decide +kernel
theorem dK8_order_88 : decode cK8_order 88 = .ok (.iaload, 1) := by decide +kernel
theorem dK8_order_89 : decode cK8_order 89 = .ok (.goto 9, 3) := by decide +kernel
theorem dK8_order_92 : decode cK8_order 92 = .ok (.aload_n 0, 1) := by decide +kernel
theorem dK8_order_93 : decode cK8_order 93 = .ok (.getfield 41, 3) := by decide +kernel
theorem dK8_order_96 : decode cK8_order 96 = .ok (.iload_n 1, 1) := by decide +kernel
theorem dK8_order_97 : decode cK8_order 97 = .ok (.iaload, 1) := by decide +kernel
theorem dK8_order_98 : decode cK8_order 98 = .ok (.ireturn, 1) := by decide +kernel
theorem dK8_trader_0 : decode cK8_trader 0 = .ok (.iload_n 1, 1) := by decide +kernel
theorem dK8_trader_1 : decode cK8_trader 1 = .ok (.ifCond .lt 18, 3) := by decide +kernel
theorem dK8_trader_4 : decode cK8_trader 4 = .ok (.iload_n 1, 1) := by decide +kernel
theorem dK8_trader_5 : decode cK8_trader 5 = .ok (.bipush 8, 2) := by decide +kernel
theorem dK8_trader_7 : decode cK8_trader 7 = .ok (.if_icmp .ge 12, 3) := by decide +kernel
theorem dK8_trader_10 : decode cK8_trader 10 = .ok (.iload_n 2, 1) := by decide +kernel
theorem dK8_trader_11 : decode cK8_trader 11 = .ok (.ifCond .lt 8, 3) := by decide +kernel
theorem dK8_trader_14 : decode cK8_trader 14 = .ok (.iload_n 2, 1) := by decide +kernel
theorem dK8_trader_15 : decode cK8_trader 15 = .ok (.iconst 4, 1) := by decide +kernel
theorem dK8_trader_16 : decode cK8_trader 16 = .ok (.if_icmp .le 7, 3) := by decide +kernel
theorem dK8_trader_19 : decode cK8_trader 19 = .ok (.ldc2_w 184, 3) := by decide +kernel
theorem dK8_trader_22 : decode cK8_trader 22 = .ok (.lreturn, 1) := by decide +kernel
theorem dK8_trader_23 : decode cK8_trader 23 = .ok (.iload_n 2, 1) := by decide +kernel
theorem dK8_trader_24 : decode cK8_trader 24 = .ok (.iconst 4, 1) := by decide +kernel
theorem dK8_trader_25 : decode cK8_trader 25 = .ok (.if_icmp .ge 49, 3) := by decide +kernel
theorem dK8_trader_28 : decode cK8_trader 28 = .ok (.iload_n 2, 1) := by decide +kernel
theorem dK8_trader_29 : decode cK8_trader 29 = .ok (.ifCond .ne 12, 3) := by decide +kernel
theorem dK8_trader_32 : decode cK8_trader 32 = .ok (.aload_n 0, 1) := by decide +kernel
theorem dK8_trader_33 : decode cK8_trader 33 = .ok (.getfield 19, 3) := by decide +kernel
theorem dK8_trader_36 : decode cK8_trader 36 = .ok (.iload_n 1, 1) := by decide +kernel
theorem dK8_trader_37 : decode cK8_trader 37 = .ok (.laload, 1) := by decide +kernel
theorem dK8_trader_38 : decode cK8_trader 38 = .ok (.goto 35, 3) := by decide +kernel
theorem dK8_trader_41 : decode cK8_trader 41 = .ok (.iload_n 2, 1) := by decide +kernel
theorem dK8_trader_42 : decode cK8_trader 42 = .ok (.iconst 1, 1) := by decide +kernel
theorem dK8_trader_43 : decode cK8_trader 43 = .ok (.if_icmp .ne 12, 3) := by decide +kernel
theorem dK8_trader_46 : decode cK8_trader 46 = .ok (.aload_n 0, 1) := by decide +kernel
theorem dK8_trader_47 : decode cK8_trader 47 = .ok (.getfield 23, 3) := by decide +kernel
theorem dK8_trader_50 : decode cK8_trader 50 = .ok (.iload_n 1, 1) := by decide +kernel
theorem dK8_trader_51 : decode cK8_trader 51 = .ok (.laload, 1) := by decide +kernel
theorem dK8_trader_52 : decode cK8_trader 52 = .ok (.goto 21, 3) := by decide +kernel
theorem dK8_trader_55 : decode cK8_trader 55 = .ok (.iload_n 2, 1) := by decide +kernel
theorem dK8_trader_56 : decode cK8_trader 56 = .ok (.iconst 2, 1) := by decide +kernel
theorem dK8_trader_57 : decode cK8_trader 57 = .ok (.if_icmp .ne 11, 3) := by decide +kernel
theorem dK8_trader_60 : decode cK8_trader 60 = .ok (.aload_n 0, 1) := by decide +kernel
theorem dK8_trader_61 : decode cK8_trader 61 = .ok (.iload_n 1, 1) := by decide +kernel
theorem dK8_trader_62 : decode cK8_trader 62 = .ok (.invokevirtual 153, 3) := by decide +kernel
theorem dK8_trader_65 : decode cK8_trader 65 = .ok (.goto 8, 3) := by decide +kernel
theorem dK8_trader_68 : decode cK8_trader 68 = .ok (.aload_n 0, 1) := by decide +kernel
theorem dK8_trader_69 : decode cK8_trader 69 = .ok (.iload_n 1, 1) := by decide +kernel
theorem dK8_trader_70 : decode cK8_trader 70 = .ok (.invokevirtual 156, 3) := by decide +kernel
theorem dK8_trader_73 : decode cK8_trader 73 = .ok (.lreturn, 1) := by decide +kernel
theorem dK8_trader_74 : decode cK8_trader 74 = .ok (.lconst 0, 1) := by decide +kernel
theorem dK8_trader_75 : decode cK8_trader 75 = .ok (.lstore_n 3, 1) := by decide +kernel
theorem dK8_trader_76 : decode cK8_trader 76 = .ok (.iconst 0, 1) := by decide +kernel
theorem dK8_trader_77 : decode cK8_trader 77 = .ok (.istore 5, 2) := by decide +kernel
theorem dK8_trader_79 : decode cK8_trader 79 = .ok (.iload 5, 2) := by decide +kernel
theorem dK8_trader_81 : decode cK8_trader 81 = .ok (.aload_n 0, 1) := by decide +kernel
theorem dK8_trader_82 : decode cK8_trader 82 = .ok (.getfield 105, 3) := by decide +kernel
theorem dK8_trader_85 : decode cK8_trader 85 = .ok (.if_icmp .ge 35, 3) := by decide +kernel
theorem dK8_trader_88 : decode cK8_trader 88 = .ok (.aload_n 0, 1) := by decide +kernel
theorem dK8_trader_89 : decode cK8_trader 89 = .ok (.getfield 26, 3) := by decide +kernel
theorem dK8_trader_92 : decode cK8_trader 92 = .ok (.iload 5, 2) := by decide +kernel
theorem dK8_trader_94 : decode cK8_trader 94 = .ok (.iaload, 1) := by decide +kernel
theorem dK8_trader_95 : decode cK8_trader 95 = .ok (.iload_n 1, 1) := by decide +kernel
theorem dK8_trader_96 : decode cK8_trader 96 = .ok (.if_icmp .ne 18, 3) := by decide +kernel
theorem dK8_trader_99 : decode cK8_trader 99 = .ok (.aload_n 0, 1) := by decide +kernel
theorem dK8_trader_100 : decode cK8_trader 100 = .ok (.getfield 38, 3) := by decide +kernel
theorem dK8_trader_103 : decode cK8_trader 103 = .ok (.iload 5, 2) := by decide +kernel
theorem dK8_trader_105 : decode cK8_trader 105 = .ok (.iaload, 1) := by decide +kernel
theorem dK8_trader_106 : decode cK8_trader 106 = .ok (.iconst 2, 1) := by decide +kernel
theorem dK8_trader_107 : decode cK8_trader 107 = .ok (.if_icmp .eq 7, 3) := by decide +kernel
theorem dK8_trader_110 : decode cK8_trader 110 = .ok (.lload_n 3, 1) := by decide +kernel
theorem dK8_trader_111 : decode cK8_trader 111 = .ok (.lconst 1, 1) := by decide +kernel
theorem dK8_trader_112 : decode cK8_trader 112 = .ok (.ladd, 1) := by decide +kernel
theorem dK8_trader_113 : decode cK8_trader 113 = .ok (.lstore_n 3, 1) := by decide +kernel
theorem dK8_trader_114 : decode cK8_trader 114 = .ok (.iinc 5 1, 3) := by decide +kernel
theorem dK8_trader_117 : decode cK8_trader 117 = .ok (.goto (-38), 3) := by decide +kernel
theorem dK8_trader_120 : decode cK8_trader 120 = .ok (.lload_n 3, 1) := by decide +kernel
theorem dK8_trader_121 : decode cK8_trader 121 = .ok (.lreturn, 1) := by decide +kernel
theorem dK8_level_0 : decode cK8_level 0 = .ok (.iload_n 1, 1) := by decide +kernel
theorem dK8_level_1 : decode cK8_level 1 = .ok (.ifCond .lt 21, 3) := by decide +kernel
theorem dK8_level_4 : decode cK8_level 4 = .ok (.iload_n 1, 1) := by decide +kernel
theorem dK8_level_5 : decode cK8_level 5 = .ok (.iconst 1, 1) := by decide +kernel
theorem dK8_level_6 : decode cK8_level 6 = .ok (.if_icmp .gt 16, 3) := by decide +kernel
theorem dK8_level_9 : decode cK8_level 9 = .ok (.iload_n 2, 1) := by decide +kernel
theorem dK8_level_10 : decode cK8_level 10 = .ok (.ifCond .lt 12, 3) := by decide +kernel
theorem dK8_level_13 : decode cK8_level 13 = .ok (.iload_n 3, 1) := by decide +kernel
theorem dK8_level_14 : decode cK8_level 14 = .ok (.ifCond .lt 8, 3) := by decide +kernel
theorem dK8_level_17 : decode cK8_level 17 = .ok (.iload_n 3, 1) := by decide +kernel
theorem dK8_level_18 : decode cK8_level 18 = .ok (.iconst 2, 1) := by decide +kernel
theorem dK8_level_19 : decode cK8_level 19 = .ok (.if_icmp .le 5, 3) := by decide +kernel
theorem dK8_level_22 : decode cK8_level 22 = .ok (.iconst (-1), 1) := by decide +kernel
theorem dK8_level_23 : decode cK8_level 23 = .ok (.ireturn, 1) := by decide +kernel
theorem dK8_level_24 : decode cK8_level 24 = .ok (.iconst (-1), 1) := by decide +kernel
theorem dK8_level_25 : decode cK8_level 25 = .ok (.istore 4, 2) := by decide +kernel
theorem dK8_level_27 : decode cK8_level 27 = .ok (.iconst 0, 1) := by decide +kernel
theorem dK8_level_28 : decode cK8_level 28 = .ok (.istore 5, 2) := by decide +kernel
theorem dK8_level_30 : decode cK8_level 30 = .ok (.iload 5, 2) := by decide +kernel
theorem dK8_level_32 : decode cK8_level 32 = .ok (.iload_n 2, 1) := by decide +kernel
theorem dK8_level_33 : decode cK8_level 33 = .ok (.if_icmp .gt 146, 3) := by decide +kernel
theorem dK8_level_36 : decode cK8_level 36 = .ok (.iconst (-1), 1) := by decide +kernel
theorem dK8_level_37 : decode cK8_level 37 = .ok (.istore 6, 2) := by decide +kernel
theorem dK8_level_39 : decode cK8_level 39 = .ok (.iconst 0, 1) := by decide +kernel
theorem dK8_level_40 : decode cK8_level 40 = .ok (.istore 7, 2) := by decide +kernel
theorem dK8_level_42 : decode cK8_level 42 = .ok (.iload 7, 2) := by decide +kernel
theorem dK8_level_44 : decode cK8_level 44 = .ok (.aload_n 0, 1) := by decide +kernel
theorem dK8_level_45 : decode cK8_level 45 = .ok (.getfield 105, 3) := by decide +kernel
theorem dK8_level_48 : decode cK8_level 48 = .ok (.if_icmp .ge 114, 3) := by decide +kernel
theorem dK8_level_51 : decode cK8_level 51 = .ok (.aload_n 0, 1) := by decide +kernel
theorem dK8_level_52 : decode cK8_level 52 = .ok (.getfield 38, 3) := by decide +kernel
theorem dK8_level_55 : decode cK8_level 55 = .ok (.iload 7, 2) := by decide +kernel
theorem dK8_level_57 : decode cK8_level 57 = .ok (.iaload, 1) := by decide +kernel
theorem dK8_level_58 : decode cK8_level 58 = .ok (.ifCond .ne 98, 3) := by decide +kernel
theorem dK8_level_61 : decode cK8_level 61 = .ok (.aload_n 0, 1) := by decide +kernel
theorem dK8_level_62 : decode cK8_level 62 = .ok (.getfield 29, 3) := by decide +kernel
theorem dK8_level_65 : decode cK8_level 65 = .ok (.iload 7, 2) := by decide +kernel
theorem dK8_level_67 : decode cK8_level 67 = .ok (.iaload, 1) := by decide +kernel
theorem dK8_level_68 : decode cK8_level 68 = .ok (.iload_n 1, 1) := by decide +kernel
theorem dK8_level_69 : decode cK8_level 69 = .ok (.if_icmp .ne 87, 3) := by decide +kernel
theorem dK8_level_72 : decode cK8_level 72 = .ok (.iload 4, 2) := by decide +kernel
theorem dK8_level_74 : decode cK8_level 74 = .ok (.ifCond .lt 37, 3) := by decide +kernel
theorem dK8_level_77 : decode cK8_level 77 = .ok (.iload_n 1, 1) := by decide +kernel
theorem dK8_level_78 : decode cK8_level 78 = .ok (.ifCond .ne 18, 3) := by decide +kernel
theorem dK8_level_81 : decode cK8_level 81 = .ok (.aload_n 0, 1) := by decide +kernel
theorem dK8_level_82 : decode cK8_level 82 = .ok (.getfield 35, 3) := by decide +kernel
theorem dK8_level_85 : decode cK8_level 85 = .ok (.iload 7, 2) := by decide +kernel
theorem dK8_level_87 : decode cK8_level 87 = .ok (.iaload, 1) := by decide +kernel
theorem dK8_level_88 : decode cK8_level 88 = .ok (.iload 4, 2) := by decide +kernel
theorem dK8_level_90 : decode cK8_level 90 = .ok (.if_icmp .lt 21, 3) := by decide +kernel
theorem dK8_level_93 : decode cK8_level 93 = .ok (.goto 63, 3) := by decide +kernel
theorem dK8_level_96 : decode cK8_level 96 = .ok (.aload_n 0, 1) := by decide +kernel
theorem dK8_level_97 : decode cK8_level 97 = .ok (.getfield 35, 3) := by decide +kernel
theorem dK8_level_100 : decode cK8_level 100 = .ok (.iload 7, 2) := by decide +kernel
theorem dK8_level_102 : decode cK8_level 102 = .ok (.iaload, 1) := by decide +kernel
theorem dK8_level_103 : decode cK8_level 103 = .ok (.iload 4, 2) := by decide +kernel
theorem dK8_level_105 : decode cK8_level 105 = .ok (.if_icmp .gt 6, 3) := by decide +kernel
theorem dK8_level_108 : decode cK8_level 108 = .ok (.goto 48, 3) := by decide +kernel
theorem dK8_level_111 : decode cK8_level 111 = .ok (.iload 6, 2) := by decide +kernel
theorem dK8_level_113 : decode cK8_level 113 = .ok (.ifCond .lt 34, 3) := by decide +kernel
theorem dK8_level_116 : decode cK8_level 116 = .ok (.iload_n 1, 1) := by decide +kernel
theorem dK8_level_117 : decode cK8_level 117 = .ok (.ifCond .ne 18, 3) := by decide +kernel
theorem dK8_level_120 : decode cK8_level 120 = .ok (.aload_n 0, 1) := by decide +kernel
theorem dK8_level_121 : decode cK8_level 121 = .ok (.getfield 35, 3) := by decide +kernel
theorem dK8_level_124 : decode cK8_level 124 = .ok (.iload 7, 2) := by decide +kernel
theorem dK8_level_126 : decode cK8_level 126 = .ok (.iaload, 1) := by decide +kernel
theorem dK8_level_127 : decode cK8_level 127 = .ok (.iload 6, 2) := by decide +kernel
theorem dK8_level_129 : decode cK8_level 129 = .ok (.if_icmp .le 27, 3) := by decide +kernel
theorem dK8_level_132 : decode cK8_level 132 = .ok (.goto 15, 3) := by decide +kernel
theorem dK8_level_135 : decode cK8_level 135 = .ok (.aload_n 0, 1) := by decide +kernel
theorem dK8_level_136 : decode cK8_level 136 = .ok (.getfield 35, 3) := by decide +kernel
theorem dK8_level_139 : decode cK8_level 139 = .ok (.iload 7, 2) := by decide +kernel
theorem dK8_level_141 : decode cK8_level 141 = .ok (.iaload, 1) := by decide +kernel
theorem dK8_level_142 : decode cK8_level 142 = .ok (.iload 6, 2) := by decide +kernel
theorem dK8_level_144 : decode cK8_level 144 = .ok (.if_icmp .ge 12, 3) := by decide +kernel
theorem dK8_level_147 : decode cK8_level 147 = .ok (.aload_n 0, 1) := by decide +kernel
theorem dK8_level_148 : decode cK8_level 148 = .ok (.getfield 35, 3) := by decide +kernel
theorem dK8_level_151 : decode cK8_level 151 = .ok (.iload 7, 2) := by decide +kernel
theorem dK8_level_153 : decode cK8_level 153 = .ok (.iaload, 1) := by decide +kernel
theorem dK8_level_154 : decode cK8_level 154 = .ok (.istore 6, 2) := by decide +kernel
theorem dK8_level_156 : decode cK8_level 156 = .ok (.iinc 7 1, 3) := by decide +kernel
theorem dK8_level_159 : decode cK8_level 159 = .ok (.goto (-117), 3) := by decide +kernel
theorem dK8_level_162 : decode cK8_level 162 = .ok (.iload 6, 2) := by decide +kernel
theorem dK8_level_164 : decode cK8_level 164 = .ok (.ifCond .ge 5, 3) := by decide +kernel
theorem dK8_level_167 : decode cK8_level 167 = .ok (.iconst (-1), 1) := by decide +kernel
theorem dK8_level_168 : decode cK8_level 168 = .ok (.ireturn, 1) := by decide +kernel
theorem dK8_level_169 : decode cK8_level 169 = .ok (.iload 6, 2) := by decide +kernel
theorem dK8_level_171 : decode cK8_level 171 = .ok (.istore 4, 2) := by decide +kernel
theorem dK8_level_173 : decode cK8_level 173 = .ok (.iinc 5 1, 3) := by decide +kernel
theorem dK8_level_176 : decode cK8_level 176 = .ok (.goto (-146), 3) := by decide +kernel
theorem dK8_level_179 : decode cK8_level 179 = .ok (.iconst 0, 1) := by decide +kernel
theorem dK8_level_180 : decode cK8_level 180 = .ok (.istore 5, 2) := by decide +kernel
theorem dK8_level_182 : decode cK8_level 182 = .ok (.iconst 0, 1) := by decide +kernel
theorem dK8_level_183 : decode cK8_level 183 = .ok (.istore 6, 2) := by decide +kernel
theorem dK8_level_185 : decode cK8_level 185 = .ok (.iconst 0, 1) := by decide +kernel
theorem dK8_level_186 : decode cK8_level 186 = .ok (.istore 7, 2) := by decide +kernel
theorem dK8_level_188 : decode cK8_level 188 = .ok (.iload 7, 2) := by decide +kernel
theorem dK8_level_190 : decode cK8_level 190 = .ok (.aload_n 0, 1) := by decide +kernel
theorem dK8_level_191 : decode cK8_level 191 = .ok (.getfield 105, 3) := by decide +kernel
theorem dK8_level_194 : decode cK8_level 194 = .ok (.if_icmp .ge 60, 3) := by decide +kernel
theorem dK8_level_197 : decode cK8_level 197 = .ok (.aload_n 0, 1) := by decide +kernel
theorem dK8_level_198 : decode cK8_level 198 = .ok (.getfield 38, 3) := by decide +kernel
theorem dK8_level_201 : decode cK8_level 201 = .ok (.iload 7, 2) := by decide +kernel
theorem dK8_level_203 : decode cK8_level 203 = .ok (.iaload, 1) := by decide +kernel
theorem dK8_level_204 : decode cK8_level 204 = .ok (.ifCond .ne 44, 3) := by decide +kernel
theorem dK8_level_207 : decode cK8_level 207 = .ok (.aload_n 0, 1) := by decide +kernel
theorem dK8_level_208 : decode cK8_level 208 = .ok (.getfield 29, 3) := by decide +kernel
theorem dK8_level_211 : decode cK8_level 211 = .ok (.iload 7, 2) := by decide +kernel
theorem dK8_level_213 : decode cK8_level 213 = .ok (.iaload, 1) := by decide +kernel
theorem dK8_level_214 : decode cK8_level 214 = .ok (.iload_n 1, 1) := by decide +kernel
theorem dK8_level_215 : decode cK8_level 215 = .ok (.if_icmp .ne 33, 3) := by decide +kernel
theorem dK8_level_218 : decode cK8_level 218 = .ok (.aload_n 0, 1) := by decide +kernel
theorem dK8_level_219 : decode cK8_level 219 = .ok (.getfield 35, 3) := by decide +kernel
theorem dK8_level_222 : decode cK8_level 222 = .ok (.iload 7, 2) := by decide +kernel
theorem dK8_level_224 : decode cK8_level 224 = .ok (.iaload, 1) := by decide +kernel
theorem dK8_level_225 : decode cK8_level 225 = .ok (.iload 4, 2) := by decide +kernel
theorem dK8_level_227 : decode cK8_level 227 = .ok (.if_icmp .eq 6, 3) := by decide +kernel
theorem dK8_level_230 : decode cK8_level 230 = .ok (.goto 18, 3) := by decide +kernel
theorem dK8_level_233 : decode cK8_level 233 = .ok (.iload 5, 2) := by decide +kernel
theorem dK8_level_235 : decode cK8_level 235 = .ok (.aload_n 0, 1) := by decide +kernel
theorem dK8_level_236 : decode cK8_level 236 = .ok (.getfield 32, 3) := by decide +kernel
theorem dK8_level_239 : decode cK8_level 239 = .ok (.iload 7, 2) := by decide +kernel
theorem dK8_level_241 : decode cK8_level 241 = .ok (.iaload, 1) := by decide +kernel
theorem dK8_level_242 : decode cK8_level 242 = .ok (.iadd, 1) := by decide +kernel
theorem dK8_level_243 : decode cK8_level 243 = .ok (.istore 5, 2) := by decide +kernel
theorem dK8_level_245 : decode cK8_level 245 = .ok (.iinc 6 1, 3) := by decide +kernel
theorem dK8_level_248 : decode cK8_level 248 = .ok (.iinc 7 1, 3) := by decide +kernel
theorem dK8_level_251 : decode cK8_level 251 = .ok (.goto (-63), 3) := by decide +kernel
theorem dK8_level_254 : decode cK8_level 254 = .ok (.iload_n 3, 1) := by decide +kernel
theorem dK8_level_255 : decode cK8_level 255 = .ok (.ifCond .ne 8, 3) := by decide +kernel
theorem dK8_level_258 : decode cK8_level 258 = .ok (.iload 4, 2) := by decide +kernel
theorem dK8_level_260 : decode cK8_level 260 = .ok (.goto 15, 3) := by decide +kernel
theorem dK8_level_263 : decode cK8_level 263 = .ok (.iload_n 3, 1) := by decide +kernel
theorem dK8_level_264 : decode cK8_level 264 = .ok (.iconst 1, 1) := by decide +kernel
theorem dK8_level_265 : decode cK8_level 265 = .ok (.if_icmp .ne 8, 3) := by decide +kernel
theorem dK8_level_268 : decode cK8_level 268 = .ok (.iload 5, 2) := by decide +kernel
theorem dK8_level_270 : decode cK8_level 270 = .ok (.goto 5, 3) := by decide +kernel
theorem dK8_level_273 : decode cK8_level 273 = .ok (.iload 6, 2) := by decide +kernel
theorem dK8_level_275 : decode cK8_level 275 = .ok (.ireturn, 1) := by decide +kernel
theorem dK8_trade_0 : decode cK8_trade 0 = .ok (.iload_n 1, 1) := by decide +kernel
theorem dK8_trade_1 : decode cK8_trade 1 = .ok (.ifCond .lt 32, 3) := by decide +kernel
theorem dK8_trade_4 : decode cK8_trade 4 = .ok (.iload_n 1, 1) := by decide +kernel
theorem dK8_trade_5 : decode cK8_trade 5 = .ok (.aload_n 0, 1) := by decide +kernel
theorem dK8_trade_6 : decode cK8_trade 6 = .ok (.getfield 181, 3) := by decide +kernel
theorem dK8_trade_9 : decode cK8_trade 9 = .ok (.if_icmp .ge 24, 3) := by decide +kernel
theorem dK8_trade_12 : decode cK8_trade 12 = .ok (.iload_n 1, 1) := by decide +kernel
theorem dK8_trade_13 : decode cK8_trade 13 = .ok (.aload_n 0, 1) := by decide +kernel
theorem dK8_trade_14 : decode cK8_trade 14 = .ok (.getfield 181, 3) := by decide +kernel
theorem dK8_trade_17 : decode cK8_trade 17 = .ok (.sipush 200, 3) := by decide +kernel
theorem dK8_trade_20 : decode cK8_trade 20 = .ok (.isub, 1) := by decide +kernel
theorem dK8_trade_21 : decode cK8_trade 21 = .ok (.if_icmp .lt 12, 3) := by decide +kernel
theorem dK8_trade_24 : decode cK8_trade 24 = .ok (.iload_n 2, 1) := by decide +kernel
theorem dK8_trade_25 : decode cK8_trade 25 = .ok (.ifCond .lt 8, 3) := by decide +kernel
theorem dK8_trade_28 : decode cK8_trade 28 = .ok (.iload_n 2, 1) := by decide +kernel
theorem dK8_trade_29 : decode cK8_trade 29 = .ok (.iconst 3, 1) := by decide +kernel
theorem dK8_trade_30 : decode cK8_trade 30 = .ok (.if_icmp .le 5, 3) := by decide +kernel
theorem dK8_trade_33 : decode cK8_trade 33 = .ok (.iconst (-1), 1) := by decide +kernel
theorem dK8_trade_34 : decode cK8_trade 34 = .ok (.ireturn, 1) := by decide +kernel
theorem dK8_trade_35 : decode cK8_trade 35 = .ok (.iload_n 1, 1) := by decide +kernel
theorem dK8_trade_36 : decode cK8_trade 36 = .ok (.sipush 200, 3) := by decide +kernel
theorem dK8_trade_39 : decode cK8_trade 39 = .ok (.irem, 1) := by decide +kernel
theorem dK8_trade_40 : decode cK8_trade 40 = .ok (.istore_n 3, 1) := by decide +kernel
theorem dK8_trade_41 : decode cK8_trade 41 = .ok (.iload_n 2, 1) := by decide +kernel
theorem dK8_trade_42 : decode cK8_trade 42 = .ok (.ifCond .ne 12, 3) := by decide +kernel
theorem dK8_trade_45 : decode cK8_trade 45 = .ok (.aload_n 0, 1) := by decide +kernel
theorem dK8_trade_46 : decode cK8_trade 46 = .ok (.getfield 44, 3) := by decide +kernel
theorem dK8_trade_49 : decode cK8_trade 49 = .ok (.iload_n 3, 1) := by decide +kernel
theorem dK8_trade_50 : decode cK8_trade 50 = .ok (.iaload, 1) := by decide +kernel
theorem dK8_trade_51 : decode cK8_trade 51 = .ok (.goto 37, 3) := by decide +kernel
theorem dK8_trade_54 : decode cK8_trade 54 = .ok (.iload_n 2, 1) := by decide +kernel
theorem dK8_trade_55 : decode cK8_trade 55 = .ok (.iconst 1, 1) := by decide +kernel
theorem dK8_trade_56 : decode cK8_trade 56 = .ok (.if_icmp .ne 12, 3) := by decide +kernel
theorem dK8_trade_59 : decode cK8_trade 59 = .ok (.aload_n 0, 1) := by decide +kernel
theorem dK8_trade_60 : decode cK8_trade 60 = .ok (.getfield 47, 3) := by decide +kernel
theorem dK8_trade_63 : decode cK8_trade 63 = .ok (.iload_n 3, 1) := by decide +kernel
theorem dK8_trade_64 : decode cK8_trade 64 = .ok (.iaload, 1) := by decide +kernel
theorem dK8_trade_65 : decode cK8_trade 65 = .ok (.goto 23, 3) := by decide +kernel
theorem dK8_trade_68 : decode cK8_trade 68 = .ok (.iload_n 2, 1) := by decide +kernel
theorem dK8_trade_69 : decode cK8_trade 69 = .ok (.iconst 2, 1) := by decide +kernel
theorem dK8_trade_70 : decode cK8_trade 70 = .ok (.if_icmp .ne 12, 3) := by decide +kernel
theorem dK8_trade_73 : decode cK8_trade 73 = .ok (.aload_n 0, 1) := by decide +kernel
theorem dK8_trade_74 : decode cK8_trade 74 = .ok (.getfield 50, 3) := by decide +kernel
theorem dK8_trade_77 : decode cK8_trade 77 = .ok (.iload_n 3, 1) := by decide +kernel
theorem dK8_trade_78 : decode cK8_trade 78 = .ok (.iaload, 1) := by decide +kernel
theorem dK8_trade_79 : decode cK8_trade 79 = .ok (.goto 9, 3) := by decide +kernel
theorem dK8_trade_82 : decode cK8_trade 82 = .ok (.aload_n 0, 1) := by decide +kernel
theorem dK8_trade_83 : decode cK8_trade 83 = .ok (.getfield 53, 3) := by decide +kernel
theorem dK8_trade_86 : decode cK8_trade 86 = .ok (.iload_n 3, 1) := by decide +kernel
theorem dK8_trade_87 : decode cK8_trade 87 = .ok (.iaload, 1) := by decide +kernel
theorem dK8_trade_88 : decode cK8_trade 88 = .ok (.ireturn, 1) := by decide +kernel
theorem dK8_count_0 : decode cK8_count 0 = .ok (.iload_n 1, 1) := by decide +kernel
theorem dK8_count_1 : decode cK8_count 1 = .ok (.ifCond .lt 9, 3) := by decide +kernel
theorem dK8_count_4 : decode cK8_count 4 = .ok (.iload_n 1, 1) := by decide +kernel
theorem dK8_count_5 : decode cK8_count 5 = .ok (.bipush 6, 2) := by decide +kernel
theorem dK8_count_7 : decode cK8_count 7 = .ok (.if_icmp .le 5, 3) := by decide +kernel
theorem dK8_count_10 : decode cK8_count 10 = .ok (.iconst (-1), 1) := by decide +kernel
theorem dK8_count_11 : decode cK8_count 11 = .ok (.ireturn, 1) := by decide +kernel
theorem dK8_count_12 : decode cK8_count 12 = .ok (.iconst 0, 1) := by decide +kernel
theorem dK8_count_13 : decode cK8_count 13 = .ok (.istore_n 2, 1) := by decide +kernel
theorem dK8_count_14 : decode cK8_count 14 = .ok (.iconst 0, 1) := by decide +kernel
theorem dK8_count_15 : decode cK8_count 15 = .ok (.istore_n 3, 1) := by decide +kernel
theorem dK8_count_16 : decode cK8_count 16 = .ok (.iload_n 3, 1) := by decide +kernel
theorem dK8_count_17 : decode cK8_count 17 = .ok (.aload_n 0, 1) := by decide +kernel
theorem dK8_count_18 : decode cK8_count 18 = .ok (.getfield 105, 3) := by decide +kernel
theorem dK8_count_21 : decode cK8_count 21 = .ok (.if_icmp .ge 22, 3) := by decide +kernel
theorem dK8_count_24 : decode cK8_count 24 = .ok (.aload_n 0, 1) := by decide +kernel
theorem dK8_count_25 : decode cK8_count 25 = .ok (.getfield 38, 3) := by decide +kernel
theorem dK8_count_28 : decode cK8_count 28 = .ok (.iload_n 3, 1) := by decide +kernel
theorem dK8_count_29 : decode cK8_count 29 = .ok (.iaload, 1) := by decide +kernel
theorem dK8_count_30 : decode cK8_count 30 = .ok (.iconst 1, 1) := by decide +kernel
theorem dK8_count_31 : decode cK8_count 31 = .ok (.if_icmp .ne 6, 3) := by decide +kernel
theorem dK8_count_34 : decode cK8_count 34 = .ok (.iinc 2 1, 3) := by decide +kernel
theorem dK8_count_37 : decode cK8_count 37 = .ok (.iinc 3 1, 3) := by decide +kernel
theorem dK8_count_40 : decode cK8_count 40 = .ok (.goto (-24), 3) := by decide +kernel
theorem dK8_count_43 : decode cK8_count 43 = .ok (.iload_n 1, 1) := by decide +kernel
theorem dK8_count_44 : decode cK8_count 44 = .ok (.ifCond .ne 10, 3) := by decide +kernel
theorem dK8_count_47 : decode cK8_count 47 = .ok (.aload_n 0, 1) := by decide +kernel
theorem dK8_count_48 : decode cK8_count 48 = .ok (.getfield 105, 3) := by decide +kernel
theorem dK8_count_51 : decode cK8_count 51 = .ok (.goto 64, 3) := by decide +kernel
theorem dK8_count_54 : decode cK8_count 54 = .ok (.iload_n 1, 1) := by decide +kernel
theorem dK8_count_55 : decode cK8_count 55 = .ok (.iconst 1, 1) := by decide +kernel
theorem dK8_count_56 : decode cK8_count 56 = .ok (.if_icmp .ne 10, 3) := by decide +kernel
theorem dK8_count_59 : decode cK8_count 59 = .ok (.aload_n 0, 1) := by decide +kernel
theorem dK8_count_60 : decode cK8_count 60 = .ok (.getfield 181, 3) := by decide +kernel
theorem dK8_count_63 : decode cK8_count 63 = .ok (.goto 52, 3) := by decide +kernel
theorem dK8_count_66 : decode cK8_count 66 = .ok (.iload_n 1, 1) := by decide +kernel
theorem dK8_count_67 : decode cK8_count 67 = .ok (.iconst 2, 1) := by decide +kernel
theorem dK8_count_68 : decode cK8_count 68 = .ok (.if_icmp .ne 10, 3) := by decide +kernel
theorem dK8_count_71 : decode cK8_count 71 = .ok (.aload_n 0, 1) := by decide +kernel
theorem dK8_count_72 : decode cK8_count 72 = .ok (.getfield 85, 3) := by decide +kernel
theorem dK8_count_75 : decode cK8_count 75 = .ok (.goto 40, 3) := by decide +kernel
theorem dK8_count_78 : decode cK8_count 78 = .ok (.iload_n 1, 1) := by decide +kernel
theorem dK8_count_79 : decode cK8_count 79 = .ok (.iconst 3, 1) := by decide +kernel
theorem dK8_count_80 : decode cK8_count 80 = .ok (.if_icmp .ne 10, 3) := by decide +kernel
theorem dK8_count_83 : decode cK8_count 83 = .ok (.aload_n 0, 1) := by decide +kernel
theorem dK8_count_84 : decode cK8_count 84 = .ok (.getfield 108, 3) := by decide +kernel
theorem dK8_count_87 : decode cK8_count 87 = .ok (.goto 28, 3) := by decide +kernel
theorem dK8_count_90 : decode cK8_count 90 = .ok (.iload_n 1, 1) := by decide +kernel
theorem dK8_count_91 : decode cK8_count 91 = .ok (.iconst 4, 1) := by decide +kernel
theorem dK8_count_92 : decode cK8_count 92 = .ok (.if_icmp .ne 10, 3) := by decide +kernel
theorem dK8_count_95 : decode cK8_count 95 = .ok (.aload_n 0, 1) := by decide +kernel
theorem dK8_count_96 : decode cK8_count 96 = .ok (.getfield 150, 3) := by decide +kernel
theorem dK8_count_99 : decode cK8_count 99 = .ok (.goto 16, 3) := by decide +kernel
theorem dK8_count_102 : decode cK8_count 102 = .ok (.iload_n 1, 1) := by decide +kernel
theorem dK8_count_103 : decode cK8_count 103 = .ok (.iconst 5, 1) := by decide +kernel
theorem dK8_count_104 : decode cK8_count 104 = .ok (.if_icmp .ne 10, 3) := by decide +kernel
theorem dK8_count_107 : decode cK8_count 107 = .ok (.aload_n 0, 1) := by decide +kernel
theorem dK8_count_108 : decode cK8_count 108 = .ok (.getfield 56, 3) := by decide +kernel
theorem dK8_count_111 : decode cK8_count 111 = .ok (.goto 4, 3) := by decide +kernel
theorem dK8_count_114 : decode cK8_count 114 = .ok (.iload_n 2, 1) := by decide +kernel
theorem dK8_count_115 : decode cK8_count 115 = .ok (.ireturn, 1) := by decide +kernel

