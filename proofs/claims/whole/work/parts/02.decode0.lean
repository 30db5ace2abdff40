theorem dK0_init_0 : decode cK0_init 0 = .ok (.aload_n 0, 1) := by decide +kernel
theorem dK0_init_1 : decode cK0_init 1 = .ok (.invokespecial 1, 3) := by decide +kernel
theorem dK0_init_4 : decode cK0_init 4 = .ok (.return_, 1) := by decide +kernel
theorem dK0_freeCash_0 : decode cK0_freeCash 0 = .ok (.aload_n 0, 1) := by decide +kernel
theorem dK0_freeCash_1 : decode cK0_freeCash 1 = .ok (.getfield 7, 3) := by decide +kernel
theorem dK0_freeCash_4 : decode cK0_freeCash 4 = .ok (.aload_n 0, 1) := by decide +kernel
theorem dK0_freeCash_5 : decode cK0_freeCash 5 = .ok (.getfield 13, 3) := by decide +kernel
theorem dK0_freeCash_8 : decode cK0_freeCash 8 = .ok (.lsub, 1) := by decide +kernel
theorem dK0_freeCash_9 : decode cK0_freeCash 9 = .ok (.lreturn, 1) := by decide +kernel
theorem dK0_freeGoods_0 : decode cK0_freeGoods 0 = .ok (.aload_n 0, 1) := by decide +kernel
theorem dK0_freeGoods_1 : decode cK0_freeGoods 1 = .ok (.getfield 16, 3) := by decide +kernel
theorem dK0_freeGoods_4 : decode cK0_freeGoods 4 = .ok (.aload_n 0, 1) := by decide +kernel
theorem dK0_freeGoods_5 : decode cK0_freeGoods 5 = .ok (.getfield 19, 3) := by decide +kernel
theorem dK0_freeGoods_8 : decode cK0_freeGoods 8 = .ok (.lsub, 1) := by decide +kernel
theorem dK0_freeGoods_9 : decode cK0_freeGoods 9 = .ok (.lreturn, 1) := by decide +kernel
theorem dK1_init_0 : decode cK1_init 0 = .ok (.aload_n 0, 1) := by decide +kernel
theorem dK1_init_1 : decode cK1_init 1 = .ok (.invokespecial 3, 3) := by decide +kernel
theorem dK1_init_4 : decode cK1_init 4 = .ok (.return_, 1) := by decide +kernel
theorem dK1_read_0 : decode cK1_read 0 = .ok (.aload_n 0, 1) := by decide +kernel
theorem dK1_read_1 : decode cK1_read 1 = .ok (.iconst 0, 1) := by decide +kernel
theorem dK1_read_2 : decode cK1_read 2 = .ok (.putfield 11, 3) := by decide +kernel
theorem dK1_read_5 : decode cK1_read 5 = .ok (.aload_n 1, 1) := by decide +kernel
theorem dK1_read_6 : decode cK1_read 6 = .ok (.invokevirtual 15, 3) := by decide +kernel
theorem dK1_read_9 : decode cK1_read 9 = .ok (.ifCond .ne 4, 3) := by decide +kernel
theorem dK1_read_12 : decode cK1_read 12 = .ok (.return_, 1) := by decide +kernel
theorem dK1_read_13 : decode cK1_read 13 = .ok (.aload_n 1, 1) := by decide +kernel
theorem dK1_read_14 : decode cK1_read 14 = .ok (.iconst 0, 1) := by decide +kernel
theorem dK1_read_15 : decode cK1_read 15 = .ok (.ldc 21, 2) := by decide +kernel
theorem dK1_read_17 : decode cK1_read 17 = .ok (.invokevirtual 23, 3) := by decide +kernel
theorem dK1_read_20 : decode cK1_read 20 = .ok (.ifCond .ne 13, 3) := by decide +kernel
theorem dK1_read_23 : decode cK1_read 23 = .ok (.aload_n 1, 1) := by decide +kernel
theorem dK1_read_24 : decode cK1_read 24 = .ok (.iconst 0, 1) := by decide +kernel
theorem dK1_read_25 : decode cK1_read 25 = .ok (.ldc 27, 2) := by decide +kernel
theorem dK1_read_27 : decode cK1_read 27 = .ok (.invokevirtual 23, 3) := by decide +kernel
theorem dK1_read_30 : decode cK1_read 30 = .ok (.ifCond .eq 15, 3) := by decide +kernel
theorem dK1_read_33 : decode cK1_read 33 = .ok (.aload_n 0, 1) := by decide +kernel
theorem dK1_read_34 : decode cK1_read 34 = .ok (.aload_n 0, 1) := by decide +kernel
theorem dK1_read_35 : decode cK1_read 35 = .ok (.aload_n 1, 1) := by decide +kernel
theorem dK1_read_36 : decode cK1_read 36 = .ok (.invokevirtual 29, 3) := by decide +kernel
theorem dK1_read_39 : decode cK1_read 39 = .ok (.putfield 11, 3) := by decide +kernel
theorem dK1_read_42 : decode cK1_read 42 = .ok (.goto 157, 3) := by decide +kernel
theorem dK1_read_45 : decode cK1_read 45 = .ok (.aload_n 1, 1) := by decide +kernel
theorem dK1_read_46 : decode cK1_read 46 = .ok (.iconst 0, 1) := by decide +kernel
theorem dK1_read_47 : decode cK1_read 47 = .ok (.ldc 33, 2) := by decide +kernel
theorem dK1_read_49 : decode cK1_read 49 = .ok (.invokevirtual 23, 3) := by decide +kernel
theorem dK1_read_52 : decode cK1_read 52 = .ok (.ifCond .eq 15, 3) := by decide +kernel
theorem dK1_read_55 : decode cK1_read 55 = .ok (.aload_n 0, 1) := by decide +kernel
theorem dK1_read_56 : decode cK1_read 56 = .ok (.aload_n 0, 1) := by decide +kernel
theorem dK1_read_57 : decode cK1_read 57 = .ok (.aload_n 1, 1) := by decide +kernel
theorem dK1_read_58 : decode cK1_read 58 = .ok (.invokevirtual 35, 3) := by decide +kernel
theorem dK1_read_61 : decode cK1_read 61 = .ok (.putfield 11, 3) := by decide +kernel
theorem dK1_read_64 : decode cK1_read 64 = .ok (.goto 135, 3) := by decide +kernel
theorem dK1_read_67 : decode cK1_read 67 = .ok (.aload_n 1, 1) := by decide +kernel
theorem dK1_read_68 : decode cK1_read 68 = .ok (.iconst 0, 1) := by decide +kernel
theorem dK1_read_69 : decode cK1_read 69 = .ok (.ldc 38, 2) := by decide +kernel
theorem dK1_read_71 : decode cK1_read 71 = .ok (.invokevirtual 23, 3) := by decide +kernel
theorem dK1_read_74 : decode cK1_read 74 = .ok (.ifCond .eq 16, 3) := by decide +kernel
theorem dK1_read_77 : decode cK1_read 77 = .ok (.aload_n 0, 1) := by decide +kernel
theorem dK1_read_78 : decode cK1_read 78 = .ok (.aload_n 0, 1) := by decide +kernel
theorem dK1_read_79 : decode cK1_read 79 = .ok (.aload_n 1, 1) := by decide +kernel
theorem dK1_read_80 : decode cK1_read 80 = .ok (.iconst 1, 1) := by decide +kernel
theorem dK1_read_81 : decode cK1_read 81 = .ok (.invokevirtual 40, 3) := by decide +kernel
theorem dK1_read_84 : decode cK1_read 84 = .ok (.putfield 11, 3) := by decide +kernel
theorem dK1_read_87 : decode cK1_read 87 = .ok (.goto 112, 3) := by decide +kernel
theorem dK1_read_90 : decode cK1_read 90 = .ok (.aload_n 1, 1) := by decide +kernel
theorem dK1_read_91 : decode cK1_read 91 = .ok (.iconst 0, 1) := by decide +kernel
theorem dK1_read_92 : decode cK1_read 92 = .ok (.ldc 44, 2) := by decide +kernel
theorem dK1_read_94 : decode cK1_read 94 = .ok (.invokevirtual 23, 3) := by decide +kernel
theorem dK1_read_97 : decode cK1_read 97 = .ok (.ifCond .eq 16, 3) := by decide +kernel
theorem dK1_read_100 : decode cK1_read 100 = .ok (.aload_n 0, 1) := by decide +kernel
theorem dK1_read_101 : decode cK1_read 101 = .ok (.aload_n 0, 1) := by decide +kernel
theorem dK1_read_102 : decode cK1_read 102 = .ok (.aload_n 1, 1) := by decide +kernel
theorem dK1_read_103 : decode cK1_read 103 = .ok (.iconst 2, 1) := by decide +kernel
theorem dK1_read_104 : decode cK1_read 104 = .ok (.invokevirtual 40, 3) := by decide +kernel
theorem dK1_read_107 : decode cK1_read 107 = .ok (.putfield 11, 3) := by decide +kernel
theorem dK1_read_110 : decode cK1_read 110 = .ok (.goto 89, 3) := by decide +kernel
theorem dK1_read_113 : decode cK1_read 113 = .ok (.aload_n 1, 1) := by decide +kernel
theorem dK1_read_114 : decode cK1_read 114 = .ok (.iconst 0, 1) := by decide +kernel
theorem dK1_read_115 : decode cK1_read 115 = .ok (.ldc 46, 2) := by decide +kernel
theorem dK1_read_117 : decode cK1_read 117 = .ok (.invokevirtual 23, 3) := by decide +kernel
theorem dK1_read_120 : decode cK1_read 120 = .ok (.ifCond .eq 16, 3) := by decide +kernel
theorem dK1_read_123 : decode cK1_read 123 = .ok (.aload_n 0, 1) := by decide +kernel
theorem dK1_read_124 : decode cK1_read 124 = .ok (.aload_n 0, 1) := by decide +kernel
theorem dK1_read_125 : decode cK1_read 125 = .ok (.aload_n 1, 1) := by decide +kernel
theorem dK1_read_126 : decode cK1_read 126 = .ok (.iconst 3, 1) := by decide +kernel
theorem dK1_read_127 : decode cK1_read 127 = .ok (.invokevirtual 40, 3) := by decide +kernel
theorem dK1_read_130 : decode cK1_read 130 = .ok (.putfield 11, 3) := by decide +kernel
theorem dK1_read_133 : decode cK1_read 133 = .ok (.goto 66, 3) := by decide +kernel
theorem dK1_read_136 : decode cK1_read 136 = .ok (.aload_n 1, 1) := by decide +kernel
theorem dK1_read_137 : decode cK1_read 137 = .ok (.iconst 0, 1) := by decide +kernel
theorem dK1_read_138 : decode cK1_read 138 = .ok (.ldc 48, 2) := by decide +kernel
theorem dK1_read_140 : decode cK1_read 140 = .ok (.invokevirtual 23, 3) := by decide +kernel
theorem dK1_read_143 : decode cK1_read 143 = .ok (.ifCond .eq 15, 3) := by decide +kernel
theorem dK1_read_146 : decode cK1_read 146 = .ok (.aload_n 0, 1) := by decide +kernel
theorem dK1_read_147 : decode cK1_read 147 = .ok (.aload_n 0, 1) := by decide +kernel
theorem dK1_read_148 : decode cK1_read 148 = .ok (.aload_n 1, 1) := by decide +kernel
theorem dK1_read_149 : decode cK1_read 149 = .ok (.invokevirtual 50, 3) := by decide +kernel
theorem dK1_read_152 : decode cK1_read 152 = .ok (.putfield 11, 3) := by decide +kernel
theorem dK1_read_155 : decode cK1_read 155 = .ok (.goto 44, 3) := by decide +kernel
theorem dK1_read_158 : decode cK1_read 158 = .ok (.aload_n 1, 1) := by decide +kernel
theorem dK1_read_159 : decode cK1_read 159 = .ok (.iconst 0, 1) := by decide +kernel
theorem dK1_read_160 : decode cK1_read 160 = .ok (.ldc 53, 2) := by decide +kernel
theorem dK1_read_162 : decode cK1_read 162 = .ok (.invokevirtual 23, 3) := by decide +kernel
theorem dK1_read_165 : decode cK1_read 165 = .ok (.ifCond .eq 15, 3) := by decide +kernel
theorem dK1_read_168 : decode cK1_read 168 = .ok (.aload_n 0, 1) := by decide +kernel
theorem dK1_read_169 : decode cK1_read 169 = .ok (.aload_n 0, 1) := by decide +kernel
theorem dK1_read_170 : decode cK1_read 170 = .ok (.aload_n 1, 1) := by decide +kernel
theorem dK1_read_171 : decode cK1_read 171 = .ok (.invokevirtual 55, 3) := by decide +kernel
theorem dK1_read_174 : decode cK1_read 174 = .ok (.putfield 11, 3) := by decide +kernel
theorem dK1_read_177 : decode cK1_read 177 = .ok (.goto 22, 3) := by decide +kernel
theorem dK1_read_180 : decode cK1_read 180 = .ok (.aload_n 1, 1) := by decide +kernel
theorem dK1_read_181 : decode cK1_read 181 = .ok (.iconst 0, 1) := by decide +kernel
theorem dK1_read_182 : decode cK1_read 182 = .ok (.ldc 58, 2) := by decide +kernel
theorem dK1_read_184 : decode cK1_read 184 = .ok (.invokevirtual 23, 3) := by decide +kernel
theorem dK1_read_187 : decode cK1_read 187 = .ok (.ifCond .eq 12, 3) := by decide +kernel
theorem dK1_read_190 : decode cK1_read 190 = .ok (.aload_n 0, 1) := by decide +kernel
theorem dK1_read_191 : decode cK1_read 191 = .ok (.aload_n 0, 1) := by decide +kernel
theorem dK1_read_192 : decode cK1_read 192 = .ok (.aload_n 1, 1) := by decide +kernel
theorem dK1_read_193 : decode cK1_read 193 = .ok (.invokevirtual 60, 3) := by decide +kernel
theorem dK1_read_196 : decode cK1_read 196 = .ok (.putfield 11, 3) := by decide +kernel
theorem dK1_read_199 : decode cK1_read 199 = .ok (.return_, 1) := by decide +kernel
theorem dK1_readAmount_0 : decode cK1_readAmount 0 = .ok (.aload_n 0, 1) := by decide +kernel
theorem dK1_readAmount_1 : decode cK1_readAmount 1 = .ok (.aload_n 1, 1) := by decide +kernel
theorem dK1_readAmount_2 : decode cK1_readAmount 2 = .ok (.iconst 2, 1) := by decide +kernel
theorem dK1_readAmount_3 : decode cK1_readAmount 3 = .ok (.invokevirtual 63, 3) := by decide +kernel
theorem dK1_readAmount_6 : decode cK1_readAmount 6 = .ok (.putfield 67, 3) := by decide +kernel
theorem dK1_readAmount_9 : decode cK1_readAmount 9 = .ok (.aload_n 1, 1) := by decide +kernel
theorem dK1_readAmount_10 : decode cK1_readAmount 10 = .ok (.getfield 70, 3) := by decide +kernel
theorem dK1_readAmount_13 : decode cK1_readAmount 13 = .ok (.iconst 3, 1) := by decide +kernel
theorem dK1_readAmount_14 : decode cK1_readAmount 14 = .ok (.if_icmp .ne 24, 3) := by decide +kernel
theorem dK1_readAmount_17 : decode cK1_readAmount 17 = .ok (.aload_n 0, 1) := by decide +kernel
theorem dK1_readAmount_18 : decode cK1_readAmount 18 = .ok (.aload_n 1, 1) := by decide +kernel
theorem dK1_readAmount_19 : decode cK1_readAmount 19 = .ok (.iconst 1, 1) := by decide +kernel
theorem dK1_readAmount_20 : decode cK1_readAmount 20 = .ok (.invokevirtual 73, 3) := by decide +kernel
theorem dK1_readAmount_23 : decode cK1_readAmount 23 = .ok (.ifCond .eq 15, 3) := by decide +kernel
theorem dK1_readAmount_26 : decode cK1_readAmount 26 = .ok (.aload_n 0, 1) := by decide +kernel
theorem dK1_readAmount_27 : decode cK1_readAmount 27 = .ok (.getfield 67, 3) := by decide +kernel
theorem dK1_readAmount_30 : decode cK1_readAmount 30 = .ok (.iconst (-1), 1) := by decide +kernel
theorem dK1_readAmount_31 : decode cK1_readAmount 31 = .ok (.if_icmp .eq 7, 3) := by decide +kernel
theorem dK1_readAmount_34 : decode cK1_readAmount 34 = .ok (.iload_n 2, 1) := by decide +kernel
theorem dK1_readAmount_35 : decode cK1_readAmount 35 = .ok (.goto 4, 3) := by decide +kernel
theorem dK1_readAmount_38 : decode cK1_readAmount 38 = .ok (.iconst 0, 1) := by decide +kernel
theorem dK1_readAmount_39 : decode cK1_readAmount 39 = .ok (.ireturn, 1) := by decide +kernel
theorem dK1_readOrder_0 : decode cK1_readOrder 0 = .ok (.aload_n 0, 1) := by decide +kernel
theorem dK1_readOrder_1 : decode cK1_readOrder 1 = .ok (.aload_n 1, 1) := by decide +kernel
theorem dK1_readOrder_2 : decode cK1_readOrder 2 = .ok (.iconst 0, 1) := by decide +kernel
theorem dK1_readOrder_3 : decode cK1_readOrder 3 = .ok (.invokevirtual 77, 3) := by decide +kernel
theorem dK1_readOrder_6 : decode cK1_readOrder 6 = .ok (.ifCond .ne 5, 3) := by decide +kernel
theorem dK1_readOrder_9 : decode cK1_readOrder 9 = .ok (.iconst 0, 1) := by decide +kernel
theorem dK1_readOrder_10 : decode cK1_readOrder 10 = .ok (.ireturn, 1) := by decide +kernel
theorem dK1_readOrder_11 : decode cK1_readOrder 11 = .ok (.aload_n 1, 1) := by decide +kernel
theorem dK1_readOrder_12 : decode cK1_readOrder 12 = .ok (.getfield 70, 3) := by decide +kernel
theorem dK1_readOrder_15 : decode cK1_readOrder 15 = .ok (.iconst 4, 1) := by decide +kernel
theorem dK1_readOrder_16 : decode cK1_readOrder 16 = .ok (.if_icmp .ne 20, 3) := by decide +kernel
theorem dK1_readOrder_19 : decode cK1_readOrder 19 = .ok (.aload_n 1, 1) := by decide +kernel
theorem dK1_readOrder_20 : decode cK1_readOrder 20 = .ok (.iconst 3, 1) := by decide +kernel
theorem dK1_readOrder_21 : decode cK1_readOrder 21 = .ok (.ldc 80, 2) := by decide +kernel
theorem dK1_readOrder_23 : decode cK1_readOrder 23 = .ok (.invokevirtual 23, 3) := by decide +kernel
theorem dK1_readOrder_26 : decode cK1_readOrder 26 = .ok (.ifCond .eq 10, 3) := by decide +kernel
theorem dK1_readOrder_29 : decode cK1_readOrder 29 = .ok (.aload_n 0, 1) := by decide +kernel
theorem dK1_readOrder_30 : decode cK1_readOrder 30 = .ok (.iconst 0, 1) := by decide +kernel
theorem dK1_readOrder_31 : decode cK1_readOrder 31 = .ok (.putfield 82, 3) := by decide +kernel
theorem dK1_readOrder_34 : decode cK1_readOrder 34 = .ok (.iconst 5, 1) := by decide +kernel
theorem dK1_readOrder_35 : decode cK1_readOrder 35 = .ok (.ireturn, 1) := by decide +kernel
theorem dK1_readOrder_36 : decode cK1_readOrder 36 = .ok (.aload_n 0, 1) := by decide +kernel
theorem dK1_readOrder_37 : decode cK1_readOrder 37 = .ok (.aload_n 1, 1) := by decide +kernel
theorem dK1_readOrder_38 : decode cK1_readOrder 38 = .ok (.iconst 3, 1) := by decide +kernel
theorem dK1_readOrder_39 : decode cK1_readOrder 39 = .ok (.invokevirtual 85, 3) := by decide +kernel
theorem dK1_readOrder_42 : decode cK1_readOrder 42 = .ok (.ifCond .eq 16, 3) := by decide +kernel
theorem dK1_readOrder_45 : decode cK1_readOrder 45 = .ok (.aload_n 0, 1) := by decide +kernel
theorem dK1_readOrder_46 : decode cK1_readOrder 46 = .ok (.aload_n 1, 1) := by decide +kernel
theorem dK1_readOrder_47 : decode cK1_readOrder 47 = .ok (.iconst 5, 1) := by decide +kernel
theorem dK1_readOrder_48 : decode cK1_readOrder 48 = .ok (.invokevirtual 88, 3) := by decide +kernel
theorem dK1_readOrder_51 : decode cK1_readOrder 51 = .ok (.ifCond .eq 7, 3) := by decide +kernel
theorem dK1_readOrder_54 : decode cK1_readOrder 54 = .ok (.iconst 4, 1) := by decide +kernel
theorem dK1_readOrder_55 : decode cK1_readOrder 55 = .ok (.goto 4, 3) := by decide +kernel
theorem dK1_readOrder_58 : decode cK1_readOrder 58 = .ok (.iconst 0, 1) := by decide +kernel
theorem dK1_readOrder_59 : decode cK1_readOrder 59 = .ok (.ireturn, 1) := by decide +kernel
theorem dK1_readStop_0 : decode cK1_readStop 0 = .ok (.aload_n 1, 1) := by decide +kernel
theorem dK1_readStop_1 : decode cK1_readStop 1 = .ok (.getfield 70, 3) := by decide +kernel
theorem dK1_readStop_4 : decode cK1_readStop 4 = .ok (.bipush 6, 2) := by decide +kernel
theorem dK1_readStop_6 : decode cK1_readStop 6 = .ok (.if_icmp .ne 26, 3) := by decide +kernel
theorem dK1_readStop_9 : decode cK1_readStop 9 = .ok (.aload_n 0, 1) := by decide +kernel
theorem dK1_readStop_10 : decode cK1_readStop 10 = .ok (.aload_n 1, 1) := by decide +kernel
theorem dK1_readStop_11 : decode cK1_readStop 11 = .ok (.iconst 1, 1) := by decide +kernel
theorem dK1_readStop_12 : decode cK1_readStop 12 = .ok (.invokevirtual 77, 3) := by decide +kernel
theorem dK1_readStop_15 : decode cK1_readStop 15 = .ok (.ifCond .eq 17, 3) := by decide +kernel
theorem dK1_readStop_18 : decode cK1_readStop 18 = .ok (.aload_n 0, 1) := by decide +kernel
theorem dK1_readStop_19 : decode cK1_readStop 19 = .ok (.aload_n 1, 1) := by decide +kernel
theorem dK1_readStop_20 : decode cK1_readStop 20 = .ok (.iconst 4, 1) := by decide +kernel
theorem dK1_readStop_21 : decode cK1_readStop 21 = .ok (.invokevirtual 85, 3) := by decide +kernel
theorem dK1_readStop_24 : decode cK1_readStop 24 = .ok (.ifCond .eq 8, 3) := by decide +kernel
theorem dK1_readStop_27 : decode cK1_readStop 27 = .ok (.bipush 6, 2) := by decide +kernel
theorem dK1_readStop_29 : decode cK1_readStop 29 = .ok (.goto 4, 3) := by decide +kernel
theorem dK1_readStop_32 : decode cK1_readStop 32 = .ok (.iconst 0, 1) := by decide +kernel
theorem dK1_readStop_33 : decode cK1_readStop 33 = .ok (.ireturn, 1) := by decide +kernel
theorem dK1_readCancel_0 : decode cK1_readCancel 0 = .ok (.aload_n 0, 1) := by decide +kernel
theorem dK1_readCancel_1 : decode cK1_readCancel 1 = .ok (.aload_n 1, 1) := by decide +kernel
theorem dK1_readCancel_2 : decode cK1_readCancel 2 = .ok (.iconst 2, 1) := by decide +kernel
theorem dK1_readCancel_3 : decode cK1_readCancel 3 = .ok (.invokevirtual 63, 3) := by decide +kernel
theorem dK1_readCancel_6 : decode cK1_readCancel 6 = .ok (.putfield 91, 3) := by decide +kernel
theorem dK1_readCancel_9 : decode cK1_readCancel 9 = .ok (.aload_n 1, 1) := by decide +kernel
theorem dK1_readCancel_10 : decode cK1_readCancel 10 = .ok (.getfield 70, 3) := by decide +kernel
theorem dK1_readCancel_13 : decode cK1_readCancel 13 = .ok (.iconst 3, 1) := by decide +kernel
theorem dK1_readCancel_14 : decode cK1_readCancel 14 = .ok (.if_icmp .ne 25, 3) := by decide +kernel
theorem dK1_readCancel_17 : decode cK1_readCancel 17 = .ok (.aload_n 0, 1) := by decide +kernel
theorem dK1_readCancel_18 : decode cK1_readCancel 18 = .ok (.aload_n 1, 1) := by decide +kernel
theorem dK1_readCancel_19 : decode cK1_readCancel 19 = .ok (.iconst 1, 1) := by decide +kernel
theorem dK1_readCancel_20 : decode cK1_readCancel 20 = .ok (.invokevirtual 73, 3) := by decide +kernel
theorem dK1_readCancel_23 : decode cK1_readCancel 23 = .ok (.ifCond .eq 16, 3) := by decide +kernel
theorem dK1_readCancel_26 : decode cK1_readCancel 26 = .ok (.aload_n 0, 1) := by decide +kernel
theorem dK1_readCancel_27 : decode cK1_readCancel 27 = .ok (.getfield 91, 3) := by decide +kernel
theorem dK1_readCancel_30 : decode cK1_readCancel 30 = .ok (.iconst (-1), 1) := by decide +kernel
theorem dK1_readCancel_31 : decode cK1_readCancel 31 = .ok (.if_icmp .eq 8, 3) := by decide +kernel
theorem dK1_readCancel_34 : decode cK1_readCancel 34 = .ok (.bipush 7, 2) := by decide +kernel
theorem dK1_readCancel_36 : decode cK1_readCancel 36 = .ok (.goto 4, 3) := by decide +kernel
theorem dK1_readCancel_39 : decode cK1_readCancel 39 = .ok (.iconst 0, 1) := by decide +kernel
theorem dK1_readCancel_40 : decode cK1_readCancel 40 = .ok (.ireturn, 1) := by decide +kernel
theorem dK1_readLess_0 : decode cK1_readLess 0 = .ok (.aload_n 0, 1) := by decide +kernel
theorem dK1_readLess_1 : decode cK1_readLess 1 = .ok (.aload_n 1, 1) := by decide +kernel
theorem dK1_readLess_2 : decode cK1_readLess 2 = .ok (.iconst 2, 1) := by decide +kernel
theorem dK1_readLess_3 : decode cK1_readLess 3 = .ok (.invokevirtual 63, 3) := by decide +kernel
theorem dK1_readLess_6 : decode cK1_readLess 6 = .ok (.putfield 91, 3) := by decide +kernel
theorem dK1_readLess_9 : decode cK1_readLess 9 = .ok (.aload_n 0, 1) := by decide +kernel
theorem dK1_readLess_10 : decode cK1_readLess 10 = .ok (.aload_n 1, 1) := by decide +kernel
theorem dK1_readLess_11 : decode cK1_readLess 11 = .ok (.iconst 3, 1) := by decide +kernel
theorem dK1_readLess_12 : decode cK1_readLess 12 = .ok (.invokevirtual 63, 3) := by decide +kernel
theorem dK1_readLess_15 : decode cK1_readLess 15 = .ok (.putfield 67, 3) := by decide +kernel
theorem dK1_readLess_18 : decode cK1_readLess 18 = .ok (.aload_n 1, 1) := by decide +kernel
theorem dK1_readLess_19 : decode cK1_readLess 19 = .ok (.getfield 70, 3) := by decide +kernel
theorem dK1_readLess_22 : decode cK1_readLess 22 = .ok (.iconst 4, 1) := by decide +kernel
theorem dK1_readLess_23 : decode cK1_readLess 23 = .ok (.if_icmp .ne 33, 3) := by decide +kernel
theorem dK1_readLess_26 : decode cK1_readLess 26 = .ok (.aload_n 0, 1) := by decide +kernel
theorem dK1_readLess_27 : decode cK1_readLess 27 = .ok (.aload_n 1, 1) := by decide +kernel
theorem dK1_readLess_28 : decode cK1_readLess 28 = .ok (.iconst 1, 1) := by decide +kernel
theorem dK1_readLess_29 : decode cK1_readLess 29 = .ok (.invokevirtual 73, 3) := by decide +kernel
theorem dK1_readLess_32 : decode cK1_readLess 32 = .ok (.ifCond .eq 24, 3) := by decide +kernel
theorem dK1_readLess_35 : decode cK1_readLess 35 = .ok (.aload_n 0, 1) := by decide +kernel
theorem dK1_readLess_36 : decode cK1_readLess 36 = .ok (.getfield 91, 3) := by decide +kernel
theorem dK1_readLess_39 : decode cK1_readLess 39 = .ok (.iconst (-1), 1) := by decide +kernel
theorem dK1_readLess_40 : decode cK1_readLess 40 = .ok (.if_icmp .eq 16, 3) := by decide +kernel
theorem dK1_readLess_43 : decode cK1_readLess 43 = .ok (.aload_n 0, 1) := by decide +kernel
theorem dK1_readLess_44 : decode cK1_readLess 44 = .ok (.getfield 67, 3) := by decide +kernel
theorem dK1_readLess_47 : decode cK1_readLess 47 = .ok (.iconst (-1), 1) := by decide +kernel
theorem dK1_readLess_48 : decode cK1_readLess 48 = .ok (.if_icmp .eq 8, 3) := by decide +kernel
theorem dK1_readLess_51 : decode cK1_readLess 51 = .ok (.bipush 8, 2) := by decide +kernel
theorem dK1_readLess_53 : decode cK1_readLess 53 = .ok (.goto 4, 3) := by decide +kernel
theorem dK1_readLess_56 : decode cK1_readLess 56 = .ok (.iconst 0, 1) := by decide +kernel
theorem dK1_readLess_57 : decode cK1_readLess 57 = .ok (.ireturn, 1) := by decide +kernel
theorem dK1_readTick_0 : decode cK1_readTick 0 = .ok (.aload_n 1, 1) := by decide +kernel
theorem dK1_readTick_1 : decode cK1_readTick 1 = .ok (.getfield 70, 3) := by decide +kernel
theorem dK1_readTick_4 : decode cK1_readTick 4 = .ok (.iconst 2, 1) := by decide +kernel
theorem dK1_readTick_5 : decode cK1_readTick 5 = .ok (.if_icmp .ne 17, 3) := by decide +kernel
theorem dK1_readTick_8 : decode cK1_readTick 8 = .ok (.aload_n 0, 1) := by decide +kernel
theorem dK1_readTick_9 : decode cK1_readTick 9 = .ok (.aload_n 1, 1) := by decide +kernel
theorem dK1_readTick_10 : decode cK1_readTick 10 = .ok (.iconst 1, 1) := by decide +kernel
theorem dK1_readTick_11 : decode cK1_readTick 11 = .ok (.invokevirtual 94, 3) := by decide +kernel
theorem dK1_readTick_14 : decode cK1_readTick 14 = .ok (.ifCond .eq 8, 3) := by decide +kernel
theorem dK1_readTick_17 : decode cK1_readTick 17 = .ok (.bipush 9, 2) := by decide +kernel
theorem dK1_readTick_19 : decode cK1_readTick 19 = .ok (.goto 4, 3) := by decide +kernel
theorem dK1_readTick_22 : decode cK1_readTick 22 = .ok (.iconst 0, 1) := by decide +kernel
theorem dK1_readTick_23 : decode cK1_readTick 23 = .ok (.ireturn, 1) := by decide +kernel
theorem dK1_readBasics_0 : decode cK1_readBasics 0 = .ok (.aload_n 0, 1) := by decide +kernel
theorem dK1_readBasics_1 : decode cK1_readBasics 1 = .ok (.aload_n 1, 1) := by decide +kernel
theorem dK1_readBasics_2 : decode cK1_readBasics 2 = .ok (.iload_n 2, 1) := by decide +kernel
theorem dK1_readBasics_3 : decode cK1_readBasics 3 = .ok (.ldc 21, 2) := by decide +kernel
theorem dK1_readBasics_5 : decode cK1_readBasics 5 = .ok (.invokevirtual 23, 3) := by decide +kernel
theorem dK1_readBasics_8 : decode cK1_readBasics 8 = .ok (.ifCond .eq 7, 3) := by decide +kernel
theorem dK1_readBasics_11 : decode cK1_readBasics 11 = .ok (.iconst 0, 1) := by decide +kernel
theorem dK1_readBasics_12 : decode cK1_readBasics 12 = .ok (.goto 4, 3) := by decide +kernel
theorem dK1_readBasics_15 : decode cK1_readBasics 15 = .ok (.iconst 1, 1) := by decide +kernel
theorem dK1_readBasics_16 : decode cK1_readBasics 16 = .ok (.putfield 97, 3) := by decide +kernel
theorem dK1_readBasics_19 : decode cK1_readBasics 19 = .ok (.aload_n 0, 1) := by decide +kernel
theorem dK1_readBasics_20 : decode cK1_readBasics 20 = .ok (.aload_n 1, 1) := by decide +kernel
theorem dK1_readBasics_21 : decode cK1_readBasics 21 = .ok (.iload_n 2, 1) := by decide +kernel
theorem dK1_readBasics_22 : decode cK1_readBasics 22 = .ok (.iconst 2, 1) := by decide +kernel
theorem dK1_readBasics_23 : decode cK1_readBasics 23 = .ok (.iadd, 1) := by decide +kernel
theorem dK1_readBasics_24 : decode cK1_readBasics 24 = .ok (.iconst 1, 1) := by decide +kernel
theorem dK1_readBasics_25 : decode cK1_readBasics 25 = .ok (.sipush 9999, 3) := by decide +kernel
theorem dK1_readBasics_28 : decode cK1_readBasics 28 = .ok (.invokevirtual 100, 3) := by decide +kernel
theorem dK1_readBasics_31 : decode cK1_readBasics 31 = .ok (.putfield 104, 3) := by decide +kernel
theorem dK1_readBasics_34 : decode cK1_readBasics 34 = .ok (.aload_n 0, 1) := by decide +kernel
theorem dK1_readBasics_35 : decode cK1_readBasics 35 = .ok (.getfield 97, 3) := by decide +kernel
theorem dK1_readBasics_38 : decode cK1_readBasics 38 = .ok (.ifCond .eq 13, 3) := by decide +kernel
theorem dK1_readBasics_41 : decode cK1_readBasics 41 = .ok (.aload_n 1, 1) := by decide +kernel
theorem dK1_readBasics_42 : decode cK1_readBasics 42 = .ok (.iload_n 2, 1) := by decide +kernel
theorem dK1_readBasics_43 : decode cK1_readBasics 43 = .ok (.ldc 27, 2) := by decide +kernel
theorem dK1_readBasics_45 : decode cK1_readBasics 45 = .ok (.invokevirtual 23, 3) := by decide +kernel
theorem dK1_readBasics_48 : decode cK1_readBasics 48 = .ok (.ifCond .eq 26, 3) := by decide +kernel
theorem dK1_readBasics_51 : decode cK1_readBasics 51 = .ok (.aload_n 0, 1) := by decide +kernel
theorem dK1_readBasics_52 : decode cK1_readBasics 52 = .ok (.aload_n 1, 1) := by decide +kernel
theorem dK1_readBasics_53 : decode cK1_readBasics 53 = .ok (.iload_n 2, 1) := by decide +kernel
theorem dK1_readBasics_54 : decode cK1_readBasics 54 = .ok (.iconst 1, 1) := by decide +kernel
theorem dK1_readBasics_55 : decode cK1_readBasics 55 = .ok (.iadd, 1) := by decide +kernel
theorem dK1_readBasics_56 : decode cK1_readBasics 56 = .ok (.invokevirtual 73, 3) := by decide +kernel
theorem dK1_readBasics_59 : decode cK1_readBasics 59 = .ok (.ifCond .eq 15, 3) := by decide +kernel
theorem dK1_readBasics_62 : decode cK1_readBasics 62 = .ok (.aload_n 0, 1) := by decide +kernel
theorem dK1_readBasics_63 : decode cK1_readBasics 63 = .ok (.getfield 104, 3) := by decide +kernel
theorem dK1_readBasics_66 : decode cK1_readBasics 66 = .ok (.iconst (-1), 1) := by decide +kernel
theorem dK1_readBasics_67 : decode cK1_readBasics 67 = .ok (.if_icmp .eq 7, 3) := by decide +kernel
theorem dK1_readBasics_70 : decode cK1_readBasics 70 = .ok (.iconst 1, 1) := by decide +kernel
theorem dK1_readBasics_71 : decode cK1_readBasics 71 = .ok (.goto 4, 3) := by decide +kernel
theorem dK1_readBasics_74 : decode cK1_readBasics 74 = .ok (.iconst 0, 1) := by decide +kernel
theorem dK1_readBasics_75 : decode cK1_readBasics 75 = .ok (.ireturn, 1) := by decide +kernel
theorem dK1_readOwner_0 : decode cK1_readOwner 0 = .ok (.aload_n 0, 1) := by decide +kernel
theorem dK1_readOwner_1 : decode cK1_readOwner 1 = .ok (.aload_n 1, 1) := by decide +kernel
theorem dK1_readOwner_2 : decode cK1_readOwner 2 = .ok (.iload_n 2, 1) := by decide +kernel
theorem dK1_readOwner_3 : decode cK1_readOwner 3 = .ok (.iconst 0, 1) := by decide +kernel
theorem dK1_readOwner_4 : decode cK1_readOwner 4 = .ok (.bipush 7, 2) := by decide +kernel
theorem dK1_readOwner_6 : decode cK1_readOwner 6 = .ok (.invokevirtual 100, 3) := by decide +kernel
theorem dK1_readOwner_9 : decode cK1_readOwner 9 = .ok (.putfield 107, 3) := by decide +kernel
theorem dK1_readOwner_12 : decode cK1_readOwner 12 = .ok (.aload_n 0, 1) := by decide +kernel
theorem dK1_readOwner_13 : decode cK1_readOwner 13 = .ok (.getfield 107, 3) := by decide +kernel
theorem dK1_readOwner_16 : decode cK1_readOwner 16 = .ok (.iconst (-1), 1) := by decide +kernel
theorem dK1_readOwner_17 : decode cK1_readOwner 17 = .ok (.if_icmp .eq 7, 3) := by decide +kernel
theorem dK1_readOwner_20 : decode cK1_readOwner 20 = .ok (.iconst 1, 1) := by decide +kernel
theorem dK1_readOwner_21 : decode cK1_readOwner 21 = .ok (.goto 4, 3) := by decide +kernel
theorem dK1_readOwner_24 : decode cK1_readOwner 24 = .ok (.iconst 0, 1) := by decide +kernel
theorem dK1_readOwner_25 : decode cK1_readOwner 25 = .ok (.ireturn, 1) := by decide +kernel
theorem dK1_readPrice_0 : decode cK1_readPrice 0 = .ok (.aload_n 0, 1) := by decide +kernel
theorem dK1_readPrice_1 : decode cK1_readPrice 1 = .ok (.aload_n 1, 1) := by decide +kernel
theorem dK1_readPrice_2 : decode cK1_readPrice 2 = .ok (.iload_n 2, 1) := by decide +kernel
theorem dK1_readPrice_3 : decode cK1_readPrice 3 = .ok (.iconst 1, 1) := by decide +kernel
theorem dK1_readPrice_4 : decode cK1_readPrice 4 = .ok (.iadd, 1) := by decide +kernel
theorem dK1_readPrice_5 : decode cK1_readPrice 5 = .ok (.iconst 1, 1) := by decide +kernel
theorem dK1_readPrice_6 : decode cK1_readPrice 6 = .ok (.sipush 9999, 3) := by decide +kernel
theorem dK1_readPrice_9 : decode cK1_readPrice 9 = .ok (.invokevirtual 100, 3) := by decide +kernel
theorem dK1_readPrice_12 : decode cK1_readPrice 12 = .ok (.putfield 82, 3) := by decide +kernel
theorem dK1_readPrice_15 : decode cK1_readPrice 15 = .ok (.aload_n 1, 1) := by decide +kernel
theorem dK1_readPrice_16 : decode cK1_readPrice 16 = .ok (.iload_n 2, 1) := by decide +kernel
theorem dK1_readPrice_17 : decode cK1_readPrice 17 = .ok (.ldc 110, 2) := by decide +kernel
theorem dK1_readPrice_19 : decode cK1_readPrice 19 = .ok (.invokevirtual 23, 3) := by decide +kernel
theorem dK1_readPrice_22 : decode cK1_readPrice 22 = .ok (.ifCond .eq 15, 3) := by decide +kernel
theorem dK1_readPrice_25 : decode cK1_readPrice 25 = .ok (.aload_n 0, 1) := by decide +kernel
theorem dK1_readPrice_26 : decode cK1_readPrice 26 = .ok (.getfield 82, 3) := by decide +kernel
theorem dK1_readPrice_29 : decode cK1_readPrice 29 = .ok (.iconst (-1), 1) := by decide +kernel
theorem dK1_readPrice_30 : decode cK1_readPrice 30 = .ok (.if_icmp .eq 7, 3) := by decide +kernel
theorem dK1_readPrice_33 : decode cK1_readPrice 33 = .ok (.iconst 1, 1) := by decide +kernel
theorem dK1_readPrice_34 : decode cK1_readPrice 34 = .ok (.goto 4, 3) := by decide +kernel
theorem dK1_readPrice_37 : decode cK1_readPrice 37 = .ok (.iconst 0, 1) := by decide +kernel
theorem dK1_readPrice_38 : decode cK1_readPrice 38 = .ok (.ireturn, 1) := by decide +kernel
theorem dK1_readTicks_0 : decode cK1_readTicks 0 = .ok (.aload_n 0, 1) := by decide +kernel
theorem dK1_readTicks_1 : decode cK1_readTicks 1 = .ok (.aload_n 1, 1) := by decide +kernel
theorem dK1_readTicks_2 : decode cK1_readTicks 2 = .ok (.iload_n 2, 1) := by decide +kernel
theorem dK1_readTicks_3 : decode cK1_readTicks 3 = .ok (.iconst 1, 1) := by decide +kernel
theorem dK1_readTicks_4 : decode cK1_readTicks 4 = .ok (.bipush 99, 2) := by decide +kernel
theorem dK1_readTicks_6 : decode cK1_readTicks 6 = .ok (.invokevirtual 100, 3) := by decide +kernel
theorem dK1_readTicks_9 : decode cK1_readTicks 9 = .ok (.putfield 112, 3) := by decide +kernel
theorem dK1_readTicks_12 : decode cK1_readTicks 12 = .ok (.aload_n 0, 1) := by decide +kernel
theorem dK1_readTicks_13 : decode cK1_readTicks 13 = .ok (.getfield 112, 3) := by decide +kernel
theorem dK1_readTicks_16 : decode cK1_readTicks 16 = .ok (.iconst (-1), 1) := by decide +kernel
theorem dK1_readTicks_17 : decode cK1_readTicks 17 = .ok (.if_icmp .eq 7, 3) := by decide +kernel
theorem dK1_readTicks_20 : decode cK1_readTicks 20 = .ok (.iconst 1, 1) := by decide +kernel
theorem dK1_readTicks_21 : decode cK1_readTicks 21 = .ok (.goto 4, 3) := by decide +kernel
theorem dK1_readTicks_24 : decode cK1_readTicks 24 = .ok (.iconst 0, 1) := by decide +kernel
theorem dK1_readTicks_25 : decode cK1_readTicks 25 = .ok (.ireturn, 1) := by decide +kernel
theorem dK1_readWay_0 : decode cK1_readWay 0 = .ok (.aload_n 1, 1) := by decide +kernel
theorem dK1_readWay_1 : decode cK1_readWay 1 = .ok (.iload_n 2, 1) := by decide +kernel
theorem dK1_readWay_2 : decode cK1_readWay 2 = .ok (.ldc 115, 2) := by decide +kernel
theorem dK1_readWay_4 : decode cK1_readWay 4 = .ok (.invokevirtual 23, 3) := by decide +kernel
theorem dK1_readWay_7 : decode cK1_readWay 7 = .ok (.ifCond .eq 35, 3) := by decide +kernel
theorem dK1_readWay_10 : decode cK1_readWay 10 = .ok (.aload_n 0, 1) := by decide +kernel
theorem dK1_readWay_11 : decode cK1_readWay 11 = .ok (.iconst 4, 1) := by decide +kernel
theorem dK1_readWay_12 : decode cK1_readWay 12 = .ok (.putfield 117, 3) := by decide +kernel
theorem dK1_readWay_15 : decode cK1_readWay 15 = .ok (.aload_n 1, 1) := by decide +kernel
theorem dK1_readWay_16 : decode cK1_readWay 16 = .ok (.getfield 70, 3) := by decide +kernel
theorem dK1_readWay_19 : decode cK1_readWay 19 = .ok (.iload_n 2, 1) := by decide +kernel
theorem dK1_readWay_20 : decode cK1_readWay 20 = .ok (.iconst 2, 1) := by decide +kernel
theorem dK1_readWay_21 : decode cK1_readWay 21 = .ok (.iadd, 1) := by decide +kernel
theorem dK1_readWay_22 : decode cK1_readWay 22 = .ok (.if_icmp .ne 18, 3) := by decide +kernel
theorem dK1_readWay_25 : decode cK1_readWay 25 = .ok (.aload_n 0, 1) := by decide +kernel
theorem dK1_readWay_26 : decode cK1_readWay 26 = .ok (.aload_n 1, 1) := by decide +kernel
theorem dK1_readWay_27 : decode cK1_readWay 27 = .ok (.iload_n 2, 1) := by decide +kernel
theorem dK1_readWay_28 : decode cK1_readWay 28 = .ok (.iconst 1, 1) := by decide +kernel
theorem dK1_readWay_29 : decode cK1_readWay 29 = .ok (.iadd, 1) := by decide +kernel
theorem dK1_readWay_30 : decode cK1_readWay 30 = .ok (.invokevirtual 94, 3) := by decide +kernel
theorem dK1_readWay_33 : decode cK1_readWay 33 = .ok (.ifCond .eq 7, 3) := by decide +kernel
theorem dK1_readWay_36 : decode cK1_readWay 36 = .ok (.iconst 1, 1) := by decide +kernel
theorem dK1_readWay_37 : decode cK1_readWay 37 = .ok (.goto 4, 3) := by decide +kernel
theorem dK1_readWay_40 : decode cK1_readWay 40 = .ok (.iconst 0, 1) := by decide +kernel
theorem dK1_readWay_41 : decode cK1_readWay 41 = .ok (.ireturn, 1) := by decide +kernel
theorem dK1_readWay_42 : decode cK1_readWay 42 = .ok (.aload_n 0, 1) := by decide +kernel
theorem dK1_readWay_43 : decode cK1_readWay 43 = .ok (.aload_n 1, 1) := by decide +kernel
theorem dK1_readWay_44 : decode cK1_readWay 44 = .ok (.iload_n 2, 1) := by decide +kernel
theorem dK1_readWay_45 : decode cK1_readWay 45 = .ok (.ldc 120, 2) := by decide +kernel
theorem dK1_readWay_47 : decode cK1_readWay 47 = .ok (.invokevirtual 23, 3) := by decide +kernel
theorem dK1_readWay_50 : decode cK1_readWay 50 = .ok (.ifCond .eq 7, 3) := by decide +kernel
theorem dK1_readWay_53 : decode cK1_readWay 53 = .ok (.iconst 1, 1) := by decide +kernel
theorem dK1_readWay_54 : decode cK1_readWay 54 = .ok (.goto 32, 3) := by decide +kernel
theorem dK1_readWay_57 : decode cK1_readWay 57 = .ok (.aload_n 1, 1) := by decide +kernel
theorem dK1_readWay_58 : decode cK1_readWay 58 = .ok (.iload_n 2, 1) := by decide +kernel
theorem dK1_readWay_59 : decode cK1_readWay 59 = .ok (.ldc 122, 2) := by decide +kernel
theorem dK1_readWay_61 : decode cK1_readWay 61 = .ok (.invokevirtual 23, 3) := by decide +kernel
theorem dK1_readWay_64 : decode cK1_readWay 64 = .ok (.ifCond .eq 7, 3) := by decide +kernel
theorem dK1_readWay_67 : decode cK1_readWay 67 = .ok (.iconst 2, 1) := by decide +kernel
theorem dK1_readWay_68 : decode cK1_readWay 68 = .ok (.goto 18, 3) := by decide +kernel
theorem dK1_readWay_71 : decode cK1_readWay 71 = .ok (.aload_n 1, 1) := by decide +kernel
theorem dK1_readWay_72 : decode cK1_readWay 72 = .ok (.iload_n 2, 1) := by decide +kernel
theorem dK1_readWay_73 : decode cK1_readWay 73 = .ok (.ldc 124, 2) := by decide +kernel
theorem dK1_readWay_75 : decode cK1_readWay 75 = .ok (.invokevirtual 23, 3) := by decide +kernel
theorem dK1_readWay_78 : decode cK1_readWay 78 = .ok (.ifCond .eq 7, 3) := by decide +kernel
theorem dK1_readWay_81 : decode cK1_readWay 81 = .ok (.iconst 3, 1) := by decide +kernel
theorem dK1_readWay_82 : decode cK1_readWay 82 = .ok (.goto 4, 3) := by decide +kernel
theorem dK1_readWay_85 : decode cK1_readWay 85 = .ok (.iconst 0, 1) := by decide +kernel
theorem dK1_readWay_86 : decode cK1_readWay 86 = .ok (.putfield 117, 3) := by decide +kernel
theorem dK1_readWay_89 : decode cK1_readWay 89 = .ok (.aload_n 1, 1) := by decide +kernel
theorem dK1_readWay_90 : decode cK1_readWay 90 = .ok (.getfield 70, 3) := by decide +kernel
theorem dK1_readWay_93 : decode cK1_readWay 93 = .ok (.aload_n 0, 1) := by decide +kernel
theorem dK1_readWay_94 : decode cK1_readWay 94 = .ok (.getfield 117, 3) := by decide +kernel
theorem dK1_readWay_97 : decode cK1_readWay 97 = .ok (.ifCond .ne 7, 3) := by decide +kernel
theorem dK1_readWay_100 : decode cK1_readWay 100 = .ok (.iload_n 2, 1) := by decide +kernel
theorem dK1_readWay_101 : decode cK1_readWay 101 = .ok (.goto 6, 3) := by decide +kernel
theorem dK1_readWay_104 : decode cK1_readWay 104 = .ok (.iload_n 2, 1) := by decide +kernel
theorem dK1_readWay_105 : decode cK1_readWay 105 = .ok (.iconst 1, 1) := by decide +kernel
theorem dK1_readWay_106 : decode cK1_readWay 106 = .ok (.iadd, 1) := by decide +kernel
theorem dK1_readWay_107 : decode cK1_readWay 107 = .ok (.if_icmp .ne 7, 3) := by decide +kernel
theorem dK1_readWay_110 : decode cK1_readWay 110 = .ok (.iconst 1, 1) := by decide +kernel
theorem dK1_readWay_111 : decode cK1_readWay 111 = .ok (.goto 4, 3) := by decide +kernel
theorem dK1_readWay_114 : decode cK1_readWay 114 = .ok (.iconst 0, 1) := by decide +kernel
theorem dK1_readWay_115 : decode cK1_readWay 115 = .ok (.ireturn, 1) := by decide +kernel
theorem dK2_init_0 : decode cK2_init 0 = .ok (.aload_n 0, 1) := by decide +kernel
theorem dK2_init_1 : decode cK2_init 1 = .ok (.invokespecial 3, 3) := by decide +kernel
theorem dK2_init_4 : decode cK2_init 4 = .ok (.aload_n 0, 1) := by decide +kernel
theorem dK2_init_5 : decode cK2_init 5 = .ok (.bipush 8, 2) := by decide +kernel
theorem dK2_init_7 : decode cK2_init 7 = .ok (.anewarray 9, 3) := by decide +kernel
theorem dK2_init_10 : decode cK2_init 10 = .ok (.putfield 11, 3) := by decide +kernel
theorem dK2_init_13 : decode cK2_init 13 = .ok (.aload_n 0, 1) := by decide +kernel
theorem dK2_init_14 : decode cK2_init 14 = .ok (.new 17, 3) := by decide +kernel
theorem dK2_init_17 : decode cK2_init 17 = .ok (.dup, 1) := by decide +kernel
theorem dK2_init_18 : decode cK2_init 18 = .ok (.invokespecial 19, 3) := by decide +kernel
theorem dK2_init_21 : decode cK2_init 21 = .ok (.putfield 20, 3) := by decide +kernel
theorem dK2_init_24 : decode cK2_init 24 = .ok (.aload_n 0, 1) := by decide +kernel
theorem dK2_init_25 : decode cK2_init 25 = .ok (.new 24, 3) := by decide +kernel
theorem dK2_init_28 : decode cK2_init 28 = .ok (.dup, 1) := by decide +kernel
theorem dK2_init_29 : decode cK2_init 29 = .ok (.invokespecial 26, 3) := by decide +kernel
theorem dK2_init_32 : decode cK2_init 32 = .ok (.putfield 27, 3) := by decide +kernel
theorem dK2_init_35 : decode cK2_init 35 = .ok (.iconst 0, 1) := by decide +kernel
theorem dK2_init_36 : decode cK2_init 36 = .ok (.istore_n 1, 1) := by decide +kernel
theorem dK2_init_37 : decode cK2_init 37 = .ok (.iload_n 1, 1) := by decide +kernel
theorem dK2_init_38 : decode cK2_init 38 = .ok (.bipush 8, 2) := by decide +kernel
theorem dK2_init_40 : decode cK2_init 40 = .ok (.if_icmp .ge 22, 3) := by decide +kernel
theorem dK2_init_43 : decode cK2_init 43 = .ok (.aload_n 0, 1) := by decide +kernel
theorem dK2_init_44 : decode cK2_init 44 = .ok (.getfield 11, 3) := by decide +kernel
theorem dK2_init_47 : decode cK2_init 47 = .ok (.iload_n 1, 1) := by decide +kernel
theorem dK2_init_48 : decode cK2_init 48 = .ok (.new 9, 3) := by decide +kernel
theorem dK2_init_51 : decode cK2_init 51 = .ok (.dup, 1) := by decide +kernel
theorem dK2_init_52 : decode cK2_init 52 = .ok (.invokespecial 31, 3) := by decide +kernel
theorem dK2_init_55 : decode cK2_init 55 = .ok (.aastore, 1) := by decide +kernel
theorem dK2_init_56 : decode cK2_init 56 = .ok (.iinc 1 1, 3) := by decide +kernel
theorem dK2_init_59 : decode cK2_init 59 = .ok (.goto (-22), 3) := by decide +kernel
theorem dK2_init_62 : decode cK2_init 62 = .ok (.return_, 1) := by decide +kernel
theorem dK2_perform_0 : decode cK2_perform 0 = .ok (.aload_n 1, 1) := by decide +kernel
theorem dK2_perform_1 : decode cK2_perform 1 = .ok (.getfield 32, 3) := by decide +kernel
theorem dK2_perform_4 : decode cK2_perform 4 = .ok (.tableswitch 97 1 9 #[52, 52, 52, 58, 64, 70, 76, 82, 88], 52) := by decide +kernel
theorem dK2_perform_56 : decode cK2_perform 56 = .ok (.aload_n 0, 1) := by decide +kernel
theorem dK2_perform_57 : decode cK2_perform 57 = .ok (.aload_n 1, 1) := by decide +kernel
theorem dK2_perform_58 : decode cK2_perform 58 = .ok (.invokevirtual 38, 3) := by decide +kernel
theorem dK2_perform_61 : decode cK2_perform 61 = .ok (.ireturn, 1) := by decide +kernel
theorem dK2_perform_62 : decode cK2_perform 62 = .ok (.aload_n 0, 1) := by decide +kernel
theorem dK2_perform_63 : decode cK2_perform 63 = .ok (.aload_n 1, 1) := by decide +kernel
theorem dK2_perform_64 : decode cK2_perform 64 = .ok (.invokevirtual 42, 3) := by decide +kernel
theorem dK2_perform_67 : decode cK2_perform 67 = .ok (.ireturn, 1) := by decide +kernel
theorem dK2_perform_68 : decode cK2_perform 68 = .ok (.aload_n 0, 1) := by decide +kernel
theorem dK2_perform_69 : decode cK2_perform 69 = .ok (.aload_n 1, 1) := by decide +kernel
theorem dK2_perform_70 : decode cK2_perform 70 = .ok (.invokevirtual 45, 3) := by decide +kernel
theorem dK2_perform_73 : decode cK2_perform 73 = .ok (.ireturn, 1) := by decide +kernel
theorem dK2_perform_74 : decode cK2_perform 74 = .ok (.aload_n 0, 1) := by decide +kernel
theorem dK2_perform_75 : decode cK2_perform 75 = .ok (.aload_n 1, 1) := by decide +kernel
theorem dK2_perform_76 : decode cK2_perform 76 = .ok (.invokevirtual 48, 3) := by decide +kernel
theorem dK2_perform_79 : decode cK2_perform 79 = .ok (.ireturn, 1) := by decide +kernel
theorem dK2_perform_80 : decode cK2_perform 80 = .ok (.aload_n 0, 1) := by decide +kernel
theorem dK2_perform_81 : decode cK2_perform 81 = .ok (.aload_n 1, 1) := by decide +kernel
theorem dK2_perform_82 : decode cK2_perform 82 = .ok (.invokevirtual 51, 3) := by decide +kernel
theorem dK2_perform_85 : decode cK2_perform 85 = .ok (.ireturn, 1) := by decide +kernel
theorem dK2_perform_86 : decode cK2_perform 86 = .ok (.aload_n 0, 1) := by decide +kernel
theorem dK2_perform_87 : decode cK2_perform 87 = .ok (.aload_n 1, 1) := by decide +kernel
theorem dK2_perform_88 : decode cK2_perform 88 = .ok (.invokevirtual 54, 3) := by decide +kernel
theorem dK2_perform_91 : decode cK2_perform 91 = .ok (.ireturn, 1) := by decide +kernel
theorem dK2_perform_92 : decode cK2_perform 92 = .ok (.aload_n 0, 1) := by decide +kernel
theorem dK2_perform_93 : decode cK2_perform 93 = .ok (.aload_n 1, 1) := by decide +kernel
theorem dK2_perform_94 : decode cK2_perform 94 = .ok (.getfield 57, 3) := by decide +kernel
theorem dK2_perform_97 : decode cK2_perform 97 = .ok (.invokevirtual 60, 3) := by decide +kernel
theorem dK2_perform_100 : decode cK2_perform 100 = .ok (.ireturn, 1) := by decide +kernel
theorem dK2_perform_101 : decode cK2_perform 101 = .ok (.bipush (-11), 2) := by decide +kernel
theorem dK2_perform_103 : decode cK2_perform 103 = .ok (.ireturn, 1) := by decide +kernel
theorem dK2_moveAmount_0 : decode cK2_moveAmount 0 = .ok (.aload_n 0, 1) := by decide +kernel
theorem dK2_moveAmount_1 : decode cK2_moveAmount 1 = .ok (.getfield 11, 3) := by decide +kernel
theorem dK2_moveAmount_4 : decode cK2_moveAmount 4 = .ok (.aload_n 1, 1) := by decide +kernel
theorem dK2_moveAmount_5 : decode cK2_moveAmount 5 = .ok (.getfield 64, 3) := by decide +kernel
theorem dK2_moveAmount_8 : decode cK2_moveAmount 8 = .ok (.aaload, 1) := by decide +kernel
theorem dK2_moveAmount_9 : decode cK2_moveAmount 9 = .ok (.astore_n 2, 1) := by decide +kernel
theorem dK2_moveAmount_10 : decode cK2_moveAmount 10 = .ok (.aload_n 1, 1) := by decide +kernel
theorem dK2_moveAmount_11 : decode cK2_moveAmount 11 = .ok (.getfield 32, 3) := by decide +kernel
theorem dK2_moveAmount_14 : decode cK2_moveAmount 14 = .ok (.iconst 2, 1) := by decide +kernel
theorem dK2_moveAmount_15 : decode cK2_moveAmount 15 = .ok (.if_icmp .ne 20, 3) := by decide +kernel
theorem dK2_moveAmount_18 : decode cK2_moveAmount 18 = .ok (.aload_n 2, 1) := by decide +kernel
theorem dK2_moveAmount_19 : decode cK2_moveAmount 19 = .ok (.dup, 1) := by decide +kernel
theorem dK2_moveAmount_20 : decode cK2_moveAmount 20 = .ok (.getfield 67, 3) := by decide +kernel
theorem dK2_moveAmount_23 : decode cK2_moveAmount 23 = .ok (.aload_n 1, 1) := by decide +kernel
theorem dK2_moveAmount_24 : decode cK2_moveAmount 24 = .ok (.getfield 71, 3) := by decide +kernel
theorem dK2_moveAmount_27 : decode cK2_moveAmount 27 = .ok (.i2l, 1) := by decide +kernel
theorem dK2_moveAmount_28 : decode cK2_moveAmount 28 = .ok (.ladd, 1) := by decide +kernel
theorem dK2_moveAmount_29 : decode cK2_moveAmount 29 = .ok (.putfield 67, 3) := by decide +kernel
theorem dK2_moveAmount_32 : decode cK2_moveAmount 32 = .ok (.goto 58, 3) := by decide +kernel
theorem dK2_moveAmount_35 : decode cK2_moveAmount 35 = .ok (.aload_n 1, 1) := by decide +kernel
theorem dK2_moveAmount_36 : decode cK2_moveAmount 36 = .ok (.getfield 32, 3) := by decide +kernel
theorem dK2_moveAmount_39 : decode cK2_moveAmount 39 = .ok (.iconst 1, 1) := by decide +kernel
theorem dK2_moveAmount_40 : decode cK2_moveAmount 40 = .ok (.if_icmp .ne 20, 3) := by decide +kernel
theorem dK2_moveAmount_43 : decode cK2_moveAmount 43 = .ok (.aload_n 2, 1) := by decide +kernel
theorem dK2_moveAmount_44 : decode cK2_moveAmount 44 = .ok (.dup, 1) := by decide +kernel
theorem dK2_moveAmount_45 : decode cK2_moveAmount 45 = .ok (.getfield 74, 3) := by decide +kernel
theorem dK2_moveAmount_48 : decode cK2_moveAmount 48 = .ok (.aload_n 1, 1) := by decide +kernel
theorem dK2_moveAmount_49 : decode cK2_moveAmount 49 = .ok (.getfield 71, 3) := by decide +kernel
theorem dK2_moveAmount_52 : decode cK2_moveAmount 52 = .ok (.i2l, 1) := by decide +kernel
theorem dK2_moveAmount_53 : decode cK2_moveAmount 53 = .ok (.ladd, 1) := by decide +kernel
theorem dK2_moveAmount_54 : decode cK2_moveAmount 54 = .ok (.putfield 74, 3) := by decide +kernel
theorem dK2_moveAmount_57 : decode cK2_moveAmount 57 = .ok (.goto 33, 3) := by decide +kernel
theorem dK2_moveAmount_60 : decode cK2_moveAmount 60 = .ok (.aload_n 2, 1) := by decide +kernel
theorem dK2_moveAmount_61 : decode cK2_moveAmount 61 = .ok (.invokevirtual 77, 3) := by decide +kernel
theorem dK2_moveAmount_64 : decode cK2_moveAmount 64 = .ok (.aload_n 1, 1) := by decide +kernel
theorem dK2_moveAmount_65 : decode cK2_moveAmount 65 = .ok (.getfield 71, 3) := by decide +kernel
theorem dK2_moveAmount_68 : decode cK2_moveAmount 68 = .ok (.i2l, 1) := by decide +kernel
theorem dK2_moveAmount_69 : decode cK2_moveAmount 69 = .ok (.lcmp, 1) := by decide +kernel
theorem dK2_moveAmount_70 : decode cK2_moveAmount 70 = .ok (.ifCond .ge 6, 3) := by decide +kernel
theorem dK2_moveAmount_73 : decode cK2_moveAmount 73 = .ok (.bipush (-16), 2) := by decide +kernel
theorem dK2_moveAmount_75 : decode cK2_moveAmount 75 = .ok (.ireturn, 1) := by decide +kernel
theorem dK2_moveAmount_76 : decode cK2_moveAmount 76 = .ok (.aload_n 2, 1) := by decide +kernel
theorem dK2_moveAmount_77 : decode cK2_moveAmount 77 = .ok (.dup, 1) := by decide +kernel
theorem dK2_moveAmount_78 : decode cK2_moveAmount 78 = .ok (.getfield 74, 3) := by decide +kernel
theorem dK2_moveAmount_81 : decode cK2_moveAmount 81 = .ok (.aload_n 1, 1) := by decide +kernel
theorem dK2_moveAmount_82 : decode cK2_moveAmount 82 = .ok (.getfield 71, 3) := by decide +kernel
theorem dK2_moveAmount_85 : decode cK2_moveAmount 85 = .ok (.i2l, 1) := by decide +kernel
theorem dK2_moveAmount_86 : decode cK2_moveAmount 86 = .ok (.lsub, 1) := by decide +kernel
theorem dK2_moveAmount_87 : decode cK2_moveAmount 87 = .ok (.putfield 74, 3) := by decide +kernel
theorem dK2_moveAmount_90 : decode cK2_moveAmount 90 = .ok (.aload_n 1, 1) := by decide +kernel
theorem dK2_moveAmount_91 : decode cK2_moveAmount 91 = .ok (.getfield 71, 3) := by decide +kernel
theorem dK2_moveAmount_94 : decode cK2_moveAmount 94 = .ok (.ireturn, 1) := by decide +kernel
theorem dK2_placeLimit_0 : decode cK2_placeLimit 0 = .ok (.aload_n 0, 1) := by decide +kernel
theorem dK2_placeLimit_1 : decode cK2_placeLimit 1 = .ok (.getfield 20, 3) := by decide +kernel
theorem dK2_placeLimit_4 : decode cK2_placeLimit 4 = .ok (.invokevirtual 81, 3) := by decide +kernel
theorem dK2_placeLimit_7 : decode cK2_placeLimit 7 = .ok (.ifCond .eq 6, 3) := by decide +kernel
theorem dK2_placeLimit_10 : decode cK2_placeLimit 10 = .ok (.bipush (-15), 2) := by decide +kernel
theorem dK2_placeLimit_12 : decode cK2_placeLimit 12 = .ok (.ireturn, 1) := by decide +kernel
theorem dK2_placeLimit_13 : decode cK2_placeLimit 13 = .ok (.aload_n 0, 1) := by decide +kernel
theorem dK2_placeLimit_14 : decode cK2_placeLimit 14 = .ok (.aload_n 1, 1) := by decide +kernel
theorem dK2_placeLimit_15 : decode cK2_placeLimit 15 = .ok (.invokevirtual 85, 3) := by decide +kernel
theorem dK2_placeLimit_18 : decode cK2_placeLimit 18 = .ok (.ifCond .ne 6, 3) := by decide +kernel
theorem dK2_placeLimit_21 : decode cK2_placeLimit 21 = .ok (.bipush (-16), 2) := by decide +kernel
theorem dK2_placeLimit_23 : decode cK2_placeLimit 23 = .ok (.ireturn, 1) := by decide +kernel
theorem dK2_placeLimit_24 : decode cK2_placeLimit 24 = .ok (.aload_n 0, 1) := by decide +kernel
theorem dK2_placeLimit_25 : decode cK2_placeLimit 25 = .ok (.aload_n 1, 1) := by decide +kernel
theorem dK2_placeLimit_26 : decode cK2_placeLimit 26 = .ok (.invokevirtual 89, 3) := by decide +kernel
theorem dK2_placeLimit_29 : decode cK2_placeLimit 29 = .ok (.ifCond .ne 6, 3) := by decide +kernel
theorem dK2_placeLimit_32 : decode cK2_placeLimit 32 = .ok (.bipush (-17), 2) := by decide +kernel
theorem dK2_placeLimit_34 : decode cK2_placeLimit 34 = .ok (.ireturn, 1) := by decide +kernel
theorem dK2_placeLimit_35 : decode cK2_placeLimit 35 = .ok (.aload_n 0, 1) := by decide +kernel
theorem dK2_placeLimit_36 : decode cK2_placeLimit 36 = .ok (.getfield 20, 3) := by decide +kernel
theorem dK2_placeLimit_39 : decode cK2_placeLimit 39 = .ok (.aload_n 1, 1) := by decide +kernel
theorem dK2_placeLimit_40 : decode cK2_placeLimit 40 = .ok (.invokevirtual 92, 3) := by decide +kernel
theorem dK2_placeLimit_43 : decode cK2_placeLimit 43 = .ok (.istore_n 2, 1) := by decide +kernel
theorem dK2_placeLimit_44 : decode cK2_placeLimit 44 = .ok (.aload_n 0, 1) := by decide +kernel
theorem dK2_placeLimit_45 : decode cK2_placeLimit 45 = .ok (.getfield 20, 3) := by decide +kernel
theorem dK2_placeLimit_48 : decode cK2_placeLimit 48 = .ok (.getfield 95, 3) := by decide +kernel
theorem dK2_placeLimit_51 : decode cK2_placeLimit 51 = .ok (.iload_n 2, 1) := by decide +kernel
theorem dK2_placeLimit_52 : decode cK2_placeLimit 52 = .ok (.aaload, 1) := by decide +kernel
theorem dK2_placeLimit_53 : decode cK2_placeLimit 53 = .ok (.astore_n 3, 1) := by decide +kernel
theorem dK2_placeLimit_54 : decode cK2_placeLimit 54 = .ok (.aload_n 0, 1) := by decide +kernel
theorem dK2_placeLimit_55 : decode cK2_placeLimit 55 = .ok (.aload_n 3, 1) := by decide +kernel
theorem dK2_placeLimit_56 : decode cK2_placeLimit 56 = .ok (.aload_n 3, 1) := by decide +kernel
theorem dK2_placeLimit_57 : decode cK2_placeLimit 57 = .ok (.getfield 99, 3) := by decide +kernel
theorem dK2_placeLimit_60 : decode cK2_placeLimit 60 = .ok (.aload_n 3, 1) := by decide +kernel
theorem dK2_placeLimit_61 : decode cK2_placeLimit 61 = .ok (.getfield 104, 3) := by decide +kernel
theorem dK2_placeLimit_64 : decode cK2_placeLimit 64 = .ok (.invokevirtual 107, 3) := by decide +kernel
theorem dK2_placeLimit_67 : decode cK2_placeLimit 67 = .ok (.aload_n 3, 1) := by decide +kernel
theorem dK2_placeLimit_68 : decode cK2_placeLimit 68 = .ok (.getfield 104, 3) := by decide +kernel
theorem dK2_placeLimit_71 : decode cK2_placeLimit 71 = .ok (.ifCond .le 50, 3) := by decide +kernel
theorem dK2_placeLimit_74 : decode cK2_placeLimit 74 = .ok (.aload_n 1, 1) := by decide +kernel
theorem dK2_placeLimit_75 : decode cK2_placeLimit 75 = .ok (.getfield 111, 3) := by decide +kernel
theorem dK2_placeLimit_78 : decode cK2_placeLimit 78 = .ok (.iconst 1, 1) := by decide +kernel
theorem dK2_placeLimit_79 : decode cK2_placeLimit 79 = .ok (.if_icmp .eq 42, 3) := by decide +kernel
theorem dK2_placeLimit_82 : decode cK2_placeLimit 82 = .ok (.aload_n 3, 1) := by decide +kernel
theorem dK2_placeLimit_83 : decode cK2_placeLimit 83 = .ok (.iconst 0, 1) := by decide +kernel
theorem dK2_placeLimit_84 : decode cK2_placeLimit 84 = .ok (.putfield 114, 3) := by decide +kernel
theorem dK2_placeLimit_87 : decode cK2_placeLimit 87 = .ok (.aload_n 3, 1) := by decide +kernel
theorem dK2_placeLimit_88 : decode cK2_placeLimit 88 = .ok (.aload_n 1, 1) := by decide +kernel
theorem dK2_placeLimit_89 : decode cK2_placeLimit 89 = .ok (.getfield 111, 3) := by decide +kernel
theorem dK2_placeLimit_92 : decode cK2_placeLimit 92 = .ok (.iconst 4, 1) := by decide +kernel
theorem dK2_placeLimit_93 : decode cK2_placeLimit 93 = .ok (.if_icmp .ne 15, 3) := by decide +kernel
theorem dK2_placeLimit_96 : decode cK2_placeLimit 96 = .ok (.aload_n 0, 1) := by decide +kernel
theorem dK2_placeLimit_97 : decode cK2_placeLimit 97 = .ok (.getfield 117, 3) := by decide +kernel
theorem dK2_placeLimit_100 : decode cK2_placeLimit 100 = .ok (.aload_n 1, 1) := by decide +kernel
theorem dK2_placeLimit_101 : decode cK2_placeLimit 101 = .ok (.getfield 57, 3) := by decide +kernel
theorem dK2_placeLimit_104 : decode cK2_placeLimit 104 = .ok (.iadd, 1) := by decide +kernel
theorem dK2_placeLimit_105 : decode cK2_placeLimit 105 = .ok (.goto 4, 3) := by decide +kernel
theorem dK2_placeLimit_108 : decode cK2_placeLimit 108 = .ok (.iconst (-1), 1) := by decide +kernel
theorem dK2_placeLimit_109 : decode cK2_placeLimit 109 = .ok (.putfield 120, 3) := by decide +kernel
theorem dK2_placeLimit_112 : decode cK2_placeLimit 112 = .ok (.aload_n 0, 1) := by decide +kernel
theorem dK2_placeLimit_113 : decode cK2_placeLimit 113 = .ok (.aload_n 3, 1) := by decide +kernel
theorem dK2_placeLimit_114 : decode cK2_placeLimit 114 = .ok (.aload_n 3, 1) := by decide +kernel
theorem dK2_placeLimit_115 : decode cK2_placeLimit 115 = .ok (.getfield 104, 3) := by decide +kernel
theorem dK2_placeLimit_118 : decode cK2_placeLimit 118 = .ok (.invokevirtual 123, 3) := by decide +kernel
theorem dK2_placeLimit_121 : decode cK2_placeLimit 121 = .ok (.iload_n 2, 1) := by decide +kernel
theorem dK2_placeLimit_122 : decode cK2_placeLimit 122 = .ok (.ireturn, 1) := by decide +kernel
theorem dK2_placeAny_0 : decode cK2_placeAny 0 = .ok (.aload_n 0, 1) := by decide +kernel
theorem dK2_placeAny_1 : decode cK2_placeAny 1 = .ok (.getfield 20, 3) := by decide +kernel
theorem dK2_placeAny_4 : decode cK2_placeAny 4 = .ok (.invokevirtual 81, 3) := by decide +kernel
theorem dK2_placeAny_7 : decode cK2_placeAny 7 = .ok (.ifCond .eq 6, 3) := by decide +kernel
theorem dK2_placeAny_10 : decode cK2_placeAny 10 = .ok (.bipush (-15), 2) := by decide +kernel
theorem dK2_placeAny_12 : decode cK2_placeAny 12 = .ok (.ireturn, 1) := by decide +kernel
theorem dK2_placeAny_13 : decode cK2_placeAny 13 = .ok (.aload_n 1, 1) := by decide +kernel
theorem dK2_placeAny_14 : decode cK2_placeAny 14 = .ok (.getfield 127, 3) := by decide +kernel
theorem dK2_placeAny_17 : decode cK2_placeAny 17 = .ok (.iconst 1, 1) := by decide +kernel
theorem dK2_placeAny_18 : decode cK2_placeAny 18 = .ok (.if_icmp .ne 14, 3) := by decide +kernel
theorem dK2_placeAny_21 : decode cK2_placeAny 21 = .ok (.aload_n 0, 1) := by decide +kernel
theorem dK2_placeAny_22 : decode cK2_placeAny 22 = .ok (.aload_n 1, 1) := by decide +kernel
theorem dK2_placeAny_23 : decode cK2_placeAny 23 = .ok (.invokevirtual 85, 3) := by decide +kernel
theorem dK2_placeAny_26 : decode cK2_placeAny 26 = .ok (.ifCond .ne 6, 3) := by decide +kernel
theorem dK2_placeAny_29 : decode cK2_placeAny 29 = .ok (.bipush (-16), 2) := by decide +kernel
theorem dK2_placeAny_31 : decode cK2_placeAny 31 = .ok (.ireturn, 1) := by decide +kernel
theorem dK2_placeAny_32 : decode cK2_placeAny 32 = .ok (.aload_n 0, 1) := by decide +kernel
theorem dK2_placeAny_33 : decode cK2_placeAny 33 = .ok (.getfield 20, 3) := by decide +kernel
theorem dK2_placeAny_36 : decode cK2_placeAny 36 = .ok (.aload_n 1, 1) := by decide +kernel
theorem dK2_placeAny_37 : decode cK2_placeAny 37 = .ok (.invokevirtual 92, 3) := by decide +kernel
theorem dK2_placeAny_40 : decode cK2_placeAny 40 = .ok (.istore_n 2, 1) := by decide +kernel
theorem dK2_placeAny_41 : decode cK2_placeAny 41 = .ok (.aload_n 0, 1) := by decide +kernel
theorem dK2_placeAny_42 : decode cK2_placeAny 42 = .ok (.aload_n 0, 1) := by decide +kernel
theorem dK2_placeAny_43 : decode cK2_placeAny 43 = .ok (.getfield 20, 3) := by decide +kernel
theorem dK2_placeAny_46 : decode cK2_placeAny 46 = .ok (.getfield 95, 3) := by decide +kernel
theorem dK2_placeAny_49 : decode cK2_placeAny 49 = .ok (.iload_n 2, 1) := by decide +kernel
theorem dK2_placeAny_50 : decode cK2_placeAny 50 = .ok (.aaload, 1) := by decide +kernel
theorem dK2_placeAny_51 : decode cK2_placeAny 51 = .ok (.iconst 0, 1) := by decide +kernel
theorem dK2_placeAny_52 : decode cK2_placeAny 52 = .ok (.aload_n 1, 1) := by decide +kernel
theorem dK2_placeAny_53 : decode cK2_placeAny 53 = .ok (.getfield 130, 3) := by decide +kernel
theorem dK2_placeAny_56 : decode cK2_placeAny 56 = .ok (.invokevirtual 107, 3) := by decide +kernel
theorem dK2_placeAny_59 : decode cK2_placeAny 59 = .ok (.iload_n 2, 1) := by decide +kernel
theorem dK2_placeAny_60 : decode cK2_placeAny 60 = .ok (.ireturn, 1) := by decide +kernel
theorem dK2_placeStop_0 : decode cK2_placeStop 0 = .ok (.aload_n 0, 1) := by decide +kernel
theorem dK2_placeStop_1 : decode cK2_placeStop 1 = .ok (.getfield 20, 3) := by decide +kernel
theorem dK2_placeStop_4 : decode cK2_placeStop 4 = .ok (.invokevirtual 81, 3) := by decide +kernel
theorem dK2_placeStop_7 : decode cK2_placeStop 7 = .ok (.ifCond .eq 6, 3) := by decide +kernel
theorem dK2_placeStop_10 : decode cK2_placeStop 10 = .ok (.bipush (-15), 2) := by decide +kernel
theorem dK2_placeStop_12 : decode cK2_placeStop 12 = .ok (.ireturn, 1) := by decide +kernel
theorem dK2_placeStop_13 : decode cK2_placeStop 13 = .ok (.aload_n 0, 1) := by decide +kernel
theorem dK2_placeStop_14 : decode cK2_placeStop 14 = .ok (.getfield 20, 3) := by decide +kernel
theorem dK2_placeStop_17 : decode cK2_placeStop 17 = .ok (.aload_n 1, 1) := by decide +kernel
theorem dK2_placeStop_18 : decode cK2_placeStop 18 = .ok (.invokevirtual 92, 3) := by decide +kernel
theorem dK2_placeStop_21 : decode cK2_placeStop 21 = .ok (.istore_n 2, 1) := by decide +kernel
theorem dK2_placeStop_22 : decode cK2_placeStop 22 = .ok (.aload_n 0, 1) := by decide +kernel
theorem dK2_placeStop_23 : decode cK2_placeStop 23 = .ok (.getfield 20, 3) := by decide +kernel
theorem dK2_placeStop_26 : decode cK2_placeStop 26 = .ok (.getfield 95, 3) := by decide +kernel
theorem dK2_placeStop_29 : decode cK2_placeStop 29 = .ok (.iload_n 2, 1) := by decide +kernel
theorem dK2_placeStop_30 : decode cK2_placeStop 30 = .ok (.aaload, 1) := by decide +kernel
theorem dK2_placeStop_31 : decode cK2_placeStop 31 = .ok (.iconst 1, 1) := by decide +kernel
theorem dK2_placeStop_32 : decode cK2_placeStop 32 = .ok (.putfield 114, 3) := by decide +kernel
theorem dK2_placeStop_35 : decode cK2_placeStop 35 = .ok (.iload_n 2, 1) := by decide +kernel
theorem dK2_placeStop_36 : decode cK2_placeStop 36 = .ok (.ireturn, 1) := by decide +kernel
theorem dK2_hasFunds_0 : decode cK2_hasFunds 0 = .ok (.aload_n 0, 1) := by decide +kernel
theorem dK2_hasFunds_1 : decode cK2_hasFunds 1 = .ok (.getfield 11, 3) := by decide +kernel
theorem dK2_hasFunds_4 : decode cK2_hasFunds 4 = .ok (.aload_n 1, 1) := by decide +kernel
theorem dK2_hasFunds_5 : decode cK2_hasFunds 5 = .ok (.getfield 64, 3) := by decide +kernel
theorem dK2_hasFunds_8 : decode cK2_hasFunds 8 = .ok (.aaload, 1) := by decide +kernel
theorem dK2_hasFunds_9 : decode cK2_hasFunds 9 = .ok (.astore_n 2, 1) := by decide +kernel
theorem dK2_hasFunds_10 : decode cK2_hasFunds 10 = .ok (.aload_n 1, 1) := by decide +kernel
theorem dK2_hasFunds_11 : decode cK2_hasFunds 11 = .ok (.getfield 127, 3) := by decide +kernel
theorem dK2_hasFunds_14 : decode cK2_hasFunds 14 = .ok (.iconst 1, 1) := by decide +kernel
theorem dK2_hasFunds_15 : decode cK2_hasFunds 15 = .ok (.if_icmp .ne 22, 3) := by decide +kernel
theorem dK2_hasFunds_18 : decode cK2_hasFunds 18 = .ok (.aload_n 2, 1) := by decide +kernel
theorem dK2_hasFunds_19 : decode cK2_hasFunds 19 = .ok (.invokevirtual 133, 3) := by decide +kernel
theorem dK2_hasFunds_22 : decode cK2_hasFunds 22 = .ok (.aload_n 1, 1) := by decide +kernel
theorem dK2_hasFunds_23 : decode cK2_hasFunds 23 = .ok (.getfield 130, 3) := by decide +kernel
theorem dK2_hasFunds_26 : decode cK2_hasFunds 26 = .ok (.i2l, 1) := by decide +kernel
theorem dK2_hasFunds_27 : decode cK2_hasFunds 27 = .ok (.lcmp, 1) := by decide +kernel
theorem dK2_hasFunds_28 : decode cK2_hasFunds 28 = .ok (.ifCond .lt 7, 3) := by decide +kernel
theorem dK2_hasFunds_31 : decode cK2_hasFunds 31 = .ok (.iconst 1, 1) := by decide +kernel
theorem dK2_hasFunds_32 : decode cK2_hasFunds 32 = .ok (.goto 4, 3) := by decide +kernel
theorem dK2_hasFunds_35 : decode cK2_hasFunds 35 = .ok (.iconst 0, 1) := by decide +kernel
theorem dK2_hasFunds_36 : decode cK2_hasFunds 36 = .ok (.ireturn, 1) := by decide +kernel
theorem dK2_hasFunds_37 : decode cK2_hasFunds 37 = .ok (.aload_n 2, 1) := by decide +kernel
theorem dK2_hasFunds_38 : decode cK2_hasFunds 38 = .ok (.invokevirtual 77, 3) := by decide +kernel
theorem dK2_hasFunds_41 : decode cK2_hasFunds 41 = .ok (.aload_n 1, 1) := by decide +kernel
theorem dK2_hasFunds_42 : decode cK2_hasFunds 42 = .ok (.getfield 130, 3) := by decide +kernel
theorem dK2_hasFunds_45 : decode cK2_hasFunds 45 = .ok (.i2l, 1) := by decide +kernel
theorem dK2_hasFunds_46 : decode cK2_hasFunds 46 = .ok (.aload_n 1, 1) := by decide +kernel
theorem dK2_hasFunds_47 : decode cK2_hasFunds 47 = .ok (.getfield 136, 3) := by decide +kernel
theorem dK2_hasFunds_50 : decode cK2_hasFunds 50 = .ok (.i2l, 1) := by decide +kernel
theorem dK2_hasFunds_51 : decode cK2_hasFunds 51 = .ok (.lmul, 1) := by decide +kernel
theorem dK2_hasFunds_52 : decode cK2_hasFunds 52 = .ok (.lcmp, 1) := by decide +kernel
theorem dK2_hasFunds_53 : decode cK2_hasFunds 53 = .ok (.ifCond .lt 7, 3) := by decide +kernel
theorem dK2_hasFunds_56 : decode cK2_hasFunds 56 = .ok (.iconst 1, 1) := by decide +kernel
theorem dK2_hasFunds_57 : decode cK2_hasFunds 57 = .ok (.goto 4, 3) := by decide +kernel
theorem dK2_hasFunds_60 : decode cK2_hasFunds 60 = .ok (.iconst 0, 1) := by decide +kernel
theorem dK2_hasFunds_61 : decode cK2_hasFunds 61 = .ok (.ireturn, 1) := by decide +kernel
theorem dK2_findsItsMatches_0 : decode cK2_findsItsMatches 0 = .ok (.iconst 1, 1) := by decide +kernel
theorem dK2_findsItsMatches_1 : decode cK2_findsItsMatches 1 = .ok (.aload_n 1, 1) := by decide +kernel
theorem dK2_findsItsMatches_2 : decode cK2_findsItsMatches 2 = .ok (.getfield 127, 3) := by decide +kernel
theorem dK2_findsItsMatches_5 : decode cK2_findsItsMatches 5 = .ok (.isub, 1) := by decide +kernel
theorem dK2_findsItsMatches_6 : decode cK2_findsItsMatches 6 = .ok (.istore_n 2, 1) := by decide +kernel
theorem dK2_findsItsMatches_7 : decode cK2_findsItsMatches 7 = .ok (.aload_n 1, 1) := by decide +kernel
theorem dK2_findsItsMatches_8 : decode cK2_findsItsMatches 8 = .ok (.getfield 111, 3) := by decide +kernel
theorem dK2_findsItsMatches_11 : decode cK2_findsItsMatches 11 = .ok (.iconst 3, 1) := by decide +kernel
theorem dK2_findsItsMatches_12 : decode cK2_findsItsMatches 12 = .ok (.if_icmp .ne 24, 3) := by decide +kernel
theorem dK2_findsItsMatches_15 : decode cK2_findsItsMatches 15 = .ok (.aload_n 0, 1) := by decide +kernel
theorem dK2_findsItsMatches_16 : decode cK2_findsItsMatches 16 = .ok (.getfield 20, 3) := by decide +kernel
theorem dK2_findsItsMatches_19 : decode cK2_findsItsMatches 19 = .ok (.iload_n 2, 1) := by decide +kernel
theorem dK2_findsItsMatches_20 : decode cK2_findsItsMatches 20 = .ok (.aload_n 1, 1) := by decide +kernel
theorem dK2_findsItsMatches_21 : decode cK2_findsItsMatches 21 = .ok (.getfield 136, 3) := by decide +kernel
theorem dK2_findsItsMatches_24 : decode cK2_findsItsMatches 24 = .ok (.invokevirtual 137, 3) := by decide +kernel
theorem dK2_findsItsMatches_27 : decode cK2_findsItsMatches 27 = .ok (.ifnonnull 7, 3) := by decide +kernel
theorem dK2_findsItsMatches_30 : decode cK2_findsItsMatches 30 = .ok (.iconst 1, 1) := by decide +kernel
theorem dK2_findsItsMatches_31 : decode cK2_findsItsMatches 31 = .ok (.goto 4, 3) := by decide +kernel
theorem dK2_findsItsMatches_34 : decode cK2_findsItsMatches 34 = .ok (.iconst 0, 1) := by decide +kernel
theorem dK2_findsItsMatches_35 : decode cK2_findsItsMatches 35 = .ok (.ireturn, 1) := by decide +kernel
theorem dK2_findsItsMatches_36 : decode cK2_findsItsMatches 36 = .ok (.aload_n 1, 1) := by decide +kernel
theorem dK2_findsItsMatches_37 : decode cK2_findsItsMatches 37 = .ok (.getfield 111, 3) := by decide +kernel
theorem dK2_findsItsMatches_40 : decode cK2_findsItsMatches 40 = .ok (.iconst 2, 1) := by decide +kernel
theorem dK2_findsItsMatches_41 : decode cK2_findsItsMatches 41 = .ok (.if_icmp .ne 26, 3) := by decide +kernel
theorem dK2_findsItsMatches_44 : decode cK2_findsItsMatches 44 = .ok (.aload_n 0, 1) := by decide +kernel
theorem dK2_findsItsMatches_45 : decode cK2_findsItsMatches 45 = .ok (.getfield 20, 3) := by decide +kernel
theorem dK2_findsItsMatches_48 : decode cK2_findsItsMatches 48 = .ok (.iload_n 2, 1) := by decide +kernel
theorem dK2_findsItsMatches_49 : decode cK2_findsItsMatches 49 = .ok (.aload_n 1, 1) := by decide +kernel
theorem dK2_findsItsMatches_50 : decode cK2_findsItsMatches 50 = .ok (.getfield 136, 3) := by decide +kernel
theorem dK2_findsItsMatches_53 : decode cK2_findsItsMatches 53 = .ok (.aload_n 1, 1) := by decide +kernel
theorem dK2_findsItsMatches_54 : decode cK2_findsItsMatches 54 = .ok (.getfield 64, 3) := by decide +kernel
theorem dK2_findsItsMatches_57 : decode cK2_findsItsMatches 57 = .ok (.invokevirtual 141, 3) := by decide +kernel
theorem dK2_findsItsMatches_60 : decode cK2_findsItsMatches 60 = .ok (.aload_n 1, 1) := by decide +kernel
theorem dK2_findsItsMatches_61 : decode cK2_findsItsMatches 61 = .ok (.getfield 130, 3) := by decide +kernel
theorem dK2_findsItsMatches_64 : decode cK2_findsItsMatches 64 = .ok (.if_icmp .lt 7, 3) := by decide +kernel
theorem dK2_findsItsMatches_67 : decode cK2_findsItsMatches 67 = .ok (.iconst 1, 1) := by decide +kernel
theorem dK2_findsItsMatches_68 : decode cK2_findsItsMatches 68 = .ok (.goto 4, 3) := by decide +kernel
theorem dK2_findsItsMatches_71 : decode cK2_findsItsMatches 71 = .ok (.iconst 0, 1) := by decide +kernel
theorem dK2_findsItsMatches_72 : decode cK2_findsItsMatches 72 = .ok (.ireturn, 1) := by decide +kernel
theorem dK2_meet_0 : decode cK2_meet 0 = .ok (.iload_n 3, 1) := by decide +kernel
theorem dK2_meet_1 : decode cK2_meet 1 = .ok (.istore 4, 2) := by decide +kernel
theorem dK2_meet_3 : decode cK2_meet 3 = .ok (.iconst 0, 1) := by decide +kernel
theorem dK2_meet_4 : decode cK2_meet 4 = .ok (.istore 5, 2) := by decide +kernel
theorem dK2_meet_6 : decode cK2_meet 6 = .ok (.iload 5, 2) := by decide +kernel
theorem dK2_meet_8 : decode cK2_meet 8 = .ok (.bipush 42, 2) := by decide +kernel
theorem dK2_meet_10 : decode cK2_meet 10 = .ok (.if_icmp .ge 101, 3) := by decide +kernel
theorem dK2_meet_13 : decode cK2_meet 13 = .ok (.iload 4, 2) := by decide +kernel
theorem dK2_meet_15 : decode cK2_meet 15 = .ok (.ifCond .le 96, 3) := by decide +kernel
theorem dK2_meet_18 : decode cK2_meet 18 = .ok (.aload_n 0, 1) := by decide +kernel
theorem dK2_meet_19 : decode cK2_meet 19 = .ok (.getfield 20, 3) := by decide +kernel
theorem dK2_meet_22 : decode cK2_meet 22 = .ok (.iconst 1, 1) := by decide +kernel
theorem dK2_meet_23 : decode cK2_meet 23 = .ok (.aload_n 1, 1) := by decide +kernel
theorem dK2_meet_24 : decode cK2_meet 24 = .ok (.getfield 145, 3) := by decide +kernel
theorem dK2_meet_27 : decode cK2_meet 27 = .ok (.isub, 1) := by decide +kernel
theorem dK2_meet_28 : decode cK2_meet 28 = .ok (.iload_n 2, 1) := by decide +kernel
theorem dK2_meet_29 : decode cK2_meet 29 = .ok (.invokevirtual 137, 3) := by decide +kernel
theorem dK2_meet_32 : decode cK2_meet 32 = .ok (.astore 6, 2) := by decide +kernel
theorem dK2_meet_34 : decode cK2_meet 34 = .ok (.aload 6, 2) := by decide +kernel
theorem dK2_meet_36 : decode cK2_meet 36 = .ok (.ifnonnull 4, 3) := by decide +kernel
theorem dK2_meet_39 : decode cK2_meet 39 = .ok (.return_, 1) := by decide +kernel
theorem dK2_meet_40 : decode cK2_meet 40 = .ok (.aload 6, 2) := by decide +kernel
theorem dK2_meet_42 : decode cK2_meet 42 = .ok (.getfield 146, 3) := by decide +kernel
theorem dK2_meet_45 : decode cK2_meet 45 = .ok (.aload_n 1, 1) := by decide +kernel
theorem dK2_meet_46 : decode cK2_meet 46 = .ok (.getfield 146, 3) := by decide +kernel
theorem dK2_meet_49 : decode cK2_meet 49 = .ok (.if_icmp .ne 12, 3) := by decide +kernel
theorem dK2_meet_52 : decode cK2_meet 52 = .ok (.aload_n 0, 1) := by decide +kernel
theorem dK2_meet_53 : decode cK2_meet 53 = .ok (.aload 6, 2) := by decide +kernel
theorem dK2_meet_55 : decode cK2_meet 55 = .ok (.invokevirtual 147, 3) := by decide +kernel
theorem dK2_meet_58 : decode cK2_meet 58 = .ok (.goto 47, 3) := by decide +kernel
theorem dK2_meet_61 : decode cK2_meet 61 = .ok (.aload_n 0, 1) := by decide +kernel
theorem dK2_meet_62 : decode cK2_meet 62 = .ok (.aload_n 1, 1) := by decide +kernel
theorem dK2_meet_63 : decode cK2_meet 63 = .ok (.aload 6, 2) := by decide +kernel
theorem dK2_meet_65 : decode cK2_meet 65 = .ok (.getfield 99, 3) := by decide +kernel
theorem dK2_meet_68 : decode cK2_meet 68 = .ok (.iload 4, 2) := by decide +kernel
theorem dK2_meet_70 : decode cK2_meet 70 = .ok (.aload 6, 2) := by decide +kernel
theorem dK2_meet_72 : decode cK2_meet 72 = .ok (.getfield 104, 3) := by decide +kernel
theorem dK2_meet_75 : decode cK2_meet 75 = .ok (.invokestatic 151, 3) := by decide +kernel
theorem dK2_meet_78 : decode cK2_meet 78 = .ok (.invokevirtual 157, 3) := by decide +kernel
theorem dK2_meet_81 : decode cK2_meet 81 = .ok (.istore 7, 2) := by decide +kernel
theorem dK2_meet_83 : decode cK2_meet 83 = .ok (.iload 7, 2) := by decide +kernel
theorem dK2_meet_85 : decode cK2_meet 85 = .ok (.ifCond .ne 4, 3) := by decide +kernel
theorem dK2_meet_88 : decode cK2_meet 88 = .ok (.return_, 1) := by decide +kernel
theorem dK2_meet_89 : decode cK2_meet 89 = .ok (.aload_n 0, 1) := by decide +kernel
theorem dK2_meet_90 : decode cK2_meet 90 = .ok (.aload_n 1, 1) := by decide +kernel
theorem dK2_meet_91 : decode cK2_meet 91 = .ok (.aload 6, 2) := by decide +kernel
theorem dK2_meet_93 : decode cK2_meet 93 = .ok (.iload 7, 2) := by decide +kernel
theorem dK2_meet_95 : decode cK2_meet 95 = .ok (.invokevirtual 161, 3) := by decide +kernel
theorem dK2_meet_98 : decode cK2_meet 98 = .ok (.iload 4, 2) := by decide +kernel
theorem dK2_meet_100 : decode cK2_meet 100 = .ok (.iload 7, 2) := by decide +kernel
theorem dK2_meet_102 : decode cK2_meet 102 = .ok (.isub, 1) := by decide +kernel
theorem dK2_meet_103 : decode cK2_meet 103 = .ok (.istore 4, 2) := by decide +kernel
theorem dK2_meet_105 : decode cK2_meet 105 = .ok (.iinc 5 1, 3) := by decide +kernel
theorem dK2_meet_108 : decode cK2_meet 108 = .ok (.goto (-102), 3) := by decide +kernel
theorem dK2_meet_111 : decode cK2_meet 111 = .ok (.return_, 1) := by decide +kernel
theorem dK2_payable_0 : decode cK2_payable 0 = .ok (.aload_n 1, 1) := by decide +kernel
theorem dK2_payable_1 : decode cK2_payable 1 = .ok (.getfield 145, 3) := by decide +kernel
theorem dK2_payable_4 : decode cK2_payable 4 = .ok (.iconst 1, 1) := by decide +kernel
theorem dK2_payable_5 : decode cK2_payable 5 = .ok (.if_icmp .eq 7, 3) := by decide +kernel
theorem dK2_payable_8 : decode cK2_payable 8 = .ok (.iload_n 2, 1) := by decide +kernel
theorem dK2_payable_9 : decode cK2_payable 9 = .ok (.ifCond .gt 5, 3) := by decide +kernel
theorem dK2_payable_12 : decode cK2_payable 12 = .ok (.iload_n 3, 1) := by decide +kernel
theorem dK2_payable_13 : decode cK2_payable 13 = .ok (.ireturn, 1) := by decide +kernel
theorem dK2_payable_14 : decode cK2_payable 14 = .ok (.iload_n 3, 1) := by decide +kernel
theorem dK2_payable_15 : decode cK2_payable 15 = .ok (.i2l, 1) := by decide +kernel
theorem dK2_payable_16 : decode cK2_payable 16 = .ok (.aload_n 0, 1) := by decide +kernel
theorem dK2_payable_17 : decode cK2_payable 17 = .ok (.getfield 11, 3) := by decide +kernel
theorem dK2_payable_20 : decode cK2_payable 20 = .ok (.aload_n 1, 1) := by decide +kernel
theorem dK2_payable_21 : decode cK2_payable 21 = .ok (.getfield 146, 3) := by decide +kernel
theorem dK2_payable_24 : decode cK2_payable 24 = .ok (.aaload, 1) := by decide +kernel
theorem dK2_payable_25 : decode cK2_payable 25 = .ok (.invokevirtual 77, 3) := by decide +kernel
theorem dK2_payable_28 : decode cK2_payable 28 = .ok (.iload_n 2, 1) := by decide +kernel
theorem dK2_payable_29 : decode cK2_payable 29 = .ok (.i2l, 1) := by decide +kernel
theorem dK2_payable_30 : decode cK2_payable 30 = .ok (.ldiv, 1) := by decide +kernel
theorem dK2_payable_31 : decode cK2_payable 31 = .ok (.invokestatic 165, 3) := by decide +kernel
theorem dK2_payable_34 : decode cK2_payable 34 = .ok (.l2i, 1) := by decide +kernel
theorem dK2_payable_35 : decode cK2_payable 35 = .ok (.ireturn, 1) := by decide +kernel
theorem dK2_settle_0 : decode cK2_settle 0 = .ok (.aload_n 1, 1) := by decide +kernel
theorem dK2_settle_1 : decode cK2_settle 1 = .ok (.getfield 145, 3) := by decide +kernel
theorem dK2_settle_4 : decode cK2_settle 4 = .ok (.ifCond .ne 10, 3) := by decide +kernel
theorem dK2_settle_7 : decode cK2_settle 7 = .ok (.aload_n 1, 1) := by decide +kernel
theorem dK2_settle_8 : decode cK2_settle 8 = .ok (.getfield 146, 3) := by decide +kernel
theorem dK2_settle_11 : decode cK2_settle 11 = .ok (.goto 7, 3) := by decide +kernel
theorem dK2_settle_14 : decode cK2_settle 14 = .ok (.aload_n 2, 1) := by decide +kernel
theorem dK2_settle_15 : decode cK2_settle 15 = .ok (.getfield 146, 3) := by decide +kernel
theorem dK2_settle_18 : decode cK2_settle 18 = .ok (.istore 4, 2) := by decide +kernel
theorem dK2_settle_20 : decode cK2_settle 20 = .ok (.aload_n 1, 1) := by decide +kernel
theorem dK2_settle_21 : decode cK2_settle 21 = .ok (.getfield 145, 3) := by decide +kernel
theorem dK2_settle_24 : decode cK2_settle 24 = .ok (.ifCond .ne 10, 3) := by decide +kernel
theorem dK2_settle_27 : decode cK2_settle 27 = .ok (.aload_n 2, 1) := by decide +kernel
theorem dK2_settle_28 : decode cK2_settle 28 = .ok (.getfield 146, 3) := by decide +kernel
theorem dK2_settle_31 : decode cK2_settle 31 = .ok (.goto 7, 3) := by decide +kernel
theorem dK2_settle_34 : decode cK2_settle 34 = .ok (.aload_n 1, 1) := by decide +kernel
theorem dK2_settle_35 : decode cK2_settle 35 = .ok (.getfield 146, 3) := by decide +kernel
theorem dK2_settle_38 : decode cK2_settle 38 = .ok (.istore 5, 2) := by decide +kernel
theorem dK2_settle_40 : decode cK2_settle 40 = .ok (.iload_n 3, 1) := by decide +kernel
theorem dK2_settle_41 : decode cK2_settle 41 = .ok (.i2l, 1) := by decide +kernel
theorem dK2_settle_42 : decode cK2_settle 42 = .ok (.aload_n 2, 1) := by decide +kernel
theorem dK2_settle_43 : decode cK2_settle 43 = .ok (.getfield 99, 3) := by decide +kernel
theorem dK2_settle_46 : decode cK2_settle 46 = .ok (.i2l, 1) := by decide +kernel
theorem dK2_settle_47 : decode cK2_settle 47 = .ok (.lmul, 1) := by decide +kernel
theorem dK2_settle_48 : decode cK2_settle 48 = .ok (.lstore 6, 2) := by decide +kernel
theorem dK2_settle_50 : decode cK2_settle 50 = .ok (.aload_n 0, 1) := by decide +kernel
theorem dK2_settle_51 : decode cK2_settle 51 = .ok (.getfield 11, 3) := by decide +kernel
theorem dK2_settle_54 : decode cK2_settle 54 = .ok (.iload 4, 2) := by decide +kernel
theorem dK2_settle_56 : decode cK2_settle 56 = .ok (.aaload, 1) := by decide +kernel
theorem dK2_settle_57 : decode cK2_settle 57 = .ok (.dup, 1) := by decide +kernel
theorem dK2_settle_58 : decode cK2_settle 58 = .ok (.getfield 74, 3) := by decide +kernel
theorem dK2_settle_61 : decode cK2_settle 61 = .ok (.lload 6, 2) := by decide +kernel
theorem dK2_settle_63 : decode cK2_settle 63 = .ok (.lsub, 1) := by decide +kernel
theorem dK2_settle_64 : decode cK2_settle 64 = .ok (.putfield 74, 3) := by decide +kernel
theorem dK2_settle_67 : decode cK2_settle 67 = .ok (.aload_n 0, 1) := by decide +kernel
theorem dK2_settle_68 : decode cK2_settle 68 = .ok (.getfield 11, 3) := by decide +kernel
theorem dK2_settle_71 : decode cK2_settle 71 = .ok (.iload 4, 2) := by decide +kernel
theorem dK2_settle_73 : decode cK2_settle 73 = .ok (.aaload, 1) := by decide +kernel
theorem dK2_settle_74 : decode cK2_settle 74 = .ok (.dup, 1) := by decide +kernel
theorem dK2_settle_75 : decode cK2_settle 75 = .ok (.getfield 67, 3) := by decide +kernel
theorem dK2_settle_78 : decode cK2_settle 78 = .ok (.iload_n 3, 1) := by decide +kernel
theorem dK2_settle_79 : decode cK2_settle 79 = .ok (.i2l, 1) := by decide +kernel
theorem dK2_settle_80 : decode cK2_settle 80 = .ok (.ladd, 1) := by decide +kernel
theorem dK2_settle_81 : decode cK2_settle 81 = .ok (.putfield 67, 3) := by decide +kernel
theorem dK2_settle_84 : decode cK2_settle 84 = .ok (.aload_n 0, 1) := by decide +kernel
theorem dK2_settle_85 : decode cK2_settle 85 = .ok (.getfield 11, 3) := by decide +kernel
theorem dK2_settle_88 : decode cK2_settle 88 = .ok (.iload 5, 2) := by decide +kernel
theorem dK2_settle_90 : decode cK2_settle 90 = .ok (.aaload, 1) := by decide +kernel
theorem dK2_settle_91 : decode cK2_settle 91 = .ok (.dup, 1) := by decide +kernel
theorem dK2_settle_92 : decode cK2_settle 92 = .ok (.getfield 74, 3) := by decide +kernel
theorem dK2_settle_95 : decode cK2_settle 95 = .ok (.lload 6, 2) := by decide +kernel
theorem dK2_settle_97 : decode cK2_settle 97 = .ok (.ladd, 1) := by decide +kernel
theorem dK2_settle_98 : decode cK2_settle 98 = .ok (.putfield 74, 3) := by decide +kernel
theorem dK2_settle_101 : decode cK2_settle 101 = .ok (.aload_n 0, 1) := by decide +kernel
theorem dK2_settle_102 : decode cK2_settle 102 = .ok (.getfield 11, 3) := by decide +kernel
theorem dK2_settle_105 : decode cK2_settle 105 = .ok (.iload 5, 2) := by decide +kernel
theorem dK2_settle_107 : decode cK2_settle 107 = .ok (.aaload, 1) := by decide +kernel
theorem dK2_settle_108 : decode cK2_settle 108 = .ok (.dup, 1) := by decide +kernel
theorem dK2_settle_109 : decode cK2_settle 109 = .ok (.getfield 67, 3) := by decide +kernel
theorem dK2_settle_112 : decode cK2_settle 112 = .ok (.iload_n 3, 1) := by decide +kernel
theorem dK2_settle_113 : decode cK2_settle 113 = .ok (.i2l, 1) := by decide +kernel
theorem dK2_settle_114 : decode cK2_settle 114 = .ok (.lsub, 1) := by decide +kernel
theorem dK2_settle_115 : decode cK2_settle 115 = .ok (.putfield 67, 3) := by decide +kernel
theorem dK2_settle_118 : decode cK2_settle 118 = .ok (.aload_n 0, 1) := by decide +kernel
theorem dK2_settle_119 : decode cK2_settle 119 = .ok (.aload_n 2, 1) := by decide +kernel
theorem dK2_settle_120 : decode cK2_settle 120 = .ok (.iload_n 3, 1) := by decide +kernel
theorem dK2_settle_121 : decode cK2_settle 121 = .ok (.ineg, 1) := by decide +kernel
theorem dK2_settle_122 : decode cK2_settle 122 = .ok (.invokevirtual 123, 3) := by decide +kernel
theorem dK2_settle_125 : decode cK2_settle 125 = .ok (.aload_n 1, 1) := by decide +kernel
theorem dK2_settle_126 : decode cK2_settle 126 = .ok (.dup, 1) := by decide +kernel
theorem dK2_settle_127 : decode cK2_settle 127 = .ok (.getfield 104, 3) := by decide +kernel
theorem dK2_settle_130 : decode cK2_settle 130 = .ok (.iload_n 3, 1) := by decide +kernel
theorem dK2_settle_131 : decode cK2_settle 131 = .ok (.isub, 1) := by decide +kernel
theorem dK2_settle_132 : decode cK2_settle 132 = .ok (.putfield 104, 3) := by decide +kernel
theorem dK2_settle_135 : decode cK2_settle 135 = .ok (.aload_n 2, 1) := by decide +kernel
theorem dK2_settle_136 : decode cK2_settle 136 = .ok (.dup, 1) := by decide +kernel
theorem dK2_settle_137 : decode cK2_settle 137 = .ok (.getfield 104, 3) := by decide +kernel
theorem dK2_settle_140 : decode cK2_settle 140 = .ok (.iload_n 3, 1) := by decide +kernel
theorem dK2_settle_141 : decode cK2_settle 141 = .ok (.isub, 1) := by decide +kernel
theorem dK2_settle_142 : decode cK2_settle 142 = .ok (.putfield 104, 3) := by decide +kernel
theorem dK2_settle_145 : decode cK2_settle 145 = .ok (.aload_n 2, 1) := by decide +kernel
theorem dK2_settle_146 : decode cK2_settle 146 = .ok (.getfield 104, 3) := by decide +kernel
theorem dK2_settle_149 : decode cK2_settle 149 = .ok (.ifCond .ne 8, 3) := by decide +kernel
theorem dK2_settle_152 : decode cK2_settle 152 = .ok (.aload_n 2, 1) := by decide +kernel
theorem dK2_settle_153 : decode cK2_settle 153 = .ok (.iconst 2, 1) := by decide +kernel
theorem dK2_settle_154 : decode cK2_settle 154 = .ok (.putfield 114, 3) := by decide +kernel
theorem dK2_settle_157 : decode cK2_settle 157 = .ok (.aload_n 0, 1) := by decide +kernel
theorem dK2_settle_158 : decode cK2_settle 158 = .ok (.aload_n 2, 1) := by decide +kernel
theorem dK2_settle_159 : decode cK2_settle 159 = .ok (.getfield 99, 3) := by decide +kernel
theorem dK2_settle_162 : decode cK2_settle 162 = .ok (.putfield 168, 3) := by decide +kernel
theorem dK2_settle_165 : decode cK2_settle 165 = .ok (.aload_n 0, 1) := by decide +kernel
theorem dK2_settle_166 : decode cK2_settle 166 = .ok (.getfield 27, 3) := by decide +kernel
theorem dK2_settle_169 : decode cK2_settle 169 = .ok (.iload 4, 2) := by decide +kernel
theorem dK2_settle_171 : decode cK2_settle 171 = .ok (.iload 5, 2) := by decide +kernel
theorem dK2_settle_173 : decode cK2_settle 173 = .ok (.aload_n 2, 1) := by decide +kernel
theorem dK2_settle_174 : decode cK2_settle 174 = .ok (.getfield 99, 3) := by decide +kernel
theorem dK2_settle_177 : decode cK2_settle 177 = .ok (.iload_n 3, 1) := by decide +kernel
theorem dK2_settle_178 : decode cK2_settle 178 = .ok (.invokevirtual 171, 3) := by decide +kernel
theorem dK2_settle_181 : decode cK2_settle 181 = .ok (.return_, 1) := by decide +kernel
theorem dK2_hold_0 : decode cK2_hold 0 = .ok (.aload_n 0, 1) := by decide +kernel
theorem dK2_hold_1 : decode cK2_hold 1 = .ok (.getfield 11, 3) := by decide +kernel
theorem dK2_hold_4 : decode cK2_hold 4 = .ok (.aload_n 1, 1) := by decide +kernel
theorem dK2_hold_5 : decode cK2_hold 5 = .ok (.getfield 146, 3) := by decide +kernel
theorem dK2_hold_8 : decode cK2_hold 8 = .ok (.aaload, 1) := by decide +kernel
theorem dK2_hold_9 : decode cK2_hold 9 = .ok (.astore_n 3, 1) := by decide +kernel
theorem dK2_hold_10 : decode cK2_hold 10 = .ok (.aload_n 1, 1) := by decide +kernel
theorem dK2_hold_11 : decode cK2_hold 11 = .ok (.getfield 145, 3) := by decide +kernel
theorem dK2_hold_14 : decode cK2_hold 14 = .ok (.iconst 1, 1) := by decide +kernel
theorem dK2_hold_15 : decode cK2_hold 15 = .ok (.if_icmp .ne 17, 3) := by decide +kernel
theorem dK2_hold_18 : decode cK2_hold 18 = .ok (.aload_n 3, 1) := by decide +kernel
theorem dK2_hold_19 : decode cK2_hold 19 = .ok (.dup, 1) := by decide +kernel
theorem dK2_hold_20 : decode cK2_hold 20 = .ok (.getfield 175, 3) := by decide +kernel
theorem dK2_hold_23 : decode cK2_hold 23 = .ok (.iload_n 2, 1) := by decide +kernel
theorem dK2_hold_24 : decode cK2_hold 24 = .ok (.i2l, 1) := by decide +kernel
theorem dK2_hold_25 : decode cK2_hold 25 = .ok (.ladd, 1) := by decide +kernel
theorem dK2_hold_26 : decode cK2_hold 26 = .ok (.putfield 175, 3) := by decide +kernel
theorem dK2_hold_29 : decode cK2_hold 29 = .ok (.goto 20, 3) := by decide +kernel
theorem dK2_hold_32 : decode cK2_hold 32 = .ok (.aload_n 3, 1) := by decide +kernel
theorem dK2_hold_33 : decode cK2_hold 33 = .ok (.dup, 1) := by decide +kernel
theorem dK2_hold_34 : decode cK2_hold 34 = .ok (.getfield 178, 3) := by decide +kernel
theorem dK2_hold_37 : decode cK2_hold 37 = .ok (.iload_n 2, 1) := by decide +kernel
theorem dK2_hold_38 : decode cK2_hold 38 = .ok (.i2l, 1) := by decide +kernel
theorem dK2_hold_39 : decode cK2_hold 39 = .ok (.aload_n 1, 1) := by decide +kernel
theorem dK2_hold_40 : decode cK2_hold 40 = .ok (.getfield 99, 3) := by decide +kernel
theorem dK2_hold_43 : decode cK2_hold 43 = .ok (.i2l, 1) := by decide +kernel
theorem dK2_hold_44 : decode cK2_hold 44 = .ok (.lmul, 1) := by decide +kernel
theorem dK2_hold_45 : decode cK2_hold 45 = .ok (.ladd, 1) := by decide +kernel
theorem dK2_hold_46 : decode cK2_hold 46 = .ok (.putfield 178, 3) := by decide +kernel
theorem dK2_hold_49 : decode cK2_hold 49 = .ok (.return_, 1) := by decide +kernel
theorem dK2_cancel_0 : decode cK2_cancel 0 = .ok (.aload_n 1, 1) := by decide +kernel
theorem dK2_cancel_1 : decode cK2_cancel 1 = .ok (.getfield 114, 3) := by decide +kernel
theorem dK2_cancel_4 : decode cK2_cancel 4 = .ok (.ifCond .ne 13, 3) := by decide +kernel
theorem dK2_cancel_7 : decode cK2_cancel 7 = .ok (.aload_n 0, 1) := by decide +kernel
theorem dK2_cancel_8 : decode cK2_cancel 8 = .ok (.aload_n 1, 1) := by decide +kernel
theorem dK2_cancel_9 : decode cK2_cancel 9 = .ok (.aload_n 1, 1) := by decide +kernel
theorem dK2_cancel_10 : decode cK2_cancel 10 = .ok (.getfield 104, 3) := by decide +kernel
theorem dK2_cancel_13 : decode cK2_cancel 13 = .ok (.ineg, 1) := by decide +kernel
theorem dK2_cancel_14 : decode cK2_cancel 14 = .ok (.invokevirtual 123, 3) := by decide +kernel
theorem dK2_cancel_17 : decode cK2_cancel 17 = .ok (.aload_n 1, 1) := by decide +kernel
theorem dK2_cancel_18 : decode cK2_cancel 18 = .ok (.iconst 2, 1) := by decide +kernel
theorem dK2_cancel_19 : decode cK2_cancel 19 = .ok (.putfield 114, 3) := by decide +kernel
theorem dK2_cancel_22 : decode cK2_cancel 22 = .ok (.return_, 1) := by decide +kernel
theorem dK2_cancelAsked_0 : decode cK2_cancelAsked 0 = .ok (.aload_n 0, 1) := by decide +kernel
theorem dK2_cancelAsked_1 : decode cK2_cancelAsked 1 = .ok (.aload_n 1, 1) := by decide +kernel
theorem dK2_cancelAsked_2 : decode cK2_cancelAsked 2 = .ok (.invokevirtual 181, 3) := by decide +kernel
theorem dK2_cancelAsked_5 : decode cK2_cancelAsked 5 = .ok (.istore_n 2, 1) := by decide +kernel
theorem dK2_cancelAsked_6 : decode cK2_cancelAsked 6 = .ok (.iload_n 2, 1) := by decide +kernel
theorem dK2_cancelAsked_7 : decode cK2_cancelAsked 7 = .ok (.ifCond .eq 5, 3) := by decide +kernel
theorem dK2_cancelAsked_10 : decode cK2_cancelAsked 10 = .ok (.iload_n 2, 1) := by decide +kernel
theorem dK2_cancelAsked_11 : decode cK2_cancelAsked 11 = .ok (.ireturn, 1) := by decide +kernel
theorem dK2_cancelAsked_12 : decode cK2_cancelAsked 12 = .ok (.aload_n 0, 1) := by decide +kernel
theorem dK2_cancelAsked_13 : decode cK2_cancelAsked 13 = .ok (.getfield 20, 3) := by decide +kernel
theorem dK2_cancelAsked_16 : decode cK2_cancelAsked 16 = .ok (.getfield 95, 3) := by decide +kernel
theorem dK2_cancelAsked_19 : decode cK2_cancelAsked 19 = .ok (.aload_n 1, 1) := by decide +kernel
theorem dK2_cancelAsked_20 : decode cK2_cancelAsked 20 = .ok (.getfield 184, 3) := by decide +kernel
theorem dK2_cancelAsked_23 : decode cK2_cancelAsked 23 = .ok (.aaload, 1) := by decide +kernel
theorem dK2_cancelAsked_24 : decode cK2_cancelAsked 24 = .ok (.astore_n 3, 1) := by decide +kernel
theorem dK2_cancelAsked_25 : decode cK2_cancelAsked 25 = .ok (.aload_n 0, 1) := by decide +kernel
theorem dK2_cancelAsked_26 : decode cK2_cancelAsked 26 = .ok (.aload_n 3, 1) := by decide +kernel
theorem dK2_cancelAsked_27 : decode cK2_cancelAsked 27 = .ok (.invokevirtual 147, 3) := by decide +kernel
theorem dK2_cancelAsked_30 : decode cK2_cancelAsked 30 = .ok (.aload_n 3, 1) := by decide +kernel
theorem dK2_cancelAsked_31 : decode cK2_cancelAsked 31 = .ok (.getfield 104, 3) := by decide +kernel
theorem dK2_cancelAsked_34 : decode cK2_cancelAsked 34 = .ok (.ireturn, 1) := by decide +kernel
theorem dK2_lessen_0 : decode cK2_lessen 0 = .ok (.aload_n 0, 1) := by decide +kernel
theorem dK2_lessen_1 : decode cK2_lessen 1 = .ok (.aload_n 1, 1) := by decide +kernel
theorem dK2_lessen_2 : decode cK2_lessen 2 = .ok (.invokevirtual 181, 3) := by decide +kernel
theorem dK2_lessen_5 : decode cK2_lessen 5 = .ok (.istore_n 2, 1) := by decide +kernel
theorem dK2_lessen_6 : decode cK2_lessen 6 = .ok (.iload_n 2, 1) := by decide +kernel
theorem dK2_lessen_7 : decode cK2_lessen 7 = .ok (.ifCond .eq 5, 3) := by decide +kernel
theorem dK2_lessen_10 : decode cK2_lessen 10 = .ok (.iload_n 2, 1) := by decide +kernel
theorem dK2_lessen_11 : decode cK2_lessen 11 = .ok (.ireturn, 1) := by decide +kernel
