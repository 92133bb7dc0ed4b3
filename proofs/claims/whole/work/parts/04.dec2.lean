theorem dX10_init_0 : decode cX10_init 0 = .ok (.aload_n 0, 1) := by decide +kernel
theorem dX10_init_1 : decode cX10_init 1 = .ok (.invokespecial 1, 3) := by decide +kernel
theorem dX10_init_4 : decode cX10_init 4 = .ok (.aload_n 0, 1) := by decide +kernel
theorem dX10_init_5 : decode cX10_init 5 = .ok (.sipush 9033, 3) := by decide +kernel
theorem dX10_init_8 : decode cX10_init 8 = .ok (.newarray .int, 2) := by decide +kernel
theorem dX10_init_10 : decode cX10_init 10 = .ok (.putfield 7, 3) := by decide +kernel
theorem dX10_init_13 : decode cX10_init 13 = .ok (.aload_n 0, 1) := by decide +kernel
theorem dX10_init_14 : decode cX10_init 14 = .ok (.sipush 9033, 3) := by decide +kernel
theorem dX10_init_17 : decode cX10_init 17 = .ok (.newarray .int, 2) := by decide +kernel
theorem dX10_init_19 : decode cX10_init 19 = .ok (.putfield 13, 3) := by decide +kernel
theorem dX10_init_22 : decode cX10_init 22 = .ok (.aload_n 0, 1) := by decide +kernel
theorem dX10_init_23 : decode cX10_init 23 = .ok (.sipush 148, 3) := by decide +kernel
theorem dX10_init_26 : decode cX10_init 26 = .ok (.newarray .int, 2) := by decide +kernel
theorem dX10_init_28 : decode cX10_init 28 = .ok (.putfield 16, 3) := by decide +kernel
theorem dX10_init_31 : decode cX10_init 31 = .ok (.aload_n 0, 1) := by decide +kernel
theorem dX10_init_32 : decode cX10_init 32 = .ok (.sipush 300, 3) := by decide +kernel
theorem dX10_init_35 : decode cX10_init 35 = .ok (.newarray .int, 2) := by decide +kernel
theorem dX10_init_37 : decode cX10_init 37 = .ok (.putfield 19, 3) := by decide +kernel
theorem dX10_init_40 : decode cX10_init 40 = .ok (.aload_n 0, 1) := by decide +kernel
theorem dX10_init_41 : decode cX10_init 41 = .ok (.iconst (-1), 1) := by decide +kernel
theorem dX10_init_42 : decode cX10_init 42 = .ok (.putfield 22, 3) := by decide +kernel
theorem dX10_init_45 : decode cX10_init 45 = .ok (.aload_n 0, 1) := by decide +kernel
theorem dX10_init_46 : decode cX10_init 46 = .ok (.iconst (-1), 1) := by decide +kernel
theorem dX10_init_47 : decode cX10_init 47 = .ok (.putfield 26, 3) := by decide +kernel
theorem dX10_init_50 : decode cX10_init 50 = .ok (.aload_n 0, 1) := by decide +kernel
theorem dX10_init_51 : decode cX10_init 51 = .ok (.bipush 8, 2) := by decide +kernel
theorem dX10_init_53 : decode cX10_init 53 = .ok (.newarray .int, 2) := by decide +kernel
theorem dX10_init_55 : decode cX10_init 55 = .ok (.putfield 29, 3) := by decide +kernel
theorem dX10_init_58 : decode cX10_init 58 = .ok (.aload_n 0, 1) := by decide +kernel
theorem dX10_init_59 : decode cX10_init 59 = .ok (.bipush 24, 2) := by decide +kernel
theorem dX10_init_61 : decode cX10_init 61 = .ok (.newarray .long, 2) := by decide +kernel
theorem dX10_init_63 : decode cX10_init 63 = .ok (.putfield 32, 3) := by decide +kernel
theorem dX10_init_66 : decode cX10_init 66 = .ok (.aload_n 0, 1) := by decide +kernel
theorem dX10_init_67 : decode cX10_init 67 = .ok (.sipush 430, 3) := by decide +kernel
theorem dX10_init_70 : decode cX10_init 70 = .ok (.newarray .int, 2) := by decide +kernel
theorem dX10_init_72 : decode cX10_init 72 = .ok (.putfield 36, 3) := by decide +kernel
theorem dX10_init_75 : decode cX10_init 75 = .ok (.aload_n 0, 1) := by decide +kernel
theorem dX10_init_76 : decode cX10_init 76 = .ok (.bipush 24, 2) := by decide +kernel
theorem dX10_init_78 : decode cX10_init 78 = .ok (.newarray .long, 2) := by decide +kernel
theorem dX10_init_80 : decode cX10_init 80 = .ok (.putfield 39, 3) := by decide +kernel
theorem dX10_init_83 : decode cX10_init 83 = .ok (.aload_n 0, 1) := by decide +kernel
theorem dX10_init_84 : decode cX10_init 84 = .ok (.iconst 4, 1) := by decide +kernel
theorem dX10_init_85 : decode cX10_init 85 = .ok (.newarray .int, 2) := by decide +kernel
theorem dX10_init_87 : decode cX10_init 87 = .ok (.putfield 42, 3) := by decide +kernel
theorem dX10_init_90 : decode cX10_init 90 = .ok (.aload_n 0, 1) := by decide +kernel
theorem dX10_init_91 : decode cX10_init 91 = .ok (.bipush 48, 2) := by decide +kernel
theorem dX10_init_93 : decode cX10_init 93 = .ok (.newarray .int, 2) := by decide +kernel
theorem dX10_init_95 : decode cX10_init 95 = .ok (.putfield 45, 3) := by decide +kernel
theorem dX10_init_98 : decode cX10_init 98 = .ok (.aload_n 0, 1) := by decide +kernel
theorem dX10_init_99 : decode cX10_init 99 = .ok (.bipush 8, 2) := by decide +kernel
theorem dX10_init_101 : decode cX10_init 101 = .ok (.newarray .int, 2) := by decide +kernel
theorem dX10_init_103 : decode cX10_init 103 = .ok (.putfield 48, 3) := by decide +kernel
theorem dX10_init_106 : decode cX10_init 106 = .ok (.aload_n 0, 1) := by decide +kernel
theorem dX10_init_107 : decode cX10_init 107 = .ok (.iconst 4, 1) := by decide +kernel
theorem dX10_init_108 : decode cX10_init 108 = .ok (.newarray .int, 2) := by decide +kernel
theorem dX10_init_110 : decode cX10_init 110 = .ok (.putfield 51, 3) := by decide +kernel
theorem dX10_init_113 : decode cX10_init 113 = .ok (.aload_n 0, 1) := by decide +kernel
theorem dX10_init_114 : decode cX10_init 114 = .ok (.getfield 7, 3) := by decide +kernel
theorem dX10_init_117 : decode cX10_init 117 = .ok (.iconst 3, 1) := by decide +kernel
theorem dX10_init_118 : decode cX10_init 118 = .ok (.iconst 1, 1) := by decide +kernel
theorem dX10_init_119 : decode cX10_init 119 = .ok (.iastore, 1) := by decide +kernel
theorem dX10_init_120 : decode cX10_init 120 = .ok (.aload_n 0, 1) := by decide +kernel
theorem dX10_init_121 : decode cX10_init 121 = .ok (.getfield 7, 3) := by decide +kernel
theorem dX10_init_124 : decode cX10_init 124 = .ok (.iconst 4, 1) := by decide +kernel
theorem dX10_init_125 : decode cX10_init 125 = .ok (.iconst 1, 1) := by decide +kernel
theorem dX10_init_126 : decode cX10_init 126 = .ok (.iastore, 1) := by decide +kernel
theorem dX10_init_127 : decode cX10_init 127 = .ok (.aload_n 0, 1) := by decide +kernel
theorem dX10_init_128 : decode cX10_init 128 = .ok (.getfield 7, 3) := by decide +kernel
theorem dX10_init_131 : decode cX10_init 131 = .ok (.iconst 5, 1) := by decide +kernel
theorem dX10_init_132 : decode cX10_init 132 = .ok (.iconst 2, 1) := by decide +kernel
theorem dX10_init_133 : decode cX10_init 133 = .ok (.iastore, 1) := by decide +kernel
theorem dX10_init_134 : decode cX10_init 134 = .ok (.aload_n 0, 1) := by decide +kernel
theorem dX10_init_135 : decode cX10_init 135 = .ok (.getfield 7, 3) := by decide +kernel
theorem dX10_init_138 : decode cX10_init 138 = .ok (.bipush 6, 2) := by decide +kernel
theorem dX10_init_140 : decode cX10_init 140 = .ok (.iconst 1, 1) := by decide +kernel
theorem dX10_init_141 : decode cX10_init 141 = .ok (.iastore, 1) := by decide +kernel
theorem dX10_init_142 : decode cX10_init 142 = .ok (.aload_n 0, 1) := by decide +kernel
theorem dX10_init_143 : decode cX10_init 143 = .ok (.getfield 7, 3) := by decide +kernel
theorem dX10_init_146 : decode cX10_init 146 = .ok (.bipush 7, 2) := by decide +kernel
theorem dX10_init_148 : decode cX10_init 148 = .ok (.bipush 15, 2) := by decide +kernel
theorem dX10_init_150 : decode cX10_init 150 = .ok (.iastore, 1) := by decide +kernel
theorem dX10_init_151 : decode cX10_init 151 = .ok (.aload_n 0, 1) := by decide +kernel
theorem dX10_init_152 : decode cX10_init 152 = .ok (.getfield 7, 3) := by decide +kernel
theorem dX10_init_155 : decode cX10_init 155 = .ok (.bipush 12, 2) := by decide +kernel
theorem dX10_init_157 : decode cX10_init 157 = .ok (.sipush 613, 3) := by decide +kernel
theorem dX10_init_160 : decode cX10_init 160 = .ok (.iastore, 1) := by decide +kernel
theorem dX10_init_161 : decode cX10_init 161 = .ok (.aload_n 0, 1) := by decide +kernel
theorem dX10_init_162 : decode cX10_init 162 = .ok (.iconst 0, 1) := by decide +kernel
theorem dX10_init_163 : decode cX10_init 163 = .ok (.invokevirtual 54, 3) := by decide +kernel
theorem dX10_init_166 : decode cX10_init 166 = .ok (.aload_n 0, 1) := by decide +kernel
theorem dX10_init_167 : decode cX10_init 167 = .ok (.getfield 7, 3) := by decide +kernel
theorem dX10_init_170 : decode cX10_init 170 = .ok (.aload_n 0, 1) := by decide +kernel
theorem dX10_init_171 : decode cX10_init 171 = .ok (.getfield 13, 3) := by decide +kernel
theorem dX10_init_174 : decode cX10_init 174 = .ok (.invokestatic 58, 3) := by decide +kernel
theorem dX10_init_177 : decode cX10_init 177 = .ok (.return_, 1) := by decide +kernel
theorem dX10_copy_0 : decode cX10_copy 0 = .ok (.iconst 0, 1) := by decide +kernel
theorem dX10_copy_1 : decode cX10_copy 1 = .ok (.istore_n 2, 1) := by decide +kernel
theorem dX10_copy_2 : decode cX10_copy 2 = .ok (.iload_n 2, 1) := by decide +kernel
theorem dX10_copy_3 : decode cX10_copy 3 = .ok (.sipush 9033, 3) := by decide +kernel
theorem dX10_copy_6 : decode cX10_copy 6 = .ok (.if_icmp .ge 15, 3) := by decide +kernel
theorem dX10_copy_9 : decode cX10_copy 9 = .ok (.aload_n 1, 1) := by decide +kernel
theorem dX10_copy_10 : decode cX10_copy 10 = .ok (.iload_n 2, 1) := by decide +kernel
theorem dX10_copy_11 : decode cX10_copy 11 = .ok (.aload_n 0, 1) := by decide +kernel
theorem dX10_copy_12 : decode cX10_copy 12 = .ok (.iload_n 2, 1) := by decide +kernel
theorem dX10_copy_13 : decode cX10_copy 13 = .ok (.iaload, 1) := by decide +kernel
theorem dX10_copy_14 : decode cX10_copy 14 = .ok (.iastore, 1) := by decide +kernel
theorem dX10_copy_15 : decode cX10_copy 15 = .ok (.iinc 2 1, 3) := by decide +kernel
theorem dX10_copy_18 : decode cX10_copy 18 = .ok (.goto (-16), 3) := by decide +kernel
theorem dX10_copy_21 : decode cX10_copy 21 = .ok (.return_, 1) := by decide +kernel
theorem dX10_isIn_0 : decode cX10_isIn 0 = .ok (.iload_n 0, 1) := by decide +kernel
theorem dX10_isIn_1 : decode cX10_isIn 1 = .ok (.iload_n 1, 1) := by decide +kernel
theorem dX10_isIn_2 : decode cX10_isIn 2 = .ok (.if_icmp .lt 12, 3) := by decide +kernel
theorem dX10_isIn_5 : decode cX10_isIn 5 = .ok (.iload_n 0, 1) := by decide +kernel
theorem dX10_isIn_6 : decode cX10_isIn 6 = .ok (.iload_n 2, 1) := by decide +kernel
theorem dX10_isIn_7 : decode cX10_isIn 7 = .ok (.if_icmp .gt 7, 3) := by decide +kernel
theorem dX10_isIn_10 : decode cX10_isIn 10 = .ok (.iconst 1, 1) := by decide +kernel
theorem dX10_isIn_11 : decode cX10_isIn 11 = .ok (.goto 4, 3) := by decide +kernel
theorem dX10_isIn_14 : decode cX10_isIn 14 = .ok (.iconst 0, 1) := by decide +kernel
theorem dX10_isIn_15 : decode cX10_isIn 15 = .ok (.ireturn, 1) := by decide +kernel
theorem dX10_held_0 : decode cX10_held 0 = .ok (.iload_n 0, 1) := by decide +kernel
theorem dX10_held_1 : decode cX10_held 1 = .ok (.iload_n 1, 1) := by decide +kernel
theorem dX10_held_2 : decode cX10_held 2 = .ok (.if_icmp .ge 7, 3) := by decide +kernel
theorem dX10_held_5 : decode cX10_held 5 = .ok (.iload_n 1, 1) := by decide +kernel
theorem dX10_held_6 : decode cX10_held 6 = .ok (.goto 13, 3) := by decide +kernel
theorem dX10_held_9 : decode cX10_held 9 = .ok (.iload_n 0, 1) := by decide +kernel
theorem dX10_held_10 : decode cX10_held 10 = .ok (.iload_n 2, 1) := by decide +kernel
theorem dX10_held_11 : decode cX10_held 11 = .ok (.if_icmp .le 7, 3) := by decide +kernel
theorem dX10_held_14 : decode cX10_held 14 = .ok (.iload_n 2, 1) := by decide +kernel
theorem dX10_held_15 : decode cX10_held 15 = .ok (.goto 4, 3) := by decide +kernel
theorem dX10_held_18 : decode cX10_held 18 = .ok (.iload_n 0, 1) := by decide +kernel
theorem dX10_held_19 : decode cX10_held 19 = .ok (.ireturn, 1) := by decide +kernel
theorem dX10_sized_0 : decode cX10_sized 0 = .ok (.iload_n 0, 1) := by decide +kernel
theorem dX10_sized_1 : decode cX10_sized 1 = .ok (.ifCond .ge 8, 3) := by decide +kernel
theorem dX10_sized_4 : decode cX10_sized 4 = .ok (.iload_n 0, 1) := by decide +kernel
theorem dX10_sized_5 : decode cX10_sized 5 = .ok (.ineg, 1) := by decide +kernel
theorem dX10_sized_6 : decode cX10_sized 6 = .ok (.goto 4, 3) := by decide +kernel
theorem dX10_sized_9 : decode cX10_sized 9 = .ok (.iload_n 0, 1) := by decide +kernel
theorem dX10_sized_10 : decode cX10_sized 10 = .ok (.ireturn, 1) := by decide +kernel
theorem dX10_many_0 : decode cX10_many 0 = .ok (.iconst 0, 1) := by decide +kernel
theorem dX10_many_1 : decode cX10_many 1 = .ok (.istore_n 2, 1) := by decide +kernel
theorem dX10_many_2 : decode cX10_many 2 = .ok (.lload_n 0, 1) := by decide +kernel
theorem dX10_many_3 : decode cX10_many 3 = .ok (.lstore_n 3, 1) := by decide +kernel
theorem dX10_many_4 : decode cX10_many 4 = .ok (.lload_n 3, 1) := by decide +kernel
theorem dX10_many_5 : decode cX10_many 5 = .ok (.lconst 0, 1) := by decide +kernel
theorem dX10_many_6 : decode cX10_many 6 = .ok (.lcmp, 1) := by decide +kernel
theorem dX10_many_7 : decode cX10_many 7 = .ok (.ifCond .eq 15, 3) := by decide +kernel
theorem dX10_many_10 : decode cX10_many 10 = .ok (.iinc 2 1, 3) := by decide +kernel
theorem dX10_many_13 : decode cX10_many 13 = .ok (.lload_n 3, 1) := by decide +kernel
theorem dX10_many_14 : decode cX10_many 14 = .ok (.lload_n 3, 1) := by decide +kernel
theorem dX10_many_15 : decode cX10_many 15 = .ok (.lconst 1, 1) := by decide +kernel
theorem dX10_many_16 : decode cX10_many 16 = .ok (.lsub, 1) := by decide +kernel
theorem dX10_many_17 : decode cX10_many 17 = .ok (.land, 1) := by decide +kernel
theorem dX10_many_18 : decode cX10_many 18 = .ok (.lstore_n 3, 1) := by decide +kernel
theorem dX10_many_19 : decode cX10_many 19 = .ok (.goto (-15), 3) := by decide +kernel
theorem dX10_many_22 : decode cX10_many 22 = .ok (.iload_n 2, 1) := by decide +kernel
theorem dX10_many_23 : decode cX10_many 23 = .ok (.ireturn, 1) := by decide +kernel
theorem dX10_hasIt_0 : decode cX10_hasIt 0 = .ok (.lload_n 0, 1) := by decide +kernel
theorem dX10_hasIt_1 : decode cX10_hasIt 1 = .ok (.iload_n 2, 1) := by decide +kernel
theorem dX10_hasIt_2 : decode cX10_hasIt 2 = .ok (.lshr, 1) := by decide +kernel
theorem dX10_hasIt_3 : decode cX10_hasIt 3 = .ok (.lconst 1, 1) := by decide +kernel
theorem dX10_hasIt_4 : decode cX10_hasIt 4 = .ok (.land, 1) := by decide +kernel
theorem dX10_hasIt_5 : decode cX10_hasIt 5 = .ok (.lconst 1, 1) := by decide +kernel
theorem dX10_hasIt_6 : decode cX10_hasIt 6 = .ok (.lcmp, 1) := by decide +kernel
theorem dX10_hasIt_7 : decode cX10_hasIt 7 = .ok (.ifCond .ne 7, 3) := by decide +kernel
theorem dX10_hasIt_10 : decode cX10_hasIt 10 = .ok (.iconst 1, 1) := by decide +kernel
theorem dX10_hasIt_11 : decode cX10_hasIt 11 = .ok (.goto 4, 3) := by decide +kernel
theorem dX10_hasIt_14 : decode cX10_hasIt 14 = .ok (.iconst 0, 1) := by decide +kernel
theorem dX10_hasIt_15 : decode cX10_hasIt 15 = .ok (.ireturn, 1) := by decide +kernel
theorem dX10_lowest_0 : decode cX10_lowest 0 = .ok (.iconst 0, 1) := by decide +kernel
theorem dX10_lowest_1 : decode cX10_lowest 1 = .ok (.istore_n 2, 1) := by decide +kernel
theorem dX10_lowest_2 : decode cX10_lowest 2 = .ok (.lload_n 0, 1) := by decide +kernel
theorem dX10_lowest_3 : decode cX10_lowest 3 = .ok (.iload_n 2, 1) := by decide +kernel
theorem dX10_lowest_4 : decode cX10_lowest 4 = .ok (.invokestatic 62, 3) := by decide +kernel
theorem dX10_lowest_7 : decode cX10_lowest 7 = .ok (.ifCond .ne 9, 3) := by decide +kernel
theorem dX10_lowest_10 : decode cX10_lowest 10 = .ok (.iinc 2 1, 3) := by decide +kernel
theorem dX10_lowest_13 : decode cX10_lowest 13 = .ok (.goto (-11), 3) := by decide +kernel
theorem dX10_lowest_16 : decode cX10_lowest 16 = .ok (.iload_n 2, 1) := by decide +kernel
theorem dX10_lowest_17 : decode cX10_lowest 17 = .ok (.ireturn, 1) := by decide +kernel
theorem dX10_bits_0 : decode cX10_bits 0 = .ok (.aload_n 0, 1) := by decide +kernel
theorem dX10_bits_1 : decode cX10_bits 1 = .ok (.getfield 7, 3) := by decide +kernel
theorem dX10_bits_4 : decode cX10_bits 4 = .ok (.iconst 3, 1) := by decide +kernel
theorem dX10_bits_5 : decode cX10_bits 5 = .ok (.iaload, 1) := by decide +kernel
theorem dX10_bits_6 : decode cX10_bits 6 = .ok (.aload_n 0, 1) := by decide +kernel
theorem dX10_bits_7 : decode cX10_bits 7 = .ok (.getfield 7, 3) := by decide +kernel
theorem dX10_bits_10 : decode cX10_bits 10 = .ok (.iconst 5, 1) := by decide +kernel
theorem dX10_bits_11 : decode cX10_bits 11 = .ok (.iaload, 1) := by decide +kernel
theorem dX10_bits_12 : decode cX10_bits 12 = .ok (.imul, 1) := by decide +kernel
theorem dX10_bits_13 : decode cX10_bits 13 = .ok (.ireturn, 1) := by decide +kernel
theorem dX10_checks_0 : decode cX10_checks 0 = .ok (.aload_n 0, 1) := by decide +kernel
theorem dX10_checks_1 : decode cX10_checks 1 = .ok (.getfield 7, 3) := by decide +kernel
theorem dX10_checks_4 : decode cX10_checks 4 = .ok (.iconst 3, 1) := by decide +kernel
theorem dX10_checks_5 : decode cX10_checks 5 = .ok (.iaload, 1) := by decide +kernel
theorem dX10_checks_6 : decode cX10_checks 6 = .ok (.aload_n 0, 1) := by decide +kernel
theorem dX10_checks_7 : decode cX10_checks 7 = .ok (.getfield 7, 3) := by decide +kernel
theorem dX10_checks_10 : decode cX10_checks 10 = .ok (.iconst 4, 1) := by decide +kernel
theorem dX10_checks_11 : decode cX10_checks 11 = .ok (.iaload, 1) := by decide +kernel
theorem dX10_checks_12 : decode cX10_checks 12 = .ok (.imul, 1) := by decide +kernel
theorem dX10_checks_13 : decode cX10_checks 13 = .ok (.ireturn, 1) := by decide +kernel
theorem dX10_isBit_0 : decode cX10_isBit 0 = .ok (.iload_n 1, 1) := by decide +kernel
theorem dX10_isBit_1 : decode cX10_isBit 1 = .ok (.iconst 0, 1) := by decide +kernel
theorem dX10_isBit_2 : decode cX10_isBit 2 = .ok (.aload_n 0, 1) := by decide +kernel
theorem dX10_isBit_3 : decode cX10_isBit 3 = .ok (.invokevirtual 66, 3) := by decide +kernel
theorem dX10_isBit_6 : decode cX10_isBit 6 = .ok (.iconst 1, 1) := by decide +kernel
theorem dX10_isBit_7 : decode cX10_isBit 7 = .ok (.isub, 1) := by decide +kernel
theorem dX10_isBit_8 : decode cX10_isBit 8 = .ok (.invokestatic 70, 3) := by decide +kernel
theorem dX10_isBit_11 : decode cX10_isBit 11 = .ok (.ireturn, 1) := by decide +kernel
theorem dX10_isCheck_0 : decode cX10_isCheck 0 = .ok (.iload_n 1, 1) := by decide +kernel
theorem dX10_isCheck_1 : decode cX10_isCheck 1 = .ok (.iconst 0, 1) := by decide +kernel
theorem dX10_isCheck_2 : decode cX10_isCheck 2 = .ok (.aload_n 0, 1) := by decide +kernel
theorem dX10_isCheck_3 : decode cX10_isCheck 3 = .ok (.invokevirtual 74, 3) := by decide +kernel
theorem dX10_isCheck_6 : decode cX10_isCheck 6 = .ok (.iconst 1, 1) := by decide +kernel
theorem dX10_isCheck_7 : decode cX10_isCheck 7 = .ok (.isub, 1) := by decide +kernel
theorem dX10_isCheck_8 : decode cX10_isCheck 8 = .ok (.invokestatic 70, 3) := by decide +kernel
theorem dX10_isCheck_11 : decode cX10_isCheck 11 = .ok (.ireturn, 1) := by decide +kernel
theorem dX10_bitOf_0 : decode cX10_bitOf 0 = .ok (.aload_n 0, 1) := by decide +kernel
theorem dX10_bitOf_1 : decode cX10_bitOf 1 = .ok (.getfield 7, 3) := by decide +kernel
theorem dX10_bitOf_4 : decode cX10_bitOf 4 = .ok (.bipush 14, 2) := by decide +kernel
theorem dX10_bitOf_6 : decode cX10_bitOf 6 = .ok (.bipush 8, 2) := by decide +kernel
theorem dX10_bitOf_8 : decode cX10_bitOf 8 = .ok (.iload_n 1, 1) := by decide +kernel
theorem dX10_bitOf_9 : decode cX10_bitOf 9 = .ok (.aload_n 0, 1) := by decide +kernel
theorem dX10_bitOf_10 : decode cX10_bitOf 10 = .ok (.getfield 7, 3) := by decide +kernel
theorem dX10_bitOf_13 : decode cX10_bitOf 13 = .ok (.iconst 3, 1) := by decide +kernel
theorem dX10_bitOf_14 : decode cX10_bitOf 14 = .ok (.iaload, 1) := by decide +kernel
theorem dX10_bitOf_15 : decode cX10_bitOf 15 = .ok (.idiv, 1) := by decide +kernel
theorem dX10_bitOf_16 : decode cX10_bitOf 16 = .ok (.imul, 1) := by decide +kernel
theorem dX10_bitOf_17 : decode cX10_bitOf 17 = .ok (.iadd, 1) := by decide +kernel
theorem dX10_bitOf_18 : decode cX10_bitOf 18 = .ok (.iload_n 2, 1) := by decide +kernel
theorem dX10_bitOf_19 : decode cX10_bitOf 19 = .ok (.iadd, 1) := by decide +kernel
theorem dX10_bitOf_20 : decode cX10_bitOf 20 = .ok (.iaload, 1) := by decide +kernel
theorem dX10_bitOf_21 : decode cX10_bitOf 21 = .ok (.istore_n 3, 1) := by decide +kernel
theorem dX10_bitOf_22 : decode cX10_bitOf 22 = .ok (.iload_n 3, 1) := by decide +kernel
theorem dX10_bitOf_23 : decode cX10_bitOf 23 = .ok (.iconst (-1), 1) := by decide +kernel
theorem dX10_bitOf_24 : decode cX10_bitOf 24 = .ok (.if_icmp .ne 7, 3) := by decide +kernel
theorem dX10_bitOf_27 : decode cX10_bitOf 27 = .ok (.iconst (-1), 1) := by decide +kernel
theorem dX10_bitOf_28 : decode cX10_bitOf 28 = .ok (.goto 29, 3) := by decide +kernel
theorem dX10_bitOf_31 : decode cX10_bitOf 31 = .ok (.aload_n 0, 1) := by decide +kernel
theorem dX10_bitOf_32 : decode cX10_bitOf 32 = .ok (.getfield 7, 3) := by decide +kernel
theorem dX10_bitOf_35 : decode cX10_bitOf 35 = .ok (.iconst 3, 1) := by decide +kernel
theorem dX10_bitOf_36 : decode cX10_bitOf 36 = .ok (.iaload, 1) := by decide +kernel
theorem dX10_bitOf_37 : decode cX10_bitOf 37 = .ok (.iload_n 2, 1) := by decide +kernel
theorem dX10_bitOf_38 : decode cX10_bitOf 38 = .ok (.imul, 1) := by decide +kernel
theorem dX10_bitOf_39 : decode cX10_bitOf 39 = .ok (.iload_n 1, 1) := by decide +kernel
theorem dX10_bitOf_40 : decode cX10_bitOf 40 = .ok (.aload_n 0, 1) := by decide +kernel
theorem dX10_bitOf_41 : decode cX10_bitOf 41 = .ok (.getfield 7, 3) := by decide +kernel
theorem dX10_bitOf_44 : decode cX10_bitOf 44 = .ok (.iconst 3, 1) := by decide +kernel
theorem dX10_bitOf_45 : decode cX10_bitOf 45 = .ok (.iaload, 1) := by decide +kernel
theorem dX10_bitOf_46 : decode cX10_bitOf 46 = .ok (.irem, 1) := by decide +kernel
theorem dX10_bitOf_47 : decode cX10_bitOf 47 = .ok (.iload_n 3, 1) := by decide +kernel
theorem dX10_bitOf_48 : decode cX10_bitOf 48 = .ok (.iadd, 1) := by decide +kernel
theorem dX10_bitOf_49 : decode cX10_bitOf 49 = .ok (.aload_n 0, 1) := by decide +kernel
theorem dX10_bitOf_50 : decode cX10_bitOf 50 = .ok (.getfield 7, 3) := by decide +kernel
theorem dX10_bitOf_53 : decode cX10_bitOf 53 = .ok (.iconst 3, 1) := by decide +kernel
theorem dX10_bitOf_54 : decode cX10_bitOf 54 = .ok (.iaload, 1) := by decide +kernel
theorem dX10_bitOf_55 : decode cX10_bitOf 55 = .ok (.irem, 1) := by decide +kernel
theorem dX10_bitOf_56 : decode cX10_bitOf 56 = .ok (.iadd, 1) := by decide +kernel
theorem dX10_bitOf_57 : decode cX10_bitOf 57 = .ok (.ireturn, 1) := by decide +kernel
theorem dX10_checkSet_0 : decode cX10_checkSet 0 = .ok (.lconst 0, 1) := by decide +kernel
theorem dX10_checkSet_1 : decode cX10_checkSet 1 = .ok (.lstore_n 2, 1) := by decide +kernel
theorem dX10_checkSet_2 : decode cX10_checkSet 2 = .ok (.iconst 0, 1) := by decide +kernel
theorem dX10_checkSet_3 : decode cX10_checkSet 3 = .ok (.istore 4, 2) := by decide +kernel
theorem dX10_checkSet_5 : decode cX10_checkSet 5 = .ok (.iload 4, 2) := by decide +kernel
theorem dX10_checkSet_7 : decode cX10_checkSet 7 = .ok (.aload_n 0, 1) := by decide +kernel
theorem dX10_checkSet_8 : decode cX10_checkSet 8 = .ok (.getfield 7, 3) := by decide +kernel
theorem dX10_checkSet_11 : decode cX10_checkSet 11 = .ok (.iconst 5, 1) := by decide +kernel
theorem dX10_checkSet_12 : decode cX10_checkSet 12 = .ok (.iaload, 1) := by decide +kernel
theorem dX10_checkSet_13 : decode cX10_checkSet 13 = .ok (.if_icmp .ge 32, 3) := by decide +kernel
theorem dX10_checkSet_16 : decode cX10_checkSet 16 = .ok (.aload_n 0, 1) := by decide +kernel
theorem dX10_checkSet_17 : decode cX10_checkSet 17 = .ok (.iload_n 1, 1) := by decide +kernel
theorem dX10_checkSet_18 : decode cX10_checkSet 18 = .ok (.iload 4, 2) := by decide +kernel
theorem dX10_checkSet_20 : decode cX10_checkSet 20 = .ok (.invokevirtual 77, 3) := by decide +kernel
theorem dX10_checkSet_23 : decode cX10_checkSet 23 = .ok (.iconst (-1), 1) := by decide +kernel
theorem dX10_checkSet_24 : decode cX10_checkSet 24 = .ok (.if_icmp .eq 15, 3) := by decide +kernel
theorem dX10_checkSet_27 : decode cX10_checkSet 27 = .ok (.lload_n 2, 1) := by decide +kernel
theorem dX10_checkSet_28 : decode cX10_checkSet 28 = .ok (.lconst 1, 1) := by decide +kernel
theorem dX10_checkSet_29 : decode cX10_checkSet 29 = .ok (.aload_n 0, 1) := by decide +kernel
theorem dX10_checkSet_30 : decode cX10_checkSet 30 = .ok (.iload_n 1, 1) := by decide +kernel
theorem dX10_checkSet_31 : decode cX10_checkSet 31 = .ok (.iload 4, 2) := by decide +kernel
theorem dX10_checkSet_33 : decode cX10_checkSet 33 = .ok (.invokevirtual 77, 3) := by decide +kernel
theorem dX10_checkSet_36 : decode cX10_checkSet 36 = .ok (.lshl, 1) := by decide +kernel
theorem dX10_checkSet_37 : decode cX10_checkSet 37 = .ok (.lor, 1) := by decide +kernel
theorem dX10_checkSet_38 : decode cX10_checkSet 38 = .ok (.lstore_n 2, 1) := by decide +kernel
theorem dX10_checkSet_39 : decode cX10_checkSet 39 = .ok (.iinc 4 1, 3) := by decide +kernel
theorem dX10_checkSet_42 : decode cX10_checkSet 42 = .ok (.goto (-37), 3) := by decide +kernel
theorem dX10_checkSet_45 : decode cX10_checkSet 45 = .ok (.lload_n 2, 1) := by decide +kernel
theorem dX10_checkSet_46 : decode cX10_checkSet 46 = .ok (.lreturn, 1) := by decide +kernel
theorem dX10_hasBit_0 : decode cX10_hasBit 0 = .ok (.aload_n 0, 1) := by decide +kernel
theorem dX10_hasBit_1 : decode cX10_hasBit 1 = .ok (.iload_n 1, 1) := by decide +kernel
theorem dX10_hasBit_2 : decode cX10_hasBit 2 = .ok (.iload_n 2, 1) := by decide +kernel
theorem dX10_hasBit_3 : decode cX10_hasBit 3 = .ok (.aload_n 0, 1) := by decide +kernel
theorem dX10_hasBit_4 : decode cX10_hasBit 4 = .ok (.getfield 7, 3) := by decide +kernel
theorem dX10_hasBit_7 : decode cX10_hasBit 7 = .ok (.iconst 3, 1) := by decide +kernel
theorem dX10_hasBit_8 : decode cX10_hasBit 8 = .ok (.iaload, 1) := by decide +kernel
theorem dX10_hasBit_9 : decode cX10_hasBit 9 = .ok (.idiv, 1) := by decide +kernel
theorem dX10_hasBit_10 : decode cX10_hasBit 10 = .ok (.invokevirtual 77, 3) := by decide +kernel
theorem dX10_hasBit_13 : decode cX10_hasBit 13 = .ok (.iload_n 2, 1) := by decide +kernel
theorem dX10_hasBit_14 : decode cX10_hasBit 14 = .ok (.if_icmp .ne 7, 3) := by decide +kernel
theorem dX10_hasBit_17 : decode cX10_hasBit 17 = .ok (.iconst 1, 1) := by decide +kernel
theorem dX10_hasBit_18 : decode cX10_hasBit 18 = .ok (.goto 4, 3) := by decide +kernel
theorem dX10_hasBit_21 : decode cX10_hasBit 21 = .ok (.iconst 0, 1) := by decide +kernel
theorem dX10_hasBit_22 : decode cX10_hasBit 22 = .ok (.ireturn, 1) := by decide +kernel
theorem dX10_sentSet_0 : decode cX10_sentSet 0 = .ok (.aload_n 0, 1) := by decide +kernel
theorem dX10_sentSet_1 : decode cX10_sentSet 1 = .ok (.getfield 7, 3) := by decide +kernel
theorem dX10_sentSet_4 : decode cX10_sentSet 4 = .ok (.bipush 47, 2) := by decide +kernel
theorem dX10_sentSet_6 : decode cX10_sentSet 6 = .ok (.iaload, 1) := by decide +kernel
theorem dX10_sentSet_7 : decode cX10_sentSet 7 = .ok (.i2l, 1) := by decide +kernel
theorem dX10_sentSet_8 : decode cX10_sentSet 8 = .ok (.bipush 32, 2) := by decide +kernel
theorem dX10_sentSet_10 : decode cX10_sentSet 10 = .ok (.lshl, 1) := by decide +kernel
theorem dX10_sentSet_11 : decode cX10_sentSet 11 = .ok (.aload_n 0, 1) := by decide +kernel
theorem dX10_sentSet_12 : decode cX10_sentSet 12 = .ok (.getfield 7, 3) := by decide +kernel
theorem dX10_sentSet_15 : decode cX10_sentSet 15 = .ok (.bipush 46, 2) := by decide +kernel
theorem dX10_sentSet_17 : decode cX10_sentSet 17 = .ok (.iaload, 1) := by decide +kernel
theorem dX10_sentSet_18 : decode cX10_sentSet 18 = .ok (.i2l, 1) := by decide +kernel
theorem dX10_sentSet_19 : decode cX10_sentSet 19 = .ok (.ldc2_w 81, 3) := by decide +kernel
theorem dX10_sentSet_22 : decode cX10_sentSet 22 = .ok (.land, 1) := by decide +kernel
theorem dX10_sentSet_23 : decode cX10_sentSet 23 = .ok (.lor, 1) := by decide +kernel
theorem dX10_sentSet_24 : decode cX10_sentSet 24 = .ok (.lreturn, 1) := by decide +kernel
theorem dX10_putSent_0 : decode cX10_putSent 0 = .ok (.aload_n 0, 1) := by decide +kernel
theorem dX10_putSent_1 : decode cX10_putSent 1 = .ok (.getfield 7, 3) := by decide +kernel
theorem dX10_putSent_4 : decode cX10_putSent 4 = .ok (.bipush 46, 2) := by decide +kernel
theorem dX10_putSent_6 : decode cX10_putSent 6 = .ok (.lload_n 1, 1) := by decide +kernel
theorem dX10_putSent_7 : decode cX10_putSent 7 = .ok (.l2i, 1) := by decide +kernel
theorem dX10_putSent_8 : decode cX10_putSent 8 = .ok (.iastore, 1) := by decide +kernel
theorem dX10_putSent_9 : decode cX10_putSent 9 = .ok (.aload_n 0, 1) := by decide +kernel
theorem dX10_putSent_10 : decode cX10_putSent 10 = .ok (.getfield 7, 3) := by decide +kernel
theorem dX10_putSent_13 : decode cX10_putSent 13 = .ok (.bipush 47, 2) := by decide +kernel
theorem dX10_putSent_15 : decode cX10_putSent 15 = .ok (.lload_n 1, 1) := by decide +kernel
theorem dX10_putSent_16 : decode cX10_putSent 16 = .ok (.bipush 32, 2) := by decide +kernel
theorem dX10_putSent_18 : decode cX10_putSent 18 = .ok (.lshr, 1) := by decide +kernel
theorem dX10_putSent_19 : decode cX10_putSent 19 = .ok (.l2i, 1) := by decide +kernel
theorem dX10_putSent_20 : decode cX10_putSent 20 = .ok (.iastore, 1) := by decide +kernel
theorem dX10_putSent_21 : decode cX10_putSent 21 = .ok (.return_, 1) := by decide +kernel
theorem dX10_guessed_0 : decode cX10_guessed 0 = .ok (.lconst 0, 1) := by decide +kernel
theorem dX10_guessed_1 : decode cX10_guessed 1 = .ok (.lstore_n 1, 1) := by decide +kernel
theorem dX10_guessed_2 : decode cX10_guessed 2 = .ok (.iconst 0, 1) := by decide +kernel
theorem dX10_guessed_3 : decode cX10_guessed 3 = .ok (.istore_n 3, 1) := by decide +kernel
theorem dX10_guessed_4 : decode cX10_guessed 4 = .ok (.iload_n 3, 1) := by decide +kernel
theorem dX10_guessed_5 : decode cX10_guessed 5 = .ok (.aload_n 0, 1) := by decide +kernel
theorem dX10_guessed_6 : decode cX10_guessed 6 = .ok (.invokevirtual 66, 3) := by decide +kernel
theorem dX10_guessed_9 : decode cX10_guessed 9 = .ok (.if_icmp .ge 27, 3) := by decide +kernel
theorem dX10_guessed_12 : decode cX10_guessed 12 = .ok (.aload_n 0, 1) := by decide +kernel
theorem dX10_guessed_13 : decode cX10_guessed 13 = .ok (.getfield 7, 3) := by decide +kernel
theorem dX10_guessed_16 : decode cX10_guessed 16 = .ok (.bipush 96, 2) := by decide +kernel
theorem dX10_guessed_18 : decode cX10_guessed 18 = .ok (.iload_n 3, 1) := by decide +kernel
theorem dX10_guessed_19 : decode cX10_guessed 19 = .ok (.iadd, 1) := by decide +kernel
theorem dX10_guessed_20 : decode cX10_guessed 20 = .ok (.iaload, 1) := by decide +kernel
theorem dX10_guessed_21 : decode cX10_guessed 21 = .ok (.ifCond .ge 9, 3) := by decide +kernel
theorem dX10_guessed_24 : decode cX10_guessed 24 = .ok (.lload_n 1, 1) := by decide +kernel
theorem dX10_guessed_25 : decode cX10_guessed 25 = .ok (.lconst 1, 1) := by decide +kernel
theorem dX10_guessed_26 : decode cX10_guessed 26 = .ok (.iload_n 3, 1) := by decide +kernel
theorem dX10_guessed_27 : decode cX10_guessed 27 = .ok (.lshl, 1) := by decide +kernel
theorem dX10_guessed_28 : decode cX10_guessed 28 = .ok (.lor, 1) := by decide +kernel
theorem dX10_guessed_29 : decode cX10_guessed 29 = .ok (.lstore_n 1, 1) := by decide +kernel
theorem dX10_guessed_30 : decode cX10_guessed 30 = .ok (.iinc 3 1, 3) := by decide +kernel
theorem dX10_guessed_33 : decode cX10_guessed 33 = .ok (.goto (-29), 3) := by decide +kernel
theorem dX10_guessed_36 : decode cX10_guessed 36 = .ok (.lload_n 1, 1) := by decide +kernel
theorem dX10_guessed_37 : decode cX10_guessed 37 = .ok (.lreturn, 1) := by decide +kernel
theorem dX10_oddsOf_0 : decode cX10_oddsOf 0 = .ok (.iconst 0, 1) := by decide +kernel
theorem dX10_oddsOf_1 : decode cX10_oddsOf 1 = .ok (.istore_n 3, 1) := by decide +kernel
theorem dX10_oddsOf_2 : decode cX10_oddsOf 2 = .ok (.iconst 0, 1) := by decide +kernel
theorem dX10_oddsOf_3 : decode cX10_oddsOf 3 = .ok (.istore 4, 2) := by decide +kernel
theorem dX10_oddsOf_5 : decode cX10_oddsOf 5 = .ok (.iload 4, 2) := by decide +kernel
theorem dX10_oddsOf_7 : decode cX10_oddsOf 7 = .ok (.aload_n 0, 1) := by decide +kernel
theorem dX10_oddsOf_8 : decode cX10_oddsOf 8 = .ok (.invokevirtual 74, 3) := by decide +kernel
theorem dX10_oddsOf_11 : decode cX10_oddsOf 11 = .ok (.if_icmp .ge 25, 3) := by decide +kernel
theorem dX10_oddsOf_14 : decode cX10_oddsOf 14 = .ok (.iload_n 3, 1) := by decide +kernel
theorem dX10_oddsOf_15 : decode cX10_oddsOf 15 = .ok (.aload_n 0, 1) := by decide +kernel
theorem dX10_oddsOf_16 : decode cX10_oddsOf 16 = .ok (.iload 4, 2) := by decide +kernel
theorem dX10_oddsOf_18 : decode cX10_oddsOf 18 = .ok (.invokevirtual 83, 3) := by decide +kernel
theorem dX10_oddsOf_21 : decode cX10_oddsOf 21 = .ok (.lload_n 1, 1) := by decide +kernel
theorem dX10_oddsOf_22 : decode cX10_oddsOf 22 = .ok (.land, 1) := by decide +kernel
theorem dX10_oddsOf_23 : decode cX10_oddsOf 23 = .ok (.invokestatic 87, 3) := by decide +kernel
theorem dX10_oddsOf_26 : decode cX10_oddsOf 26 = .ok (.iconst 2, 1) := by decide +kernel
theorem dX10_oddsOf_27 : decode cX10_oddsOf 27 = .ok (.irem, 1) := by decide +kernel
theorem dX10_oddsOf_28 : decode cX10_oddsOf 28 = .ok (.iadd, 1) := by decide +kernel
theorem dX10_oddsOf_29 : decode cX10_oddsOf 29 = .ok (.istore_n 3, 1) := by decide +kernel
theorem dX10_oddsOf_30 : decode cX10_oddsOf 30 = .ok (.iinc 4 1, 3) := by decide +kernel
theorem dX10_oddsOf_33 : decode cX10_oddsOf 33 = .ok (.goto (-28), 3) := by decide +kernel
theorem dX10_oddsOf_36 : decode cX10_oddsOf 36 = .ok (.iload_n 3, 1) := by decide +kernel
theorem dX10_oddsOf_37 : decode cX10_oddsOf 37 = .ok (.ireturn, 1) := by decide +kernel
theorem dX10_four_0 : decode cX10_four 0 = .ok (.bipush 24, 2) := by decide +kernel
theorem dX10_four_2 : decode cX10_four 2 = .ok (.istore_n 2, 1) := by decide +kernel
theorem dX10_four_3 : decode cX10_four 3 = .ok (.iload_n 2, 1) := by decide +kernel
theorem dX10_four_4 : decode cX10_four 4 = .ok (.ifCond .lt 35, 3) := by decide +kernel
theorem dX10_four_7 : decode cX10_four 7 = .ok (.aload_n 0, 1) := by decide +kernel
theorem dX10_four_8 : decode cX10_four 8 = .ok (.getfield 19, 3) := by decide +kernel
theorem dX10_four_11 : decode cX10_four 11 = .ok (.aload_n 0, 1) := by decide +kernel
theorem dX10_four_12 : decode cX10_four 12 = .ok (.getfield 91, 3) := by decide +kernel
theorem dX10_four_15 : decode cX10_four 15 = .ok (.iload_n 1, 1) := by decide +kernel
theorem dX10_four_16 : decode cX10_four 16 = .ok (.iload_n 2, 1) := by decide +kernel
theorem dX10_four_17 : decode cX10_four 17 = .ok (.ishr, 1) := by decide +kernel
theorem dX10_four_18 : decode cX10_four 18 = .ok (.sipush 255, 3) := by decide +kernel
theorem dX10_four_21 : decode cX10_four 21 = .ok (.iand, 1) := by decide +kernel
theorem dX10_four_22 : decode cX10_four 22 = .ok (.iastore, 1) := by decide +kernel
theorem dX10_four_23 : decode cX10_four 23 = .ok (.aload_n 0, 1) := by decide +kernel
theorem dX10_four_24 : decode cX10_four 24 = .ok (.dup, 1) := by decide +kernel
theorem dX10_four_25 : decode cX10_four 25 = .ok (.getfield 91, 3) := by decide +kernel
theorem dX10_four_28 : decode cX10_four 28 = .ok (.iconst 1, 1) := by decide +kernel
theorem dX10_four_29 : decode cX10_four 29 = .ok (.iadd, 1) := by decide +kernel
theorem dX10_four_30 : decode cX10_four 30 = .ok (.putfield 91, 3) := by decide +kernel
theorem dX10_four_33 : decode cX10_four 33 = .ok (.iinc 2 (-8), 3) := by decide +kernel
theorem dX10_four_36 : decode cX10_four 36 = .ok (.goto (-33), 3) := by decide +kernel
theorem dX10_four_39 : decode cX10_four 39 = .ok (.return_, 1) := by decide +kernel
theorem dX10_feed_0 : decode cX10_feed 0 = .ok (.aload_n 0, 1) := by decide +kernel
theorem dX10_feed_1 : decode cX10_feed 1 = .ok (.getfield 91, 3) := by decide +kernel
theorem dX10_feed_4 : decode cX10_feed 4 = .ok (.bipush 20, 2) := by decide +kernel
theorem dX10_feed_6 : decode cX10_feed 6 = .ok (.iadd, 1) := by decide +kernel
theorem dX10_feed_7 : decode cX10_feed 7 = .ok (.sipush 300, 3) := by decide +kernel
theorem dX10_feed_10 : decode cX10_feed 10 = .ok (.if_icmp .le 5, 3) := by decide +kernel
theorem dX10_feed_13 : decode cX10_feed 13 = .ok (.iconst (-1), 1) := by decide +kernel
theorem dX10_feed_14 : decode cX10_feed 14 = .ok (.ireturn, 1) := by decide +kernel
theorem dX10_feed_15 : decode cX10_feed 15 = .ok (.aload_n 0, 1) := by decide +kernel
theorem dX10_feed_16 : decode cX10_feed 16 = .ok (.iload_n 1, 1) := by decide +kernel
theorem dX10_feed_17 : decode cX10_feed 17 = .ok (.invokevirtual 94, 3) := by decide +kernel
theorem dX10_feed_20 : decode cX10_feed 20 = .ok (.aload_n 0, 1) := by decide +kernel
theorem dX10_feed_21 : decode cX10_feed 21 = .ok (.iload_n 2, 1) := by decide +kernel
theorem dX10_feed_22 : decode cX10_feed 22 = .ok (.invokevirtual 94, 3) := by decide +kernel
theorem dX10_feed_25 : decode cX10_feed 25 = .ok (.aload_n 0, 1) := by decide +kernel
theorem dX10_feed_26 : decode cX10_feed 26 = .ok (.iload_n 3, 1) := by decide +kernel
theorem dX10_feed_27 : decode cX10_feed 27 = .ok (.invokevirtual 94, 3) := by decide +kernel
theorem dX10_feed_30 : decode cX10_feed 30 = .ok (.aload_n 0, 1) := by decide +kernel
theorem dX10_feed_31 : decode cX10_feed 31 = .ok (.iload 4, 2) := by decide +kernel
theorem dX10_feed_33 : decode cX10_feed 33 = .ok (.invokevirtual 94, 3) := by decide +kernel
theorem dX10_feed_36 : decode cX10_feed 36 = .ok (.aload_n 0, 1) := by decide +kernel
theorem dX10_feed_37 : decode cX10_feed 37 = .ok (.iload 5, 2) := by decide +kernel
theorem dX10_feed_39 : decode cX10_feed 39 = .ok (.invokevirtual 94, 3) := by decide +kernel
theorem dX10_feed_42 : decode cX10_feed 42 = .ok (.aload_n 0, 1) := by decide +kernel
theorem dX10_feed_43 : decode cX10_feed 43 = .ok (.getfield 91, 3) := by decide +kernel
theorem dX10_feed_46 : decode cX10_feed 46 = .ok (.ireturn, 1) := by decide +kernel
theorem dX10_end_0 : decode cX10_end 0 = .ok (.iload_n 1, 1) := by decide +kernel
theorem dX10_end_1 : decode cX10_end 1 = .ok (.iconst 0, 1) := by decide +kernel
theorem dX10_end_2 : decode cX10_end 2 = .ok (.aload_n 0, 1) := by decide +kernel
theorem dX10_end_3 : decode cX10_end 3 = .ok (.getfield 91, 3) := by decide +kernel
theorem dX10_end_6 : decode cX10_end 6 = .ok (.invokestatic 70, 3) := by decide +kernel
theorem dX10_end_9 : decode cX10_end 9 = .ok (.ifCond .ne 5, 3) := by decide +kernel
theorem dX10_end_12 : decode cX10_end 12 = .ok (.iconst (-1), 1) := by decide +kernel
theorem dX10_end_13 : decode cX10_end 13 = .ok (.ireturn, 1) := by decide +kernel
theorem dX10_end_14 : decode cX10_end 14 = .ok (.aload_n 0, 1) := by decide +kernel
theorem dX10_end_15 : decode cX10_end 15 = .ok (.iload_n 1, 1) := by decide +kernel
theorem dX10_end_16 : decode cX10_end 16 = .ok (.putfield 91, 3) := by decide +kernel
theorem dX10_end_19 : decode cX10_end 19 = .ok (.iload_n 1, 1) := by decide +kernel
theorem dX10_end_20 : decode cX10_end 20 = .ok (.ireturn, 1) := by decide +kernel
theorem dX10_byteAt_0 : decode cX10_byteAt 0 = .ok (.iload_n 1, 1) := by decide +kernel
theorem dX10_byteAt_1 : decode cX10_byteAt 1 = .ok (.aload_n 0, 1) := by decide +kernel
theorem dX10_byteAt_2 : decode cX10_byteAt 2 = .ok (.getfield 91, 3) := by decide +kernel
theorem dX10_byteAt_5 : decode cX10_byteAt 5 = .ok (.if_icmp .ge 12, 3) := by decide +kernel
theorem dX10_byteAt_8 : decode cX10_byteAt 8 = .ok (.aload_n 0, 1) := by decide +kernel
theorem dX10_byteAt_9 : decode cX10_byteAt 9 = .ok (.getfield 19, 3) := by decide +kernel
theorem dX10_byteAt_12 : decode cX10_byteAt 12 = .ok (.iload_n 1, 1) := by decide +kernel
theorem dX10_byteAt_13 : decode cX10_byteAt 13 = .ok (.iaload, 1) := by decide +kernel
theorem dX10_byteAt_14 : decode cX10_byteAt 14 = .ok (.goto 4, 3) := by decide +kernel
theorem dX10_byteAt_17 : decode cX10_byteAt 17 = .ok (.iconst (-1), 1) := by decide +kernel
theorem dX10_byteAt_18 : decode cX10_byteAt 18 = .ok (.ireturn, 1) := by decide +kernel
theorem dX10_isLetterByte_0 : decode cX10_isLetterByte 0 = .ok (.iload_n 0, 1) := by decide +kernel
theorem dX10_isLetterByte_1 : decode cX10_isLetterByte 1 = .ok (.bipush 97, 2) := by decide +kernel
theorem dX10_isLetterByte_3 : decode cX10_isLetterByte 3 = .ok (.if_icmp .lt 13, 3) := by decide +kernel
theorem dX10_isLetterByte_6 : decode cX10_isLetterByte 6 = .ok (.iload_n 0, 1) := by decide +kernel
theorem dX10_isLetterByte_7 : decode cX10_isLetterByte 7 = .ok (.bipush 122, 2) := by decide +kernel
theorem dX10_isLetterByte_9 : decode cX10_isLetterByte 9 = .ok (.if_icmp .gt 7, 3) := by decide +kernel
theorem dX10_isLetterByte_12 : decode cX10_isLetterByte 12 = .ok (.iconst 1, 1) := by decide +kernel
theorem dX10_isLetterByte_13 : decode cX10_isLetterByte 13 = .ok (.goto 4, 3) := by decide +kernel
theorem dX10_isLetterByte_16 : decode cX10_isLetterByte 16 = .ok (.iconst 0, 1) := by decide +kernel
theorem dX10_isLetterByte_17 : decode cX10_isLetterByte 17 = .ok (.ireturn, 1) := by decide +kernel
theorem dX10_isFigure_0 : decode cX10_isFigure 0 = .ok (.iload_n 0, 1) := by decide +kernel
theorem dX10_isFigure_1 : decode cX10_isFigure 1 = .ok (.bipush 48, 2) := by decide +kernel
theorem dX10_isFigure_3 : decode cX10_isFigure 3 = .ok (.if_icmp .lt 13, 3) := by decide +kernel
theorem dX10_isFigure_6 : decode cX10_isFigure 6 = .ok (.iload_n 0, 1) := by decide +kernel
theorem dX10_isFigure_7 : decode cX10_isFigure 7 = .ok (.bipush 57, 2) := by decide +kernel
theorem dX10_isFigure_9 : decode cX10_isFigure 9 = .ok (.if_icmp .gt 7, 3) := by decide +kernel
theorem dX10_isFigure_12 : decode cX10_isFigure 12 = .ok (.iconst 1, 1) := by decide +kernel
theorem dX10_isFigure_13 : decode cX10_isFigure 13 = .ok (.goto 4, 3) := by decide +kernel
theorem dX10_isFigure_16 : decode cX10_isFigure 16 = .ok (.iconst 0, 1) := by decide +kernel
theorem dX10_isFigure_17 : decode cX10_isFigure 17 = .ok (.ireturn, 1) := by decide +kernel
theorem dX10_areFour_0 : decode cX10_areFour 0 = .ok (.aload_n 0, 1) := by decide +kernel
theorem dX10_areFour_1 : decode cX10_areFour 1 = .ok (.iload_n 1, 1) := by decide +kernel
theorem dX10_areFour_2 : decode cX10_areFour 2 = .ok (.invokevirtual 97, 3) := by decide +kernel
theorem dX10_areFour_5 : decode cX10_areFour 5 = .ok (.iload_n 2, 1) := by decide +kernel
theorem dX10_areFour_6 : decode cX10_areFour 6 = .ok (.if_icmp .ne 42, 3) := by decide +kernel
theorem dX10_areFour_9 : decode cX10_areFour 9 = .ok (.aload_n 0, 1) := by decide +kernel
theorem dX10_areFour_10 : decode cX10_areFour 10 = .ok (.iload_n 1, 1) := by decide +kernel
theorem dX10_areFour_11 : decode cX10_areFour 11 = .ok (.iconst 1, 1) := by decide +kernel
theorem dX10_areFour_12 : decode cX10_areFour 12 = .ok (.iadd, 1) := by decide +kernel
theorem dX10_areFour_13 : decode cX10_areFour 13 = .ok (.invokevirtual 97, 3) := by decide +kernel
theorem dX10_areFour_16 : decode cX10_areFour 16 = .ok (.iload_n 3, 1) := by decide +kernel
theorem dX10_areFour_17 : decode cX10_areFour 17 = .ok (.if_icmp .ne 31, 3) := by decide +kernel
theorem dX10_areFour_20 : decode cX10_areFour 20 = .ok (.aload_n 0, 1) := by decide +kernel
theorem dX10_areFour_21 : decode cX10_areFour 21 = .ok (.iload_n 1, 1) := by decide +kernel
theorem dX10_areFour_22 : decode cX10_areFour 22 = .ok (.iconst 2, 1) := by decide +kernel
theorem dX10_areFour_23 : decode cX10_areFour 23 = .ok (.iadd, 1) := by decide +kernel
theorem dX10_areFour_24 : decode cX10_areFour 24 = .ok (.invokevirtual 97, 3) := by decide +kernel
theorem dX10_areFour_27 : decode cX10_areFour 27 = .ok (.iload 4, 2) := by decide +kernel
theorem dX10_areFour_29 : decode cX10_areFour 29 = .ok (.if_icmp .ne 19, 3) := by decide +kernel
theorem dX10_areFour_32 : decode cX10_areFour 32 = .ok (.aload_n 0, 1) := by decide +kernel
theorem dX10_areFour_33 : decode cX10_areFour 33 = .ok (.iload_n 1, 1) := by decide +kernel
theorem dX10_areFour_34 : decode cX10_areFour 34 = .ok (.iconst 3, 1) := by decide +kernel
theorem dX10_areFour_35 : decode cX10_areFour 35 = .ok (.iadd, 1) := by decide +kernel
theorem dX10_areFour_36 : decode cX10_areFour 36 = .ok (.invokevirtual 97, 3) := by decide +kernel
theorem dX10_areFour_39 : decode cX10_areFour 39 = .ok (.iload 5, 2) := by decide +kernel
theorem dX10_areFour_41 : decode cX10_areFour 41 = .ok (.if_icmp .ne 7, 3) := by decide +kernel
theorem dX10_areFour_44 : decode cX10_areFour 44 = .ok (.iconst 1, 1) := by decide +kernel
theorem dX10_areFour_45 : decode cX10_areFour 45 = .ok (.goto 4, 3) := by decide +kernel
theorem dX10_areFour_48 : decode cX10_areFour 48 = .ok (.iconst 0, 1) := by decide +kernel
theorem dX10_areFour_49 : decode cX10_areFour 49 = .ok (.ireturn, 1) := by decide +kernel
theorem dX10_wordOf_0 : decode cX10_wordOf 0 = .ok (.iload_n 1, 1) := by decide +kernel
theorem dX10_wordOf_1 : decode cX10_wordOf 1 = .ok (.iconst 4, 1) := by decide +kernel
theorem dX10_wordOf_2 : decode cX10_wordOf 2 = .ok (.if_icmp .ne 26, 3) := by decide +kernel
theorem dX10_wordOf_5 : decode cX10_wordOf 5 = .ok (.aload_n 0, 1) := by decide +kernel
theorem dX10_wordOf_6 : decode cX10_wordOf 6 = .ok (.aload_n 0, 1) := by decide +kernel
theorem dX10_wordOf_7 : decode cX10_wordOf 7 = .ok (.getfield 101, 3) := by decide +kernel
theorem dX10_wordOf_10 : decode cX10_wordOf 10 = .ok (.bipush 108, 2) := by decide +kernel
theorem dX10_wordOf_12 : decode cX10_wordOf 12 = .ok (.bipush 105, 2) := by decide +kernel
theorem dX10_wordOf_14 : decode cX10_wordOf 14 = .ok (.bipush 102, 2) := by decide +kernel
theorem dX10_wordOf_16 : decode cX10_wordOf 16 = .ok (.bipush 116, 2) := by decide +kernel
theorem dX10_wordOf_18 : decode cX10_wordOf 18 = .ok (.invokevirtual 104, 3) := by decide +kernel
theorem dX10_wordOf_21 : decode cX10_wordOf 21 = .ok (.ifCond .eq 7, 3) := by decide +kernel
theorem dX10_wordOf_24 : decode cX10_wordOf 24 = .ok (.sipush 200, 3) := by decide +kernel
theorem dX10_wordOf_27 : decode cX10_wordOf 27 = .ok (.ireturn, 1) := by decide +kernel
theorem dX10_wordOf_28 : decode cX10_wordOf 28 = .ok (.iload_n 1, 1) := by decide +kernel
theorem dX10_wordOf_29 : decode cX10_wordOf 29 = .ok (.iconst 4, 1) := by decide +kernel
theorem dX10_wordOf_30 : decode cX10_wordOf 30 = .ok (.if_icmp .ne 26, 3) := by decide +kernel
theorem dX10_wordOf_33 : decode cX10_wordOf 33 = .ok (.aload_n 0, 1) := by decide +kernel
theorem dX10_wordOf_34 : decode cX10_wordOf 34 = .ok (.aload_n 0, 1) := by decide +kernel
theorem dX10_wordOf_35 : decode cX10_wordOf 35 = .ok (.getfield 101, 3) := by decide +kernel
theorem dX10_wordOf_38 : decode cX10_wordOf 38 = .ok (.bipush 109, 2) := by decide +kernel
theorem dX10_wordOf_40 : decode cX10_wordOf 40 = .ok (.bipush 111, 2) := by decide +kernel
theorem dX10_wordOf_42 : decode cX10_wordOf 42 = .ok (.bipush 115, 2) := by decide +kernel
theorem dX10_wordOf_44 : decode cX10_wordOf 44 = .ok (.bipush 116, 2) := by decide +kernel
theorem dX10_wordOf_46 : decode cX10_wordOf 46 = .ok (.invokevirtual 104, 3) := by decide +kernel
theorem dX10_wordOf_49 : decode cX10_wordOf 49 = .ok (.ifCond .eq 7, 3) := by decide +kernel
theorem dX10_wordOf_52 : decode cX10_wordOf 52 = .ok (.sipush 203, 3) := by decide +kernel
theorem dX10_wordOf_55 : decode cX10_wordOf 55 = .ok (.ireturn, 1) := by decide +kernel
theorem dX10_wordOf_56 : decode cX10_wordOf 56 = .ok (.iload_n 1, 1) := by decide +kernel
theorem dX10_wordOf_57 : decode cX10_wordOf 57 = .ok (.iconst 3, 1) := by decide +kernel
theorem dX10_wordOf_58 : decode cX10_wordOf 58 = .ok (.if_icmp .ne 50, 3) := by decide +kernel
theorem dX10_wordOf_61 : decode cX10_wordOf 61 = .ok (.aload_n 0, 1) := by decide +kernel
theorem dX10_wordOf_62 : decode cX10_wordOf 62 = .ok (.aload_n 0, 1) := by decide +kernel
theorem dX10_wordOf_63 : decode cX10_wordOf 63 = .ok (.getfield 101, 3) := by decide +kernel
theorem dX10_wordOf_66 : decode cX10_wordOf 66 = .ok (.invokevirtual 97, 3) := by decide +kernel
theorem dX10_wordOf_69 : decode cX10_wordOf 69 = .ok (.bipush 114, 2) := by decide +kernel
theorem dX10_wordOf_71 : decode cX10_wordOf 71 = .ok (.if_icmp .ne 37, 3) := by decide +kernel
theorem dX10_wordOf_74 : decode cX10_wordOf 74 = .ok (.aload_n 0, 1) := by decide +kernel
theorem dX10_wordOf_75 : decode cX10_wordOf 75 = .ok (.aload_n 0, 1) := by decide +kernel
theorem dX10_wordOf_76 : decode cX10_wordOf 76 = .ok (.getfield 101, 3) := by decide +kernel
theorem dX10_wordOf_79 : decode cX10_wordOf 79 = .ok (.iconst 1, 1) := by decide +kernel
theorem dX10_wordOf_80 : decode cX10_wordOf 80 = .ok (.iadd, 1) := by decide +kernel
theorem dX10_wordOf_81 : decode cX10_wordOf 81 = .ok (.invokevirtual 97, 3) := by decide +kernel
theorem dX10_wordOf_84 : decode cX10_wordOf 84 = .ok (.bipush 111, 2) := by decide +kernel
theorem dX10_wordOf_86 : decode cX10_wordOf 86 = .ok (.if_icmp .ne 22, 3) := by decide +kernel
theorem dX10_wordOf_89 : decode cX10_wordOf 89 = .ok (.aload_n 0, 1) := by decide +kernel
theorem dX10_wordOf_90 : decode cX10_wordOf 90 = .ok (.aload_n 0, 1) := by decide +kernel
theorem dX10_wordOf_91 : decode cX10_wordOf 91 = .ok (.getfield 101, 3) := by decide +kernel
theorem dX10_wordOf_94 : decode cX10_wordOf 94 = .ok (.iconst 2, 1) := by decide +kernel
theorem dX10_wordOf_95 : decode cX10_wordOf 95 = .ok (.iadd, 1) := by decide +kernel
theorem dX10_wordOf_96 : decode cX10_wordOf 96 = .ok (.invokevirtual 97, 3) := by decide +kernel
theorem dX10_wordOf_99 : decode cX10_wordOf 99 = .ok (.bipush 119, 2) := by decide +kernel
theorem dX10_wordOf_101 : decode cX10_wordOf 101 = .ok (.if_icmp .ne 7, 3) := by decide +kernel
theorem dX10_wordOf_104 : decode cX10_wordOf 104 = .ok (.sipush 201, 3) := by decide +kernel
theorem dX10_wordOf_107 : decode cX10_wordOf 107 = .ok (.ireturn, 1) := by decide +kernel
theorem dX10_wordOf_108 : decode cX10_wordOf 108 = .ok (.iload_n 1, 1) := by decide +kernel
theorem dX10_wordOf_109 : decode cX10_wordOf 109 = .ok (.bipush 6, 2) := by decide +kernel
theorem dX10_wordOf_111 : decode cX10_wordOf 111 = .ok (.if_icmp .ne 58, 3) := by decide +kernel
theorem dX10_wordOf_114 : decode cX10_wordOf 114 = .ok (.aload_n 0, 1) := by decide +kernel
theorem dX10_wordOf_115 : decode cX10_wordOf 115 = .ok (.aload_n 0, 1) := by decide +kernel
theorem dX10_wordOf_116 : decode cX10_wordOf 116 = .ok (.getfield 101, 3) := by decide +kernel
theorem dX10_wordOf_119 : decode cX10_wordOf 119 = .ok (.bipush 111, 2) := by decide +kernel
theorem dX10_wordOf_121 : decode cX10_wordOf 121 = .ok (.bipush 102, 2) := by decide +kernel
theorem dX10_wordOf_123 : decode cX10_wordOf 123 = .ok (.bipush 102, 2) := by decide +kernel
theorem dX10_wordOf_125 : decode cX10_wordOf 125 = .ok (.bipush 115, 2) := by decide +kernel
theorem dX10_wordOf_127 : decode cX10_wordOf 127 = .ok (.invokevirtual 104, 3) := by decide +kernel
theorem dX10_wordOf_130 : decode cX10_wordOf 130 = .ok (.ifCond .eq 39, 3) := by decide +kernel
theorem dX10_wordOf_133 : decode cX10_wordOf 133 = .ok (.aload_n 0, 1) := by decide +kernel
theorem dX10_wordOf_134 : decode cX10_wordOf 134 = .ok (.aload_n 0, 1) := by decide +kernel
theorem dX10_wordOf_135 : decode cX10_wordOf 135 = .ok (.getfield 101, 3) := by decide +kernel
theorem dX10_wordOf_138 : decode cX10_wordOf 138 = .ok (.iconst 4, 1) := by decide +kernel
theorem dX10_wordOf_139 : decode cX10_wordOf 139 = .ok (.iadd, 1) := by decide +kernel
theorem dX10_wordOf_140 : decode cX10_wordOf 140 = .ok (.invokevirtual 97, 3) := by decide +kernel
theorem dX10_wordOf_143 : decode cX10_wordOf 143 = .ok (.bipush 101, 2) := by decide +kernel
theorem dX10_wordOf_145 : decode cX10_wordOf 145 = .ok (.if_icmp .ne 24, 3) := by decide +kernel
theorem dX10_wordOf_148 : decode cX10_wordOf 148 = .ok (.aload_n 0, 1) := by decide +kernel
theorem dX10_wordOf_149 : decode cX10_wordOf 149 = .ok (.aload_n 0, 1) := by decide +kernel
theorem dX10_wordOf_150 : decode cX10_wordOf 150 = .ok (.getfield 101, 3) := by decide +kernel
theorem dX10_wordOf_153 : decode cX10_wordOf 153 = .ok (.iconst 5, 1) := by decide +kernel
theorem dX10_wordOf_154 : decode cX10_wordOf 154 = .ok (.iadd, 1) := by decide +kernel
theorem dX10_wordOf_155 : decode cX10_wordOf 155 = .ok (.invokevirtual 97, 3) := by decide +kernel
theorem dX10_wordOf_158 : decode cX10_wordOf 158 = .ok (.bipush 116, 2) := by decide +kernel
theorem dX10_wordOf_160 : decode cX10_wordOf 160 = .ok (.if_icmp .ne 9, 3) := by decide +kernel
theorem dX10_wordOf_163 : decode cX10_wordOf 163 = .ok (.sipush 202, 3) := by decide +kernel
theorem dX10_wordOf_166 : decode cX10_wordOf 166 = .ok (.goto 4, 3) := by decide +kernel
theorem dX10_wordOf_169 : decode cX10_wordOf 169 = .ok (.iconst 2, 1) := by decide +kernel
theorem dX10_wordOf_170 : decode cX10_wordOf 170 = .ok (.ireturn, 1) := by decide +kernel
theorem dX10_nextToken_0 : decode cX10_nextToken 0 = .ok (.aload_n 0, 1) := by decide +kernel
theorem dX10_nextToken_1 : decode cX10_nextToken 1 = .ok (.aload_n 0, 1) := by decide +kernel
theorem dX10_nextToken_2 : decode cX10_nextToken 2 = .ok (.getfield 108, 3) := by decide +kernel
theorem dX10_nextToken_5 : decode cX10_nextToken 5 = .ok (.invokevirtual 97, 3) := by decide +kernel
theorem dX10_nextToken_8 : decode cX10_nextToken 8 = .ok (.bipush 32, 2) := by decide +kernel
theorem dX10_nextToken_10 : decode cX10_nextToken 10 = .ok (.if_icmp .eq 16, 3) := by decide +kernel
theorem dX10_nextToken_13 : decode cX10_nextToken 13 = .ok (.aload_n 0, 1) := by decide +kernel
theorem dX10_nextToken_14 : decode cX10_nextToken 14 = .ok (.aload_n 0, 1) := by decide +kernel
theorem dX10_nextToken_15 : decode cX10_nextToken 15 = .ok (.getfield 108, 3) := by decide +kernel
theorem dX10_nextToken_18 : decode cX10_nextToken 18 = .ok (.invokevirtual 97, 3) := by decide +kernel
theorem dX10_nextToken_21 : decode cX10_nextToken 21 = .ok (.bipush 10, 2) := by decide +kernel
theorem dX10_nextToken_23 : decode cX10_nextToken 23 = .ok (.if_icmp .ne 16, 3) := by decide +kernel
theorem dX10_nextToken_26 : decode cX10_nextToken 26 = .ok (.aload_n 0, 1) := by decide +kernel
theorem dX10_nextToken_27 : decode cX10_nextToken 27 = .ok (.dup, 1) := by decide +kernel
theorem dX10_nextToken_28 : decode cX10_nextToken 28 = .ok (.getfield 108, 3) := by decide +kernel
theorem dX10_nextToken_31 : decode cX10_nextToken 31 = .ok (.iconst 1, 1) := by decide +kernel
theorem dX10_nextToken_32 : decode cX10_nextToken 32 = .ok (.iadd, 1) := by decide +kernel
theorem dX10_nextToken_33 : decode cX10_nextToken 33 = .ok (.putfield 108, 3) := by decide +kernel
theorem dX10_nextToken_36 : decode cX10_nextToken 36 = .ok (.goto (-36), 3) := by decide +kernel
theorem dX10_nextToken_39 : decode cX10_nextToken 39 = .ok (.aload_n 0, 1) := by decide +kernel
theorem dX10_nextToken_40 : decode cX10_nextToken 40 = .ok (.aload_n 0, 1) := by decide +kernel
theorem dX10_nextToken_41 : decode cX10_nextToken 41 = .ok (.getfield 108, 3) := by decide +kernel
theorem dX10_nextToken_44 : decode cX10_nextToken 44 = .ok (.putfield 101, 3) := by decide +kernel
theorem dX10_nextToken_47 : decode cX10_nextToken 47 = .ok (.aload_n 0, 1) := by decide +kernel
theorem dX10_nextToken_48 : decode cX10_nextToken 48 = .ok (.iconst 0, 1) := by decide +kernel
theorem dX10_nextToken_49 : decode cX10_nextToken 49 = .ok (.putfield 111, 3) := by decide +kernel
theorem dX10_nextToken_52 : decode cX10_nextToken 52 = .ok (.aload_n 0, 1) := by decide +kernel
theorem dX10_nextToken_53 : decode cX10_nextToken 53 = .ok (.aload_n 0, 1) := by decide +kernel
theorem dX10_nextToken_54 : decode cX10_nextToken 54 = .ok (.getfield 108, 3) := by decide +kernel
theorem dX10_nextToken_57 : decode cX10_nextToken 57 = .ok (.invokevirtual 97, 3) := by decide +kernel
theorem dX10_nextToken_60 : decode cX10_nextToken 60 = .ok (.istore_n 1, 1) := by decide +kernel
theorem dX10_nextToken_61 : decode cX10_nextToken 61 = .ok (.iload_n 1, 1) := by decide +kernel
theorem dX10_nextToken_62 : decode cX10_nextToken 62 = .ok (.ifCond .ge 11, 3) := by decide +kernel
theorem dX10_nextToken_65 : decode cX10_nextToken 65 = .ok (.aload_n 0, 1) := by decide +kernel
theorem dX10_nextToken_66 : decode cX10_nextToken 66 = .ok (.iconst 0, 1) := by decide +kernel
theorem dX10_nextToken_67 : decode cX10_nextToken 67 = .ok (.putfield 114, 3) := by decide +kernel
theorem dX10_nextToken_70 : decode cX10_nextToken 70 = .ok (.goto 167, 3) := by decide +kernel
theorem dX10_nextToken_73 : decode cX10_nextToken 73 = .ok (.iload_n 1, 1) := by decide +kernel
theorem dX10_nextToken_74 : decode cX10_nextToken 74 = .ok (.invokestatic 117, 3) := by decide +kernel
theorem dX10_nextToken_77 : decode cX10_nextToken 77 = .ok (.ifCond .eq 75, 3) := by decide +kernel
theorem dX10_nextToken_80 : decode cX10_nextToken 80 = .ok (.aload_n 0, 1) := by decide +kernel
theorem dX10_nextToken_81 : decode cX10_nextToken 81 = .ok (.iconst 1, 1) := by decide +kernel
theorem dX10_nextToken_82 : decode cX10_nextToken 82 = .ok (.putfield 114, 3) := by decide +kernel
theorem dX10_nextToken_85 : decode cX10_nextToken 85 = .ok (.aload_n 0, 1) := by decide +kernel
theorem dX10_nextToken_86 : decode cX10_nextToken 86 = .ok (.aload_n 0, 1) := by decide +kernel
theorem dX10_nextToken_87 : decode cX10_nextToken 87 = .ok (.getfield 108, 3) := by decide +kernel
theorem dX10_nextToken_90 : decode cX10_nextToken 90 = .ok (.invokevirtual 97, 3) := by decide +kernel
theorem dX10_nextToken_93 : decode cX10_nextToken 93 = .ok (.invokestatic 117, 3) := by decide +kernel
theorem dX10_nextToken_96 : decode cX10_nextToken 96 = .ok (.ifCond .eq 141, 3) := by decide +kernel
theorem dX10_nextToken_99 : decode cX10_nextToken 99 = .ok (.aload_n 0, 1) := by decide +kernel
theorem dX10_nextToken_100 : decode cX10_nextToken 100 = .ok (.aload_n 0, 1) := by decide +kernel
theorem dX10_nextToken_101 : decode cX10_nextToken 101 = .ok (.getfield 111, 3) := by decide +kernel
theorem dX10_nextToken_104 : decode cX10_nextToken 104 = .ok (.sipush 9999, 3) := by decide +kernel
theorem dX10_nextToken_107 : decode cX10_nextToken 107 = .ok (.if_icmp .le 10, 3) := by decide +kernel
theorem dX10_nextToken_110 : decode cX10_nextToken 110 = .ok (.aload_n 0, 1) := by decide +kernel
theorem dX10_nextToken_111 : decode cX10_nextToken 111 = .ok (.getfield 111, 3) := by decide +kernel
theorem dX10_nextToken_114 : decode cX10_nextToken 114 = .ok (.goto 22, 3) := by decide +kernel
theorem dX10_nextToken_117 : decode cX10_nextToken 117 = .ok (.bipush 10, 2) := by decide +kernel
theorem dX10_nextToken_119 : decode cX10_nextToken 119 = .ok (.aload_n 0, 1) := by decide +kernel
theorem dX10_nextToken_120 : decode cX10_nextToken 120 = .ok (.getfield 111, 3) := by decide +kernel
theorem dX10_nextToken_123 : decode cX10_nextToken 123 = .ok (.imul, 1) := by decide +kernel
theorem dX10_nextToken_124 : decode cX10_nextToken 124 = .ok (.aload_n 0, 1) := by decide +kernel
theorem dX10_nextToken_125 : decode cX10_nextToken 125 = .ok (.aload_n 0, 1) := by decide +kernel
theorem dX10_nextToken_126 : decode cX10_nextToken 126 = .ok (.getfield 108, 3) := by decide +kernel
theorem dX10_nextToken_129 : decode cX10_nextToken 129 = .ok (.invokevirtual 97, 3) := by decide +kernel
theorem dX10_nextToken_132 : decode cX10_nextToken 132 = .ok (.iadd, 1) := by decide +kernel
theorem dX10_nextToken_133 : decode cX10_nextToken 133 = .ok (.bipush 48, 2) := by decide +kernel
theorem dX10_nextToken_135 : decode cX10_nextToken 135 = .ok (.isub, 1) := by decide +kernel
theorem dX10_nextToken_136 : decode cX10_nextToken 136 = .ok (.putfield 111, 3) := by decide +kernel
theorem dX10_nextToken_139 : decode cX10_nextToken 139 = .ok (.aload_n 0, 1) := by decide +kernel
theorem dX10_nextToken_140 : decode cX10_nextToken 140 = .ok (.dup, 1) := by decide +kernel
theorem dX10_nextToken_141 : decode cX10_nextToken 141 = .ok (.getfield 108, 3) := by decide +kernel
theorem dX10_nextToken_144 : decode cX10_nextToken 144 = .ok (.iconst 1, 1) := by decide +kernel
theorem dX10_nextToken_145 : decode cX10_nextToken 145 = .ok (.iadd, 1) := by decide +kernel
theorem dX10_nextToken_146 : decode cX10_nextToken 146 = .ok (.putfield 108, 3) := by decide +kernel
theorem dX10_nextToken_149 : decode cX10_nextToken 149 = .ok (.goto (-64), 3) := by decide +kernel
theorem dX10_nextToken_152 : decode cX10_nextToken 152 = .ok (.iload_n 1, 1) := by decide +kernel
theorem dX10_nextToken_153 : decode cX10_nextToken 153 = .ok (.invokestatic 121, 3) := by decide +kernel
theorem dX10_nextToken_156 : decode cX10_nextToken 156 = .ok (.ifCond .eq 50, 3) := by decide +kernel
theorem dX10_nextToken_159 : decode cX10_nextToken 159 = .ok (.aload_n 0, 1) := by decide +kernel
theorem dX10_nextToken_160 : decode cX10_nextToken 160 = .ok (.aload_n 0, 1) := by decide +kernel
theorem dX10_nextToken_161 : decode cX10_nextToken 161 = .ok (.getfield 108, 3) := by decide +kernel
theorem dX10_nextToken_164 : decode cX10_nextToken 164 = .ok (.invokevirtual 97, 3) := by decide +kernel
theorem dX10_nextToken_167 : decode cX10_nextToken 167 = .ok (.invokestatic 121, 3) := by decide +kernel
theorem dX10_nextToken_170 : decode cX10_nextToken 170 = .ok (.ifCond .eq 16, 3) := by decide +kernel
theorem dX10_nextToken_173 : decode cX10_nextToken 173 = .ok (.aload_n 0, 1) := by decide +kernel
theorem dX10_nextToken_174 : decode cX10_nextToken 174 = .ok (.dup, 1) := by decide +kernel
theorem dX10_nextToken_175 : decode cX10_nextToken 175 = .ok (.getfield 108, 3) := by decide +kernel
theorem dX10_nextToken_178 : decode cX10_nextToken 178 = .ok (.iconst 1, 1) := by decide +kernel
theorem dX10_nextToken_179 : decode cX10_nextToken 179 = .ok (.iadd, 1) := by decide +kernel
theorem dX10_nextToken_180 : decode cX10_nextToken 180 = .ok (.putfield 108, 3) := by decide +kernel
theorem dX10_nextToken_183 : decode cX10_nextToken 183 = .ok (.goto (-24), 3) := by decide +kernel
theorem dX10_nextToken_186 : decode cX10_nextToken 186 = .ok (.aload_n 0, 1) := by decide +kernel
theorem dX10_nextToken_187 : decode cX10_nextToken 187 = .ok (.aload_n 0, 1) := by decide +kernel
theorem dX10_nextToken_188 : decode cX10_nextToken 188 = .ok (.aload_n 0, 1) := by decide +kernel
theorem dX10_nextToken_189 : decode cX10_nextToken 189 = .ok (.getfield 108, 3) := by decide +kernel
theorem dX10_nextToken_192 : decode cX10_nextToken 192 = .ok (.aload_n 0, 1) := by decide +kernel
theorem dX10_nextToken_193 : decode cX10_nextToken 193 = .ok (.getfield 101, 3) := by decide +kernel
theorem dX10_nextToken_196 : decode cX10_nextToken 196 = .ok (.isub, 1) := by decide +kernel
theorem dX10_nextToken_197 : decode cX10_nextToken 197 = .ok (.invokevirtual 124, 3) := by decide +kernel
theorem dX10_nextToken_200 : decode cX10_nextToken 200 = .ok (.putfield 114, 3) := by decide +kernel
theorem dX10_nextToken_203 : decode cX10_nextToken 203 = .ok (.goto 34, 3) := by decide +kernel
theorem dX10_nextToken_206 : decode cX10_nextToken 206 = .ok (.aload_n 0, 1) := by decide +kernel
theorem dX10_nextToken_207 : decode cX10_nextToken 207 = .ok (.iload_n 1, 1) := by decide +kernel
theorem dX10_nextToken_208 : decode cX10_nextToken 208 = .ok (.bipush 46, 2) := by decide +kernel
theorem dX10_nextToken_210 : decode cX10_nextToken 210 = .ok (.if_icmp .eq 9, 3) := by decide +kernel
theorem dX10_nextToken_213 : decode cX10_nextToken 213 = .ok (.iload_n 1, 1) := by decide +kernel
theorem dX10_nextToken_214 : decode cX10_nextToken 214 = .ok (.bipush 59, 2) := by decide +kernel
theorem dX10_nextToken_216 : decode cX10_nextToken 216 = .ok (.if_icmp .ne 7, 3) := by decide +kernel
theorem dX10_nextToken_219 : decode cX10_nextToken 219 = .ok (.iload_n 1, 1) := by decide +kernel
theorem dX10_nextToken_220 : decode cX10_nextToken 220 = .ok (.goto 4, 3) := by decide +kernel
theorem dX10_nextToken_223 : decode cX10_nextToken 223 = .ok (.iconst 2, 1) := by decide +kernel
theorem dX10_nextToken_224 : decode cX10_nextToken 224 = .ok (.putfield 114, 3) := by decide +kernel
theorem dX10_nextToken_227 : decode cX10_nextToken 227 = .ok (.aload_n 0, 1) := by decide +kernel
theorem dX10_nextToken_228 : decode cX10_nextToken 228 = .ok (.dup, 1) := by decide +kernel
theorem dX10_nextToken_229 : decode cX10_nextToken 229 = .ok (.getfield 108, 3) := by decide +kernel
theorem dX10_nextToken_232 : decode cX10_nextToken 232 = .ok (.iconst 1, 1) := by decide +kernel
theorem dX10_nextToken_233 : decode cX10_nextToken 233 = .ok (.iadd, 1) := by decide +kernel
theorem dX10_nextToken_234 : decode cX10_nextToken 234 = .ok (.putfield 108, 3) := by decide +kernel
theorem dX10_nextToken_237 : decode cX10_nextToken 237 = .ok (.return_, 1) := by decide +kernel
theorem dX10_numberTo_0 : decode cX10_numberTo 0 = .ok (.aload_n 0, 1) := by decide +kernel
theorem dX10_numberTo_1 : decode cX10_numberTo 1 = .ok (.invokevirtual 127, 3) := by decide +kernel
theorem dX10_numberTo_4 : decode cX10_numberTo 4 = .ok (.aload_n 0, 1) := by decide +kernel
theorem dX10_numberTo_5 : decode cX10_numberTo 5 = .ok (.getfield 114, 3) := by decide +kernel
theorem dX10_numberTo_8 : decode cX10_numberTo 8 = .ok (.iconst 1, 1) := by decide +kernel
theorem dX10_numberTo_9 : decode cX10_numberTo 9 = .ok (.if_icmp .eq 5, 3) := by decide +kernel
theorem dX10_numberTo_12 : decode cX10_numberTo 12 = .ok (.iconst 1, 1) := by decide +kernel
theorem dX10_numberTo_13 : decode cX10_numberTo 13 = .ok (.ireturn, 1) := by decide +kernel
theorem dX10_numberTo_14 : decode cX10_numberTo 14 = .ok (.aload_n 0, 1) := by decide +kernel
theorem dX10_numberTo_15 : decode cX10_numberTo 15 = .ok (.getfield 111, 3) := by decide +kernel
theorem dX10_numberTo_18 : decode cX10_numberTo 18 = .ok (.iload_n 2, 1) := by decide +kernel
theorem dX10_numberTo_19 : decode cX10_numberTo 19 = .ok (.iload_n 3, 1) := by decide +kernel
theorem dX10_numberTo_20 : decode cX10_numberTo 20 = .ok (.invokestatic 70, 3) := by decide +kernel
theorem dX10_numberTo_23 : decode cX10_numberTo 23 = .ok (.ifCond .ne 5, 3) := by decide +kernel
theorem dX10_numberTo_26 : decode cX10_numberTo 26 = .ok (.iconst 2, 1) := by decide +kernel
theorem dX10_numberTo_27 : decode cX10_numberTo 27 = .ok (.ireturn, 1) := by decide +kernel
theorem dX10_numberTo_28 : decode cX10_numberTo 28 = .ok (.aload_n 0, 1) := by decide +kernel
theorem dX10_numberTo_29 : decode cX10_numberTo 29 = .ok (.getfield 16, 3) := by decide +kernel
theorem dX10_numberTo_32 : decode cX10_numberTo 32 = .ok (.iload_n 1, 1) := by decide +kernel
theorem dX10_numberTo_33 : decode cX10_numberTo 33 = .ok (.aload_n 0, 1) := by decide +kernel
theorem dX10_numberTo_34 : decode cX10_numberTo 34 = .ok (.getfield 111, 3) := by decide +kernel
theorem dX10_numberTo_37 : decode cX10_numberTo 37 = .ok (.iastore, 1) := by decide +kernel
theorem dX10_numberTo_38 : decode cX10_numberTo 38 = .ok (.aload_n 0, 1) := by decide +kernel
theorem dX10_numberTo_39 : decode cX10_numberTo 39 = .ok (.invokevirtual 127, 3) := by decide +kernel
theorem dX10_numberTo_42 : decode cX10_numberTo 42 = .ok (.aload_n 0, 1) := by decide +kernel
theorem dX10_numberTo_43 : decode cX10_numberTo 43 = .ok (.getfield 114, 3) := by decide +kernel
theorem dX10_numberTo_46 : decode cX10_numberTo 46 = .ok (.bipush 59, 2) := by decide +kernel
theorem dX10_numberTo_48 : decode cX10_numberTo 48 = .ok (.if_icmp .ne 7, 3) := by decide +kernel
theorem dX10_numberTo_51 : decode cX10_numberTo 51 = .ok (.iconst 0, 1) := by decide +kernel
theorem dX10_numberTo_52 : decode cX10_numberTo 52 = .ok (.goto 4, 3) := by decide +kernel
theorem dX10_numberTo_55 : decode cX10_numberTo 55 = .ok (.iconst 1, 1) := by decide +kernel
theorem dX10_numberTo_56 : decode cX10_numberTo 56 = .ok (.ireturn, 1) := by decide +kernel
theorem dX10_rowClause_0 : decode cX10_rowClause 0 = .ok (.aload_n 0, 1) := by decide +kernel
theorem dX10_rowClause_1 : decode cX10_rowClause 1 = .ok (.getfield 16, 3) := by decide +kernel
theorem dX10_rowClause_4 : decode cX10_rowClause 4 = .ok (.iload_n 1, 1) := by decide +kernel
theorem dX10_rowClause_5 : decode cX10_rowClause 5 = .ok (.iconst 1, 1) := by decide +kernel
theorem dX10_rowClause_6 : decode cX10_rowClause 6 = .ok (.iadd, 1) := by decide +kernel
theorem dX10_rowClause_7 : decode cX10_rowClause 7 = .ok (.iaload, 1) := by decide +kernel
theorem dX10_rowClause_8 : decode cX10_rowClause 8 = .ok (.iconst 4, 1) := by decide +kernel
theorem dX10_rowClause_9 : decode cX10_rowClause 9 = .ok (.if_icmp .ne 5, 3) := by decide +kernel
theorem dX10_rowClause_12 : decode cX10_rowClause 12 = .ok (.iconst 3, 1) := by decide +kernel
theorem dX10_rowClause_13 : decode cX10_rowClause 13 = .ok (.ireturn, 1) := by decide +kernel
theorem dX10_rowClause_14 : decode cX10_rowClause 14 = .ok (.iload_n 1, 1) := by decide +kernel
theorem dX10_rowClause_15 : decode cX10_rowClause 15 = .ok (.iconst 5, 1) := by decide +kernel
theorem dX10_rowClause_16 : decode cX10_rowClause 16 = .ok (.iadd, 1) := by decide +kernel
theorem dX10_rowClause_17 : decode cX10_rowClause 17 = .ok (.bipush 8, 2) := by decide +kernel
theorem dX10_rowClause_19 : decode cX10_rowClause 19 = .ok (.aload_n 0, 1) := by decide +kernel
theorem dX10_rowClause_20 : decode cX10_rowClause 20 = .ok (.getfield 16, 3) := by decide +kernel
theorem dX10_rowClause_23 : decode cX10_rowClause 23 = .ok (.iload_n 1, 1) := by decide +kernel
theorem dX10_rowClause_24 : decode cX10_rowClause 24 = .ok (.iconst 1, 1) := by decide +kernel
theorem dX10_rowClause_25 : decode cX10_rowClause 25 = .ok (.iadd, 1) := by decide +kernel
theorem dX10_rowClause_26 : decode cX10_rowClause 26 = .ok (.iaload, 1) := by decide +kernel
theorem dX10_rowClause_27 : decode cX10_rowClause 27 = .ok (.imul, 1) := by decide +kernel
theorem dX10_rowClause_28 : decode cX10_rowClause 28 = .ok (.iadd, 1) := by decide +kernel
theorem dX10_rowClause_29 : decode cX10_rowClause 29 = .ok (.istore_n 2, 1) := by decide +kernel
theorem dX10_rowClause_30 : decode cX10_rowClause 30 = .ok (.aload_n 0, 1) := by decide +kernel
theorem dX10_rowClause_31 : decode cX10_rowClause 31 = .ok (.getfield 16, 3) := by decide +kernel
theorem dX10_rowClause_34 : decode cX10_rowClause 34 = .ok (.iload_n 1, 1) := by decide +kernel
theorem dX10_rowClause_35 : decode cX10_rowClause 35 = .ok (.iconst 1, 1) := by decide +kernel
theorem dX10_rowClause_36 : decode cX10_rowClause 36 = .ok (.iadd, 1) := by decide +kernel
theorem dX10_rowClause_37 : decode cX10_rowClause 37 = .ok (.dup2, 1) := by decide +kernel
theorem dX10_rowClause_38 : decode cX10_rowClause 38 = .ok (.iaload, 1) := by decide +kernel
theorem dX10_rowClause_39 : decode cX10_rowClause 39 = .ok (.iconst 1, 1) := by decide +kernel
theorem dX10_rowClause_40 : decode cX10_rowClause 40 = .ok (.iadd, 1) := by decide +kernel
theorem dX10_rowClause_41 : decode cX10_rowClause 41 = .ok (.iastore, 1) := by decide +kernel
theorem dX10_rowClause_42 : decode cX10_rowClause 42 = .ok (.iconst 0, 1) := by decide +kernel
theorem dX10_rowClause_43 : decode cX10_rowClause 43 = .ok (.istore_n 3, 1) := by decide +kernel
theorem dX10_rowClause_44 : decode cX10_rowClause 44 = .ok (.aload_n 0, 1) := by decide +kernel
theorem dX10_rowClause_45 : decode cX10_rowClause 45 = .ok (.invokevirtual 127, 3) := by decide +kernel
theorem dX10_rowClause_48 : decode cX10_rowClause 48 = .ok (.aload_n 0, 1) := by decide +kernel
theorem dX10_rowClause_49 : decode cX10_rowClause 49 = .ok (.getfield 114, 3) := by decide +kernel
theorem dX10_rowClause_52 : decode cX10_rowClause 52 = .ok (.iconst 1, 1) := by decide +kernel
theorem dX10_rowClause_53 : decode cX10_rowClause 53 = .ok (.if_icmp .eq 12, 3) := by decide +kernel
theorem dX10_rowClause_56 : decode cX10_rowClause 56 = .ok (.aload_n 0, 1) := by decide +kernel
theorem dX10_rowClause_57 : decode cX10_rowClause 57 = .ok (.getfield 114, 3) := by decide +kernel
theorem dX10_rowClause_60 : decode cX10_rowClause 60 = .ok (.bipush 46, 2) := by decide +kernel
theorem dX10_rowClause_62 : decode cX10_rowClause 62 = .ok (.if_icmp .ne 69, 3) := by decide +kernel
theorem dX10_rowClause_65 : decode cX10_rowClause 65 = .ok (.aload_n 0, 1) := by decide +kernel
theorem dX10_rowClause_66 : decode cX10_rowClause 66 = .ok (.getfield 114, 3) := by decide +kernel
theorem dX10_rowClause_69 : decode cX10_rowClause 69 = .ok (.iconst 1, 1) := by decide +kernel
theorem dX10_rowClause_70 : decode cX10_rowClause 70 = .ok (.if_icmp .ne 18, 3) := by decide +kernel
theorem dX10_rowClause_73 : decode cX10_rowClause 73 = .ok (.aload_n 0, 1) := by decide +kernel
theorem dX10_rowClause_74 : decode cX10_rowClause 74 = .ok (.getfield 111, 3) := by decide +kernel
theorem dX10_rowClause_77 : decode cX10_rowClause 77 = .ok (.aload_n 0, 1) := by decide +kernel
theorem dX10_rowClause_78 : decode cX10_rowClause 78 = .ok (.getfield 16, 3) := by decide +kernel
theorem dX10_rowClause_81 : decode cX10_rowClause 81 = .ok (.iload_n 1, 1) := by decide +kernel
theorem dX10_rowClause_82 : decode cX10_rowClause 82 = .ok (.iaload, 1) := by decide +kernel
theorem dX10_rowClause_83 : decode cX10_rowClause 83 = .ok (.if_icmp .lt 5, 3) := by decide +kernel
theorem dX10_rowClause_86 : decode cX10_rowClause 86 = .ok (.iconst 2, 1) := by decide +kernel
theorem dX10_rowClause_87 : decode cX10_rowClause 87 = .ok (.ireturn, 1) := by decide +kernel
theorem dX10_rowClause_88 : decode cX10_rowClause 88 = .ok (.iload_n 3, 1) := by decide +kernel
theorem dX10_rowClause_89 : decode cX10_rowClause 89 = .ok (.bipush 8, 2) := by decide +kernel
theorem dX10_rowClause_91 : decode cX10_rowClause 91 = .ok (.if_icmp .ne 5, 3) := by decide +kernel
theorem dX10_rowClause_94 : decode cX10_rowClause 94 = .ok (.iconst 3, 1) := by decide +kernel
theorem dX10_rowClause_95 : decode cX10_rowClause 95 = .ok (.ireturn, 1) := by decide +kernel
theorem dX10_rowClause_96 : decode cX10_rowClause 96 = .ok (.aload_n 0, 1) := by decide +kernel
theorem dX10_rowClause_97 : decode cX10_rowClause 97 = .ok (.getfield 16, 3) := by decide +kernel
theorem dX10_rowClause_100 : decode cX10_rowClause 100 = .ok (.iload_n 2, 1) := by decide +kernel
theorem dX10_rowClause_101 : decode cX10_rowClause 101 = .ok (.iload_n 3, 1) := by decide +kernel
theorem dX10_rowClause_102 : decode cX10_rowClause 102 = .ok (.iadd, 1) := by decide +kernel
theorem dX10_rowClause_103 : decode cX10_rowClause 103 = .ok (.aload_n 0, 1) := by decide +kernel
theorem dX10_rowClause_104 : decode cX10_rowClause 104 = .ok (.getfield 114, 3) := by decide +kernel
theorem dX10_rowClause_107 : decode cX10_rowClause 107 = .ok (.bipush 46, 2) := by decide +kernel
theorem dX10_rowClause_109 : decode cX10_rowClause 109 = .ok (.if_icmp .ne 7, 3) := by decide +kernel
theorem dX10_rowClause_112 : decode cX10_rowClause 112 = .ok (.iconst (-1), 1) := by decide +kernel
theorem dX10_rowClause_113 : decode cX10_rowClause 113 = .ok (.goto 7, 3) := by decide +kernel
theorem dX10_rowClause_116 : decode cX10_rowClause 116 = .ok (.aload_n 0, 1) := by decide +kernel
theorem dX10_rowClause_117 : decode cX10_rowClause 117 = .ok (.getfield 111, 3) := by decide +kernel
theorem dX10_rowClause_120 : decode cX10_rowClause 120 = .ok (.iastore, 1) := by decide +kernel
theorem dX10_rowClause_121 : decode cX10_rowClause 121 = .ok (.iinc 3 1, 3) := by decide +kernel
theorem dX10_rowClause_124 : decode cX10_rowClause 124 = .ok (.aload_n 0, 1) := by decide +kernel
theorem dX10_rowClause_125 : decode cX10_rowClause 125 = .ok (.invokevirtual 127, 3) := by decide +kernel
theorem dX10_rowClause_128 : decode cX10_rowClause 128 = .ok (.goto (-80), 3) := by decide +kernel
theorem dX10_rowClause_131 : decode cX10_rowClause 131 = .ok (.aload_n 0, 1) := by decide +kernel
theorem dX10_rowClause_132 : decode cX10_rowClause 132 = .ok (.getfield 114, 3) := by decide +kernel
theorem dX10_rowClause_135 : decode cX10_rowClause 135 = .ok (.bipush 59, 2) := by decide +kernel
theorem dX10_rowClause_137 : decode cX10_rowClause 137 = .ok (.if_icmp .ne 7, 3) := by decide +kernel
theorem dX10_rowClause_140 : decode cX10_rowClause 140 = .ok (.iload_n 3, 1) := by decide +kernel
theorem dX10_rowClause_141 : decode cX10_rowClause 141 = .ok (.ifCond .ne 5, 3) := by decide +kernel
theorem dX10_rowClause_144 : decode cX10_rowClause 144 = .ok (.iconst 1, 1) := by decide +kernel
theorem dX10_rowClause_145 : decode cX10_rowClause 145 = .ok (.ireturn, 1) := by decide +kernel
theorem dX10_rowClause_146 : decode cX10_rowClause 146 = .ok (.aload_n 0, 1) := by decide +kernel
theorem dX10_rowClause_147 : decode cX10_rowClause 147 = .ok (.getfield 16, 3) := by decide +kernel
theorem dX10_rowClause_150 : decode cX10_rowClause 150 = .ok (.iload_n 1, 1) := by decide +kernel
theorem dX10_rowClause_151 : decode cX10_rowClause 151 = .ok (.iconst 1, 1) := by decide +kernel
theorem dX10_rowClause_152 : decode cX10_rowClause 152 = .ok (.iadd, 1) := by decide +kernel
theorem dX10_rowClause_153 : decode cX10_rowClause 153 = .ok (.iaload, 1) := by decide +kernel
theorem dX10_rowClause_154 : decode cX10_rowClause 154 = .ok (.iconst 1, 1) := by decide +kernel
theorem dX10_rowClause_155 : decode cX10_rowClause 155 = .ok (.if_icmp .ne 12, 3) := by decide +kernel
theorem dX10_rowClause_158 : decode cX10_rowClause 158 = .ok (.aload_n 0, 1) := by decide +kernel
theorem dX10_rowClause_159 : decode cX10_rowClause 159 = .ok (.getfield 16, 3) := by decide +kernel
theorem dX10_rowClause_162 : decode cX10_rowClause 162 = .ok (.iload_n 1, 1) := by decide +kernel
theorem dX10_rowClause_163 : decode cX10_rowClause 163 = .ok (.iconst 2, 1) := by decide +kernel
theorem dX10_rowClause_164 : decode cX10_rowClause 164 = .ok (.iadd, 1) := by decide +kernel
theorem dX10_rowClause_165 : decode cX10_rowClause 165 = .ok (.iload_n 3, 1) := by decide +kernel
theorem dX10_rowClause_166 : decode cX10_rowClause 166 = .ok (.iastore, 1) := by decide +kernel
theorem dX10_rowClause_167 : decode cX10_rowClause 167 = .ok (.iload_n 3, 1) := by decide +kernel
theorem dX10_rowClause_168 : decode cX10_rowClause 168 = .ok (.aload_n 0, 1) := by decide +kernel
theorem dX10_rowClause_169 : decode cX10_rowClause 169 = .ok (.getfield 16, 3) := by decide +kernel
theorem dX10_rowClause_172 : decode cX10_rowClause 172 = .ok (.iload_n 1, 1) := by decide +kernel
theorem dX10_rowClause_173 : decode cX10_rowClause 173 = .ok (.iconst 2, 1) := by decide +kernel
theorem dX10_rowClause_174 : decode cX10_rowClause 174 = .ok (.iadd, 1) := by decide +kernel
theorem dX10_rowClause_175 : decode cX10_rowClause 175 = .ok (.iaload, 1) := by decide +kernel
theorem dX10_rowClause_176 : decode cX10_rowClause 176 = .ok (.if_icmp .ne 7, 3) := by decide +kernel
theorem dX10_rowClause_179 : decode cX10_rowClause 179 = .ok (.iconst 0, 1) := by decide +kernel
theorem dX10_rowClause_180 : decode cX10_rowClause 180 = .ok (.goto 4, 3) := by decide +kernel
theorem dX10_rowClause_183 : decode cX10_rowClause 183 = .ok (.iconst 5, 1) := by decide +kernel
theorem dX10_rowClause_184 : decode cX10_rowClause 184 = .ok (.ireturn, 1) := by decide +kernel
theorem dX10_clause_0 : decode cX10_clause 0 = .ok (.aload_n 0, 1) := by decide +kernel
theorem dX10_clause_1 : decode cX10_clause 1 = .ok (.getfield 114, 3) := by decide +kernel
theorem dX10_clause_4 : decode cX10_clause 4 = .ok (.tableswitch 108 200 203 #[32, 52, 58, 83], 32) := by decide +kernel
theorem dX10_clause_36 : decode cX10_clause 36 = .ok (.aload_n 0, 1) := by decide +kernel
theorem dX10_clause_37 : decode cX10_clause 37 = .ok (.getfield 130, 3) := by decide +kernel
theorem dX10_clause_40 : decode cX10_clause 40 = .ok (.ifCond .le 7, 3) := by decide +kernel
theorem dX10_clause_43 : decode cX10_clause 43 = .ok (.iconst 4, 1) := by decide +kernel
theorem dX10_clause_44 : decode cX10_clause 44 = .ok (.goto 11, 3) := by decide +kernel
theorem dX10_clause_47 : decode cX10_clause 47 = .ok (.aload_n 0, 1) := by decide +kernel
theorem dX10_clause_48 : decode cX10_clause 48 = .ok (.iload_n 1, 1) := by decide +kernel
theorem dX10_clause_49 : decode cX10_clause 49 = .ok (.iconst 1, 1) := by decide +kernel
theorem dX10_clause_50 : decode cX10_clause 50 = .ok (.bipush 6, 2) := by decide +kernel
theorem dX10_clause_52 : decode cX10_clause 52 = .ok (.invokevirtual 133, 3) := by decide +kernel
theorem dX10_clause_55 : decode cX10_clause 55 = .ok (.ireturn, 1) := by decide +kernel
theorem dX10_clause_56 : decode cX10_clause 56 = .ok (.aload_n 0, 1) := by decide +kernel
theorem dX10_clause_57 : decode cX10_clause 57 = .ok (.iload_n 1, 1) := by decide +kernel
theorem dX10_clause_58 : decode cX10_clause 58 = .ok (.invokevirtual 137, 3) := by decide +kernel
theorem dX10_clause_61 : decode cX10_clause 61 = .ok (.ireturn, 1) := by decide +kernel
theorem dX10_clause_62 : decode cX10_clause 62 = .ok (.aload_n 0, 1) := by decide +kernel
theorem dX10_clause_63 : decode cX10_clause 63 = .ok (.getfield 140, 3) := by decide +kernel
theorem dX10_clause_66 : decode cX10_clause 66 = .ok (.ifCond .eq 5, 3) := by decide +kernel
theorem dX10_clause_69 : decode cX10_clause 69 = .ok (.iconst 4, 1) := by decide +kernel
theorem dX10_clause_70 : decode cX10_clause 70 = .ok (.ireturn, 1) := by decide +kernel
theorem dX10_clause_71 : decode cX10_clause 71 = .ok (.aload_n 0, 1) := by decide +kernel
theorem dX10_clause_72 : decode cX10_clause 72 = .ok (.iconst 1, 1) := by decide +kernel
theorem dX10_clause_73 : decode cX10_clause 73 = .ok (.putfield 140, 3) := by decide +kernel
theorem dX10_clause_76 : decode cX10_clause 76 = .ok (.aload_n 0, 1) := by decide +kernel
theorem dX10_clause_77 : decode cX10_clause 77 = .ok (.iload_n 1, 1) := by decide +kernel
theorem dX10_clause_78 : decode cX10_clause 78 = .ok (.iconst 3, 1) := by decide +kernel
theorem dX10_clause_79 : decode cX10_clause 79 = .ok (.iadd, 1) := by decide +kernel
theorem dX10_clause_80 : decode cX10_clause 80 = .ok (.iconst 0, 1) := by decide +kernel
theorem dX10_clause_81 : decode cX10_clause 81 = .ok (.bipush 9, 2) := by decide +kernel
theorem dX10_clause_83 : decode cX10_clause 83 = .ok (.invokevirtual 133, 3) := by decide +kernel
theorem dX10_clause_86 : decode cX10_clause 86 = .ok (.ireturn, 1) := by decide +kernel
theorem dX10_clause_87 : decode cX10_clause 87 = .ok (.aload_n 0, 1) := by decide +kernel
theorem dX10_clause_88 : decode cX10_clause 88 = .ok (.getfield 144, 3) := by decide +kernel
theorem dX10_clause_91 : decode cX10_clause 91 = .ok (.ifCond .eq 5, 3) := by decide +kernel
theorem dX10_clause_94 : decode cX10_clause 94 = .ok (.iconst 4, 1) := by decide +kernel
theorem dX10_clause_95 : decode cX10_clause 95 = .ok (.ireturn, 1) := by decide +kernel
theorem dX10_clause_96 : decode cX10_clause 96 = .ok (.aload_n 0, 1) := by decide +kernel
theorem dX10_clause_97 : decode cX10_clause 97 = .ok (.iconst 1, 1) := by decide +kernel
theorem dX10_clause_98 : decode cX10_clause 98 = .ok (.putfield 144, 3) := by decide +kernel
theorem dX10_clause_101 : decode cX10_clause 101 = .ok (.aload_n 0, 1) := by decide +kernel
theorem dX10_clause_102 : decode cX10_clause 102 = .ok (.iload_n 1, 1) := by decide +kernel
theorem dX10_clause_103 : decode cX10_clause 103 = .ok (.iconst 4, 1) := by decide +kernel
theorem dX10_clause_104 : decode cX10_clause 104 = .ok (.iadd, 1) := by decide +kernel
theorem dX10_clause_105 : decode cX10_clause 105 = .ok (.iconst 1, 1) := by decide +kernel
theorem dX10_clause_106 : decode cX10_clause 106 = .ok (.bipush 31, 2) := by decide +kernel
theorem dX10_clause_108 : decode cX10_clause 108 = .ok (.invokevirtual 133, 3) := by decide +kernel
theorem dX10_clause_111 : decode cX10_clause 111 = .ok (.ireturn, 1) := by decide +kernel
theorem dX10_clause_112 : decode cX10_clause 112 = .ok (.iconst 1, 1) := by decide +kernel
theorem dX10_clause_113 : decode cX10_clause 113 = .ok (.ireturn, 1) := by decide +kernel
theorem dX10_readText_0 : decode cX10_readText 0 = .ok (.bipush 37, 2) := by decide +kernel
theorem dX10_readText_2 : decode cX10_readText 2 = .ok (.aload_n 0, 1) := by decide +kernel
theorem dX10_readText_3 : decode cX10_readText 3 = .ok (.getfield 7, 3) := by decide +kernel
theorem dX10_readText_6 : decode cX10_readText 6 = .ok (.iconst 0, 1) := by decide +kernel
theorem dX10_readText_7 : decode cX10_readText 7 = .ok (.iaload, 1) := by decide +kernel
theorem dX10_readText_8 : decode cX10_readText 8 = .ok (.imul, 1) := by decide +kernel
theorem dX10_readText_9 : decode cX10_readText 9 = .ok (.istore_n 1, 1) := by decide +kernel
theorem dX10_readText_10 : decode cX10_readText 10 = .ok (.aload_n 0, 1) := by decide +kernel
theorem dX10_readText_11 : decode cX10_readText 11 = .ok (.getfield 16, 3) := by decide +kernel
theorem dX10_readText_14 : decode cX10_readText 14 = .ok (.iload_n 1, 1) := by decide +kernel
theorem dX10_readText_15 : decode cX10_readText 15 = .ok (.iconst 1, 1) := by decide +kernel
theorem dX10_readText_16 : decode cX10_readText 16 = .ok (.iastore, 1) := by decide +kernel
theorem dX10_readText_17 : decode cX10_readText 17 = .ok (.aload_n 0, 1) := by decide +kernel
theorem dX10_readText_18 : decode cX10_readText 18 = .ok (.getfield 16, 3) := by decide +kernel
theorem dX10_readText_21 : decode cX10_readText 21 = .ok (.iload_n 1, 1) := by decide +kernel
theorem dX10_readText_22 : decode cX10_readText 22 = .ok (.iconst 1, 1) := by decide +kernel
theorem dX10_readText_23 : decode cX10_readText 23 = .ok (.iadd, 1) := by decide +kernel
theorem dX10_readText_24 : decode cX10_readText 24 = .ok (.iconst 0, 1) := by decide +kernel
theorem dX10_readText_25 : decode cX10_readText 25 = .ok (.iastore, 1) := by decide +kernel
theorem dX10_readText_26 : decode cX10_readText 26 = .ok (.aload_n 0, 1) := by decide +kernel
theorem dX10_readText_27 : decode cX10_readText 27 = .ok (.getfield 16, 3) := by decide +kernel
theorem dX10_readText_30 : decode cX10_readText 30 = .ok (.iload_n 1, 1) := by decide +kernel
theorem dX10_readText_31 : decode cX10_readText 31 = .ok (.iconst 2, 1) := by decide +kernel
theorem dX10_readText_32 : decode cX10_readText 32 = .ok (.iadd, 1) := by decide +kernel
theorem dX10_readText_33 : decode cX10_readText 33 = .ok (.iconst 0, 1) := by decide +kernel
theorem dX10_readText_34 : decode cX10_readText 34 = .ok (.iastore, 1) := by decide +kernel
theorem dX10_readText_35 : decode cX10_readText 35 = .ok (.aload_n 0, 1) := by decide +kernel
theorem dX10_readText_36 : decode cX10_readText 36 = .ok (.getfield 16, 3) := by decide +kernel
theorem dX10_readText_39 : decode cX10_readText 39 = .ok (.iload_n 1, 1) := by decide +kernel
theorem dX10_readText_40 : decode cX10_readText 40 = .ok (.iconst 3, 1) := by decide +kernel
theorem dX10_readText_41 : decode cX10_readText 41 = .ok (.iadd, 1) := by decide +kernel
theorem dX10_readText_42 : decode cX10_readText 42 = .ok (.iconst 1, 1) := by decide +kernel
theorem dX10_readText_43 : decode cX10_readText 43 = .ok (.iastore, 1) := by decide +kernel
theorem dX10_readText_44 : decode cX10_readText 44 = .ok (.aload_n 0, 1) := by decide +kernel
theorem dX10_readText_45 : decode cX10_readText 45 = .ok (.getfield 16, 3) := by decide +kernel
theorem dX10_readText_48 : decode cX10_readText 48 = .ok (.iload_n 1, 1) := by decide +kernel
theorem dX10_readText_49 : decode cX10_readText 49 = .ok (.iconst 4, 1) := by decide +kernel
theorem dX10_readText_50 : decode cX10_readText 50 = .ok (.iadd, 1) := by decide +kernel
theorem dX10_readText_51 : decode cX10_readText 51 = .ok (.bipush 15, 2) := by decide +kernel
theorem dX10_readText_53 : decode cX10_readText 53 = .ok (.iastore, 1) := by decide +kernel
theorem dX10_readText_54 : decode cX10_readText 54 = .ok (.aload_n 0, 1) := by decide +kernel
theorem dX10_readText_55 : decode cX10_readText 55 = .ok (.iconst 0, 1) := by decide +kernel
theorem dX10_readText_56 : decode cX10_readText 56 = .ok (.putfield 130, 3) := by decide +kernel
theorem dX10_readText_59 : decode cX10_readText 59 = .ok (.aload_n 0, 1) := by decide +kernel
theorem dX10_readText_60 : decode cX10_readText 60 = .ok (.iconst 0, 1) := by decide +kernel
theorem dX10_readText_61 : decode cX10_readText 61 = .ok (.putfield 140, 3) := by decide +kernel
theorem dX10_readText_64 : decode cX10_readText 64 = .ok (.aload_n 0, 1) := by decide +kernel
theorem dX10_readText_65 : decode cX10_readText 65 = .ok (.iconst 0, 1) := by decide +kernel
theorem dX10_readText_66 : decode cX10_readText 66 = .ok (.putfield 144, 3) := by decide +kernel
theorem dX10_readText_69 : decode cX10_readText 69 = .ok (.aload_n 0, 1) := by decide +kernel
theorem dX10_readText_70 : decode cX10_readText 70 = .ok (.iconst 0, 1) := by decide +kernel
theorem dX10_readText_71 : decode cX10_readText 71 = .ok (.putfield 108, 3) := by decide +kernel
theorem dX10_readText_74 : decode cX10_readText 74 = .ok (.aload_n 0, 1) := by decide +kernel
theorem dX10_readText_75 : decode cX10_readText 75 = .ok (.invokevirtual 127, 3) := by decide +kernel
theorem dX10_readText_78 : decode cX10_readText 78 = .ok (.aload_n 0, 1) := by decide +kernel
theorem dX10_readText_79 : decode cX10_readText 79 = .ok (.getfield 114, 3) := by decide +kernel
theorem dX10_readText_82 : decode cX10_readText 82 = .ok (.ifCond .eq 32, 3) := by decide +kernel
theorem dX10_readText_85 : decode cX10_readText 85 = .ok (.aload_n 0, 1) := by decide +kernel
theorem dX10_readText_86 : decode cX10_readText 86 = .ok (.iload_n 1, 1) := by decide +kernel
theorem dX10_readText_87 : decode cX10_readText 87 = .ok (.invokevirtual 147, 3) := by decide +kernel
theorem dX10_readText_90 : decode cX10_readText 90 = .ok (.istore_n 2, 1) := by decide +kernel
theorem dX10_readText_91 : decode cX10_readText 91 = .ok (.iload_n 2, 1) := by decide +kernel
theorem dX10_readText_92 : decode cX10_readText 92 = .ok (.ifCond .eq 5, 3) := by decide +kernel
theorem dX10_readText_95 : decode cX10_readText 95 = .ok (.iload_n 2, 1) := by decide +kernel
theorem dX10_readText_96 : decode cX10_readText 96 = .ok (.ireturn, 1) := by decide +kernel
theorem dX10_readText_97 : decode cX10_readText 97 = .ok (.aload_n 0, 1) := by decide +kernel
theorem dX10_readText_98 : decode cX10_readText 98 = .ok (.dup, 1) := by decide +kernel
theorem dX10_readText_99 : decode cX10_readText 99 = .ok (.getfield 130, 3) := by decide +kernel
theorem dX10_readText_102 : decode cX10_readText 102 = .ok (.iconst 1, 1) := by decide +kernel
theorem dX10_readText_103 : decode cX10_readText 103 = .ok (.iadd, 1) := by decide +kernel
theorem dX10_readText_104 : decode cX10_readText 104 = .ok (.putfield 130, 3) := by decide +kernel
theorem dX10_readText_107 : decode cX10_readText 107 = .ok (.aload_n 0, 1) := by decide +kernel
theorem dX10_readText_108 : decode cX10_readText 108 = .ok (.invokevirtual 127, 3) := by decide +kernel
theorem dX10_readText_111 : decode cX10_readText 111 = .ok (.goto (-33), 3) := by decide +kernel
theorem dX10_readText_114 : decode cX10_readText 114 = .ok (.aload_n 0, 1) := by decide +kernel
theorem dX10_readText_115 : decode cX10_readText 115 = .ok (.getfield 16, 3) := by decide +kernel
theorem dX10_readText_118 : decode cX10_readText 118 = .ok (.iload_n 1, 1) := by decide +kernel
theorem dX10_readText_119 : decode cX10_readText 119 = .ok (.iconst 1, 1) := by decide +kernel
theorem dX10_readText_120 : decode cX10_readText 120 = .ok (.iadd, 1) := by decide +kernel
theorem dX10_readText_121 : decode cX10_readText 121 = .ok (.iaload, 1) := by decide +kernel
theorem dX10_readText_122 : decode cX10_readText 122 = .ok (.ifCond .ne 7, 3) := by decide +kernel
theorem dX10_readText_125 : decode cX10_readText 125 = .ok (.iconst 1, 1) := by decide +kernel
theorem dX10_readText_126 : decode cX10_readText 126 = .ok (.goto 4, 3) := by decide +kernel
theorem dX10_readText_129 : decode cX10_readText 129 = .ok (.iconst 0, 1) := by decide +kernel
theorem dX10_readText_130 : decode cX10_readText 130 = .ok (.ireturn, 1) := by decide +kernel
theorem dX10_text_0 : decode cX10_text 0 = .ok (.aload_n 0, 1) := by decide +kernel
theorem dX10_text_1 : decode cX10_text 1 = .ok (.getfield 7, 3) := by decide +kernel
theorem dX10_text_4 : decode cX10_text 4 = .ok (.iconst 0, 1) := by decide +kernel
theorem dX10_text_5 : decode cX10_text 5 = .ok (.iaload, 1) := by decide +kernel
theorem dX10_text_6 : decode cX10_text 6 = .ok (.iconst 4, 1) := by decide +kernel
theorem dX10_text_7 : decode cX10_text 7 = .ok (.if_icmp .ne 5, 3) := by decide +kernel
theorem dX10_text_10 : decode cX10_text 10 = .ok (.iconst (-1), 1) := by decide +kernel
theorem dX10_text_11 : decode cX10_text 11 = .ok (.ireturn, 1) := by decide +kernel
theorem dX10_text_12 : decode cX10_text 12 = .ok (.aload_n 0, 1) := by decide +kernel
theorem dX10_text_13 : decode cX10_text 13 = .ok (.aload_n 0, 1) := by decide +kernel
theorem dX10_text_14 : decode cX10_text 14 = .ok (.invokevirtual 150, 3) := by decide +kernel
theorem dX10_text_17 : decode cX10_text 17 = .ok (.putfield 22, 3) := by decide +kernel
theorem dX10_text_20 : decode cX10_text 20 = .ok (.aload_n 0, 1) := by decide +kernel
theorem dX10_text_21 : decode cX10_text 21 = .ok (.aload_n 0, 1) := by decide +kernel
theorem dX10_text_22 : decode cX10_text 22 = .ok (.getfield 22, 3) := by decide +kernel
theorem dX10_text_25 : decode cX10_text 25 = .ok (.ifCond .ne 7, 3) := by decide +kernel
theorem dX10_text_28 : decode cX10_text 28 = .ok (.iconst (-1), 1) := by decide +kernel
theorem dX10_text_29 : decode cX10_text 29 = .ok (.goto 7, 3) := by decide +kernel
theorem dX10_text_32 : decode cX10_text 32 = .ok (.aload_n 0, 1) := by decide +kernel
theorem dX10_text_33 : decode cX10_text 33 = .ok (.getfield 101, 3) := by decide +kernel
theorem dX10_text_36 : decode cX10_text 36 = .ok (.putfield 26, 3) := by decide +kernel
theorem dX10_text_39 : decode cX10_text 39 = .ok (.aload_n 0, 1) := by decide +kernel
theorem dX10_text_40 : decode cX10_text 40 = .ok (.iconst 0, 1) := by decide +kernel
theorem dX10_text_41 : decode cX10_text 41 = .ok (.putfield 91, 3) := by decide +kernel
theorem dX10_text_44 : decode cX10_text 44 = .ok (.aload_n 0, 1) := by decide +kernel
theorem dX10_text_45 : decode cX10_text 45 = .ok (.getfield 22, 3) := by decide +kernel
theorem dX10_text_48 : decode cX10_text 48 = .ok (.ifCond .eq 5, 3) := by decide +kernel
theorem dX10_text_51 : decode cX10_text 51 = .ok (.iconst (-1), 1) := by decide +kernel
theorem dX10_text_52 : decode cX10_text 52 = .ok (.ireturn, 1) := by decide +kernel
theorem dX10_text_53 : decode cX10_text 53 = .ok (.aload_n 0, 1) := by decide +kernel
theorem dX10_text_54 : decode cX10_text 54 = .ok (.getfield 7, 3) := by decide +kernel
theorem dX10_text_57 : decode cX10_text 57 = .ok (.iconst 0, 1) := by decide +kernel
theorem dX10_text_58 : decode cX10_text 58 = .ok (.dup2, 1) := by decide +kernel
theorem dX10_text_59 : decode cX10_text 59 = .ok (.iaload, 1) := by decide +kernel
theorem dX10_text_60 : decode cX10_text 60 = .ok (.iconst 1, 1) := by decide +kernel
theorem dX10_text_61 : decode cX10_text 61 = .ok (.iadd, 1) := by decide +kernel
theorem dX10_text_62 : decode cX10_text 62 = .ok (.iastore, 1) := by decide +kernel
theorem dX10_text_63 : decode cX10_text 63 = .ok (.aload_n 0, 1) := by decide +kernel
theorem dX10_text_64 : decode cX10_text 64 = .ok (.getfield 7, 3) := by decide +kernel
theorem dX10_text_67 : decode cX10_text 67 = .ok (.iconst 0, 1) := by decide +kernel
theorem dX10_text_68 : decode cX10_text 68 = .ok (.iaload, 1) := by decide +kernel
theorem dX10_text_69 : decode cX10_text 69 = .ok (.iconst 1, 1) := by decide +kernel
theorem dX10_text_70 : decode cX10_text 70 = .ok (.isub, 1) := by decide +kernel
theorem dX10_text_71 : decode cX10_text 71 = .ok (.ireturn, 1) := by decide +kernel
theorem dX10_fault_0 : decode cX10_fault 0 = .ok (.iload_n 1, 1) := by decide +kernel
theorem dX10_fault_1 : decode cX10_fault 1 = .ok (.ifCond .ne 10, 3) := by decide +kernel
theorem dX10_fault_4 : decode cX10_fault 4 = .ok (.aload_n 0, 1) := by decide +kernel
theorem dX10_fault_5 : decode cX10_fault 5 = .ok (.getfield 22, 3) := by decide +kernel
theorem dX10_fault_8 : decode cX10_fault 8 = .ok (.goto 16, 3) := by decide +kernel
theorem dX10_fault_11 : decode cX10_fault 11 = .ok (.iload_n 1, 1) := by decide +kernel
theorem dX10_fault_12 : decode cX10_fault 12 = .ok (.iconst 1, 1) := by decide +kernel
theorem dX10_fault_13 : decode cX10_fault 13 = .ok (.if_icmp .ne 10, 3) := by decide +kernel
theorem dX10_fault_16 : decode cX10_fault 16 = .ok (.aload_n 0, 1) := by decide +kernel
theorem dX10_fault_17 : decode cX10_fault 17 = .ok (.getfield 26, 3) := by decide +kernel
theorem dX10_fault_20 : decode cX10_fault 20 = .ok (.goto 4, 3) := by decide +kernel
theorem dX10_fault_23 : decode cX10_fault 23 = .ok (.iconst (-1), 1) := by decide +kernel
theorem dX10_fault_24 : decode cX10_fault 24 = .ok (.ireturn, 1) := by decide +kernel
theorem dX10_orders_0 : decode cX10_orders 0 = .ok (.iconst 1, 1) := by decide +kernel
theorem dX10_orders_1 : decode cX10_orders 1 = .ok (.istore_n 1, 1) := by decide +kernel
theorem dX10_orders_2 : decode cX10_orders 2 = .ok (.iconst 2, 1) := by decide +kernel
theorem dX10_orders_3 : decode cX10_orders 3 = .ok (.istore_n 2, 1) := by decide +kernel
theorem dX10_orders_4 : decode cX10_orders 4 = .ok (.iload_n 2, 1) := by decide +kernel
theorem dX10_orders_5 : decode cX10_orders 5 = .ok (.aload_n 0, 1) := by decide +kernel
theorem dX10_orders_6 : decode cX10_orders 6 = .ok (.getfield 7, 3) := by decide +kernel
theorem dX10_orders_9 : decode cX10_orders 9 = .ok (.iconst 4, 1) := by decide +kernel
theorem dX10_orders_10 : decode cX10_orders 10 = .ok (.iaload, 1) := by decide +kernel
theorem dX10_orders_11 : decode cX10_orders 11 = .ok (.if_icmp .gt 13, 3) := by decide +kernel
theorem dX10_orders_14 : decode cX10_orders 14 = .ok (.iload_n 1, 1) := by decide +kernel
theorem dX10_orders_15 : decode cX10_orders 15 = .ok (.iload_n 2, 1) := by decide +kernel
theorem dX10_orders_16 : decode cX10_orders 16 = .ok (.imul, 1) := by decide +kernel
theorem dX10_orders_17 : decode cX10_orders 17 = .ok (.istore_n 1, 1) := by decide +kernel
theorem dX10_orders_18 : decode cX10_orders 18 = .ok (.iinc 2 1, 3) := by decide +kernel
theorem dX10_orders_21 : decode cX10_orders 21 = .ok (.goto (-17), 3) := by decide +kernel
theorem dX10_orders_24 : decode cX10_orders 24 = .ok (.iload_n 1, 1) := by decide +kernel
theorem dX10_orders_25 : decode cX10_orders 25 = .ok (.ireturn, 1) := by decide +kernel
theorem dX10_layerOf_0 : decode cX10_layerOf 0 = .ok (.iload_n 1, 1) := by decide +kernel
theorem dX10_layerOf_1 : decode cX10_layerOf 1 = .ok (.istore_n 3, 1) := by decide +kernel
theorem dX10_layerOf_2 : decode cX10_layerOf 2 = .ok (.aload_n 0, 1) := by decide +kernel
theorem dX10_layerOf_3 : decode cX10_layerOf 3 = .ok (.invokevirtual 153, 3) := by decide +kernel
theorem dX10_layerOf_6 : decode cX10_layerOf 6 = .ok (.istore 4, 2) := by decide +kernel
theorem dX10_layerOf_8 : decode cX10_layerOf 8 = .ok (.iconst 0, 1) := by decide +kernel
theorem dX10_layerOf_9 : decode cX10_layerOf 9 = .ok (.istore 5, 2) := by decide +kernel
theorem dX10_layerOf_11 : decode cX10_layerOf 11 = .ok (.iconst 0, 1) := by decide +kernel
theorem dX10_layerOf_12 : decode cX10_layerOf 12 = .ok (.istore 6, 2) := by decide +kernel
theorem dX10_layerOf_14 : decode cX10_layerOf 14 = .ok (.iconst 0, 1) := by decide +kernel
theorem dX10_layerOf_15 : decode cX10_layerOf 15 = .ok (.istore 7, 2) := by decide +kernel
theorem dX10_layerOf_17 : decode cX10_layerOf 17 = .ok (.iload 7, 2) := by decide +kernel
theorem dX10_layerOf_19 : decode cX10_layerOf 19 = .ok (.iload_n 2, 1) := by decide +kernel
theorem dX10_layerOf_20 : decode cX10_layerOf 20 = .ok (.if_icmp .gt 89, 3) := by decide +kernel
theorem dX10_layerOf_23 : decode cX10_layerOf 23 = .ok (.iload 4, 2) := by decide +kernel
theorem dX10_layerOf_25 : decode cX10_layerOf 25 = .ok (.aload_n 0, 1) := by decide +kernel
theorem dX10_layerOf_26 : decode cX10_layerOf 26 = .ok (.getfield 7, 3) := by decide +kernel
theorem dX10_layerOf_29 : decode cX10_layerOf 29 = .ok (.iconst 4, 1) := by decide +kernel
theorem dX10_layerOf_30 : decode cX10_layerOf 30 = .ok (.iaload, 1) := by decide +kernel
theorem dX10_layerOf_31 : decode cX10_layerOf 31 = .ok (.iload 7, 2) := by decide +kernel
theorem dX10_layerOf_33 : decode cX10_layerOf 33 = .ok (.isub, 1) := by decide +kernel
theorem dX10_layerOf_34 : decode cX10_layerOf 34 = .ok (.idiv, 1) := by decide +kernel
theorem dX10_layerOf_35 : decode cX10_layerOf 35 = .ok (.istore 4, 2) := by decide +kernel
theorem dX10_layerOf_37 : decode cX10_layerOf 37 = .ok (.iload_n 3, 1) := by decide +kernel
theorem dX10_layerOf_38 : decode cX10_layerOf 38 = .ok (.iload 4, 2) := by decide +kernel
theorem dX10_layerOf_40 : decode cX10_layerOf 40 = .ok (.idiv, 1) := by decide +kernel
theorem dX10_layerOf_41 : decode cX10_layerOf 41 = .ok (.istore 8, 2) := by decide +kernel
theorem dX10_layerOf_43 : decode cX10_layerOf 43 = .ok (.iload_n 3, 1) := by decide +kernel
theorem dX10_layerOf_44 : decode cX10_layerOf 44 = .ok (.iload 4, 2) := by decide +kernel
theorem dX10_layerOf_46 : decode cX10_layerOf 46 = .ok (.irem, 1) := by decide +kernel
theorem dX10_layerOf_47 : decode cX10_layerOf 47 = .ok (.istore_n 3, 1) := by decide +kernel
theorem dX10_layerOf_48 : decode cX10_layerOf 48 = .ok (.iconst 0, 1) := by decide +kernel
theorem dX10_layerOf_49 : decode cX10_layerOf 49 = .ok (.istore 6, 2) := by decide +kernel
theorem dX10_layerOf_51 : decode cX10_layerOf 51 = .ok (.iload 5, 2) := by decide +kernel
theorem dX10_layerOf_53 : decode cX10_layerOf 53 = .ok (.iload 6, 2) := by decide +kernel
theorem dX10_layerOf_55 : decode cX10_layerOf 55 = .ok (.ishr, 1) := by decide +kernel
theorem dX10_layerOf_56 : decode cX10_layerOf 56 = .ok (.iconst 1, 1) := by decide +kernel
theorem dX10_layerOf_57 : decode cX10_layerOf 57 = .ok (.iand, 1) := by decide +kernel
theorem dX10_layerOf_58 : decode cX10_layerOf 58 = .ok (.iconst 1, 1) := by decide +kernel
theorem dX10_layerOf_59 : decode cX10_layerOf 59 = .ok (.if_icmp .eq 8, 3) := by decide +kernel
theorem dX10_layerOf_62 : decode cX10_layerOf 62 = .ok (.iload 8, 2) := by decide +kernel
theorem dX10_layerOf_64 : decode cX10_layerOf 64 = .ok (.ifCond .le 30, 3) := by decide +kernel
theorem dX10_layerOf_67 : decode cX10_layerOf 67 = .ok (.iload 8, 2) := by decide +kernel
theorem dX10_layerOf_69 : decode cX10_layerOf 69 = .ok (.iload 5, 2) := by decide +kernel
theorem dX10_layerOf_71 : decode cX10_layerOf 71 = .ok (.iload 6, 2) := by decide +kernel
theorem dX10_layerOf_73 : decode cX10_layerOf 73 = .ok (.ishr, 1) := by decide +kernel
theorem dX10_layerOf_74 : decode cX10_layerOf 74 = .ok (.iconst 1, 1) := by decide +kernel
theorem dX10_layerOf_75 : decode cX10_layerOf 75 = .ok (.iand, 1) := by decide +kernel
theorem dX10_layerOf_76 : decode cX10_layerOf 76 = .ok (.iconst 1, 1) := by decide +kernel
theorem dX10_layerOf_77 : decode cX10_layerOf 77 = .ok (.if_icmp .ne 7, 3) := by decide +kernel
theorem dX10_layerOf_80 : decode cX10_layerOf 80 = .ok (.iconst 0, 1) := by decide +kernel
theorem dX10_layerOf_81 : decode cX10_layerOf 81 = .ok (.goto 4, 3) := by decide +kernel
theorem dX10_layerOf_84 : decode cX10_layerOf 84 = .ok (.iconst 1, 1) := by decide +kernel
theorem dX10_layerOf_85 : decode cX10_layerOf 85 = .ok (.isub, 1) := by decide +kernel
theorem dX10_layerOf_86 : decode cX10_layerOf 86 = .ok (.istore 8, 2) := by decide +kernel
theorem dX10_layerOf_88 : decode cX10_layerOf 88 = .ok (.iinc 6 1, 3) := by decide +kernel
theorem dX10_layerOf_91 : decode cX10_layerOf 91 = .ok (.goto (-40), 3) := by decide +kernel
theorem dX10_layerOf_94 : decode cX10_layerOf 94 = .ok (.iload 5, 2) := by decide +kernel
theorem dX10_layerOf_96 : decode cX10_layerOf 96 = .ok (.iconst 1, 1) := by decide +kernel
theorem dX10_layerOf_97 : decode cX10_layerOf 97 = .ok (.iload 6, 2) := by decide +kernel
theorem dX10_layerOf_99 : decode cX10_layerOf 99 = .ok (.ishl, 1) := by decide +kernel
theorem dX10_layerOf_100 : decode cX10_layerOf 100 = .ok (.ior, 1) := by decide +kernel
theorem dX10_layerOf_101 : decode cX10_layerOf 101 = .ok (.istore 5, 2) := by decide +kernel
theorem dX10_layerOf_103 : decode cX10_layerOf 103 = .ok (.iinc 7 1, 3) := by decide +kernel
theorem dX10_layerOf_106 : decode cX10_layerOf 106 = .ok (.goto (-89), 3) := by decide +kernel
theorem dX10_layerOf_109 : decode cX10_layerOf 109 = .ok (.iload 6, 2) := by decide +kernel
theorem dX10_layerOf_111 : decode cX10_layerOf 111 = .ok (.ireturn, 1) := by decide +kernel
theorem dX10_messageAt_0 : decode cX10_messageAt 0 = .ok (.sipush 144, 3) := by decide +kernel
theorem dX10_messageAt_3 : decode cX10_messageAt 3 = .ok (.bipush 8, 2) := by decide +kernel
theorem dX10_messageAt_5 : decode cX10_messageAt 5 = .ok (.iload_n 0, 1) := by decide +kernel
theorem dX10_messageAt_6 : decode cX10_messageAt 6 = .ok (.imul, 1) := by decide +kernel
theorem dX10_messageAt_7 : decode cX10_messageAt 7 = .ok (.iadd, 1) := by decide +kernel
theorem dX10_messageAt_8 : decode cX10_messageAt 8 = .ok (.iload_n 1, 1) := by decide +kernel
theorem dX10_messageAt_9 : decode cX10_messageAt 9 = .ok (.iadd, 1) := by decide +kernel
theorem dX10_messageAt_10 : decode cX10_messageAt 10 = .ok (.ireturn, 1) := by decide +kernel
theorem dX10_beginNow_0 : decode cX10_beginNow 0 = .ok (.aload_n 0, 1) := by decide +kernel
theorem dX10_beginNow_1 : decode cX10_beginNow 1 = .ok (.getfield 7, 3) := by decide +kernel
theorem dX10_beginNow_4 : decode cX10_beginNow 4 = .ok (.bipush 8, 2) := by decide +kernel
theorem dX10_beginNow_6 : decode cX10_beginNow 6 = .ok (.iload_n 1, 1) := by decide +kernel
theorem dX10_beginNow_7 : decode cX10_beginNow 7 = .ok (.iastore, 1) := by decide +kernel
theorem dX10_beginNow_8 : decode cX10_beginNow 8 = .ok (.iconst 0, 1) := by decide +kernel
theorem dX10_beginNow_9 : decode cX10_beginNow 9 = .ok (.istore_n 2, 1) := by decide +kernel
theorem dX10_beginNow_10 : decode cX10_beginNow 10 = .ok (.iload_n 2, 1) := by decide +kernel
theorem dX10_beginNow_11 : decode cX10_beginNow 11 = .ok (.bipush 48, 2) := by decide +kernel
theorem dX10_beginNow_13 : decode cX10_beginNow 13 = .ok (.if_icmp .ge 27, 3) := by decide +kernel
theorem dX10_beginNow_16 : decode cX10_beginNow 16 = .ok (.aload_n 0, 1) := by decide +kernel
theorem dX10_beginNow_17 : decode cX10_beginNow 17 = .ok (.getfield 7, 3) := by decide +kernel
theorem dX10_beginNow_20 : decode cX10_beginNow 20 = .ok (.bipush 96, 2) := by decide +kernel
theorem dX10_beginNow_22 : decode cX10_beginNow 22 = .ok (.iload_n 2, 1) := by decide +kernel
theorem dX10_beginNow_23 : decode cX10_beginNow 23 = .ok (.iadd, 1) := by decide +kernel
theorem dX10_beginNow_24 : decode cX10_beginNow 24 = .ok (.aload_n 0, 1) := by decide +kernel
theorem dX10_beginNow_25 : decode cX10_beginNow 25 = .ok (.getfield 7, 3) := by decide +kernel
theorem dX10_beginNow_28 : decode cX10_beginNow 28 = .ok (.bipush 48, 2) := by decide +kernel
theorem dX10_beginNow_30 : decode cX10_beginNow 30 = .ok (.iload_n 2, 1) := by decide +kernel
theorem dX10_beginNow_31 : decode cX10_beginNow 31 = .ok (.iadd, 1) := by decide +kernel
theorem dX10_beginNow_32 : decode cX10_beginNow 32 = .ok (.iaload, 1) := by decide +kernel
theorem dX10_beginNow_33 : decode cX10_beginNow 33 = .ok (.iastore, 1) := by decide +kernel
theorem dX10_beginNow_34 : decode cX10_beginNow 34 = .ok (.iinc 2 1, 3) := by decide +kernel
theorem dX10_beginNow_37 : decode cX10_beginNow 37 = .ok (.goto (-27), 3) := by decide +kernel
theorem dX10_beginNow_40 : decode cX10_beginNow 40 = .ok (.iconst 0, 1) := by decide +kernel
theorem dX10_beginNow_41 : decode cX10_beginNow 41 = .ok (.istore_n 2, 1) := by decide +kernel
theorem dX10_beginNow_42 : decode cX10_beginNow 42 = .ok (.iload_n 2, 1) := by decide +kernel
theorem dX10_beginNow_43 : decode cX10_beginNow 43 = .ok (.sipush 192, 3) := by decide +kernel
theorem dX10_beginNow_46 : decode cX10_beginNow 46 = .ok (.if_icmp .ge 20, 3) := by decide +kernel
theorem dX10_beginNow_49 : decode cX10_beginNow 49 = .ok (.aload_n 0, 1) := by decide +kernel
theorem dX10_beginNow_50 : decode cX10_beginNow 50 = .ok (.getfield 7, 3) := by decide +kernel
theorem dX10_beginNow_53 : decode cX10_beginNow 53 = .ok (.sipush 144, 3) := by decide +kernel
theorem dX10_beginNow_56 : decode cX10_beginNow 56 = .ok (.iload_n 2, 1) := by decide +kernel
theorem dX10_beginNow_57 : decode cX10_beginNow 57 = .ok (.iadd, 1) := by decide +kernel
theorem dX10_beginNow_58 : decode cX10_beginNow 58 = .ok (.iconst 0, 1) := by decide +kernel
theorem dX10_beginNow_59 : decode cX10_beginNow 59 = .ok (.iastore, 1) := by decide +kernel
theorem dX10_beginNow_60 : decode cX10_beginNow 60 = .ok (.iinc 2 1, 3) := by decide +kernel
theorem dX10_beginNow_63 : decode cX10_beginNow 63 = .ok (.goto (-21), 3) := by decide +kernel
theorem dX10_beginNow_66 : decode cX10_beginNow 66 = .ok (.aload_n 0, 1) := by decide +kernel
theorem dX10_beginNow_67 : decode cX10_beginNow 67 = .ok (.getfield 7, 3) := by decide +kernel
theorem dX10_beginNow_70 : decode cX10_beginNow 70 = .ok (.bipush 10, 2) := by decide +kernel
theorem dX10_beginNow_72 : decode cX10_beginNow 72 = .ok (.iconst 0, 1) := by decide +kernel
theorem dX10_beginNow_73 : decode cX10_beginNow 73 = .ok (.iastore, 1) := by decide +kernel
theorem dX10_beginNow_74 : decode cX10_beginNow 74 = .ok (.aload_n 0, 1) := by decide +kernel
theorem dX10_beginNow_75 : decode cX10_beginNow 75 = .ok (.getfield 7, 3) := by decide +kernel
theorem dX10_beginNow_78 : decode cX10_beginNow 78 = .ok (.bipush 11, 2) := by decide +kernel
theorem dX10_beginNow_80 : decode cX10_beginNow 80 = .ok (.iconst 0, 1) := by decide +kernel
theorem dX10_beginNow_81 : decode cX10_beginNow 81 = .ok (.iastore, 1) := by decide +kernel
theorem dX10_beginNow_82 : decode cX10_beginNow 82 = .ok (.aload_n 0, 1) := by decide +kernel
theorem dX10_beginNow_83 : decode cX10_beginNow 83 = .ok (.getfield 7, 3) := by decide +kernel
theorem dX10_beginNow_86 : decode cX10_beginNow 86 = .ok (.sipush 384, 3) := by decide +kernel
theorem dX10_beginNow_89 : decode cX10_beginNow 89 = .ok (.iconst 0, 1) := by decide +kernel
theorem dX10_beginNow_90 : decode cX10_beginNow 90 = .ok (.iastore, 1) := by decide +kernel
theorem dX10_beginNow_91 : decode cX10_beginNow 91 = .ok (.iconst 0, 1) := by decide +kernel
theorem dX10_beginNow_92 : decode cX10_beginNow 92 = .ok (.istore_n 2, 1) := by decide +kernel
theorem dX10_beginNow_93 : decode cX10_beginNow 93 = .ok (.iload_n 2, 1) := by decide +kernel
theorem dX10_beginNow_94 : decode cX10_beginNow 94 = .ok (.bipush 48, 2) := by decide +kernel
theorem dX10_beginNow_96 : decode cX10_beginNow 96 = .ok (.if_icmp .ge 20, 3) := by decide +kernel
theorem dX10_beginNow_99 : decode cX10_beginNow 99 = .ok (.aload_n 0, 1) := by decide +kernel
theorem dX10_beginNow_100 : decode cX10_beginNow 100 = .ok (.getfield 7, 3) := by decide +kernel
theorem dX10_beginNow_103 : decode cX10_beginNow 103 = .ok (.sipush 336, 3) := by decide +kernel
theorem dX10_beginNow_106 : decode cX10_beginNow 106 = .ok (.iload_n 2, 1) := by decide +kernel
theorem dX10_beginNow_107 : decode cX10_beginNow 107 = .ok (.iadd, 1) := by decide +kernel
theorem dX10_beginNow_108 : decode cX10_beginNow 108 = .ok (.iconst 0, 1) := by decide +kernel
theorem dX10_beginNow_109 : decode cX10_beginNow 109 = .ok (.iastore, 1) := by decide +kernel
theorem dX10_beginNow_110 : decode cX10_beginNow 110 = .ok (.iinc 2 1, 3) := by decide +kernel
theorem dX10_beginNow_113 : decode cX10_beginNow 113 = .ok (.goto (-20), 3) := by decide +kernel
theorem dX10_beginNow_116 : decode cX10_beginNow 116 = .ok (.iconst 0, 1) := by decide +kernel
theorem dX10_beginNow_117 : decode cX10_beginNow 117 = .ok (.istore_n 2, 1) := by decide +kernel
theorem dX10_beginNow_118 : decode cX10_beginNow 118 = .ok (.iload_n 2, 1) := by decide +kernel
theorem dX10_beginNow_119 : decode cX10_beginNow 119 = .ok (.bipush 48, 2) := by decide +kernel
theorem dX10_beginNow_121 : decode cX10_beginNow 121 = .ok (.if_icmp .ge 20, 3) := by decide +kernel
theorem dX10_beginNow_124 : decode cX10_beginNow 124 = .ok (.aload_n 0, 1) := by decide +kernel
theorem dX10_beginNow_125 : decode cX10_beginNow 125 = .ok (.getfield 7, 3) := by decide +kernel
theorem dX10_beginNow_128 : decode cX10_beginNow 128 = .ok (.sipush 385, 3) := by decide +kernel
theorem dX10_beginNow_131 : decode cX10_beginNow 131 = .ok (.iload_n 2, 1) := by decide +kernel
theorem dX10_beginNow_132 : decode cX10_beginNow 132 = .ok (.iadd, 1) := by decide +kernel
theorem dX10_beginNow_133 : decode cX10_beginNow 133 = .ok (.iconst 0, 1) := by decide +kernel
theorem dX10_beginNow_134 : decode cX10_beginNow 134 = .ok (.iastore, 1) := by decide +kernel
theorem dX10_beginNow_135 : decode cX10_beginNow 135 = .ok (.iinc 2 1, 3) := by decide +kernel
theorem dX10_beginNow_138 : decode cX10_beginNow 138 = .ok (.goto (-20), 3) := by decide +kernel
theorem dX10_beginNow_141 : decode cX10_beginNow 141 = .ok (.aload_n 0, 1) := by decide +kernel
theorem dX10_beginNow_142 : decode cX10_beginNow 142 = .ok (.getfield 7, 3) := by decide +kernel
theorem dX10_beginNow_145 : decode cX10_beginNow 145 = .ok (.bipush 9, 2) := by decide +kernel
theorem dX10_beginNow_147 : decode cX10_beginNow 147 = .ok (.aload_n 0, 1) := by decide +kernel
theorem dX10_beginNow_148 : decode cX10_beginNow 148 = .ok (.aload_n 0, 1) := by decide +kernel
theorem dX10_beginNow_149 : decode cX10_beginNow 149 = .ok (.invokevirtual 156, 3) := by decide +kernel
theorem dX10_beginNow_152 : decode cX10_beginNow 152 = .ok (.invokevirtual 160, 3) := by decide +kernel
theorem dX10_beginNow_155 : decode cX10_beginNow 155 = .ok (.ifCond .ne 7, 3) := by decide +kernel
theorem dX10_beginNow_158 : decode cX10_beginNow 158 = .ok (.iconst 1, 1) := by decide +kernel
theorem dX10_beginNow_159 : decode cX10_beginNow 159 = .ok (.goto 4, 3) := by decide +kernel
theorem dX10_beginNow_162 : decode cX10_beginNow 162 = .ok (.iconst 0, 1) := by decide +kernel
theorem dX10_beginNow_163 : decode cX10_beginNow 163 = .ok (.iastore, 1) := by decide +kernel
theorem dX10_beginNow_164 : decode cX10_beginNow 164 = .ok (.return_, 1) := by decide +kernel
theorem dX10_layRests_0 : decode cX10_layRests 0 = .ok (.iconst 0, 1) := by decide +kernel
theorem dX10_layRests_1 : decode cX10_layRests 1 = .ok (.istore_n 2, 1) := by decide +kernel
theorem dX10_layRests_2 : decode cX10_layRests 2 = .ok (.iload_n 2, 1) := by decide +kernel
theorem dX10_layRests_3 : decode cX10_layRests 3 = .ok (.aload_n 0, 1) := by decide +kernel
theorem dX10_layRests_4 : decode cX10_layRests 4 = .ok (.getfield 7, 3) := by decide +kernel
theorem dX10_layRests_7 : decode cX10_layRests 7 = .ok (.iconst 5, 1) := by decide +kernel
theorem dX10_layRests_8 : decode cX10_layRests 8 = .ok (.iaload, 1) := by decide +kernel
theorem dX10_layRests_9 : decode cX10_layRests 9 = .ok (.if_icmp .ge 50, 3) := by decide +kernel
theorem dX10_layRests_12 : decode cX10_layRests 12 = .ok (.aload_n 0, 1) := by decide +kernel
theorem dX10_layRests_13 : decode cX10_layRests 13 = .ok (.iload_n 1, 1) := by decide +kernel
theorem dX10_layRests_14 : decode cX10_layRests 14 = .ok (.iload_n 2, 1) := by decide +kernel
theorem dX10_layRests_15 : decode cX10_layRests 15 = .ok (.invokevirtual 77, 3) := by decide +kernel
theorem dX10_layRests_18 : decode cX10_layRests 18 = .ok (.iconst (-1), 1) := by decide +kernel
theorem dX10_layRests_19 : decode cX10_layRests 19 = .ok (.if_icmp .eq 34, 3) := by decide +kernel
theorem dX10_layRests_22 : decode cX10_layRests 22 = .ok (.aload_n 0, 1) := by decide +kernel
theorem dX10_layRests_23 : decode cX10_layRests 23 = .ok (.getfield 29, 3) := by decide +kernel
theorem dX10_layRests_26 : decode cX10_layRests 26 = .ok (.iload_n 2, 1) := by decide +kernel
theorem dX10_layRests_27 : decode cX10_layRests 27 = .ok (.aload_n 0, 1) := by decide +kernel
theorem dX10_layRests_28 : decode cX10_layRests 28 = .ok (.getfield 7, 3) := by decide +kernel
theorem dX10_layRests_31 : decode cX10_layRests 31 = .ok (.bipush 96, 2) := by decide +kernel
theorem dX10_layRests_33 : decode cX10_layRests 33 = .ok (.aload_n 0, 1) := by decide +kernel
theorem dX10_layRests_34 : decode cX10_layRests 34 = .ok (.iload_n 1, 1) := by decide +kernel
theorem dX10_layRests_35 : decode cX10_layRests 35 = .ok (.iload_n 2, 1) := by decide +kernel
theorem dX10_layRests_36 : decode cX10_layRests 36 = .ok (.invokevirtual 77, 3) := by decide +kernel
theorem dX10_layRests_39 : decode cX10_layRests 39 = .ok (.iadd, 1) := by decide +kernel
theorem dX10_layRests_40 : decode cX10_layRests 40 = .ok (.iaload, 1) := by decide +kernel
theorem dX10_layRests_41 : decode cX10_layRests 41 = .ok (.aload_n 0, 1) := by decide +kernel
theorem dX10_layRests_42 : decode cX10_layRests 42 = .ok (.getfield 7, 3) := by decide +kernel
theorem dX10_layRests_45 : decode cX10_layRests 45 = .ok (.iload_n 1, 1) := by decide +kernel
theorem dX10_layRests_46 : decode cX10_layRests 46 = .ok (.iload_n 2, 1) := by decide +kernel
theorem dX10_layRests_47 : decode cX10_layRests 47 = .ok (.invokestatic 163, 3) := by decide +kernel
theorem dX10_layRests_50 : decode cX10_layRests 50 = .ok (.iaload, 1) := by decide +kernel
theorem dX10_layRests_51 : decode cX10_layRests 51 = .ok (.isub, 1) := by decide +kernel
theorem dX10_layRests_52 : decode cX10_layRests 52 = .ok (.iastore, 1) := by decide +kernel
theorem dX10_layRests_53 : decode cX10_layRests 53 = .ok (.iinc 2 1, 3) := by decide +kernel
theorem dX10_layRests_56 : decode cX10_layRests 56 = .ok (.goto (-54), 3) := by decide +kernel
theorem dX10_layRests_59 : decode cX10_layRests 59 = .ok (.return_, 1) := by decide +kernel
theorem dX10_newMessage_0 : decode cX10_newMessage 0 = .ok (.iconst (-1), 1) := by decide +kernel
theorem dX10_newMessage_1 : decode cX10_newMessage 1 = .ok (.istore_n 3, 1) := by decide +kernel
theorem dX10_newMessage_2 : decode cX10_newMessage 2 = .ok (.iconst 0, 1) := by decide +kernel
theorem dX10_newMessage_3 : decode cX10_newMessage 3 = .ok (.istore 4, 2) := by decide +kernel
theorem dX10_newMessage_5 : decode cX10_newMessage 5 = .ok (.iconst 0, 1) := by decide +kernel
theorem dX10_newMessage_6 : decode cX10_newMessage 6 = .ok (.istore 5, 2) := by decide +kernel
theorem dX10_newMessage_8 : decode cX10_newMessage 8 = .ok (.iload 5, 2) := by decide +kernel
theorem dX10_newMessage_10 : decode cX10_newMessage 10 = .ok (.aload_n 0, 1) := by decide +kernel
theorem dX10_newMessage_11 : decode cX10_newMessage 11 = .ok (.getfield 7, 3) := by decide +kernel
theorem dX10_newMessage_14 : decode cX10_newMessage 14 = .ok (.iconst 5, 1) := by decide +kernel
theorem dX10_newMessage_15 : decode cX10_newMessage 15 = .ok (.iaload, 1) := by decide +kernel
theorem dX10_newMessage_16 : decode cX10_newMessage 16 = .ok (.if_icmp .ge 81, 3) := by decide +kernel
theorem dX10_newMessage_19 : decode cX10_newMessage 19 = .ok (.iload 5, 2) := by decide +kernel
theorem dX10_newMessage_21 : decode cX10_newMessage 21 = .ok (.iload_n 2, 1) := by decide +kernel
theorem dX10_newMessage_22 : decode cX10_newMessage 22 = .ok (.if_icmp .eq 69, 3) := by decide +kernel
theorem dX10_newMessage_25 : decode cX10_newMessage 25 = .ok (.aload_n 0, 1) := by decide +kernel
theorem dX10_newMessage_26 : decode cX10_newMessage 26 = .ok (.iload_n 1, 1) := by decide +kernel
theorem dX10_newMessage_27 : decode cX10_newMessage 27 = .ok (.iload 5, 2) := by decide +kernel
theorem dX10_newMessage_29 : decode cX10_newMessage 29 = .ok (.invokevirtual 77, 3) := by decide +kernel
theorem dX10_newMessage_32 : decode cX10_newMessage 32 = .ok (.iconst (-1), 1) := by decide +kernel
theorem dX10_newMessage_33 : decode cX10_newMessage 33 = .ok (.if_icmp .ne 6, 3) := by decide +kernel
theorem dX10_newMessage_36 : decode cX10_newMessage 36 = .ok (.goto 55, 3) := by decide +kernel
theorem dX10_newMessage_39 : decode cX10_newMessage 39 = .ok (.iload_n 3, 1) := by decide +kernel
theorem dX10_newMessage_40 : decode cX10_newMessage 40 = .ok (.iconst (-1), 1) := by decide +kernel
theorem dX10_newMessage_41 : decode cX10_newMessage 41 = .ok (.if_icmp .eq 17, 3) := by decide +kernel
theorem dX10_newMessage_44 : decode cX10_newMessage 44 = .ok (.aload_n 0, 1) := by decide +kernel
theorem dX10_newMessage_45 : decode cX10_newMessage 45 = .ok (.getfield 29, 3) := by decide +kernel
theorem dX10_newMessage_48 : decode cX10_newMessage 48 = .ok (.iload 5, 2) := by decide +kernel
theorem dX10_newMessage_50 : decode cX10_newMessage 50 = .ok (.iaload, 1) := by decide +kernel
theorem dX10_newMessage_51 : decode cX10_newMessage 51 = .ok (.invokestatic 166, 3) := by decide +kernel
theorem dX10_newMessage_54 : decode cX10_newMessage 54 = .ok (.iload_n 3, 1) := by decide +kernel
theorem dX10_newMessage_55 : decode cX10_newMessage 55 = .ok (.if_icmp .ge 14, 3) := by decide +kernel
theorem dX10_newMessage_58 : decode cX10_newMessage 58 = .ok (.aload_n 0, 1) := by decide +kernel
theorem dX10_newMessage_59 : decode cX10_newMessage 59 = .ok (.getfield 29, 3) := by decide +kernel
theorem dX10_newMessage_62 : decode cX10_newMessage 62 = .ok (.iload 5, 2) := by decide +kernel
theorem dX10_newMessage_64 : decode cX10_newMessage 64 = .ok (.iaload, 1) := by decide +kernel
theorem dX10_newMessage_65 : decode cX10_newMessage 65 = .ok (.invokestatic 166, 3) := by decide +kernel
theorem dX10_newMessage_68 : decode cX10_newMessage 68 = .ok (.istore_n 3, 1) := by decide +kernel
theorem dX10_newMessage_69 : decode cX10_newMessage 69 = .ok (.aload_n 0, 1) := by decide +kernel
theorem dX10_newMessage_70 : decode cX10_newMessage 70 = .ok (.getfield 29, 3) := by decide +kernel
theorem dX10_newMessage_73 : decode cX10_newMessage 73 = .ok (.iload 5, 2) := by decide +kernel
theorem dX10_newMessage_75 : decode cX10_newMessage 75 = .ok (.iaload, 1) := by decide +kernel
theorem dX10_newMessage_76 : decode cX10_newMessage 76 = .ok (.ifCond .ge 15, 3) := by decide +kernel
theorem dX10_newMessage_79 : decode cX10_newMessage 79 = .ok (.iload 4, 2) := by decide +kernel
theorem dX10_newMessage_81 : decode cX10_newMessage 81 = .ok (.ifCond .ne 7, 3) := by decide +kernel
theorem dX10_newMessage_84 : decode cX10_newMessage 84 = .ok (.iconst 1, 1) := by decide +kernel
theorem dX10_newMessage_85 : decode cX10_newMessage 85 = .ok (.goto 4, 3) := by decide +kernel
theorem dX10_newMessage_88 : decode cX10_newMessage 88 = .ok (.iconst 0, 1) := by decide +kernel
theorem dX10_newMessage_89 : decode cX10_newMessage 89 = .ok (.istore 4, 2) := by decide +kernel
theorem dX10_newMessage_91 : decode cX10_newMessage 91 = .ok (.iinc 5 1, 3) := by decide +kernel
theorem dX10_newMessage_94 : decode cX10_newMessage 94 = .ok (.goto (-86), 3) := by decide +kernel
theorem dX10_newMessage_97 : decode cX10_newMessage 97 = .ok (.iload_n 3, 1) := by decide +kernel
theorem dX10_newMessage_98 : decode cX10_newMessage 98 = .ok (.aload_n 0, 1) := by decide +kernel
theorem dX10_newMessage_99 : decode cX10_newMessage 99 = .ok (.getfield 7, 3) := by decide +kernel
theorem dX10_newMessage_102 : decode cX10_newMessage 102 = .ok (.bipush 6, 2) := by decide +kernel
theorem dX10_newMessage_104 : decode cX10_newMessage 104 = .ok (.iaload, 1) := by decide +kernel
theorem dX10_newMessage_105 : decode cX10_newMessage 105 = .ok (.isub, 1) := by decide +kernel
theorem dX10_newMessage_106 : decode cX10_newMessage 106 = .ok (.iconst 0, 1) := by decide +kernel
theorem dX10_newMessage_107 : decode cX10_newMessage 107 = .ok (.aload_n 0, 1) := by decide +kernel
theorem dX10_newMessage_108 : decode cX10_newMessage 108 = .ok (.getfield 7, 3) := by decide +kernel
theorem dX10_newMessage_111 : decode cX10_newMessage 111 = .ok (.bipush 7, 2) := by decide +kernel
theorem dX10_newMessage_113 : decode cX10_newMessage 113 = .ok (.iaload, 1) := by decide +kernel
theorem dX10_newMessage_114 : decode cX10_newMessage 114 = .ok (.invokestatic 169, 3) := by decide +kernel
theorem dX10_newMessage_117 : decode cX10_newMessage 117 = .ok (.istore 5, 2) := by decide +kernel
theorem dX10_newMessage_119 : decode cX10_newMessage 119 = .ok (.iload 4, 2) := by decide +kernel
theorem dX10_newMessage_121 : decode cX10_newMessage 121 = .ok (.ifCond .eq 9, 3) := by decide +kernel
theorem dX10_newMessage_124 : decode cX10_newMessage 124 = .ok (.iload 5, 2) := by decide +kernel
theorem dX10_newMessage_126 : decode cX10_newMessage 126 = .ok (.ineg, 1) := by decide +kernel
theorem dX10_newMessage_127 : decode cX10_newMessage 127 = .ok (.goto 5, 3) := by decide +kernel
theorem dX10_newMessage_130 : decode cX10_newMessage 130 = .ok (.iload 5, 2) := by decide +kernel
theorem dX10_newMessage_132 : decode cX10_newMessage 132 = .ok (.ireturn, 1) := by decide +kernel
theorem dX10_mendCheck_0 : decode cX10_mendCheck 0 = .ok (.aload_n 0, 1) := by decide +kernel
theorem dX10_mendCheck_1 : decode cX10_mendCheck 1 = .ok (.iload_n 1, 1) := by decide +kernel
theorem dX10_mendCheck_2 : decode cX10_mendCheck 2 = .ok (.invokevirtual 172, 3) := by decide +kernel
theorem dX10_mendCheck_5 : decode cX10_mendCheck 5 = .ok (.iconst 0, 1) := by decide +kernel
theorem dX10_mendCheck_6 : decode cX10_mendCheck 6 = .ok (.istore_n 2, 1) := by decide +kernel
theorem dX10_mendCheck_7 : decode cX10_mendCheck 7 = .ok (.iload_n 2, 1) := by decide +kernel
theorem dX10_mendCheck_8 : decode cX10_mendCheck 8 = .ok (.aload_n 0, 1) := by decide +kernel
theorem dX10_mendCheck_9 : decode cX10_mendCheck 9 = .ok (.getfield 7, 3) := by decide +kernel
theorem dX10_mendCheck_12 : decode cX10_mendCheck 12 = .ok (.iconst 5, 1) := by decide +kernel
theorem dX10_mendCheck_13 : decode cX10_mendCheck 13 = .ok (.iaload, 1) := by decide +kernel
theorem dX10_mendCheck_14 : decode cX10_mendCheck 14 = .ok (.if_icmp .ge 76, 3) := by decide +kernel
theorem dX10_mendCheck_17 : decode cX10_mendCheck 17 = .ok (.aload_n 0, 1) := by decide +kernel
theorem dX10_mendCheck_18 : decode cX10_mendCheck 18 = .ok (.iload_n 1, 1) := by decide +kernel
theorem dX10_mendCheck_19 : decode cX10_mendCheck 19 = .ok (.iload_n 2, 1) := by decide +kernel
theorem dX10_mendCheck_20 : decode cX10_mendCheck 20 = .ok (.invokevirtual 77, 3) := by decide +kernel
theorem dX10_mendCheck_23 : decode cX10_mendCheck 23 = .ok (.iconst (-1), 1) := by decide +kernel
theorem dX10_mendCheck_24 : decode cX10_mendCheck 24 = .ok (.if_icmp .ne 6, 3) := by decide +kernel
theorem dX10_mendCheck_27 : decode cX10_mendCheck 27 = .ok (.goto 57, 3) := by decide +kernel
theorem dX10_mendCheck_30 : decode cX10_mendCheck 30 = .ok (.aload_n 0, 1) := by decide +kernel
theorem dX10_mendCheck_31 : decode cX10_mendCheck 31 = .ok (.getfield 7, 3) := by decide +kernel
theorem dX10_mendCheck_34 : decode cX10_mendCheck 34 = .ok (.iload_n 1, 1) := by decide +kernel
theorem dX10_mendCheck_35 : decode cX10_mendCheck 35 = .ok (.iload_n 2, 1) := by decide +kernel
theorem dX10_mendCheck_36 : decode cX10_mendCheck 36 = .ok (.invokestatic 163, 3) := by decide +kernel
theorem dX10_mendCheck_39 : decode cX10_mendCheck 39 = .ok (.aload_n 0, 1) := by decide +kernel
theorem dX10_mendCheck_40 : decode cX10_mendCheck 40 = .ok (.iload_n 1, 1) := by decide +kernel
theorem dX10_mendCheck_41 : decode cX10_mendCheck 41 = .ok (.iload_n 2, 1) := by decide +kernel
theorem dX10_mendCheck_42 : decode cX10_mendCheck 42 = .ok (.invokevirtual 175, 3) := by decide +kernel
theorem dX10_mendCheck_45 : decode cX10_mendCheck 45 = .ok (.iastore, 1) := by decide +kernel
theorem dX10_mendCheck_46 : decode cX10_mendCheck 46 = .ok (.aload_n 0, 1) := by decide +kernel
theorem dX10_mendCheck_47 : decode cX10_mendCheck 47 = .ok (.getfield 7, 3) := by decide +kernel
theorem dX10_mendCheck_50 : decode cX10_mendCheck 50 = .ok (.bipush 96, 2) := by decide +kernel
theorem dX10_mendCheck_52 : decode cX10_mendCheck 52 = .ok (.aload_n 0, 1) := by decide +kernel
theorem dX10_mendCheck_53 : decode cX10_mendCheck 53 = .ok (.iload_n 1, 1) := by decide +kernel
theorem dX10_mendCheck_54 : decode cX10_mendCheck 54 = .ok (.iload_n 2, 1) := by decide +kernel
theorem dX10_mendCheck_55 : decode cX10_mendCheck 55 = .ok (.invokevirtual 77, 3) := by decide +kernel
theorem dX10_mendCheck_58 : decode cX10_mendCheck 58 = .ok (.iadd, 1) := by decide +kernel
theorem dX10_mendCheck_59 : decode cX10_mendCheck 59 = .ok (.aload_n 0, 1) := by decide +kernel
theorem dX10_mendCheck_60 : decode cX10_mendCheck 60 = .ok (.getfield 29, 3) := by decide +kernel
theorem dX10_mendCheck_63 : decode cX10_mendCheck 63 = .ok (.iload_n 2, 1) := by decide +kernel
theorem dX10_mendCheck_64 : decode cX10_mendCheck 64 = .ok (.iaload, 1) := by decide +kernel
theorem dX10_mendCheck_65 : decode cX10_mendCheck 65 = .ok (.aload_n 0, 1) := by decide +kernel
theorem dX10_mendCheck_66 : decode cX10_mendCheck 66 = .ok (.getfield 7, 3) := by decide +kernel
theorem dX10_mendCheck_69 : decode cX10_mendCheck 69 = .ok (.iload_n 1, 1) := by decide +kernel
theorem dX10_mendCheck_70 : decode cX10_mendCheck 70 = .ok (.iload_n 2, 1) := by decide +kernel
theorem dX10_mendCheck_71 : decode cX10_mendCheck 71 = .ok (.invokestatic 163, 3) := by decide +kernel
theorem dX10_mendCheck_74 : decode cX10_mendCheck 74 = .ok (.iaload, 1) := by decide +kernel
theorem dX10_mendCheck_75 : decode cX10_mendCheck 75 = .ok (.iadd, 1) := by decide +kernel
theorem dX10_mendCheck_76 : decode cX10_mendCheck 76 = .ok (.bipush (-99), 2) := by decide +kernel
theorem dX10_mendCheck_78 : decode cX10_mendCheck 78 = .ok (.bipush 99, 2) := by decide +kernel
theorem dX10_mendCheck_80 : decode cX10_mendCheck 80 = .ok (.invokestatic 169, 3) := by decide +kernel
theorem dX10_mendCheck_83 : decode cX10_mendCheck 83 = .ok (.iastore, 1) := by decide +kernel
theorem dX10_mendCheck_84 : decode cX10_mendCheck 84 = .ok (.iinc 2 1, 3) := by decide +kernel
theorem dX10_mendCheck_87 : decode cX10_mendCheck 87 = .ok (.goto (-80), 3) := by decide +kernel
theorem dX10_mendCheck_90 : decode cX10_mendCheck 90 = .ok (.return_, 1) := by decide +kernel
theorem dX10_stepLayer_0 : decode cX10_stepLayer 0 = .ok (.aload_n 0, 1) := by decide +kernel
theorem dX10_stepLayer_1 : decode cX10_stepLayer 1 = .ok (.aload_n 0, 1) := by decide +kernel
theorem dX10_stepLayer_2 : decode cX10_stepLayer 2 = .ok (.getfield 7, 3) := by decide +kernel
theorem dX10_stepLayer_5 : decode cX10_stepLayer 5 = .ok (.bipush 13, 2) := by decide +kernel
theorem dX10_stepLayer_7 : decode cX10_stepLayer 7 = .ok (.iaload, 1) := by decide +kernel
theorem dX10_stepLayer_8 : decode cX10_stepLayer 8 = .ok (.aload_n 0, 1) := by decide +kernel
theorem dX10_stepLayer_9 : decode cX10_stepLayer 9 = .ok (.getfield 7, 3) := by decide +kernel
theorem dX10_stepLayer_12 : decode cX10_stepLayer 12 = .ok (.bipush 11, 2) := by decide +kernel
theorem dX10_stepLayer_14 : decode cX10_stepLayer 14 = .ok (.iaload, 1) := by decide +kernel
theorem dX10_stepLayer_15 : decode cX10_stepLayer 15 = .ok (.invokevirtual 178, 3) := by decide +kernel
theorem dX10_stepLayer_18 : decode cX10_stepLayer 18 = .ok (.istore_n 1, 1) := by decide +kernel
theorem dX10_stepLayer_19 : decode cX10_stepLayer 19 = .ok (.iconst 0, 1) := by decide +kernel
theorem dX10_stepLayer_20 : decode cX10_stepLayer 20 = .ok (.istore_n 2, 1) := by decide +kernel
theorem dX10_stepLayer_21 : decode cX10_stepLayer 21 = .ok (.iload_n 2, 1) := by decide +kernel
theorem dX10_stepLayer_22 : decode cX10_stepLayer 22 = .ok (.aload_n 0, 1) := by decide +kernel
theorem dX10_stepLayer_23 : decode cX10_stepLayer 23 = .ok (.getfield 7, 3) := by decide +kernel
theorem dX10_stepLayer_26 : decode cX10_stepLayer 26 = .ok (.iconst 3, 1) := by decide +kernel
theorem dX10_stepLayer_27 : decode cX10_stepLayer 27 = .ok (.iaload, 1) := by decide +kernel
theorem dX10_stepLayer_28 : decode cX10_stepLayer 28 = .ok (.if_icmp .ge 23, 3) := by decide +kernel
theorem dX10_stepLayer_31 : decode cX10_stepLayer 31 = .ok (.aload_n 0, 1) := by decide +kernel
theorem dX10_stepLayer_32 : decode cX10_stepLayer 32 = .ok (.aload_n 0, 1) := by decide +kernel
theorem dX10_stepLayer_33 : decode cX10_stepLayer 33 = .ok (.getfield 7, 3) := by decide +kernel
theorem dX10_stepLayer_36 : decode cX10_stepLayer 36 = .ok (.iconst 3, 1) := by decide +kernel
theorem dX10_stepLayer_37 : decode cX10_stepLayer 37 = .ok (.iaload, 1) := by decide +kernel
theorem dX10_stepLayer_38 : decode cX10_stepLayer 38 = .ok (.iload_n 1, 1) := by decide +kernel
theorem dX10_stepLayer_39 : decode cX10_stepLayer 39 = .ok (.imul, 1) := by decide +kernel
theorem dX10_stepLayer_40 : decode cX10_stepLayer 40 = .ok (.iload_n 2, 1) := by decide +kernel
theorem dX10_stepLayer_41 : decode cX10_stepLayer 41 = .ok (.iadd, 1) := by decide +kernel
theorem dX10_stepLayer_42 : decode cX10_stepLayer 42 = .ok (.invokevirtual 181, 3) := by decide +kernel
theorem dX10_stepLayer_45 : decode cX10_stepLayer 45 = .ok (.iinc 2 1, 3) := by decide +kernel
theorem dX10_stepLayer_48 : decode cX10_stepLayer 48 = .ok (.goto (-27), 3) := by decide +kernel
theorem dX10_stepLayer_51 : decode cX10_stepLayer 51 = .ok (.aload_n 0, 1) := by decide +kernel
theorem dX10_stepLayer_52 : decode cX10_stepLayer 52 = .ok (.getfield 7, 3) := by decide +kernel
theorem dX10_stepLayer_55 : decode cX10_stepLayer 55 = .ok (.bipush 11, 2) := by decide +kernel
theorem dX10_stepLayer_57 : decode cX10_stepLayer 57 = .ok (.dup2, 1) := by decide +kernel
theorem dX10_stepLayer_58 : decode cX10_stepLayer 58 = .ok (.iaload, 1) := by decide +kernel
theorem dX10_stepLayer_59 : decode cX10_stepLayer 59 = .ok (.iconst 1, 1) := by decide +kernel
theorem dX10_stepLayer_60 : decode cX10_stepLayer 60 = .ok (.iadd, 1) := by decide +kernel
theorem dX10_stepLayer_61 : decode cX10_stepLayer 61 = .ok (.iastore, 1) := by decide +kernel
theorem dX10_stepLayer_62 : decode cX10_stepLayer 62 = .ok (.aload_n 0, 1) := by decide +kernel
theorem dX10_stepLayer_63 : decode cX10_stepLayer 63 = .ok (.getfield 7, 3) := by decide +kernel
theorem dX10_stepLayer_66 : decode cX10_stepLayer 66 = .ok (.bipush 11, 2) := by decide +kernel
theorem dX10_stepLayer_68 : decode cX10_stepLayer 68 = .ok (.iaload, 1) := by decide +kernel
theorem dX10_stepLayer_69 : decode cX10_stepLayer 69 = .ok (.aload_n 0, 1) := by decide +kernel
theorem dX10_stepLayer_70 : decode cX10_stepLayer 70 = .ok (.getfield 7, 3) := by decide +kernel
theorem dX10_stepLayer_73 : decode cX10_stepLayer 73 = .ok (.iconst 4, 1) := by decide +kernel
theorem dX10_stepLayer_74 : decode cX10_stepLayer 74 = .ok (.iaload, 1) := by decide +kernel
theorem dX10_stepLayer_75 : decode cX10_stepLayer 75 = .ok (.if_icmp .ge 4, 3) := by decide +kernel
theorem dX10_stepLayer_78 : decode cX10_stepLayer 78 = .ok (.return_, 1) := by decide +kernel
theorem dX10_stepLayer_79 : decode cX10_stepLayer 79 = .ok (.aload_n 0, 1) := by decide +kernel
theorem dX10_stepLayer_80 : decode cX10_stepLayer 80 = .ok (.getfield 7, 3) := by decide +kernel
theorem dX10_stepLayer_83 : decode cX10_stepLayer 83 = .ok (.bipush 11, 2) := by decide +kernel
theorem dX10_stepLayer_85 : decode cX10_stepLayer 85 = .ok (.iconst 0, 1) := by decide +kernel
theorem dX10_stepLayer_86 : decode cX10_stepLayer 86 = .ok (.iastore, 1) := by decide +kernel
theorem dX10_stepLayer_87 : decode cX10_stepLayer 87 = .ok (.aload_n 0, 1) := by decide +kernel
theorem dX10_stepLayer_88 : decode cX10_stepLayer 88 = .ok (.getfield 7, 3) := by decide +kernel
theorem dX10_stepLayer_91 : decode cX10_stepLayer 91 = .ok (.bipush 10, 2) := by decide +kernel
theorem dX10_stepLayer_93 : decode cX10_stepLayer 93 = .ok (.dup2, 1) := by decide +kernel
theorem dX10_stepLayer_94 : decode cX10_stepLayer 94 = .ok (.iaload, 1) := by decide +kernel
theorem dX10_stepLayer_95 : decode cX10_stepLayer 95 = .ok (.iconst 1, 1) := by decide +kernel
theorem dX10_stepLayer_96 : decode cX10_stepLayer 96 = .ok (.iadd, 1) := by decide +kernel
theorem dX10_stepLayer_97 : decode cX10_stepLayer 97 = .ok (.iastore, 1) := by decide +kernel
theorem dX10_stepLayer_98 : decode cX10_stepLayer 98 = .ok (.return_, 1) := by decide +kernel
theorem dX10_stepAll_0 : decode cX10_stepAll 0 = .ok (.iconst 0, 1) := by decide +kernel
theorem dX10_stepAll_1 : decode cX10_stepAll 1 = .ok (.istore_n 1, 1) := by decide +kernel
theorem dX10_stepAll_2 : decode cX10_stepAll 2 = .ok (.iload_n 1, 1) := by decide +kernel
theorem dX10_stepAll_3 : decode cX10_stepAll 3 = .ok (.aload_n 0, 1) := by decide +kernel
theorem dX10_stepAll_4 : decode cX10_stepAll 4 = .ok (.invokevirtual 74, 3) := by decide +kernel
theorem dX10_stepAll_7 : decode cX10_stepAll 7 = .ok (.if_icmp .ge 58, 3) := by decide +kernel
theorem dX10_stepAll_10 : decode cX10_stepAll 10 = .ok (.aload_n 0, 1) := by decide +kernel
theorem dX10_stepAll_11 : decode cX10_stepAll 11 = .ok (.iload_n 1, 1) := by decide +kernel
theorem dX10_stepAll_12 : decode cX10_stepAll 12 = .ok (.invokevirtual 172, 3) := by decide +kernel
theorem dX10_stepAll_15 : decode cX10_stepAll 15 = .ok (.iconst 0, 1) := by decide +kernel
theorem dX10_stepAll_16 : decode cX10_stepAll 16 = .ok (.istore_n 2, 1) := by decide +kernel
theorem dX10_stepAll_17 : decode cX10_stepAll 17 = .ok (.iload_n 2, 1) := by decide +kernel
theorem dX10_stepAll_18 : decode cX10_stepAll 18 = .ok (.aload_n 0, 1) := by decide +kernel
theorem dX10_stepAll_19 : decode cX10_stepAll 19 = .ok (.getfield 7, 3) := by decide +kernel
theorem dX10_stepAll_22 : decode cX10_stepAll 22 = .ok (.iconst 5, 1) := by decide +kernel
theorem dX10_stepAll_23 : decode cX10_stepAll 23 = .ok (.iaload, 1) := by decide +kernel
theorem dX10_stepAll_24 : decode cX10_stepAll 24 = .ok (.if_icmp .ge 35, 3) := by decide +kernel
theorem dX10_stepAll_27 : decode cX10_stepAll 27 = .ok (.aload_n 0, 1) := by decide +kernel
theorem dX10_stepAll_28 : decode cX10_stepAll 28 = .ok (.iload_n 1, 1) := by decide +kernel
theorem dX10_stepAll_29 : decode cX10_stepAll 29 = .ok (.iload_n 2, 1) := by decide +kernel
theorem dX10_stepAll_30 : decode cX10_stepAll 30 = .ok (.invokevirtual 77, 3) := by decide +kernel
theorem dX10_stepAll_33 : decode cX10_stepAll 33 = .ok (.iconst (-1), 1) := by decide +kernel
theorem dX10_stepAll_34 : decode cX10_stepAll 34 = .ok (.if_icmp .eq 19, 3) := by decide +kernel
theorem dX10_stepAll_37 : decode cX10_stepAll 37 = .ok (.aload_n 0, 1) := by decide +kernel
theorem dX10_stepAll_38 : decode cX10_stepAll 38 = .ok (.getfield 7, 3) := by decide +kernel
theorem dX10_stepAll_41 : decode cX10_stepAll 41 = .ok (.iload_n 1, 1) := by decide +kernel
theorem dX10_stepAll_42 : decode cX10_stepAll 42 = .ok (.iload_n 2, 1) := by decide +kernel
theorem dX10_stepAll_43 : decode cX10_stepAll 43 = .ok (.invokestatic 163, 3) := by decide +kernel
theorem dX10_stepAll_46 : decode cX10_stepAll 46 = .ok (.aload_n 0, 1) := by decide +kernel
theorem dX10_stepAll_47 : decode cX10_stepAll 47 = .ok (.iload_n 1, 1) := by decide +kernel
theorem dX10_stepAll_48 : decode cX10_stepAll 48 = .ok (.iload_n 2, 1) := by decide +kernel
theorem dX10_stepAll_49 : decode cX10_stepAll 49 = .ok (.invokevirtual 175, 3) := by decide +kernel
theorem dX10_stepAll_52 : decode cX10_stepAll 52 = .ok (.iastore, 1) := by decide +kernel
theorem dX10_stepAll_53 : decode cX10_stepAll 53 = .ok (.iinc 2 1, 3) := by decide +kernel
theorem dX10_stepAll_56 : decode cX10_stepAll 56 = .ok (.goto (-39), 3) := by decide +kernel
theorem dX10_stepAll_59 : decode cX10_stepAll 59 = .ok (.iinc 1 1, 3) := by decide +kernel
theorem dX10_stepAll_62 : decode cX10_stepAll 62 = .ok (.goto (-60), 3) := by decide +kernel
theorem dX10_stepAll_65 : decode cX10_stepAll 65 = .ok (.iconst 0, 1) := by decide +kernel
theorem dX10_stepAll_66 : decode cX10_stepAll 66 = .ok (.istore_n 1, 1) := by decide +kernel
theorem dX10_stepAll_67 : decode cX10_stepAll 67 = .ok (.iload_n 1, 1) := by decide +kernel
theorem dX10_stepAll_68 : decode cX10_stepAll 68 = .ok (.aload_n 0, 1) := by decide +kernel
theorem dX10_stepAll_69 : decode cX10_stepAll 69 = .ok (.invokevirtual 66, 3) := by decide +kernel
theorem dX10_stepAll_72 : decode cX10_stepAll 72 = .ok (.if_icmp .ge 81, 3) := by decide +kernel
theorem dX10_stepAll_75 : decode cX10_stepAll 75 = .ok (.aload_n 0, 1) := by decide +kernel
theorem dX10_stepAll_76 : decode cX10_stepAll 76 = .ok (.getfield 7, 3) := by decide +kernel
theorem dX10_stepAll_79 : decode cX10_stepAll 79 = .ok (.bipush 48, 2) := by decide +kernel
theorem dX10_stepAll_81 : decode cX10_stepAll 81 = .ok (.iload_n 1, 1) := by decide +kernel
theorem dX10_stepAll_82 : decode cX10_stepAll 82 = .ok (.iadd, 1) := by decide +kernel
theorem dX10_stepAll_83 : decode cX10_stepAll 83 = .ok (.iaload, 1) := by decide +kernel
theorem dX10_stepAll_84 : decode cX10_stepAll 84 = .ok (.istore_n 2, 1) := by decide +kernel
theorem dX10_stepAll_85 : decode cX10_stepAll 85 = .ok (.iconst 0, 1) := by decide +kernel
theorem dX10_stepAll_86 : decode cX10_stepAll 86 = .ok (.istore_n 3, 1) := by decide +kernel
theorem dX10_stepAll_87 : decode cX10_stepAll 87 = .ok (.iload_n 3, 1) := by decide +kernel
theorem dX10_stepAll_88 : decode cX10_stepAll 88 = .ok (.aload_n 0, 1) := by decide +kernel
theorem dX10_stepAll_89 : decode cX10_stepAll 89 = .ok (.invokevirtual 74, 3) := by decide +kernel
theorem dX10_stepAll_92 : decode cX10_stepAll 92 = .ok (.if_icmp .ge 38, 3) := by decide +kernel
theorem dX10_stepAll_95 : decode cX10_stepAll 95 = .ok (.aload_n 0, 1) := by decide +kernel
theorem dX10_stepAll_96 : decode cX10_stepAll 96 = .ok (.iload_n 3, 1) := by decide +kernel
theorem dX10_stepAll_97 : decode cX10_stepAll 97 = .ok (.iload_n 1, 1) := by decide +kernel
theorem dX10_stepAll_98 : decode cX10_stepAll 98 = .ok (.invokevirtual 184, 3) := by decide +kernel
theorem dX10_stepAll_101 : decode cX10_stepAll 101 = .ok (.ifCond .eq 23, 3) := by decide +kernel
theorem dX10_stepAll_104 : decode cX10_stepAll 104 = .ok (.iload_n 2, 1) := by decide +kernel
theorem dX10_stepAll_105 : decode cX10_stepAll 105 = .ok (.aload_n 0, 1) := by decide +kernel
theorem dX10_stepAll_106 : decode cX10_stepAll 106 = .ok (.getfield 7, 3) := by decide +kernel
theorem dX10_stepAll_109 : decode cX10_stepAll 109 = .ok (.iload_n 3, 1) := by decide +kernel
theorem dX10_stepAll_110 : decode cX10_stepAll 110 = .ok (.iload_n 1, 1) := by decide +kernel
theorem dX10_stepAll_111 : decode cX10_stepAll 111 = .ok (.aload_n 0, 1) := by decide +kernel
theorem dX10_stepAll_112 : decode cX10_stepAll 112 = .ok (.getfield 7, 3) := by decide +kernel
theorem dX10_stepAll_115 : decode cX10_stepAll 115 = .ok (.iconst 3, 1) := by decide +kernel
theorem dX10_stepAll_116 : decode cX10_stepAll 116 = .ok (.iaload, 1) := by decide +kernel
theorem dX10_stepAll_117 : decode cX10_stepAll 117 = .ok (.idiv, 1) := by decide +kernel
theorem dX10_stepAll_118 : decode cX10_stepAll 118 = .ok (.invokestatic 163, 3) := by decide +kernel
theorem dX10_stepAll_121 : decode cX10_stepAll 121 = .ok (.iaload, 1) := by decide +kernel
theorem dX10_stepAll_122 : decode cX10_stepAll 122 = .ok (.iadd, 1) := by decide +kernel
theorem dX10_stepAll_123 : decode cX10_stepAll 123 = .ok (.istore_n 2, 1) := by decide +kernel
theorem dX10_stepAll_124 : decode cX10_stepAll 124 = .ok (.iinc 3 1, 3) := by decide +kernel
theorem dX10_stepAll_127 : decode cX10_stepAll 127 = .ok (.goto (-40), 3) := by decide +kernel
theorem dX10_stepAll_130 : decode cX10_stepAll 130 = .ok (.aload_n 0, 1) := by decide +kernel
theorem dX10_stepAll_131 : decode cX10_stepAll 131 = .ok (.getfield 7, 3) := by decide +kernel
theorem dX10_stepAll_134 : decode cX10_stepAll 134 = .ok (.bipush 96, 2) := by decide +kernel
theorem dX10_stepAll_136 : decode cX10_stepAll 136 = .ok (.iload_n 1, 1) := by decide +kernel
theorem dX10_stepAll_137 : decode cX10_stepAll 137 = .ok (.iadd, 1) := by decide +kernel
theorem dX10_stepAll_138 : decode cX10_stepAll 138 = .ok (.iload_n 2, 1) := by decide +kernel
theorem dX10_stepAll_139 : decode cX10_stepAll 139 = .ok (.bipush (-99), 2) := by decide +kernel
theorem dX10_stepAll_141 : decode cX10_stepAll 141 = .ok (.bipush 99, 2) := by decide +kernel
theorem dX10_stepAll_143 : decode cX10_stepAll 143 = .ok (.invokestatic 169, 3) := by decide +kernel
theorem dX10_stepAll_146 : decode cX10_stepAll 146 = .ok (.iastore, 1) := by decide +kernel
theorem dX10_stepAll_147 : decode cX10_stepAll 147 = .ok (.iinc 1 1, 3) := by decide +kernel
theorem dX10_stepAll_150 : decode cX10_stepAll 150 = .ok (.goto (-83), 3) := by decide +kernel
theorem dX10_stepAll_153 : decode cX10_stepAll 153 = .ok (.aload_n 0, 1) := by decide +kernel
theorem dX10_stepAll_154 : decode cX10_stepAll 154 = .ok (.getfield 7, 3) := by decide +kernel
theorem dX10_stepAll_157 : decode cX10_stepAll 157 = .ok (.bipush 10, 2) := by decide +kernel
theorem dX10_stepAll_159 : decode cX10_stepAll 159 = .ok (.dup2, 1) := by decide +kernel
theorem dX10_stepAll_160 : decode cX10_stepAll 160 = .ok (.iaload, 1) := by decide +kernel
theorem dX10_stepAll_161 : decode cX10_stepAll 161 = .ok (.iconst 1, 1) := by decide +kernel
theorem dX10_stepAll_162 : decode cX10_stepAll 162 = .ok (.iadd, 1) := by decide +kernel
theorem dX10_stepAll_163 : decode cX10_stepAll 163 = .ok (.iastore, 1) := by decide +kernel
theorem dX10_stepAll_164 : decode cX10_stepAll 164 = .ok (.return_, 1) := by decide +kernel
theorem dX10_writeDown_0 : decode cX10_writeDown 0 = .ok (.aload_n 0, 1) := by decide +kernel
theorem dX10_writeDown_1 : decode cX10_writeDown 1 = .ok (.getfield 7, 3) := by decide +kernel
theorem dX10_writeDown_4 : decode cX10_writeDown 4 = .ok (.sipush 384, 3) := by decide +kernel
theorem dX10_writeDown_7 : decode cX10_writeDown 7 = .ok (.iaload, 1) := by decide +kernel
theorem dX10_writeDown_8 : decode cX10_writeDown 8 = .ok (.bipush 16, 2) := by decide +kernel
theorem dX10_writeDown_10 : decode cX10_writeDown 10 = .ok (.if_icmp .ne 50, 3) := by decide +kernel
theorem dX10_writeDown_13 : decode cX10_writeDown 13 = .ok (.sipush 336, 3) := by decide +kernel
theorem dX10_writeDown_16 : decode cX10_writeDown 16 = .ok (.istore 4, 2) := by decide +kernel
theorem dX10_writeDown_18 : decode cX10_writeDown 18 = .ok (.iload 4, 2) := by decide +kernel
theorem dX10_writeDown_20 : decode cX10_writeDown 20 = .ok (.sipush 381, 3) := by decide +kernel
theorem dX10_writeDown_23 : decode cX10_writeDown 23 = .ok (.if_icmp .ge 25, 3) := by decide +kernel
theorem dX10_writeDown_26 : decode cX10_writeDown 26 = .ok (.aload_n 0, 1) := by decide +kernel
theorem dX10_writeDown_27 : decode cX10_writeDown 27 = .ok (.getfield 7, 3) := by decide +kernel
theorem dX10_writeDown_30 : decode cX10_writeDown 30 = .ok (.iload 4, 2) := by decide +kernel
theorem dX10_writeDown_32 : decode cX10_writeDown 32 = .ok (.aload_n 0, 1) := by decide +kernel
theorem dX10_writeDown_33 : decode cX10_writeDown 33 = .ok (.getfield 7, 3) := by decide +kernel
theorem dX10_writeDown_36 : decode cX10_writeDown 36 = .ok (.iload 4, 2) := by decide +kernel
theorem dX10_writeDown_38 : decode cX10_writeDown 38 = .ok (.iconst 3, 1) := by decide +kernel
theorem dX10_writeDown_39 : decode cX10_writeDown 39 = .ok (.iadd, 1) := by decide +kernel
theorem dX10_writeDown_40 : decode cX10_writeDown 40 = .ok (.iaload, 1) := by decide +kernel
theorem dX10_writeDown_41 : decode cX10_writeDown 41 = .ok (.iastore, 1) := by decide +kernel
theorem dX10_writeDown_42 : decode cX10_writeDown 42 = .ok (.iinc 4 1, 3) := by decide +kernel
theorem dX10_writeDown_45 : decode cX10_writeDown 45 = .ok (.goto (-27), 3) := by decide +kernel
theorem dX10_writeDown_48 : decode cX10_writeDown 48 = .ok (.aload_n 0, 1) := by decide +kernel
theorem dX10_writeDown_49 : decode cX10_writeDown 49 = .ok (.getfield 7, 3) := by decide +kernel
theorem dX10_writeDown_52 : decode cX10_writeDown 52 = .ok (.sipush 384, 3) := by decide +kernel
theorem dX10_writeDown_55 : decode cX10_writeDown 55 = .ok (.dup2, 1) := by decide +kernel
theorem dX10_writeDown_56 : decode cX10_writeDown 56 = .ok (.iaload, 1) := by decide +kernel
theorem dX10_writeDown_57 : decode cX10_writeDown 57 = .ok (.iconst 1, 1) := by decide +kernel
theorem dX10_writeDown_58 : decode cX10_writeDown 58 = .ok (.isub, 1) := by decide +kernel
theorem dX10_writeDown_59 : decode cX10_writeDown 59 = .ok (.iastore, 1) := by decide +kernel
theorem dX10_writeDown_60 : decode cX10_writeDown 60 = .ok (.sipush 336, 3) := by decide +kernel
theorem dX10_writeDown_63 : decode cX10_writeDown 63 = .ok (.iconst 3, 1) := by decide +kernel
theorem dX10_writeDown_64 : decode cX10_writeDown 64 = .ok (.aload_n 0, 1) := by decide +kernel
theorem dX10_writeDown_65 : decode cX10_writeDown 65 = .ok (.getfield 7, 3) := by decide +kernel
theorem dX10_writeDown_68 : decode cX10_writeDown 68 = .ok (.sipush 384, 3) := by decide +kernel
theorem dX10_writeDown_71 : decode cX10_writeDown 71 = .ok (.iaload, 1) := by decide +kernel
theorem dX10_writeDown_72 : decode cX10_writeDown 72 = .ok (.imul, 1) := by decide +kernel
theorem dX10_writeDown_73 : decode cX10_writeDown 73 = .ok (.iadd, 1) := by decide +kernel
theorem dX10_writeDown_74 : decode cX10_writeDown 74 = .ok (.istore 4, 2) := by decide +kernel
theorem dX10_writeDown_76 : decode cX10_writeDown 76 = .ok (.aload_n 0, 1) := by decide +kernel
theorem dX10_writeDown_77 : decode cX10_writeDown 77 = .ok (.getfield 7, 3) := by decide +kernel
theorem dX10_writeDown_80 : decode cX10_writeDown 80 = .ok (.iload 4, 2) := by decide +kernel
theorem dX10_writeDown_82 : decode cX10_writeDown 82 = .ok (.iload_n 1, 1) := by decide +kernel
theorem dX10_writeDown_83 : decode cX10_writeDown 83 = .ok (.iastore, 1) := by decide +kernel
theorem dX10_writeDown_84 : decode cX10_writeDown 84 = .ok (.aload_n 0, 1) := by decide +kernel
theorem dX10_writeDown_85 : decode cX10_writeDown 85 = .ok (.getfield 7, 3) := by decide +kernel
theorem dX10_writeDown_88 : decode cX10_writeDown 88 = .ok (.iload 4, 2) := by decide +kernel
theorem dX10_writeDown_90 : decode cX10_writeDown 90 = .ok (.iconst 1, 1) := by decide +kernel
theorem dX10_writeDown_91 : decode cX10_writeDown 91 = .ok (.iadd, 1) := by decide +kernel
theorem dX10_writeDown_92 : decode cX10_writeDown 92 = .ok (.iload_n 2, 1) := by decide +kernel
theorem dX10_writeDown_93 : decode cX10_writeDown 93 = .ok (.iastore, 1) := by decide +kernel
theorem dX10_writeDown_94 : decode cX10_writeDown 94 = .ok (.aload_n 0, 1) := by decide +kernel
theorem dX10_writeDown_95 : decode cX10_writeDown 95 = .ok (.getfield 7, 3) := by decide +kernel
theorem dX10_writeDown_98 : decode cX10_writeDown 98 = .ok (.iload 4, 2) := by decide +kernel
theorem dX10_writeDown_100 : decode cX10_writeDown 100 = .ok (.iconst 2, 1) := by decide +kernel
theorem dX10_writeDown_101 : decode cX10_writeDown 101 = .ok (.iadd, 1) := by decide +kernel
theorem dX10_writeDown_102 : decode cX10_writeDown 102 = .ok (.iload_n 3, 1) := by decide +kernel
theorem dX10_writeDown_103 : decode cX10_writeDown 103 = .ok (.iastore, 1) := by decide +kernel
theorem dX10_writeDown_104 : decode cX10_writeDown 104 = .ok (.aload_n 0, 1) := by decide +kernel
theorem dX10_writeDown_105 : decode cX10_writeDown 105 = .ok (.getfield 7, 3) := by decide +kernel
theorem dX10_writeDown_108 : decode cX10_writeDown 108 = .ok (.sipush 384, 3) := by decide +kernel
theorem dX10_writeDown_111 : decode cX10_writeDown 111 = .ok (.dup2, 1) := by decide +kernel
theorem dX10_writeDown_112 : decode cX10_writeDown 112 = .ok (.iaload, 1) := by decide +kernel
theorem dX10_writeDown_113 : decode cX10_writeDown 113 = .ok (.iconst 1, 1) := by decide +kernel
theorem dX10_writeDown_114 : decode cX10_writeDown 114 = .ok (.iadd, 1) := by decide +kernel
theorem dX10_writeDown_115 : decode cX10_writeDown 115 = .ok (.iastore, 1) := by decide +kernel
theorem dX10_writeDown_116 : decode cX10_writeDown 116 = .ok (.return_, 1) := by decide +kernel
theorem dX10_stepNow_0 : decode cX10_stepNow 0 = .ok (.aload_n 0, 1) := by decide +kernel
theorem dX10_stepNow_1 : decode cX10_stepNow 1 = .ok (.invokevirtual 156, 3) := by decide +kernel
theorem dX10_stepNow_4 : decode cX10_stepNow 4 = .ok (.lstore_n 1, 1) := by decide +kernel
theorem dX10_stepNow_5 : decode cX10_stepNow 5 = .ok (.aload_n 0, 1) := by decide +kernel
theorem dX10_stepNow_6 : decode cX10_stepNow 6 = .ok (.getfield 7, 3) := by decide +kernel
theorem dX10_stepNow_9 : decode cX10_stepNow 9 = .ok (.bipush 8, 2) := by decide +kernel
theorem dX10_stepNow_11 : decode cX10_stepNow 11 = .ok (.iaload, 1) := by decide +kernel
theorem dX10_stepNow_12 : decode cX10_stepNow 12 = .ok (.ifCond .ne 24, 3) := by decide +kernel
theorem dX10_stepNow_15 : decode cX10_stepNow 15 = .ok (.aload_n 0, 1) := by decide +kernel
theorem dX10_stepNow_16 : decode cX10_stepNow 16 = .ok (.aload_n 0, 1) := by decide +kernel
theorem dX10_stepNow_17 : decode cX10_stepNow 17 = .ok (.getfield 7, 3) := by decide +kernel
theorem dX10_stepNow_20 : decode cX10_stepNow 20 = .ok (.bipush 13, 2) := by decide +kernel
theorem dX10_stepNow_22 : decode cX10_stepNow 22 = .ok (.iaload, 1) := by decide +kernel
theorem dX10_stepNow_23 : decode cX10_stepNow 23 = .ok (.aload_n 0, 1) := by decide +kernel
theorem dX10_stepNow_24 : decode cX10_stepNow 24 = .ok (.getfield 7, 3) := by decide +kernel
theorem dX10_stepNow_27 : decode cX10_stepNow 27 = .ok (.bipush 11, 2) := by decide +kernel
theorem dX10_stepNow_29 : decode cX10_stepNow 29 = .ok (.iaload, 1) := by decide +kernel
theorem dX10_stepNow_30 : decode cX10_stepNow 30 = .ok (.invokevirtual 178, 3) := by decide +kernel
theorem dX10_stepNow_33 : decode cX10_stepNow 33 = .ok (.goto 4, 3) := by decide +kernel
theorem dX10_stepNow_36 : decode cX10_stepNow 36 = .ok (.iconst (-1), 1) := by decide +kernel
theorem dX10_stepNow_37 : decode cX10_stepNow 37 = .ok (.istore_n 3, 1) := by decide +kernel
theorem dX10_stepNow_38 : decode cX10_stepNow 38 = .ok (.aload_n 0, 1) := by decide +kernel
theorem dX10_stepNow_39 : decode cX10_stepNow 39 = .ok (.getfield 7, 3) := by decide +kernel
theorem dX10_stepNow_42 : decode cX10_stepNow 42 = .ok (.bipush 8, 2) := by decide +kernel
theorem dX10_stepNow_44 : decode cX10_stepNow 44 = .ok (.iaload, 1) := by decide +kernel
theorem dX10_stepNow_45 : decode cX10_stepNow 45 = .ok (.ifCond .ne 10, 3) := by decide +kernel
theorem dX10_stepNow_48 : decode cX10_stepNow 48 = .ok (.aload_n 0, 1) := by decide +kernel
theorem dX10_stepNow_49 : decode cX10_stepNow 49 = .ok (.invokevirtual 188, 3) := by decide +kernel
theorem dX10_stepNow_52 : decode cX10_stepNow 52 = .ok (.goto 7, 3) := by decide +kernel
theorem dX10_stepNow_55 : decode cX10_stepNow 55 = .ok (.aload_n 0, 1) := by decide +kernel
theorem dX10_stepNow_56 : decode cX10_stepNow 56 = .ok (.invokevirtual 191, 3) := by decide +kernel
theorem dX10_stepNow_59 : decode cX10_stepNow 59 = .ok (.lload_n 1, 1) := by decide +kernel
theorem dX10_stepNow_60 : decode cX10_stepNow 60 = .ok (.aload_n 0, 1) := by decide +kernel
theorem dX10_stepNow_61 : decode cX10_stepNow 61 = .ok (.invokevirtual 156, 3) := by decide +kernel
theorem dX10_stepNow_64 : decode cX10_stepNow 64 = .ok (.lxor, 1) := by decide +kernel
theorem dX10_stepNow_65 : decode cX10_stepNow 65 = .ok (.lstore 4, 2) := by decide +kernel
theorem dX10_stepNow_67 : decode cX10_stepNow 67 = .ok (.aload_n 0, 1) := by decide +kernel
theorem dX10_stepNow_68 : decode cX10_stepNow 68 = .ok (.aload_n 0, 1) := by decide +kernel
theorem dX10_stepNow_69 : decode cX10_stepNow 69 = .ok (.invokevirtual 156, 3) := by decide +kernel
theorem dX10_stepNow_72 : decode cX10_stepNow 72 = .ok (.invokevirtual 160, 3) := by decide +kernel
theorem dX10_stepNow_75 : decode cX10_stepNow 75 = .ok (.istore 6, 2) := by decide +kernel
theorem dX10_stepNow_77 : decode cX10_stepNow 77 = .ok (.iconst 0, 1) := by decide +kernel
theorem dX10_stepNow_78 : decode cX10_stepNow 78 = .ok (.istore 7, 2) := by decide +kernel
theorem dX10_stepNow_80 : decode cX10_stepNow 80 = .ok (.iload 7, 2) := by decide +kernel
theorem dX10_stepNow_82 : decode cX10_stepNow 82 = .ok (.aload_n 0, 1) := by decide +kernel
theorem dX10_stepNow_83 : decode cX10_stepNow 83 = .ok (.invokevirtual 66, 3) := by decide +kernel
theorem dX10_stepNow_86 : decode cX10_stepNow 86 = .ok (.if_icmp .ge 38, 3) := by decide +kernel
theorem dX10_stepNow_89 : decode cX10_stepNow 89 = .ok (.aload_n 0, 1) := by decide +kernel
theorem dX10_stepNow_90 : decode cX10_stepNow 90 = .ok (.getfield 7, 3) := by decide +kernel
theorem dX10_stepNow_93 : decode cX10_stepNow 93 = .ok (.sipush 385, 3) := by decide +kernel
theorem dX10_stepNow_96 : decode cX10_stepNow 96 = .ok (.iload 7, 2) := by decide +kernel
theorem dX10_stepNow_98 : decode cX10_stepNow 98 = .ok (.iadd, 1) := by decide +kernel
theorem dX10_stepNow_99 : decode cX10_stepNow 99 = .ok (.dup2, 1) := by decide +kernel
theorem dX10_stepNow_100 : decode cX10_stepNow 100 = .ok (.iaload, 1) := by decide +kernel
theorem dX10_stepNow_101 : decode cX10_stepNow 101 = .ok (.lload 4, 2) := by decide +kernel
theorem dX10_stepNow_103 : decode cX10_stepNow 103 = .ok (.iload 7, 2) := by decide +kernel
theorem dX10_stepNow_105 : decode cX10_stepNow 105 = .ok (.invokestatic 62, 3) := by decide +kernel
theorem dX10_stepNow_108 : decode cX10_stepNow 108 = .ok (.ifCond .eq 7, 3) := by decide +kernel
theorem dX10_stepNow_111 : decode cX10_stepNow 111 = .ok (.iconst 1, 1) := by decide +kernel
theorem dX10_stepNow_112 : decode cX10_stepNow 112 = .ok (.goto 4, 3) := by decide +kernel
theorem dX10_stepNow_115 : decode cX10_stepNow 115 = .ok (.iconst 0, 1) := by decide +kernel
theorem dX10_stepNow_116 : decode cX10_stepNow 116 = .ok (.iadd, 1) := by decide +kernel
theorem dX10_stepNow_117 : decode cX10_stepNow 117 = .ok (.iastore, 1) := by decide +kernel
theorem dX10_stepNow_118 : decode cX10_stepNow 118 = .ok (.iinc 7 1, 3) := by decide +kernel
theorem dX10_stepNow_121 : decode cX10_stepNow 121 = .ok (.goto (-41), 3) := by decide +kernel
theorem dX10_stepNow_124 : decode cX10_stepNow 124 = .ok (.aload_n 0, 1) := by decide +kernel
theorem dX10_stepNow_125 : decode cX10_stepNow 125 = .ok (.iload_n 3, 1) := by decide +kernel
theorem dX10_stepNow_126 : decode cX10_stepNow 126 = .ok (.lload 4, 2) := by decide +kernel
theorem dX10_stepNow_128 : decode cX10_stepNow 128 = .ok (.invokestatic 87, 3) := by decide +kernel
theorem dX10_stepNow_131 : decode cX10_stepNow 131 = .ok (.iload 6, 2) := by decide +kernel
theorem dX10_stepNow_133 : decode cX10_stepNow 133 = .ok (.invokevirtual 194, 3) := by decide +kernel
theorem dX10_stepNow_136 : decode cX10_stepNow 136 = .ok (.iload 6, 2) := by decide +kernel
theorem dX10_stepNow_138 : decode cX10_stepNow 138 = .ok (.ifCond .ne 14, 3) := by decide +kernel
theorem dX10_stepNow_141 : decode cX10_stepNow 141 = .ok (.aload_n 0, 1) := by decide +kernel
theorem dX10_stepNow_142 : decode cX10_stepNow 142 = .ok (.getfield 7, 3) := by decide +kernel
theorem dX10_stepNow_145 : decode cX10_stepNow 145 = .ok (.bipush 9, 2) := by decide +kernel
theorem dX10_stepNow_147 : decode cX10_stepNow 147 = .ok (.iconst 1, 1) := by decide +kernel
theorem dX10_stepNow_148 : decode cX10_stepNow 148 = .ok (.iastore, 1) := by decide +kernel
theorem dX10_stepNow_149 : decode cX10_stepNow 149 = .ok (.goto 23, 3) := by decide +kernel
theorem dX10_stepNow_152 : decode cX10_stepNow 152 = .ok (.aload_n 0, 1) := by decide +kernel
theorem dX10_stepNow_153 : decode cX10_stepNow 153 = .ok (.getfield 7, 3) := by decide +kernel
theorem dX10_stepNow_156 : decode cX10_stepNow 156 = .ok (.bipush 10, 2) := by decide +kernel
theorem dX10_stepNow_158 : decode cX10_stepNow 158 = .ok (.iaload, 1) := by decide +kernel
theorem dX10_stepNow_159 : decode cX10_stepNow 159 = .ok (.bipush 20, 2) := by decide +kernel
theorem dX10_stepNow_161 : decode cX10_stepNow 161 = .ok (.if_icmp .ne 11, 3) := by decide +kernel
theorem dX10_stepNow_164 : decode cX10_stepNow 164 = .ok (.aload_n 0, 1) := by decide +kernel
theorem dX10_stepNow_165 : decode cX10_stepNow 165 = .ok (.getfield 7, 3) := by decide +kernel
theorem dX10_stepNow_168 : decode cX10_stepNow 168 = .ok (.bipush 9, 2) := by decide +kernel
theorem dX10_stepNow_170 : decode cX10_stepNow 170 = .ok (.iconst 2, 1) := by decide +kernel
theorem dX10_stepNow_171 : decode cX10_stepNow 171 = .ok (.iastore, 1) := by decide +kernel
theorem dX10_stepNow_172 : decode cX10_stepNow 172 = .ok (.return_, 1) := by decide +kernel
theorem dX10_stepsNow_0 : decode cX10_stepsNow 0 = .ok (.iconst 0, 1) := by decide +kernel
theorem dX10_stepsNow_1 : decode cX10_stepsNow 1 = .ok (.istore_n 2, 1) := by decide +kernel
theorem dX10_stepsNow_2 : decode cX10_stepsNow 2 = .ok (.iload_n 2, 1) := by decide +kernel
theorem dX10_stepsNow_3 : decode cX10_stepsNow 3 = .ok (.iload_n 1, 1) := by decide +kernel
theorem dX10_stepsNow_4 : decode cX10_stepsNow 4 = .ok (.if_icmp .ge 23, 3) := by decide +kernel
theorem dX10_stepsNow_7 : decode cX10_stepsNow 7 = .ok (.aload_n 0, 1) := by decide +kernel
theorem dX10_stepsNow_8 : decode cX10_stepsNow 8 = .ok (.getfield 7, 3) := by decide +kernel
theorem dX10_stepsNow_11 : decode cX10_stepsNow 11 = .ok (.bipush 9, 2) := by decide +kernel
theorem dX10_stepsNow_13 : decode cX10_stepsNow 13 = .ok (.iaload, 1) := by decide +kernel
theorem dX10_stepsNow_14 : decode cX10_stepsNow 14 = .ok (.ifCond .ne 13, 3) := by decide +kernel
theorem dX10_stepsNow_17 : decode cX10_stepsNow 17 = .ok (.aload_n 0, 1) := by decide +kernel
theorem dX10_stepsNow_18 : decode cX10_stepsNow 18 = .ok (.invokevirtual 198, 3) := by decide +kernel
theorem dX10_stepsNow_21 : decode cX10_stepsNow 21 = .ok (.iinc 2 1, 3) := by decide +kernel
theorem dX10_stepsNow_24 : decode cX10_stepsNow 24 = .ok (.goto (-22), 3) := by decide +kernel
theorem dX10_stepsNow_27 : decode cX10_stepsNow 27 = .ok (.iload_n 2, 1) := by decide +kernel
theorem dX10_stepsNow_28 : decode cX10_stepsNow 28 = .ok (.ireturn, 1) := by decide +kernel
theorem dX10_laySums_0 : decode cX10_laySums 0 = .ok (.iconst 0, 1) := by decide +kernel
theorem dX10_laySums_1 : decode cX10_laySums 1 = .ok (.istore_n 1, 1) := by decide +kernel
theorem dX10_laySums_2 : decode cX10_laySums 2 = .ok (.iload_n 1, 1) := by decide +kernel
theorem dX10_laySums_3 : decode cX10_laySums 3 = .ok (.aload_n 0, 1) := by decide +kernel
theorem dX10_laySums_4 : decode cX10_laySums 4 = .ok (.invokevirtual 74, 3) := by decide +kernel
theorem dX10_laySums_7 : decode cX10_laySums 7 = .ok (.if_icmp .ge 20, 3) := by decide +kernel
theorem dX10_laySums_10 : decode cX10_laySums 10 = .ok (.aload_n 0, 1) := by decide +kernel
theorem dX10_laySums_11 : decode cX10_laySums 11 = .ok (.getfield 32, 3) := by decide +kernel
theorem dX10_laySums_14 : decode cX10_laySums 14 = .ok (.iload_n 1, 1) := by decide +kernel
theorem dX10_laySums_15 : decode cX10_laySums 15 = .ok (.aload_n 0, 1) := by decide +kernel
theorem dX10_laySums_16 : decode cX10_laySums 16 = .ok (.iload_n 1, 1) := by decide +kernel
theorem dX10_laySums_17 : decode cX10_laySums 17 = .ok (.invokevirtual 83, 3) := by decide +kernel
theorem dX10_laySums_20 : decode cX10_laySums 20 = .ok (.lastore, 1) := by decide +kernel
theorem dX10_laySums_21 : decode cX10_laySums 21 = .ok (.iinc 1 1, 3) := by decide +kernel
theorem dX10_laySums_24 : decode cX10_laySums 24 = .ok (.goto (-22), 3) := by decide +kernel
theorem dX10_laySums_27 : decode cX10_laySums 27 = .ok (.aload_n 0, 1) := by decide +kernel
theorem dX10_laySums_28 : decode cX10_laySums 28 = .ok (.lconst 0, 1) := by decide +kernel
theorem dX10_laySums_29 : decode cX10_laySums 29 = .ok (.putfield 201, 3) := by decide +kernel
theorem dX10_laySums_32 : decode cX10_laySums 32 = .ok (.aload_n 0, 1) := by decide +kernel
theorem dX10_laySums_33 : decode cX10_laySums 33 = .ok (.iconst 0, 1) := by decide +kernel
theorem dX10_laySums_34 : decode cX10_laySums 34 = .ok (.putfield 205, 3) := by decide +kernel
theorem dX10_laySums_37 : decode cX10_laySums 37 = .ok (.iconst 0, 1) := by decide +kernel
theorem dX10_laySums_38 : decode cX10_laySums 38 = .ok (.istore_n 1, 1) := by decide +kernel
theorem dX10_laySums_39 : decode cX10_laySums 39 = .ok (.iload_n 1, 1) := by decide +kernel
theorem dX10_laySums_40 : decode cX10_laySums 40 = .ok (.aload_n 0, 1) := by decide +kernel
theorem dX10_laySums_41 : decode cX10_laySums 41 = .ok (.invokevirtual 66, 3) := by decide +kernel
theorem dX10_laySums_44 : decode cX10_laySums 44 = .ok (.if_icmp .ge 154, 3) := by decide +kernel
theorem dX10_laySums_47 : decode cX10_laySums 47 = .ok (.aload_n 0, 1) := by decide +kernel
theorem dX10_laySums_48 : decode cX10_laySums 48 = .ok (.getfield 205, 3) := by decide +kernel
theorem dX10_laySums_51 : decode cX10_laySums 51 = .ok (.istore_n 2, 1) := by decide +kernel
theorem dX10_laySums_52 : decode cX10_laySums 52 = .ok (.iload_n 2, 1) := by decide +kernel
theorem dX10_laySums_53 : decode cX10_laySums 53 = .ok (.aload_n 0, 1) := by decide +kernel
theorem dX10_laySums_54 : decode cX10_laySums 54 = .ok (.invokevirtual 74, 3) := by decide +kernel
theorem dX10_laySums_57 : decode cX10_laySums 57 = .ok (.if_icmp .ge 22, 3) := by decide +kernel
theorem dX10_laySums_60 : decode cX10_laySums 60 = .ok (.aload_n 0, 1) := by decide +kernel
theorem dX10_laySums_61 : decode cX10_laySums 61 = .ok (.getfield 32, 3) := by decide +kernel
theorem dX10_laySums_64 : decode cX10_laySums 64 = .ok (.iload_n 2, 1) := by decide +kernel
theorem dX10_laySums_65 : decode cX10_laySums 65 = .ok (.laload, 1) := by decide +kernel
theorem dX10_laySums_66 : decode cX10_laySums 66 = .ok (.iload_n 1, 1) := by decide +kernel
theorem dX10_laySums_67 : decode cX10_laySums 67 = .ok (.invokestatic 62, 3) := by decide +kernel
theorem dX10_laySums_70 : decode cX10_laySums 70 = .ok (.ifCond .ne 9, 3) := by decide +kernel
theorem dX10_laySums_73 : decode cX10_laySums 73 = .ok (.iinc 2 1, 3) := by decide +kernel
theorem dX10_laySums_76 : decode cX10_laySums 76 = .ok (.goto (-24), 3) := by decide +kernel
theorem dX10_laySums_79 : decode cX10_laySums 79 = .ok (.iload_n 2, 1) := by decide +kernel
theorem dX10_laySums_80 : decode cX10_laySums 80 = .ok (.aload_n 0, 1) := by decide +kernel
theorem dX10_laySums_81 : decode cX10_laySums 81 = .ok (.invokevirtual 74, 3) := by decide +kernel
theorem dX10_laySums_84 : decode cX10_laySums 84 = .ok (.if_icmp .ne 6, 3) := by decide +kernel
theorem dX10_laySums_87 : decode cX10_laySums 87 = .ok (.goto 105, 3) := by decide +kernel
theorem dX10_laySums_90 : decode cX10_laySums 90 = .ok (.aload_n 0, 1) := by decide +kernel
theorem dX10_laySums_91 : decode cX10_laySums 91 = .ok (.getfield 32, 3) := by decide +kernel
theorem dX10_laySums_94 : decode cX10_laySums 94 = .ok (.iload_n 2, 1) := by decide +kernel
theorem dX10_laySums_95 : decode cX10_laySums 95 = .ok (.laload, 1) := by decide +kernel
theorem dX10_laySums_96 : decode cX10_laySums 96 = .ok (.lstore_n 3, 1) := by decide +kernel
theorem dX10_laySums_97 : decode cX10_laySums 97 = .ok (.aload_n 0, 1) := by decide +kernel
theorem dX10_laySums_98 : decode cX10_laySums 98 = .ok (.getfield 32, 3) := by decide +kernel
theorem dX10_laySums_101 : decode cX10_laySums 101 = .ok (.iload_n 2, 1) := by decide +kernel
theorem dX10_laySums_102 : decode cX10_laySums 102 = .ok (.aload_n 0, 1) := by decide +kernel
theorem dX10_laySums_103 : decode cX10_laySums 103 = .ok (.getfield 32, 3) := by decide +kernel
theorem dX10_laySums_106 : decode cX10_laySums 106 = .ok (.aload_n 0, 1) := by decide +kernel
theorem dX10_laySums_107 : decode cX10_laySums 107 = .ok (.getfield 205, 3) := by decide +kernel
theorem dX10_laySums_110 : decode cX10_laySums 110 = .ok (.laload, 1) := by decide +kernel
theorem dX10_laySums_111 : decode cX10_laySums 111 = .ok (.lastore, 1) := by decide +kernel
theorem dX10_laySums_112 : decode cX10_laySums 112 = .ok (.aload_n 0, 1) := by decide +kernel
theorem dX10_laySums_113 : decode cX10_laySums 113 = .ok (.getfield 32, 3) := by decide +kernel
theorem dX10_laySums_116 : decode cX10_laySums 116 = .ok (.aload_n 0, 1) := by decide +kernel
theorem dX10_laySums_117 : decode cX10_laySums 117 = .ok (.getfield 205, 3) := by decide +kernel
theorem dX10_laySums_120 : decode cX10_laySums 120 = .ok (.lload_n 3, 1) := by decide +kernel
theorem dX10_laySums_121 : decode cX10_laySums 121 = .ok (.lastore, 1) := by decide +kernel
theorem dX10_laySums_122 : decode cX10_laySums 122 = .ok (.aload_n 0, 1) := by decide +kernel
theorem dX10_laySums_123 : decode cX10_laySums 123 = .ok (.getfield 205, 3) := by decide +kernel
theorem dX10_laySums_126 : decode cX10_laySums 126 = .ok (.iconst 1, 1) := by decide +kernel
theorem dX10_laySums_127 : decode cX10_laySums 127 = .ok (.iadd, 1) := by decide +kernel
theorem dX10_laySums_128 : decode cX10_laySums 128 = .ok (.istore 5, 2) := by decide +kernel
theorem dX10_laySums_130 : decode cX10_laySums 130 = .ok (.iload 5, 2) := by decide +kernel
theorem dX10_laySums_132 : decode cX10_laySums 132 = .ok (.aload_n 0, 1) := by decide +kernel
theorem dX10_laySums_133 : decode cX10_laySums 133 = .ok (.invokevirtual 74, 3) := by decide +kernel
theorem dX10_laySums_136 : decode cX10_laySums 136 = .ok (.if_icmp .ge 34, 3) := by decide +kernel
theorem dX10_laySums_139 : decode cX10_laySums 139 = .ok (.aload_n 0, 1) := by decide +kernel
theorem dX10_laySums_140 : decode cX10_laySums 140 = .ok (.getfield 32, 3) := by decide +kernel
theorem dX10_laySums_143 : decode cX10_laySums 143 = .ok (.iload 5, 2) := by decide +kernel
theorem dX10_laySums_145 : decode cX10_laySums 145 = .ok (.laload, 1) := by decide +kernel
theorem dX10_laySums_146 : decode cX10_laySums 146 = .ok (.iload_n 1, 1) := by decide +kernel
theorem dX10_laySums_147 : decode cX10_laySums 147 = .ok (.invokestatic 62, 3) := by decide +kernel
theorem dX10_laySums_150 : decode cX10_laySums 150 = .ok (.ifCond .eq 14, 3) := by decide +kernel
theorem dX10_laySums_153 : decode cX10_laySums 153 = .ok (.aload_n 0, 1) := by decide +kernel
theorem dX10_laySums_154 : decode cX10_laySums 154 = .ok (.getfield 32, 3) := by decide +kernel
theorem dX10_laySums_157 : decode cX10_laySums 157 = .ok (.iload 5, 2) := by decide +kernel
theorem dX10_laySums_159 : decode cX10_laySums 159 = .ok (.dup2, 1) := by decide +kernel
theorem dX10_laySums_160 : decode cX10_laySums 160 = .ok (.laload, 1) := by decide +kernel
theorem dX10_laySums_161 : decode cX10_laySums 161 = .ok (.lload_n 3, 1) := by decide +kernel
theorem dX10_laySums_162 : decode cX10_laySums 162 = .ok (.lxor, 1) := by decide +kernel
theorem dX10_laySums_163 : decode cX10_laySums 163 = .ok (.lastore, 1) := by decide +kernel
theorem dX10_laySums_164 : decode cX10_laySums 164 = .ok (.iinc 5 1, 3) := by decide +kernel
theorem dX10_laySums_167 : decode cX10_laySums 167 = .ok (.goto (-37), 3) := by decide +kernel
theorem dX10_laySums_170 : decode cX10_laySums 170 = .ok (.aload_n 0, 1) := by decide +kernel
theorem dX10_laySums_171 : decode cX10_laySums 171 = .ok (.dup, 1) := by decide +kernel
theorem dX10_laySums_172 : decode cX10_laySums 172 = .ok (.getfield 205, 3) := by decide +kernel
theorem dX10_laySums_175 : decode cX10_laySums 175 = .ok (.iconst 1, 1) := by decide +kernel
theorem dX10_laySums_176 : decode cX10_laySums 176 = .ok (.iadd, 1) := by decide +kernel
theorem dX10_laySums_177 : decode cX10_laySums 177 = .ok (.putfield 205, 3) := by decide +kernel
theorem dX10_laySums_180 : decode cX10_laySums 180 = .ok (.aload_n 0, 1) := by decide +kernel
theorem dX10_laySums_181 : decode cX10_laySums 181 = .ok (.dup, 1) := by decide +kernel
theorem dX10_laySums_182 : decode cX10_laySums 182 = .ok (.getfield 201, 3) := by decide +kernel
theorem dX10_laySums_185 : decode cX10_laySums 185 = .ok (.lconst 1, 1) := by decide +kernel
theorem dX10_laySums_186 : decode cX10_laySums 186 = .ok (.iload_n 1, 1) := by decide +kernel
theorem dX10_laySums_187 : decode cX10_laySums 187 = .ok (.lshl, 1) := by decide +kernel
theorem dX10_laySums_188 : decode cX10_laySums 188 = .ok (.lor, 1) := by decide +kernel
theorem dX10_laySums_189 : decode cX10_laySums 189 = .ok (.putfield 201, 3) := by decide +kernel
theorem dX10_laySums_192 : decode cX10_laySums 192 = .ok (.iinc 1 1, 3) := by decide +kernel
theorem dX10_laySums_195 : decode cX10_laySums 195 = .ok (.goto (-156), 3) := by decide +kernel
theorem dX10_laySums_198 : decode cX10_laySums 198 = .ok (.return_, 1) := by decide +kernel
theorem dX10_carrierOf_0 : decode cX10_carrierOf 0 = .ok (.iconst 0, 1) := by decide +kernel
theorem dX10_carrierOf_1 : decode cX10_carrierOf 1 = .ok (.istore_n 2, 1) := by decide +kernel
theorem dX10_carrierOf_2 : decode cX10_carrierOf 2 = .ok (.iconst 0, 1) := by decide +kernel
theorem dX10_carrierOf_3 : decode cX10_carrierOf 3 = .ok (.istore_n 3, 1) := by decide +kernel
theorem dX10_carrierOf_4 : decode cX10_carrierOf 4 = .ok (.iload_n 3, 1) := by decide +kernel
theorem dX10_carrierOf_5 : decode cX10_carrierOf 5 = .ok (.aload_n 0, 1) := by decide +kernel
theorem dX10_carrierOf_6 : decode cX10_carrierOf 6 = .ok (.invokevirtual 66, 3) := by decide +kernel
theorem dX10_carrierOf_9 : decode cX10_carrierOf 9 = .ok (.if_icmp .ge 33, 3) := by decide +kernel
theorem dX10_carrierOf_12 : decode cX10_carrierOf 12 = .ok (.aload_n 0, 1) := by decide +kernel
theorem dX10_carrierOf_13 : decode cX10_carrierOf 13 = .ok (.getfield 201, 3) := by decide +kernel
theorem dX10_carrierOf_16 : decode cX10_carrierOf 16 = .ok (.iload_n 3, 1) := by decide +kernel
theorem dX10_carrierOf_17 : decode cX10_carrierOf 17 = .ok (.invokestatic 62, 3) := by decide +kernel
theorem dX10_carrierOf_20 : decode cX10_carrierOf 20 = .ok (.ifCond .eq 6, 3) := by decide +kernel
theorem dX10_carrierOf_23 : decode cX10_carrierOf 23 = .ok (.goto 13, 3) := by decide +kernel
theorem dX10_carrierOf_26 : decode cX10_carrierOf 26 = .ok (.iload_n 2, 1) := by decide +kernel
theorem dX10_carrierOf_27 : decode cX10_carrierOf 27 = .ok (.iload_n 1, 1) := by decide +kernel
theorem dX10_carrierOf_28 : decode cX10_carrierOf 28 = .ok (.if_icmp .ne 5, 3) := by decide +kernel
theorem dX10_carrierOf_31 : decode cX10_carrierOf 31 = .ok (.iload_n 3, 1) := by decide +kernel
theorem dX10_carrierOf_32 : decode cX10_carrierOf 32 = .ok (.ireturn, 1) := by decide +kernel
theorem dX10_carrierOf_33 : decode cX10_carrierOf 33 = .ok (.iinc 2 1, 3) := by decide +kernel
theorem dX10_carrierOf_36 : decode cX10_carrierOf 36 = .ok (.iinc 3 1, 3) := by decide +kernel
theorem dX10_carrierOf_39 : decode cX10_carrierOf 39 = .ok (.goto (-35), 3) := by decide +kernel
theorem dX10_carrierOf_42 : decode cX10_carrierOf 42 = .ok (.iconst (-1), 1) := by decide +kernel
theorem dX10_carrierOf_43 : decode cX10_carrierOf 43 = .ok (.ireturn, 1) := by decide +kernel
theorem dX10_putAside_0 : decode cX10_putAside 0 = .ok (.iconst 0, 1) := by decide +kernel
theorem dX10_putAside_1 : decode cX10_putAside 1 = .ok (.istore_n 1, 1) := by decide +kernel
theorem dX10_putAside_2 : decode cX10_putAside 2 = .ok (.iload_n 1, 1) := by decide +kernel
theorem dX10_putAside_3 : decode cX10_putAside 3 = .ok (.sipush 430, 3) := by decide +kernel
theorem dX10_putAside_6 : decode cX10_putAside 6 = .ok (.if_icmp .ge 23, 3) := by decide +kernel
theorem dX10_putAside_9 : decode cX10_putAside 9 = .ok (.aload_n 0, 1) := by decide +kernel
theorem dX10_putAside_10 : decode cX10_putAside 10 = .ok (.getfield 36, 3) := by decide +kernel
theorem dX10_putAside_13 : decode cX10_putAside 13 = .ok (.iload_n 1, 1) := by decide +kernel
theorem dX10_putAside_14 : decode cX10_putAside 14 = .ok (.aload_n 0, 1) := by decide +kernel
theorem dX10_putAside_15 : decode cX10_putAside 15 = .ok (.getfield 7, 3) := by decide +kernel
theorem dX10_putAside_18 : decode cX10_putAside 18 = .ok (.iconst 3, 1) := by decide +kernel
theorem dX10_putAside_19 : decode cX10_putAside 19 = .ok (.iload_n 1, 1) := by decide +kernel
theorem dX10_putAside_20 : decode cX10_putAside 20 = .ok (.iadd, 1) := by decide +kernel
theorem dX10_putAside_21 : decode cX10_putAside 21 = .ok (.iaload, 1) := by decide +kernel
theorem dX10_putAside_22 : decode cX10_putAside 22 = .ok (.iastore, 1) := by decide +kernel
theorem dX10_putAside_23 : decode cX10_putAside 23 = .ok (.iinc 1 1, 3) := by decide +kernel
theorem dX10_putAside_26 : decode cX10_putAside 26 = .ok (.goto (-24), 3) := by decide +kernel
theorem dX10_putAside_29 : decode cX10_putAside 29 = .ok (.return_, 1) := by decide +kernel
theorem dX10_bringBack_0 : decode cX10_bringBack 0 = .ok (.iconst 0, 1) := by decide +kernel
theorem dX10_bringBack_1 : decode cX10_bringBack 1 = .ok (.istore_n 1, 1) := by decide +kernel
theorem dX10_bringBack_2 : decode cX10_bringBack 2 = .ok (.iload_n 1, 1) := by decide +kernel
theorem dX10_bringBack_3 : decode cX10_bringBack 3 = .ok (.sipush 430, 3) := by decide +kernel
theorem dX10_bringBack_6 : decode cX10_bringBack 6 = .ok (.if_icmp .ge 23, 3) := by decide +kernel
theorem dX10_bringBack_9 : decode cX10_bringBack 9 = .ok (.aload_n 0, 1) := by decide +kernel
theorem dX10_bringBack_10 : decode cX10_bringBack 10 = .ok (.getfield 7, 3) := by decide +kernel
theorem dX10_bringBack_13 : decode cX10_bringBack 13 = .ok (.iconst 3, 1) := by decide +kernel
theorem dX10_bringBack_14 : decode cX10_bringBack 14 = .ok (.iload_n 1, 1) := by decide +kernel
theorem dX10_bringBack_15 : decode cX10_bringBack 15 = .ok (.iadd, 1) := by decide +kernel
theorem dX10_bringBack_16 : decode cX10_bringBack 16 = .ok (.aload_n 0, 1) := by decide +kernel
theorem dX10_bringBack_17 : decode cX10_bringBack 17 = .ok (.getfield 36, 3) := by decide +kernel
theorem dX10_bringBack_20 : decode cX10_bringBack 20 = .ok (.iload_n 1, 1) := by decide +kernel
theorem dX10_bringBack_21 : decode cX10_bringBack 21 = .ok (.iaload, 1) := by decide +kernel
theorem dX10_bringBack_22 : decode cX10_bringBack 22 = .ok (.iastore, 1) := by decide +kernel
theorem dX10_bringBack_23 : decode cX10_bringBack 23 = .ok (.iinc 1 1, 3) := by decide +kernel
theorem dX10_bringBack_26 : decode cX10_bringBack 26 = .ok (.goto (-24), 3) := by decide +kernel
theorem dX10_bringBack_29 : decode cX10_bringBack 29 = .ok (.return_, 1) := by decide +kernel
theorem dX10_stepAt_0 : decode cX10_stepAt 0 = .ok (.sipush 433, 3) := by decide +kernel
theorem dX10_stepAt_3 : decode cX10_stepAt 3 = .ok (.sipush 430, 3) := by decide +kernel
theorem dX10_stepAt_6 : decode cX10_stepAt 6 = .ok (.iload_n 0, 1) := by decide +kernel
theorem dX10_stepAt_7 : decode cX10_stepAt 7 = .ok (.iload_n 1, 1) := by decide +kernel
theorem dX10_stepAt_8 : decode cX10_stepAt 8 = .ok (.iadd, 1) := by decide +kernel
theorem dX10_stepAt_9 : decode cX10_stepAt 9 = .ok (.bipush 20, 2) := by decide +kernel
theorem dX10_stepAt_11 : decode cX10_stepAt 11 = .ok (.irem, 1) := by decide +kernel
theorem dX10_stepAt_12 : decode cX10_stepAt 12 = .ok (.imul, 1) := by decide +kernel
theorem dX10_stepAt_13 : decode cX10_stepAt 13 = .ok (.iadd, 1) := by decide +kernel
theorem dX10_stepAt_14 : decode cX10_stepAt 14 = .ok (.ireturn, 1) := by decide +kernel
theorem dX10_keep_0 : decode cX10_keep 0 = .ok (.aload_n 0, 1) := by decide +kernel
theorem dX10_keep_1 : decode cX10_keep 1 = .ok (.getfield 7, 3) := by decide +kernel
theorem dX10_keep_4 : decode cX10_keep 4 = .ok (.iconst 1, 1) := by decide +kernel
theorem dX10_keep_5 : decode cX10_keep 5 = .ok (.iaload, 1) := by decide +kernel
theorem dX10_keep_6 : decode cX10_keep 6 = .ok (.bipush 20, 2) := by decide +kernel
theorem dX10_keep_8 : decode cX10_keep 8 = .ok (.if_icmp .ne 30, 3) := by decide +kernel
theorem dX10_keep_11 : decode cX10_keep 11 = .ok (.aload_n 0, 1) := by decide +kernel
theorem dX10_keep_12 : decode cX10_keep 12 = .ok (.getfield 7, 3) := by decide +kernel
theorem dX10_keep_15 : decode cX10_keep 15 = .ok (.iconst 2, 1) := by decide +kernel
theorem dX10_keep_16 : decode cX10_keep 16 = .ok (.aload_n 0, 1) := by decide +kernel
theorem dX10_keep_17 : decode cX10_keep 17 = .ok (.getfield 7, 3) := by decide +kernel
theorem dX10_keep_20 : decode cX10_keep 20 = .ok (.iconst 2, 1) := by decide +kernel
theorem dX10_keep_21 : decode cX10_keep 21 = .ok (.iaload, 1) := by decide +kernel
theorem dX10_keep_22 : decode cX10_keep 22 = .ok (.iconst 1, 1) := by decide +kernel
theorem dX10_keep_23 : decode cX10_keep 23 = .ok (.iadd, 1) := by decide +kernel
theorem dX10_keep_24 : decode cX10_keep 24 = .ok (.bipush 20, 2) := by decide +kernel
theorem dX10_keep_26 : decode cX10_keep 26 = .ok (.irem, 1) := by decide +kernel
theorem dX10_keep_27 : decode cX10_keep 27 = .ok (.iastore, 1) := by decide +kernel
theorem dX10_keep_28 : decode cX10_keep 28 = .ok (.aload_n 0, 1) := by decide +kernel
theorem dX10_keep_29 : decode cX10_keep 29 = .ok (.getfield 7, 3) := by decide +kernel
theorem dX10_keep_32 : decode cX10_keep 32 = .ok (.iconst 1, 1) := by decide +kernel
theorem dX10_keep_33 : decode cX10_keep 33 = .ok (.dup2, 1) := by decide +kernel
theorem dX10_keep_34 : decode cX10_keep 34 = .ok (.iaload, 1) := by decide +kernel
theorem dX10_keep_35 : decode cX10_keep 35 = .ok (.iconst 1, 1) := by decide +kernel
theorem dX10_keep_36 : decode cX10_keep 36 = .ok (.isub, 1) := by decide +kernel
theorem dX10_keep_37 : decode cX10_keep 37 = .ok (.iastore, 1) := by decide +kernel
theorem dX10_keep_38 : decode cX10_keep 38 = .ok (.aload_n 0, 1) := by decide +kernel
theorem dX10_keep_39 : decode cX10_keep 39 = .ok (.getfield 7, 3) := by decide +kernel
theorem dX10_keep_42 : decode cX10_keep 42 = .ok (.iconst 2, 1) := by decide +kernel
theorem dX10_keep_43 : decode cX10_keep 43 = .ok (.iaload, 1) := by decide +kernel
theorem dX10_keep_44 : decode cX10_keep 44 = .ok (.aload_n 0, 1) := by decide +kernel
theorem dX10_keep_45 : decode cX10_keep 45 = .ok (.getfield 7, 3) := by decide +kernel
theorem dX10_keep_48 : decode cX10_keep 48 = .ok (.iconst 1, 1) := by decide +kernel
theorem dX10_keep_49 : decode cX10_keep 49 = .ok (.iaload, 1) := by decide +kernel
theorem dX10_keep_50 : decode cX10_keep 50 = .ok (.invokestatic 208, 3) := by decide +kernel
theorem dX10_keep_53 : decode cX10_keep 53 = .ok (.istore_n 1, 1) := by decide +kernel
theorem dX10_keep_54 : decode cX10_keep 54 = .ok (.iconst 0, 1) := by decide +kernel
theorem dX10_keep_55 : decode cX10_keep 55 = .ok (.istore_n 2, 1) := by decide +kernel
theorem dX10_keep_56 : decode cX10_keep 56 = .ok (.iload_n 2, 1) := by decide +kernel
theorem dX10_keep_57 : decode cX10_keep 57 = .ok (.sipush 430, 3) := by decide +kernel
theorem dX10_keep_60 : decode cX10_keep 60 = .ok (.if_icmp .ge 25, 3) := by decide +kernel
theorem dX10_keep_63 : decode cX10_keep 63 = .ok (.aload_n 0, 1) := by decide +kernel
theorem dX10_keep_64 : decode cX10_keep 64 = .ok (.getfield 7, 3) := by decide +kernel
theorem dX10_keep_67 : decode cX10_keep 67 = .ok (.iload_n 1, 1) := by decide +kernel
theorem dX10_keep_68 : decode cX10_keep 68 = .ok (.iload_n 2, 1) := by decide +kernel
theorem dX10_keep_69 : decode cX10_keep 69 = .ok (.iadd, 1) := by decide +kernel
theorem dX10_keep_70 : decode cX10_keep 70 = .ok (.aload_n 0, 1) := by decide +kernel
theorem dX10_keep_71 : decode cX10_keep 71 = .ok (.getfield 7, 3) := by decide +kernel
theorem dX10_keep_74 : decode cX10_keep 74 = .ok (.iconst 3, 1) := by decide +kernel
theorem dX10_keep_75 : decode cX10_keep 75 = .ok (.iload_n 2, 1) := by decide +kernel
theorem dX10_keep_76 : decode cX10_keep 76 = .ok (.iadd, 1) := by decide +kernel
theorem dX10_keep_77 : decode cX10_keep 77 = .ok (.iaload, 1) := by decide +kernel
theorem dX10_keep_78 : decode cX10_keep 78 = .ok (.iastore, 1) := by decide +kernel
theorem dX10_keep_79 : decode cX10_keep 79 = .ok (.iinc 2 1, 3) := by decide +kernel
theorem dX10_keep_82 : decode cX10_keep 82 = .ok (.goto (-26), 3) := by decide +kernel
theorem dX10_keep_85 : decode cX10_keep 85 = .ok (.aload_n 0, 1) := by decide +kernel
theorem dX10_keep_86 : decode cX10_keep 86 = .ok (.getfield 7, 3) := by decide +kernel
theorem dX10_keep_89 : decode cX10_keep 89 = .ok (.iconst 1, 1) := by decide +kernel
theorem dX10_keep_90 : decode cX10_keep 90 = .ok (.dup2, 1) := by decide +kernel
theorem dX10_keep_91 : decode cX10_keep 91 = .ok (.iaload, 1) := by decide +kernel
theorem dX10_keep_92 : decode cX10_keep 92 = .ok (.iconst 1, 1) := by decide +kernel
theorem dX10_keep_93 : decode cX10_keep 93 = .ok (.iadd, 1) := by decide +kernel
theorem dX10_keep_94 : decode cX10_keep 94 = .ok (.iastore, 1) := by decide +kernel
theorem dX10_keep_95 : decode cX10_keep 95 = .ok (.return_, 1) := by decide +kernel
theorem dX10_undo_0 : decode cX10_undo 0 = .ok (.aload_n 0, 1) := by decide +kernel
theorem dX10_undo_1 : decode cX10_undo 1 = .ok (.getfield 7, 3) := by decide +kernel
theorem dX10_undo_4 : decode cX10_undo 4 = .ok (.iconst 1, 1) := by decide +kernel
theorem dX10_undo_5 : decode cX10_undo 5 = .ok (.iaload, 1) := by decide +kernel
theorem dX10_undo_6 : decode cX10_undo 6 = .ok (.ifCond .ne 5, 3) := by decide +kernel
theorem dX10_undo_9 : decode cX10_undo 9 = .ok (.iconst (-1), 1) := by decide +kernel
theorem dX10_undo_10 : decode cX10_undo 10 = .ok (.ireturn, 1) := by decide +kernel
theorem dX10_undo_11 : decode cX10_undo 11 = .ok (.aload_n 0, 1) := by decide +kernel
theorem dX10_undo_12 : decode cX10_undo 12 = .ok (.getfield 7, 3) := by decide +kernel
theorem dX10_undo_15 : decode cX10_undo 15 = .ok (.iconst 1, 1) := by decide +kernel
theorem dX10_undo_16 : decode cX10_undo 16 = .ok (.dup2, 1) := by decide +kernel
theorem dX10_undo_17 : decode cX10_undo 17 = .ok (.iaload, 1) := by decide +kernel
theorem dX10_undo_18 : decode cX10_undo 18 = .ok (.iconst 1, 1) := by decide +kernel
theorem dX10_undo_19 : decode cX10_undo 19 = .ok (.isub, 1) := by decide +kernel
theorem dX10_undo_20 : decode cX10_undo 20 = .ok (.iastore, 1) := by decide +kernel
theorem dX10_undo_21 : decode cX10_undo 21 = .ok (.aload_n 0, 1) := by decide +kernel
theorem dX10_undo_22 : decode cX10_undo 22 = .ok (.getfield 7, 3) := by decide +kernel
theorem dX10_undo_25 : decode cX10_undo 25 = .ok (.iconst 2, 1) := by decide +kernel
theorem dX10_undo_26 : decode cX10_undo 26 = .ok (.iaload, 1) := by decide +kernel
theorem dX10_undo_27 : decode cX10_undo 27 = .ok (.aload_n 0, 1) := by decide +kernel
theorem dX10_undo_28 : decode cX10_undo 28 = .ok (.getfield 7, 3) := by decide +kernel
theorem dX10_undo_31 : decode cX10_undo 31 = .ok (.iconst 1, 1) := by decide +kernel
theorem dX10_undo_32 : decode cX10_undo 32 = .ok (.iaload, 1) := by decide +kernel
theorem dX10_undo_33 : decode cX10_undo 33 = .ok (.invokestatic 208, 3) := by decide +kernel
theorem dX10_undo_36 : decode cX10_undo 36 = .ok (.istore_n 1, 1) := by decide +kernel
theorem dX10_undo_37 : decode cX10_undo 37 = .ok (.iconst 0, 1) := by decide +kernel
theorem dX10_undo_38 : decode cX10_undo 38 = .ok (.istore_n 2, 1) := by decide +kernel
theorem dX10_undo_39 : decode cX10_undo 39 = .ok (.iload_n 2, 1) := by decide +kernel
theorem dX10_undo_40 : decode cX10_undo 40 = .ok (.sipush 430, 3) := by decide +kernel
theorem dX10_undo_43 : decode cX10_undo 43 = .ok (.if_icmp .ge 25, 3) := by decide +kernel
theorem dX10_undo_46 : decode cX10_undo 46 = .ok (.aload_n 0, 1) := by decide +kernel
theorem dX10_undo_47 : decode cX10_undo 47 = .ok (.getfield 7, 3) := by decide +kernel
theorem dX10_undo_50 : decode cX10_undo 50 = .ok (.iconst 3, 1) := by decide +kernel
theorem dX10_undo_51 : decode cX10_undo 51 = .ok (.iload_n 2, 1) := by decide +kernel
theorem dX10_undo_52 : decode cX10_undo 52 = .ok (.iadd, 1) := by decide +kernel
theorem dX10_undo_53 : decode cX10_undo 53 = .ok (.aload_n 0, 1) := by decide +kernel
theorem dX10_undo_54 : decode cX10_undo 54 = .ok (.getfield 7, 3) := by decide +kernel
theorem dX10_undo_57 : decode cX10_undo 57 = .ok (.iload_n 1, 1) := by decide +kernel
theorem dX10_undo_58 : decode cX10_undo 58 = .ok (.iload_n 2, 1) := by decide +kernel
theorem dX10_undo_59 : decode cX10_undo 59 = .ok (.iadd, 1) := by decide +kernel
theorem dX10_undo_60 : decode cX10_undo 60 = .ok (.iaload, 1) := by decide +kernel
theorem dX10_undo_61 : decode cX10_undo 61 = .ok (.iastore, 1) := by decide +kernel
theorem dX10_undo_62 : decode cX10_undo 62 = .ok (.iinc 2 1, 3) := by decide +kernel
theorem dX10_undo_65 : decode cX10_undo 65 = .ok (.goto (-26), 3) := by decide +kernel
theorem dX10_undo_68 : decode cX10_undo 68 = .ok (.aload_n 0, 1) := by decide +kernel
theorem dX10_undo_69 : decode cX10_undo 69 = .ok (.getfield 7, 3) := by decide +kernel
theorem dX10_undo_72 : decode cX10_undo 72 = .ok (.iconst 1, 1) := by decide +kernel
theorem dX10_undo_73 : decode cX10_undo 73 = .ok (.iaload, 1) := by decide +kernel
theorem dX10_undo_74 : decode cX10_undo 74 = .ok (.ireturn, 1) := by decide +kernel
theorem dX10_come_0 : decode cX10_come 0 = .ok (.aload_n 0, 1) := by decide +kernel
theorem dX10_come_1 : decode cX10_come 1 = .ok (.getfield 7, 3) := by decide +kernel
theorem dX10_come_4 : decode cX10_come 4 = .ok (.bipush 13, 2) := by decide +kernel
theorem dX10_come_6 : decode cX10_come 6 = .ok (.iconst 0, 1) := by decide +kernel
theorem dX10_come_7 : decode cX10_come 7 = .ok (.iastore, 1) := by decide +kernel
theorem dX10_come_8 : decode cX10_come 8 = .ok (.aload_n 0, 1) := by decide +kernel
theorem dX10_come_9 : decode cX10_come 9 = .ok (.lconst 0, 1) := by decide +kernel
theorem dX10_come_10 : decode cX10_come 10 = .ok (.invokevirtual 211, 3) := by decide +kernel
theorem dX10_come_13 : decode cX10_come 13 = .ok (.iconst 0, 1) := by decide +kernel
theorem dX10_come_14 : decode cX10_come 14 = .ok (.istore_n 1, 1) := by decide +kernel
theorem dX10_come_15 : decode cX10_come 15 = .ok (.iload_n 1, 1) := by decide +kernel
theorem dX10_come_16 : decode cX10_come 16 = .ok (.bipush 48, 2) := by decide +kernel
theorem dX10_come_18 : decode cX10_come 18 = .ok (.if_icmp .ge 19, 3) := by decide +kernel
theorem dX10_come_21 : decode cX10_come 21 = .ok (.aload_n 0, 1) := by decide +kernel
theorem dX10_come_22 : decode cX10_come 22 = .ok (.getfield 7, 3) := by decide +kernel
theorem dX10_come_25 : decode cX10_come 25 = .ok (.bipush 48, 2) := by decide +kernel
theorem dX10_come_27 : decode cX10_come 27 = .ok (.iload_n 1, 1) := by decide +kernel
theorem dX10_come_28 : decode cX10_come 28 = .ok (.iadd, 1) := by decide +kernel
theorem dX10_come_29 : decode cX10_come 29 = .ok (.iconst 0, 1) := by decide +kernel
theorem dX10_come_30 : decode cX10_come 30 = .ok (.iastore, 1) := by decide +kernel
theorem dX10_come_31 : decode cX10_come 31 = .ok (.iinc 1 1, 3) := by decide +kernel
theorem dX10_come_34 : decode cX10_come 34 = .ok (.goto (-19), 3) := by decide +kernel
theorem dX10_come_37 : decode cX10_come 37 = .ok (.aload_n 0, 1) := by decide +kernel
theorem dX10_come_38 : decode cX10_come 38 = .ok (.iconst 0, 1) := by decide +kernel
theorem dX10_come_39 : decode cX10_come 39 = .ok (.invokevirtual 54, 3) := by decide +kernel
theorem dX10_come_42 : decode cX10_come 42 = .ok (.return_, 1) := by decide +kernel
theorem dX10_load_0 : decode cX10_load 0 = .ok (.iload_n 1, 1) := by decide +kernel
theorem dX10_load_1 : decode cX10_load 1 = .ok (.iconst 0, 1) := by decide +kernel
theorem dX10_load_2 : decode cX10_load 2 = .ok (.aload_n 0, 1) := by decide +kernel
theorem dX10_load_3 : decode cX10_load 3 = .ok (.getfield 7, 3) := by decide +kernel
theorem dX10_load_6 : decode cX10_load 6 = .ok (.iconst 0, 1) := by decide +kernel
theorem dX10_load_7 : decode cX10_load 7 = .ok (.iaload, 1) := by decide +kernel
theorem dX10_load_8 : decode cX10_load 8 = .ok (.iconst 1, 1) := by decide +kernel
theorem dX10_load_9 : decode cX10_load 9 = .ok (.isub, 1) := by decide +kernel
theorem dX10_load_10 : decode cX10_load 10 = .ok (.invokestatic 70, 3) := by decide +kernel
theorem dX10_load_13 : decode cX10_load 13 = .ok (.ifCond .ne 5, 3) := by decide +kernel
theorem dX10_load_16 : decode cX10_load 16 = .ok (.iconst (-1), 1) := by decide +kernel
theorem dX10_load_17 : decode cX10_load 17 = .ok (.ireturn, 1) := by decide +kernel
theorem dX10_load_18 : decode cX10_load 18 = .ok (.aload_n 0, 1) := by decide +kernel
theorem dX10_load_19 : decode cX10_load 19 = .ok (.invokevirtual 215, 3) := by decide +kernel
theorem dX10_load_22 : decode cX10_load 22 = .ok (.bipush 37, 2) := by decide +kernel
theorem dX10_load_24 : decode cX10_load 24 = .ok (.iload_n 1, 1) := by decide +kernel
theorem dX10_load_25 : decode cX10_load 25 = .ok (.imul, 1) := by decide +kernel
theorem dX10_load_26 : decode cX10_load 26 = .ok (.istore_n 2, 1) := by decide +kernel
theorem dX10_load_27 : decode cX10_load 27 = .ok (.iconst 0, 1) := by decide +kernel
theorem dX10_load_28 : decode cX10_load 28 = .ok (.istore_n 3, 1) := by decide +kernel
theorem dX10_load_29 : decode cX10_load 29 = .ok (.iload_n 3, 1) := by decide +kernel
theorem dX10_load_30 : decode cX10_load 30 = .ok (.iconst 5, 1) := by decide +kernel
theorem dX10_load_31 : decode cX10_load 31 = .ok (.if_icmp .ge 25, 3) := by decide +kernel
theorem dX10_load_34 : decode cX10_load 34 = .ok (.aload_n 0, 1) := by decide +kernel
theorem dX10_load_35 : decode cX10_load 35 = .ok (.getfield 7, 3) := by decide +kernel
theorem dX10_load_38 : decode cX10_load 38 = .ok (.iconst 3, 1) := by decide +kernel
theorem dX10_load_39 : decode cX10_load 39 = .ok (.iload_n 3, 1) := by decide +kernel
theorem dX10_load_40 : decode cX10_load 40 = .ok (.iadd, 1) := by decide +kernel
theorem dX10_load_41 : decode cX10_load 41 = .ok (.aload_n 0, 1) := by decide +kernel
theorem dX10_load_42 : decode cX10_load 42 = .ok (.getfield 16, 3) := by decide +kernel
theorem dX10_load_45 : decode cX10_load 45 = .ok (.iload_n 2, 1) := by decide +kernel
theorem dX10_load_46 : decode cX10_load 46 = .ok (.iload_n 3, 1) := by decide +kernel
theorem dX10_load_47 : decode cX10_load 47 = .ok (.iadd, 1) := by decide +kernel
theorem dX10_load_48 : decode cX10_load 48 = .ok (.iaload, 1) := by decide +kernel
theorem dX10_load_49 : decode cX10_load 49 = .ok (.iastore, 1) := by decide +kernel
theorem dX10_load_50 : decode cX10_load 50 = .ok (.iinc 3 1, 3) := by decide +kernel
theorem dX10_load_53 : decode cX10_load 53 = .ok (.goto (-24), 3) := by decide +kernel
theorem dX10_load_56 : decode cX10_load 56 = .ok (.iconst 0, 1) := by decide +kernel
theorem dX10_load_57 : decode cX10_load 57 = .ok (.istore_n 3, 1) := by decide +kernel
theorem dX10_load_58 : decode cX10_load 58 = .ok (.iload_n 3, 1) := by decide +kernel
theorem dX10_load_59 : decode cX10_load 59 = .ok (.bipush 32, 2) := by decide +kernel
theorem dX10_load_61 : decode cX10_load 61 = .ok (.if_icmp .ge 28, 3) := by decide +kernel
theorem dX10_load_64 : decode cX10_load 64 = .ok (.aload_n 0, 1) := by decide +kernel
theorem dX10_load_65 : decode cX10_load 65 = .ok (.getfield 7, 3) := by decide +kernel
theorem dX10_load_68 : decode cX10_load 68 = .ok (.bipush 14, 2) := by decide +kernel
theorem dX10_load_70 : decode cX10_load 70 = .ok (.iload_n 3, 1) := by decide +kernel
theorem dX10_load_71 : decode cX10_load 71 = .ok (.iadd, 1) := by decide +kernel
theorem dX10_load_72 : decode cX10_load 72 = .ok (.aload_n 0, 1) := by decide +kernel
theorem dX10_load_73 : decode cX10_load 73 = .ok (.getfield 16, 3) := by decide +kernel
theorem dX10_load_76 : decode cX10_load 76 = .ok (.iload_n 2, 1) := by decide +kernel
theorem dX10_load_77 : decode cX10_load 77 = .ok (.iconst 5, 1) := by decide +kernel
theorem dX10_load_78 : decode cX10_load 78 = .ok (.iadd, 1) := by decide +kernel
theorem dX10_load_79 : decode cX10_load 79 = .ok (.iload_n 3, 1) := by decide +kernel
theorem dX10_load_80 : decode cX10_load 80 = .ok (.iadd, 1) := by decide +kernel
theorem dX10_load_81 : decode cX10_load 81 = .ok (.iaload, 1) := by decide +kernel
theorem dX10_load_82 : decode cX10_load 82 = .ok (.iastore, 1) := by decide +kernel
theorem dX10_load_83 : decode cX10_load 83 = .ok (.iinc 3 1, 3) := by decide +kernel
theorem dX10_load_86 : decode cX10_load 86 = .ok (.goto (-28), 3) := by decide +kernel
theorem dX10_load_89 : decode cX10_load 89 = .ok (.aload_n 0, 1) := by decide +kernel
theorem dX10_load_90 : decode cX10_load 90 = .ok (.invokevirtual 218, 3) := by decide +kernel
theorem dX10_load_93 : decode cX10_load 93 = .ok (.aload_n 0, 1) := by decide +kernel
theorem dX10_load_94 : decode cX10_load 94 = .ok (.invokevirtual 66, 3) := by decide +kernel
theorem dX10_load_97 : decode cX10_load 97 = .ok (.ireturn, 1) := by decide +kernel
theorem dX10_moreAt_0 : decode cX10_moreAt 0 = .ok (.bipush 14, 2) := by decide +kernel
theorem dX10_moreAt_2 : decode cX10_moreAt 2 = .ok (.bipush 8, 2) := by decide +kernel
theorem dX10_moreAt_4 : decode cX10_moreAt 4 = .ok (.iload_n 1, 1) := by decide +kernel
theorem dX10_moreAt_5 : decode cX10_moreAt 5 = .ok (.imul, 1) := by decide +kernel
theorem dX10_moreAt_6 : decode cX10_moreAt 6 = .ok (.iadd, 1) := by decide +kernel
theorem dX10_moreAt_7 : decode cX10_moreAt 7 = .ok (.iload_n 2, 1) := by decide +kernel
theorem dX10_moreAt_8 : decode cX10_moreAt 8 = .ok (.iadd, 1) := by decide +kernel
theorem dX10_moreAt_9 : decode cX10_moreAt 9 = .ok (.istore 4, 2) := by decide +kernel
theorem dX10_moreAt_11 : decode cX10_moreAt 11 = .ok (.aload_n 0, 1) := by decide +kernel
theorem dX10_moreAt_12 : decode cX10_moreAt 12 = .ok (.getfield 7, 3) := by decide +kernel
theorem dX10_moreAt_15 : decode cX10_moreAt 15 = .ok (.iload 4, 2) := by decide +kernel
theorem dX10_moreAt_17 : decode cX10_moreAt 17 = .ok (.iaload, 1) := by decide +kernel
theorem dX10_moreAt_18 : decode cX10_moreAt 18 = .ok (.iconst (-1), 1) := by decide +kernel
theorem dX10_moreAt_19 : decode cX10_moreAt 19 = .ok (.if_icmp .eq 26, 3) := by decide +kernel
theorem dX10_moreAt_22 : decode cX10_moreAt 22 = .ok (.aload_n 0, 1) := by decide +kernel
theorem dX10_moreAt_23 : decode cX10_moreAt 23 = .ok (.getfield 7, 3) := by decide +kernel
theorem dX10_moreAt_26 : decode cX10_moreAt 26 = .ok (.iload 4, 2) := by decide +kernel
theorem dX10_moreAt_28 : decode cX10_moreAt 28 = .ok (.aload_n 0, 1) := by decide +kernel
theorem dX10_moreAt_29 : decode cX10_moreAt 29 = .ok (.getfield 7, 3) := by decide +kernel
theorem dX10_moreAt_32 : decode cX10_moreAt 32 = .ok (.iload 4, 2) := by decide +kernel
theorem dX10_moreAt_34 : decode cX10_moreAt 34 = .ok (.iaload, 1) := by decide +kernel
theorem dX10_moreAt_35 : decode cX10_moreAt 35 = .ok (.iload_n 3, 1) := by decide +kernel
theorem dX10_moreAt_36 : decode cX10_moreAt 36 = .ok (.iadd, 1) := by decide +kernel
theorem dX10_moreAt_37 : decode cX10_moreAt 37 = .ok (.aload_n 0, 1) := by decide +kernel
theorem dX10_moreAt_38 : decode cX10_moreAt 38 = .ok (.getfield 7, 3) := by decide +kernel
theorem dX10_moreAt_41 : decode cX10_moreAt 41 = .ok (.iconst 3, 1) := by decide +kernel
theorem dX10_moreAt_42 : decode cX10_moreAt 42 = .ok (.iaload, 1) := by decide +kernel
theorem dX10_moreAt_43 : decode cX10_moreAt 43 = .ok (.irem, 1) := by decide +kernel
theorem dX10_moreAt_44 : decode cX10_moreAt 44 = .ok (.iastore, 1) := by decide +kernel
theorem dX10_moreAt_45 : decode cX10_moreAt 45 = .ok (.return_, 1) := by decide +kernel
theorem dX10_raise_0 : decode cX10_raise 0 = .ok (.iload_n 1, 1) := by decide +kernel
theorem dX10_raise_1 : decode cX10_raise 1 = .ok (.iconst 0, 1) := by decide +kernel
theorem dX10_raise_2 : decode cX10_raise 2 = .ok (.aload_n 0, 1) := by decide +kernel
theorem dX10_raise_3 : decode cX10_raise 3 = .ok (.getfield 7, 3) := by decide +kernel
theorem dX10_raise_6 : decode cX10_raise 6 = .ok (.iconst 5, 1) := by decide +kernel
theorem dX10_raise_7 : decode cX10_raise 7 = .ok (.iaload, 1) := by decide +kernel
theorem dX10_raise_8 : decode cX10_raise 8 = .ok (.iconst 1, 1) := by decide +kernel
theorem dX10_raise_9 : decode cX10_raise 9 = .ok (.isub, 1) := by decide +kernel
theorem dX10_raise_10 : decode cX10_raise 10 = .ok (.invokestatic 70, 3) := by decide +kernel
theorem dX10_raise_13 : decode cX10_raise 13 = .ok (.ifCond .eq 12, 3) := by decide +kernel
theorem dX10_raise_16 : decode cX10_raise 16 = .ok (.iload_n 2, 1) := by decide +kernel
theorem dX10_raise_17 : decode cX10_raise 17 = .ok (.iconst 1, 1) := by decide +kernel
theorem dX10_raise_18 : decode cX10_raise 18 = .ok (.iconst 5, 1) := by decide +kernel
theorem dX10_raise_19 : decode cX10_raise 19 = .ok (.invokestatic 70, 3) := by decide +kernel
theorem dX10_raise_22 : decode cX10_raise 22 = .ok (.ifCond .ne 5, 3) := by decide +kernel
theorem dX10_raise_25 : decode cX10_raise 25 = .ok (.iconst 0, 1) := by decide +kernel
theorem dX10_raise_26 : decode cX10_raise 26 = .ok (.ireturn, 1) := by decide +kernel
theorem dX10_raise_27 : decode cX10_raise 27 = .ok (.aload_n 0, 1) := by decide +kernel
theorem dX10_raise_28 : decode cX10_raise 28 = .ok (.invokevirtual 215, 3) := by decide +kernel
theorem dX10_raise_31 : decode cX10_raise 31 = .ok (.iconst 0, 1) := by decide +kernel
theorem dX10_raise_32 : decode cX10_raise 32 = .ok (.istore_n 3, 1) := by decide +kernel
theorem dX10_raise_33 : decode cX10_raise 33 = .ok (.iload_n 3, 1) := by decide +kernel
theorem dX10_raise_34 : decode cX10_raise 34 = .ok (.aload_n 0, 1) := by decide +kernel
theorem dX10_raise_35 : decode cX10_raise 35 = .ok (.getfield 7, 3) := by decide +kernel
theorem dX10_raise_38 : decode cX10_raise 38 = .ok (.iconst 4, 1) := by decide +kernel
theorem dX10_raise_39 : decode cX10_raise 39 = .ok (.iaload, 1) := by decide +kernel
theorem dX10_raise_40 : decode cX10_raise 40 = .ok (.if_icmp .ge 16, 3) := by decide +kernel
theorem dX10_raise_43 : decode cX10_raise 43 = .ok (.aload_n 0, 1) := by decide +kernel
theorem dX10_raise_44 : decode cX10_raise 44 = .ok (.iload_n 3, 1) := by decide +kernel
theorem dX10_raise_45 : decode cX10_raise 45 = .ok (.iload_n 1, 1) := by decide +kernel
theorem dX10_raise_46 : decode cX10_raise 46 = .ok (.iload_n 2, 1) := by decide +kernel
theorem dX10_raise_47 : decode cX10_raise 47 = .ok (.invokevirtual 221, 3) := by decide +kernel
theorem dX10_raise_50 : decode cX10_raise 50 = .ok (.iinc 3 1, 3) := by decide +kernel
theorem dX10_raise_53 : decode cX10_raise 53 = .ok (.goto (-20), 3) := by decide +kernel
theorem dX10_raise_56 : decode cX10_raise 56 = .ok (.aload_n 0, 1) := by decide +kernel
theorem dX10_raise_57 : decode cX10_raise 57 = .ok (.invokevirtual 218, 3) := by decide +kernel
theorem dX10_raise_60 : decode cX10_raise 60 = .ok (.iconst 1, 1) := by decide +kernel
theorem dX10_raise_61 : decode cX10_raise 61 = .ok (.ireturn, 1) := by decide +kernel
theorem dX10_slide_0 : decode cX10_slide 0 = .ok (.iload_n 1, 1) := by decide +kernel
theorem dX10_slide_1 : decode cX10_slide 1 = .ok (.iconst 0, 1) := by decide +kernel
theorem dX10_slide_2 : decode cX10_slide 2 = .ok (.aload_n 0, 1) := by decide +kernel
theorem dX10_slide_3 : decode cX10_slide 3 = .ok (.getfield 7, 3) := by decide +kernel
theorem dX10_slide_6 : decode cX10_slide 6 = .ok (.iconst 4, 1) := by decide +kernel
theorem dX10_slide_7 : decode cX10_slide 7 = .ok (.iaload, 1) := by decide +kernel
theorem dX10_slide_8 : decode cX10_slide 8 = .ok (.iconst 1, 1) := by decide +kernel
theorem dX10_slide_9 : decode cX10_slide 9 = .ok (.isub, 1) := by decide +kernel
theorem dX10_slide_10 : decode cX10_slide 10 = .ok (.invokestatic 70, 3) := by decide +kernel
theorem dX10_slide_13 : decode cX10_slide 13 = .ok (.ifCond .eq 12, 3) := by decide +kernel
theorem dX10_slide_16 : decode cX10_slide 16 = .ok (.iload_n 2, 1) := by decide +kernel
theorem dX10_slide_17 : decode cX10_slide 17 = .ok (.iconst 1, 1) := by decide +kernel
theorem dX10_slide_18 : decode cX10_slide 18 = .ok (.iconst 5, 1) := by decide +kernel
theorem dX10_slide_19 : decode cX10_slide 19 = .ok (.invokestatic 70, 3) := by decide +kernel
theorem dX10_slide_22 : decode cX10_slide 22 = .ok (.ifCond .ne 5, 3) := by decide +kernel
theorem dX10_slide_25 : decode cX10_slide 25 = .ok (.iconst 0, 1) := by decide +kernel
theorem dX10_slide_26 : decode cX10_slide 26 = .ok (.ireturn, 1) := by decide +kernel
theorem dX10_slide_27 : decode cX10_slide 27 = .ok (.aload_n 0, 1) := by decide +kernel
theorem dX10_slide_28 : decode cX10_slide 28 = .ok (.invokevirtual 215, 3) := by decide +kernel
theorem dX10_slide_31 : decode cX10_slide 31 = .ok (.iconst 0, 1) := by decide +kernel
theorem dX10_slide_32 : decode cX10_slide 32 = .ok (.istore_n 3, 1) := by decide +kernel
theorem dX10_slide_33 : decode cX10_slide 33 = .ok (.iload_n 3, 1) := by decide +kernel
theorem dX10_slide_34 : decode cX10_slide 34 = .ok (.aload_n 0, 1) := by decide +kernel
theorem dX10_slide_35 : decode cX10_slide 35 = .ok (.getfield 7, 3) := by decide +kernel
theorem dX10_slide_38 : decode cX10_slide 38 = .ok (.iconst 5, 1) := by decide +kernel
theorem dX10_slide_39 : decode cX10_slide 39 = .ok (.iaload, 1) := by decide +kernel
theorem dX10_slide_40 : decode cX10_slide 40 = .ok (.if_icmp .ge 16, 3) := by decide +kernel
theorem dX10_slide_43 : decode cX10_slide 43 = .ok (.aload_n 0, 1) := by decide +kernel
theorem dX10_slide_44 : decode cX10_slide 44 = .ok (.iload_n 1, 1) := by decide +kernel
theorem dX10_slide_45 : decode cX10_slide 45 = .ok (.iload_n 3, 1) := by decide +kernel
theorem dX10_slide_46 : decode cX10_slide 46 = .ok (.iload_n 2, 1) := by decide +kernel
theorem dX10_slide_47 : decode cX10_slide 47 = .ok (.invokevirtual 221, 3) := by decide +kernel
theorem dX10_slide_50 : decode cX10_slide 50 = .ok (.iinc 3 1, 3) := by decide +kernel
theorem dX10_slide_53 : decode cX10_slide 53 = .ok (.goto (-20), 3) := by decide +kernel
theorem dX10_slide_56 : decode cX10_slide 56 = .ok (.aload_n 0, 1) := by decide +kernel
theorem dX10_slide_57 : decode cX10_slide 57 = .ok (.invokevirtual 218, 3) := by decide +kernel
theorem dX10_slide_60 : decode cX10_slide 60 = .ok (.iconst 1, 1) := by decide +kernel
theorem dX10_slide_61 : decode cX10_slide 61 = .ok (.ireturn, 1) := by decide +kernel
theorem dX10_wordBy_0 : decode cX10_wordBy 0 = .ok (.lconst 0, 1) := by decide +kernel
theorem dX10_wordBy_1 : decode cX10_wordBy 1 = .ok (.lstore_n 3, 1) := by decide +kernel
theorem dX10_wordBy_2 : decode cX10_wordBy 2 = .ok (.iconst 0, 1) := by decide +kernel
theorem dX10_wordBy_3 : decode cX10_wordBy 3 = .ok (.istore 5, 2) := by decide +kernel
theorem dX10_wordBy_5 : decode cX10_wordBy 5 = .ok (.iconst 0, 1) := by decide +kernel
theorem dX10_wordBy_6 : decode cX10_wordBy 6 = .ok (.istore 6, 2) := by decide +kernel
theorem dX10_wordBy_8 : decode cX10_wordBy 8 = .ok (.iload 6, 2) := by decide +kernel
theorem dX10_wordBy_10 : decode cX10_wordBy 10 = .ok (.aload_n 0, 1) := by decide +kernel
theorem dX10_wordBy_11 : decode cX10_wordBy 11 = .ok (.invokevirtual 66, 3) := by decide +kernel
theorem dX10_wordBy_14 : decode cX10_wordBy 14 = .ok (.if_icmp .ge 43, 3) := by decide +kernel
theorem dX10_wordBy_17 : decode cX10_wordBy 17 = .ok (.aload_n 0, 1) := by decide +kernel
theorem dX10_wordBy_18 : decode cX10_wordBy 18 = .ok (.getfield 201, 3) := by decide +kernel
theorem dX10_wordBy_21 : decode cX10_wordBy 21 = .ok (.iload 6, 2) := by decide +kernel
theorem dX10_wordBy_23 : decode cX10_wordBy 23 = .ok (.invokestatic 62, 3) := by decide +kernel
theorem dX10_wordBy_26 : decode cX10_wordBy 26 = .ok (.ifCond .eq 6, 3) := by decide +kernel
theorem dX10_wordBy_29 : decode cX10_wordBy 29 = .ok (.goto 22, 3) := by decide +kernel
theorem dX10_wordBy_32 : decode cX10_wordBy 32 = .ok (.lload_n 1, 1) := by decide +kernel
theorem dX10_wordBy_33 : decode cX10_wordBy 33 = .ok (.iload 5, 2) := by decide +kernel
theorem dX10_wordBy_35 : decode cX10_wordBy 35 = .ok (.invokestatic 62, 3) := by decide +kernel
theorem dX10_wordBy_38 : decode cX10_wordBy 38 = .ok (.ifCond .eq 10, 3) := by decide +kernel
theorem dX10_wordBy_41 : decode cX10_wordBy 41 = .ok (.lload_n 3, 1) := by decide +kernel
theorem dX10_wordBy_42 : decode cX10_wordBy 42 = .ok (.lconst 1, 1) := by decide +kernel
theorem dX10_wordBy_43 : decode cX10_wordBy 43 = .ok (.iload 6, 2) := by decide +kernel
theorem dX10_wordBy_45 : decode cX10_wordBy 45 = .ok (.lshl, 1) := by decide +kernel
theorem dX10_wordBy_46 : decode cX10_wordBy 46 = .ok (.lor, 1) := by decide +kernel
theorem dX10_wordBy_47 : decode cX10_wordBy 47 = .ok (.lstore_n 3, 1) := by decide +kernel
theorem dX10_wordBy_48 : decode cX10_wordBy 48 = .ok (.iinc 5 1, 3) := by decide +kernel
theorem dX10_wordBy_51 : decode cX10_wordBy 51 = .ok (.iinc 6 1, 3) := by decide +kernel
theorem dX10_wordBy_54 : decode cX10_wordBy 54 = .ok (.goto (-46), 3) := by decide +kernel
theorem dX10_wordBy_57 : decode cX10_wordBy 57 = .ok (.aload_n 0, 1) := by decide +kernel
theorem dX10_wordBy_58 : decode cX10_wordBy 58 = .ok (.getfield 205, 3) := by decide +kernel
theorem dX10_wordBy_61 : decode cX10_wordBy 61 = .ok (.iconst 1, 1) := by decide +kernel
theorem dX10_wordBy_62 : decode cX10_wordBy 62 = .ok (.isub, 1) := by decide +kernel
theorem dX10_wordBy_63 : decode cX10_wordBy 63 = .ok (.istore 6, 2) := by decide +kernel
theorem dX10_wordBy_65 : decode cX10_wordBy 65 = .ok (.iload 6, 2) := by decide +kernel
theorem dX10_wordBy_67 : decode cX10_wordBy 67 = .ok (.ifCond .lt 42, 3) := by decide +kernel
theorem dX10_wordBy_70 : decode cX10_wordBy 70 = .ok (.aload_n 0, 1) := by decide +kernel
theorem dX10_wordBy_71 : decode cX10_wordBy 71 = .ok (.getfield 32, 3) := by decide +kernel
theorem dX10_wordBy_74 : decode cX10_wordBy 74 = .ok (.iload 6, 2) := by decide +kernel
theorem dX10_wordBy_76 : decode cX10_wordBy 76 = .ok (.laload, 1) := by decide +kernel
theorem dX10_wordBy_77 : decode cX10_wordBy 77 = .ok (.lload_n 3, 1) := by decide +kernel
theorem dX10_wordBy_78 : decode cX10_wordBy 78 = .ok (.land, 1) := by decide +kernel
theorem dX10_wordBy_79 : decode cX10_wordBy 79 = .ok (.invokestatic 87, 3) := by decide +kernel
theorem dX10_wordBy_82 : decode cX10_wordBy 82 = .ok (.iconst 2, 1) := by decide +kernel
theorem dX10_wordBy_83 : decode cX10_wordBy 83 = .ok (.irem, 1) := by decide +kernel
theorem dX10_wordBy_84 : decode cX10_wordBy 84 = .ok (.iconst 1, 1) := by decide +kernel
theorem dX10_wordBy_85 : decode cX10_wordBy 85 = .ok (.if_icmp .ne 18, 3) := by decide +kernel
theorem dX10_wordBy_88 : decode cX10_wordBy 88 = .ok (.lload_n 3, 1) := by decide +kernel
theorem dX10_wordBy_89 : decode cX10_wordBy 89 = .ok (.lconst 1, 1) := by decide +kernel
theorem dX10_wordBy_90 : decode cX10_wordBy 90 = .ok (.aload_n 0, 1) := by decide +kernel
theorem dX10_wordBy_91 : decode cX10_wordBy 91 = .ok (.getfield 32, 3) := by decide +kernel
theorem dX10_wordBy_94 : decode cX10_wordBy 94 = .ok (.iload 6, 2) := by decide +kernel
theorem dX10_wordBy_96 : decode cX10_wordBy 96 = .ok (.laload, 1) := by decide +kernel
theorem dX10_wordBy_97 : decode cX10_wordBy 97 = .ok (.invokestatic 224, 3) := by decide +kernel
theorem dX10_wordBy_100 : decode cX10_wordBy 100 = .ok (.lshl, 1) := by decide +kernel
theorem dX10_wordBy_101 : decode cX10_wordBy 101 = .ok (.lor, 1) := by decide +kernel
theorem dX10_wordBy_102 : decode cX10_wordBy 102 = .ok (.lstore_n 3, 1) := by decide +kernel
theorem dX10_wordBy_103 : decode cX10_wordBy 103 = .ok (.iinc 6 (-1), 3) := by decide +kernel
theorem dX10_wordBy_106 : decode cX10_wordBy 106 = .ok (.goto (-41), 3) := by decide +kernel
theorem dX10_wordBy_109 : decode cX10_wordBy 109 = .ok (.lload_n 3, 1) := by decide +kernel
theorem dX10_wordBy_110 : decode cX10_wordBy 110 = .ok (.lreturn, 1) := by decide +kernel
theorem dX10_encode_0 : decode cX10_encode 0 = .ok (.aload_n 0, 1) := by decide +kernel
theorem dX10_encode_1 : decode cX10_encode 1 = .ok (.invokevirtual 227, 3) := by decide +kernel
theorem dX10_encode_4 : decode cX10_encode 4 = .ok (.lload_n 1, 1) := by decide +kernel
theorem dX10_encode_5 : decode cX10_encode 5 = .ok (.lconst 0, 1) := by decide +kernel
theorem dX10_encode_6 : decode cX10_encode 6 = .ok (.lcmp, 1) := by decide +kernel
theorem dX10_encode_7 : decode cX10_encode 7 = .ok (.ifCond .lt 19, 3) := by decide +kernel
theorem dX10_encode_10 : decode cX10_encode 10 = .ok (.lload_n 1, 1) := by decide +kernel
theorem dX10_encode_11 : decode cX10_encode 11 = .ok (.aload_n 0, 1) := by decide +kernel
theorem dX10_encode_12 : decode cX10_encode 12 = .ok (.invokevirtual 66, 3) := by decide +kernel
theorem dX10_encode_15 : decode cX10_encode 15 = .ok (.aload_n 0, 1) := by decide +kernel
theorem dX10_encode_16 : decode cX10_encode 16 = .ok (.getfield 205, 3) := by decide +kernel
theorem dX10_encode_19 : decode cX10_encode 19 = .ok (.isub, 1) := by decide +kernel
theorem dX10_encode_20 : decode cX10_encode 20 = .ok (.lshr, 1) := by decide +kernel
theorem dX10_encode_21 : decode cX10_encode 21 = .ok (.lconst 0, 1) := by decide +kernel
theorem dX10_encode_22 : decode cX10_encode 22 = .ok (.lcmp, 1) := by decide +kernel
theorem dX10_encode_23 : decode cX10_encode 23 = .ok (.ifCond .eq 5, 3) := by decide +kernel
theorem dX10_encode_26 : decode cX10_encode 26 = .ok (.iconst (-1), 1) := by decide +kernel
theorem dX10_encode_27 : decode cX10_encode 27 = .ok (.ireturn, 1) := by decide +kernel
theorem dX10_encode_28 : decode cX10_encode 28 = .ok (.aload_n 0, 1) := by decide +kernel
theorem dX10_encode_29 : decode cX10_encode 29 = .ok (.invokevirtual 215, 3) := by decide +kernel
theorem dX10_encode_32 : decode cX10_encode 32 = .ok (.aload_n 0, 1) := by decide +kernel
theorem dX10_encode_33 : decode cX10_encode 33 = .ok (.aload_n 0, 1) := by decide +kernel
theorem dX10_encode_34 : decode cX10_encode 34 = .ok (.lload_n 1, 1) := by decide +kernel
theorem dX10_encode_35 : decode cX10_encode 35 = .ok (.invokevirtual 230, 3) := by decide +kernel
theorem dX10_encode_38 : decode cX10_encode 38 = .ok (.invokevirtual 211, 3) := by decide +kernel
theorem dX10_encode_41 : decode cX10_encode 41 = .ok (.aload_n 0, 1) := by decide +kernel
theorem dX10_encode_42 : decode cX10_encode 42 = .ok (.invokevirtual 234, 3) := by decide +kernel
theorem dX10_encode_45 : decode cX10_encode 45 = .ok (.invokestatic 87, 3) := by decide +kernel
theorem dX10_encode_48 : decode cX10_encode 48 = .ok (.ireturn, 1) := by decide +kernel
theorem dX10_hear_0 : decode cX10_hear 0 = .ok (.aload_n 0, 1) := by decide +kernel
theorem dX10_hear_1 : decode cX10_hear 1 = .ok (.iload_n 1, 1) := by decide +kernel
theorem dX10_hear_2 : decode cX10_hear 2 = .ok (.invokevirtual 237, 3) := by decide +kernel
theorem dX10_hear_5 : decode cX10_hear 5 = .ok (.ifCond .eq 14, 3) := by decide +kernel
theorem dX10_hear_8 : decode cX10_hear 8 = .ok (.iload_n 2, 1) := by decide +kernel
theorem dX10_hear_9 : decode cX10_hear 9 = .ok (.bipush (-31), 2) := by decide +kernel
theorem dX10_hear_11 : decode cX10_hear 11 = .ok (.bipush 31, 2) := by decide +kernel
theorem dX10_hear_13 : decode cX10_hear 13 = .ok (.invokestatic 70, 3) := by decide +kernel
theorem dX10_hear_16 : decode cX10_hear 16 = .ok (.ifCond .ne 5, 3) := by decide +kernel
theorem dX10_hear_19 : decode cX10_hear 19 = .ok (.iconst 0, 1) := by decide +kernel
theorem dX10_hear_20 : decode cX10_hear 20 = .ok (.ireturn, 1) := by decide +kernel
theorem dX10_hear_21 : decode cX10_hear 21 = .ok (.aload_n 0, 1) := by decide +kernel
theorem dX10_hear_22 : decode cX10_hear 22 = .ok (.invokevirtual 215, 3) := by decide +kernel
theorem dX10_hear_25 : decode cX10_hear 25 = .ok (.aload_n 0, 1) := by decide +kernel
theorem dX10_hear_26 : decode cX10_hear 26 = .ok (.getfield 7, 3) := by decide +kernel
theorem dX10_hear_29 : decode cX10_hear 29 = .ok (.bipush 48, 2) := by decide +kernel
theorem dX10_hear_31 : decode cX10_hear 31 = .ok (.iload_n 1, 1) := by decide +kernel
theorem dX10_hear_32 : decode cX10_hear 32 = .ok (.iadd, 1) := by decide +kernel
theorem dX10_hear_33 : decode cX10_hear 33 = .ok (.iload_n 2, 1) := by decide +kernel
theorem dX10_hear_34 : decode cX10_hear 34 = .ok (.iastore, 1) := by decide +kernel
theorem dX10_hear_35 : decode cX10_hear 35 = .ok (.iconst 1, 1) := by decide +kernel
theorem dX10_hear_36 : decode cX10_hear 36 = .ok (.ireturn, 1) := by decide +kernel
theorem dX10_sendNow_0 : decode cX10_sendNow 0 = .ok (.iconst 0, 1) := by decide +kernel
theorem dX10_sendNow_1 : decode cX10_sendNow 1 = .ok (.istore_n 3, 1) := by decide +kernel
theorem dX10_sendNow_2 : decode cX10_sendNow 2 = .ok (.aload_n 0, 1) := by decide +kernel
theorem dX10_sendNow_3 : decode cX10_sendNow 3 = .ok (.invokevirtual 234, 3) := by decide +kernel
theorem dX10_sendNow_6 : decode cX10_sendNow 6 = .ok (.lstore 4, 2) := by decide +kernel
theorem dX10_sendNow_8 : decode cX10_sendNow 8 = .ok (.iconst 0, 1) := by decide +kernel
theorem dX10_sendNow_9 : decode cX10_sendNow 9 = .ok (.istore 6, 2) := by decide +kernel
theorem dX10_sendNow_11 : decode cX10_sendNow 11 = .ok (.iload 6, 2) := by decide +kernel
theorem dX10_sendNow_13 : decode cX10_sendNow 13 = .ok (.aload_n 0, 1) := by decide +kernel
theorem dX10_sendNow_14 : decode cX10_sendNow 14 = .ok (.invokevirtual 66, 3) := by decide +kernel
theorem dX10_sendNow_17 : decode cX10_sendNow 17 = .ok (.if_icmp .ge 97, 3) := by decide +kernel
theorem dX10_sendNow_20 : decode cX10_sendNow 20 = .ok (.aload_n 0, 1) := by decide +kernel
theorem dX10_sendNow_21 : decode cX10_sendNow 21 = .ok (.getfield 7, 3) := by decide +kernel
theorem dX10_sendNow_24 : decode cX10_sendNow 24 = .ok (.bipush 12, 2) := by decide +kernel
theorem dX10_sendNow_26 : decode cX10_sendNow 26 = .ok (.aload_n 0, 1) := by decide +kernel
theorem dX10_sendNow_27 : decode cX10_sendNow 27 = .ok (.getfield 7, 3) := by decide +kernel
theorem dX10_sendNow_30 : decode cX10_sendNow 30 = .ok (.bipush 12, 2) := by decide +kernel
theorem dX10_sendNow_32 : decode cX10_sendNow 32 = .ok (.iaload, 1) := by decide +kernel
theorem dX10_sendNow_33 : decode cX10_sendNow 33 = .ok (.sipush 839, 3) := by decide +kernel
theorem dX10_sendNow_36 : decode cX10_sendNow 36 = .ok (.imul, 1) := by decide +kernel
theorem dX10_sendNow_37 : decode cX10_sendNow 37 = .ok (.sipush 577, 3) := by decide +kernel
theorem dX10_sendNow_40 : decode cX10_sendNow 40 = .ok (.iadd, 1) := by decide +kernel
theorem dX10_sendNow_41 : decode cX10_sendNow 41 = .ok (.sipush 30071, 3) := by decide +kernel
theorem dX10_sendNow_44 : decode cX10_sendNow 44 = .ok (.irem, 1) := by decide +kernel
theorem dX10_sendNow_45 : decode cX10_sendNow 45 = .ok (.iastore, 1) := by decide +kernel
theorem dX10_sendNow_46 : decode cX10_sendNow 46 = .ok (.aload_n 0, 1) := by decide +kernel
theorem dX10_sendNow_47 : decode cX10_sendNow 47 = .ok (.getfield 7, 3) := by decide +kernel
theorem dX10_sendNow_50 : decode cX10_sendNow 50 = .ok (.bipush 12, 2) := by decide +kernel
theorem dX10_sendNow_52 : decode cX10_sendNow 52 = .ok (.iaload, 1) := by decide +kernel
theorem dX10_sendNow_53 : decode cX10_sendNow 53 = .ok (.bipush 100, 2) := by decide +kernel
theorem dX10_sendNow_55 : decode cX10_sendNow 55 = .ok (.irem, 1) := by decide +kernel
theorem dX10_sendNow_56 : decode cX10_sendNow 56 = .ok (.iload_n 2, 1) := by decide +kernel
theorem dX10_sendNow_57 : decode cX10_sendNow 57 = .ok (.if_icmp .ge 7, 3) := by decide +kernel
theorem dX10_sendNow_60 : decode cX10_sendNow 60 = .ok (.iconst 1, 1) := by decide +kernel
theorem dX10_sendNow_61 : decode cX10_sendNow 61 = .ok (.goto 4, 3) := by decide +kernel
theorem dX10_sendNow_64 : decode cX10_sendNow 64 = .ok (.iconst 0, 1) := by decide +kernel
theorem dX10_sendNow_65 : decode cX10_sendNow 65 = .ok (.istore 7, 2) := by decide +kernel
theorem dX10_sendNow_67 : decode cX10_sendNow 67 = .ok (.iload_n 3, 1) := by decide +kernel
theorem dX10_sendNow_68 : decode cX10_sendNow 68 = .ok (.iload 7, 2) := by decide +kernel
theorem dX10_sendNow_70 : decode cX10_sendNow 70 = .ok (.ifCond .eq 7, 3) := by decide +kernel
theorem dX10_sendNow_73 : decode cX10_sendNow 73 = .ok (.iconst 1, 1) := by decide +kernel
theorem dX10_sendNow_74 : decode cX10_sendNow 74 = .ok (.goto 4, 3) := by decide +kernel
theorem dX10_sendNow_77 : decode cX10_sendNow 77 = .ok (.iconst 0, 1) := by decide +kernel
theorem dX10_sendNow_78 : decode cX10_sendNow 78 = .ok (.iadd, 1) := by decide +kernel
theorem dX10_sendNow_79 : decode cX10_sendNow 79 = .ok (.istore_n 3, 1) := by decide +kernel
theorem dX10_sendNow_80 : decode cX10_sendNow 80 = .ok (.aload_n 0, 1) := by decide +kernel
theorem dX10_sendNow_81 : decode cX10_sendNow 81 = .ok (.getfield 7, 3) := by decide +kernel
theorem dX10_sendNow_84 : decode cX10_sendNow 84 = .ok (.bipush 48, 2) := by decide +kernel
theorem dX10_sendNow_86 : decode cX10_sendNow 86 = .ok (.iload 6, 2) := by decide +kernel
theorem dX10_sendNow_88 : decode cX10_sendNow 88 = .ok (.iadd, 1) := by decide +kernel
theorem dX10_sendNow_89 : decode cX10_sendNow 89 = .ok (.lload 4, 2) := by decide +kernel
theorem dX10_sendNow_91 : decode cX10_sendNow 91 = .ok (.iload 6, 2) := by decide +kernel
theorem dX10_sendNow_93 : decode cX10_sendNow 93 = .ok (.invokestatic 62, 3) := by decide +kernel
theorem dX10_sendNow_96 : decode cX10_sendNow 96 = .ok (.iload 7, 2) := by decide +kernel
theorem dX10_sendNow_98 : decode cX10_sendNow 98 = .ok (.if_icmp .eq 8, 3) := by decide +kernel
theorem dX10_sendNow_101 : decode cX10_sendNow 101 = .ok (.iload_n 1, 1) := by decide +kernel
theorem dX10_sendNow_102 : decode cX10_sendNow 102 = .ok (.ineg, 1) := by decide +kernel
theorem dX10_sendNow_103 : decode cX10_sendNow 103 = .ok (.goto 4, 3) := by decide +kernel
theorem dX10_sendNow_106 : decode cX10_sendNow 106 = .ok (.iload_n 1, 1) := by decide +kernel
theorem dX10_sendNow_107 : decode cX10_sendNow 107 = .ok (.iastore, 1) := by decide +kernel
theorem dX10_sendNow_108 : decode cX10_sendNow 108 = .ok (.iinc 6 1, 3) := by decide +kernel
theorem dX10_sendNow_111 : decode cX10_sendNow 111 = .ok (.goto (-100), 3) := by decide +kernel
theorem dX10_sendNow_114 : decode cX10_sendNow 114 = .ok (.iload_n 3, 1) := by decide +kernel
theorem dX10_sendNow_115 : decode cX10_sendNow 115 = .ok (.ireturn, 1) := by decide +kernel
theorem dX10_isSending_0 : decode cX10_isSending 0 = .ok (.iload_n 0, 1) := by decide +kernel
theorem dX10_isSending_1 : decode cX10_isSending 1 = .ok (.iconst 1, 1) := by decide +kernel
theorem dX10_isSending_2 : decode cX10_isSending 2 = .ok (.bipush 31, 2) := by decide +kernel
theorem dX10_isSending_4 : decode cX10_isSending 4 = .ok (.invokestatic 70, 3) := by decide +kernel
theorem dX10_isSending_7 : decode cX10_isSending 7 = .ok (.ifCond .eq 17, 3) := by decide +kernel
theorem dX10_isSending_10 : decode cX10_isSending 10 = .ok (.iload_n 1, 1) := by decide +kernel
theorem dX10_isSending_11 : decode cX10_isSending 11 = .ok (.iconst 0, 1) := by decide +kernel
theorem dX10_isSending_12 : decode cX10_isSending 12 = .ok (.bipush 100, 2) := by decide +kernel
theorem dX10_isSending_14 : decode cX10_isSending 14 = .ok (.invokestatic 70, 3) := by decide +kernel
theorem dX10_isSending_17 : decode cX10_isSending 17 = .ok (.ifCond .eq 7, 3) := by decide +kernel
theorem dX10_isSending_20 : decode cX10_isSending 20 = .ok (.iconst 1, 1) := by decide +kernel
theorem dX10_isSending_21 : decode cX10_isSending 21 = .ok (.goto 4, 3) := by decide +kernel
theorem dX10_isSending_24 : decode cX10_isSending 24 = .ok (.iconst 0, 1) := by decide +kernel
theorem dX10_isSending_25 : decode cX10_isSending 25 = .ok (.ireturn, 1) := by decide +kernel
theorem dX10_send_0 : decode cX10_send 0 = .ok (.iload_n 1, 1) := by decide +kernel
theorem dX10_send_1 : decode cX10_send 1 = .ok (.iload_n 2, 1) := by decide +kernel
theorem dX10_send_2 : decode cX10_send 2 = .ok (.invokestatic 240, 3) := by decide +kernel
theorem dX10_send_5 : decode cX10_send 5 = .ok (.ifCond .ne 5, 3) := by decide +kernel
theorem dX10_send_8 : decode cX10_send 8 = .ok (.iconst (-1), 1) := by decide +kernel
theorem dX10_send_9 : decode cX10_send 9 = .ok (.ireturn, 1) := by decide +kernel
theorem dX10_send_10 : decode cX10_send 10 = .ok (.aload_n 0, 1) := by decide +kernel
theorem dX10_send_11 : decode cX10_send 11 = .ok (.invokevirtual 215, 3) := by decide +kernel
theorem dX10_send_14 : decode cX10_send 14 = .ok (.aload_n 0, 1) := by decide +kernel
theorem dX10_send_15 : decode cX10_send 15 = .ok (.iload_n 1, 1) := by decide +kernel
theorem dX10_send_16 : decode cX10_send 16 = .ok (.iload_n 2, 1) := by decide +kernel
theorem dX10_send_17 : decode cX10_send 17 = .ok (.invokevirtual 243, 3) := by decide +kernel
theorem dX10_send_20 : decode cX10_send 20 = .ok (.ireturn, 1) := by decide +kernel
theorem dX10_begin_0 : decode cX10_begin 0 = .ok (.iload_n 1, 1) := by decide +kernel
theorem dX10_begin_1 : decode cX10_begin 1 = .ok (.iconst 0, 1) := by decide +kernel
theorem dX10_begin_2 : decode cX10_begin 2 = .ok (.iconst 1, 1) := by decide +kernel
theorem dX10_begin_3 : decode cX10_begin 3 = .ok (.invokestatic 70, 3) := by decide +kernel
theorem dX10_begin_6 : decode cX10_begin 6 = .ok (.ifCond .ne 5, 3) := by decide +kernel
theorem dX10_begin_9 : decode cX10_begin 9 = .ok (.iconst (-1), 1) := by decide +kernel
theorem dX10_begin_10 : decode cX10_begin 10 = .ok (.ireturn, 1) := by decide +kernel
theorem dX10_begin_11 : decode cX10_begin 11 = .ok (.aload_n 0, 1) := by decide +kernel
theorem dX10_begin_12 : decode cX10_begin 12 = .ok (.invokevirtual 215, 3) := by decide +kernel
theorem dX10_begin_15 : decode cX10_begin 15 = .ok (.aload_n 0, 1) := by decide +kernel
theorem dX10_begin_16 : decode cX10_begin 16 = .ok (.iload_n 1, 1) := by decide +kernel
theorem dX10_begin_17 : decode cX10_begin 17 = .ok (.invokevirtual 54, 3) := by decide +kernel
theorem dX10_begin_20 : decode cX10_begin 20 = .ok (.aload_n 0, 1) := by decide +kernel
theorem dX10_begin_21 : decode cX10_begin 21 = .ok (.getfield 7, 3) := by decide +kernel
theorem dX10_begin_24 : decode cX10_begin 24 = .ok (.bipush 9, 2) := by decide +kernel
theorem dX10_begin_26 : decode cX10_begin 26 = .ok (.iaload, 1) := by decide +kernel
theorem dX10_begin_27 : decode cX10_begin 27 = .ok (.ireturn, 1) := by decide +kernel
theorem dX10_order_0 : decode cX10_order 0 = .ok (.iload_n 1, 1) := by decide +kernel
theorem dX10_order_1 : decode cX10_order 1 = .ok (.iconst 0, 1) := by decide +kernel
theorem dX10_order_2 : decode cX10_order 2 = .ok (.aload_n 0, 1) := by decide +kernel
theorem dX10_order_3 : decode cX10_order 3 = .ok (.invokevirtual 153, 3) := by decide +kernel
theorem dX10_order_6 : decode cX10_order 6 = .ok (.iconst 1, 1) := by decide +kernel
theorem dX10_order_7 : decode cX10_order 7 = .ok (.isub, 1) := by decide +kernel
theorem dX10_order_8 : decode cX10_order 8 = .ok (.invokestatic 70, 3) := by decide +kernel
theorem dX10_order_11 : decode cX10_order 11 = .ok (.ifCond .ne 5, 3) := by decide +kernel
theorem dX10_order_14 : decode cX10_order 14 = .ok (.iconst 0, 1) := by decide +kernel
theorem dX10_order_15 : decode cX10_order 15 = .ok (.ireturn, 1) := by decide +kernel
theorem dX10_order_16 : decode cX10_order 16 = .ok (.aload_n 0, 1) := by decide +kernel
theorem dX10_order_17 : decode cX10_order 17 = .ok (.invokevirtual 215, 3) := by decide +kernel
theorem dX10_order_20 : decode cX10_order 20 = .ok (.aload_n 0, 1) := by decide +kernel
theorem dX10_order_21 : decode cX10_order 21 = .ok (.getfield 7, 3) := by decide +kernel
theorem dX10_order_24 : decode cX10_order 24 = .ok (.bipush 13, 2) := by decide +kernel
theorem dX10_order_26 : decode cX10_order 26 = .ok (.iload_n 1, 1) := by decide +kernel
theorem dX10_order_27 : decode cX10_order 27 = .ok (.iastore, 1) := by decide +kernel
theorem dX10_order_28 : decode cX10_order 28 = .ok (.aload_n 0, 1) := by decide +kernel
theorem dX10_order_29 : decode cX10_order 29 = .ok (.aload_n 0, 1) := by decide +kernel
theorem dX10_order_30 : decode cX10_order 30 = .ok (.getfield 7, 3) := by decide +kernel
theorem dX10_order_33 : decode cX10_order 33 = .ok (.bipush 8, 2) := by decide +kernel
theorem dX10_order_35 : decode cX10_order 35 = .ok (.iaload, 1) := by decide +kernel
theorem dX10_order_36 : decode cX10_order 36 = .ok (.invokevirtual 54, 3) := by decide +kernel
theorem dX10_order_39 : decode cX10_order 39 = .ok (.iconst 1, 1) := by decide +kernel
theorem dX10_order_40 : decode cX10_order 40 = .ok (.ireturn, 1) := by decide +kernel
theorem dX10_step_0 : decode cX10_step 0 = .ok (.iload_n 1, 1) := by decide +kernel
theorem dX10_step_1 : decode cX10_step 1 = .ok (.iconst 1, 1) := by decide +kernel
theorem dX10_step_2 : decode cX10_step 2 = .ok (.bipush 80, 2) := by decide +kernel
theorem dX10_step_4 : decode cX10_step 4 = .ok (.invokestatic 70, 3) := by decide +kernel
theorem dX10_step_7 : decode cX10_step 7 = .ok (.ifCond .eq 13, 3) := by decide +kernel
theorem dX10_step_10 : decode cX10_step 10 = .ok (.aload_n 0, 1) := by decide +kernel
theorem dX10_step_11 : decode cX10_step 11 = .ok (.getfield 7, 3) := by decide +kernel
theorem dX10_step_14 : decode cX10_step 14 = .ok (.bipush 9, 2) := by decide +kernel
theorem dX10_step_16 : decode cX10_step 16 = .ok (.iaload, 1) := by decide +kernel
theorem dX10_step_17 : decode cX10_step 17 = .ok (.ifCond .eq 5, 3) := by decide +kernel
theorem dX10_step_20 : decode cX10_step 20 = .ok (.iconst (-1), 1) := by decide +kernel
theorem dX10_step_21 : decode cX10_step 21 = .ok (.ireturn, 1) := by decide +kernel
theorem dX10_step_22 : decode cX10_step 22 = .ok (.aload_n 0, 1) := by decide +kernel
theorem dX10_step_23 : decode cX10_step 23 = .ok (.invokevirtual 215, 3) := by decide +kernel
theorem dX10_step_26 : decode cX10_step 26 = .ok (.aload_n 0, 1) := by decide +kernel
theorem dX10_step_27 : decode cX10_step 27 = .ok (.iload_n 1, 1) := by decide +kernel
theorem dX10_step_28 : decode cX10_step 28 = .ok (.invokevirtual 246, 3) := by decide +kernel
theorem dX10_step_31 : decode cX10_step 31 = .ok (.ireturn, 1) := by decide +kernel
theorem dX10_tell_0 : decode cX10_tell 0 = .ok (.iload_n 1, 1) := by decide +kernel
theorem dX10_tell_1 : decode cX10_tell 1 = .ok (.iconst 0, 1) := by decide +kernel
theorem dX10_tell_2 : decode cX10_tell 2 = .ok (.sipush 30070, 3) := by decide +kernel
theorem dX10_tell_5 : decode cX10_tell 5 = .ok (.invokestatic 70, 3) := by decide +kernel
theorem dX10_tell_8 : decode cX10_tell 8 = .ok (.ifCond .ne 5, 3) := by decide +kernel
theorem dX10_tell_11 : decode cX10_tell 11 = .ok (.iconst 0, 1) := by decide +kernel
theorem dX10_tell_12 : decode cX10_tell 12 = .ok (.ireturn, 1) := by decide +kernel
theorem dX10_tell_13 : decode cX10_tell 13 = .ok (.aload_n 0, 1) := by decide +kernel
theorem dX10_tell_14 : decode cX10_tell 14 = .ok (.getfield 7, 3) := by decide +kernel
theorem dX10_tell_17 : decode cX10_tell 17 = .ok (.bipush 12, 2) := by decide +kernel
theorem dX10_tell_19 : decode cX10_tell 19 = .ok (.iload_n 1, 1) := by decide +kernel
theorem dX10_tell_20 : decode cX10_tell 20 = .ok (.iastore, 1) := by decide +kernel
theorem dX10_tell_21 : decode cX10_tell 21 = .ok (.iconst 1, 1) := by decide +kernel
theorem dX10_tell_22 : decode cX10_tell 22 = .ok (.ireturn, 1) := by decide +kernel
theorem dX10_is_0 : decode cX10_is 0 = .ok (.iload_n 1, 1) := by decide +kernel
theorem dX10_is_1 : decode cX10_is 1 = .ok (.iconst 0, 1) := by decide +kernel
theorem dX10_is_2 : decode cX10_is 2 = .ok (.bipush 9, 2) := by decide +kernel
theorem dX10_is_4 : decode cX10_is 4 = .ok (.invokestatic 70, 3) := by decide +kernel
theorem dX10_is_7 : decode cX10_is 7 = .ok (.ifCond .eq 14, 3) := by decide +kernel
theorem dX10_is_10 : decode cX10_is 10 = .ok (.aload_n 0, 1) := by decide +kernel
theorem dX10_is_11 : decode cX10_is 11 = .ok (.getfield 7, 3) := by decide +kernel
theorem dX10_is_14 : decode cX10_is 14 = .ok (.iconst 3, 1) := by decide +kernel
theorem dX10_is_15 : decode cX10_is 15 = .ok (.iload_n 1, 1) := by decide +kernel
theorem dX10_is_16 : decode cX10_is 16 = .ok (.iadd, 1) := by decide +kernel
theorem dX10_is_17 : decode cX10_is 17 = .ok (.iaload, 1) := by decide +kernel
theorem dX10_is_18 : decode cX10_is 18 = .ok (.goto 21, 3) := by decide +kernel
theorem dX10_is_21 : decode cX10_is 21 = .ok (.iload_n 1, 1) := by decide +kernel
theorem dX10_is_22 : decode cX10_is 22 = .ok (.bipush 10, 2) := by decide +kernel
theorem dX10_is_24 : decode cX10_is 24 = .ok (.if_icmp .ne 14, 3) := by decide +kernel
theorem dX10_is_27 : decode cX10_is 27 = .ok (.aload_n 0, 1) := by decide +kernel
theorem dX10_is_28 : decode cX10_is 28 = .ok (.aload_n 0, 1) := by decide +kernel
theorem dX10_is_29 : decode cX10_is 29 = .ok (.invokevirtual 156, 3) := by decide +kernel
theorem dX10_is_32 : decode cX10_is 32 = .ok (.invokevirtual 160, 3) := by decide +kernel
theorem dX10_is_35 : decode cX10_is 35 = .ok (.goto 4, 3) := by decide +kernel
theorem dX10_is_38 : decode cX10_is 38 = .ok (.iconst (-1), 1) := by decide +kernel
theorem dX10_is_39 : decode cX10_is 39 = .ok (.ireturn, 1) := by decide +kernel
theorem dX10_shift_0 : decode cX10_shift 0 = .ok (.iload_n 1, 1) := by decide +kernel
theorem dX10_shift_1 : decode cX10_shift 1 = .ok (.iconst 0, 1) := by decide +kernel
theorem dX10_shift_2 : decode cX10_shift 2 = .ok (.aload_n 0, 1) := by decide +kernel
theorem dX10_shift_3 : decode cX10_shift 3 = .ok (.getfield 7, 3) := by decide +kernel
theorem dX10_shift_6 : decode cX10_shift 6 = .ok (.iconst 4, 1) := by decide +kernel
theorem dX10_shift_7 : decode cX10_shift 7 = .ok (.iaload, 1) := by decide +kernel
theorem dX10_shift_8 : decode cX10_shift 8 = .ok (.iconst 1, 1) := by decide +kernel
theorem dX10_shift_9 : decode cX10_shift 9 = .ok (.isub, 1) := by decide +kernel
theorem dX10_shift_10 : decode cX10_shift 10 = .ok (.invokestatic 70, 3) := by decide +kernel
theorem dX10_shift_13 : decode cX10_shift 13 = .ok (.ifCond .eq 36, 3) := by decide +kernel
theorem dX10_shift_16 : decode cX10_shift 16 = .ok (.iload_n 2, 1) := by decide +kernel
theorem dX10_shift_17 : decode cX10_shift 17 = .ok (.iconst 0, 1) := by decide +kernel
theorem dX10_shift_18 : decode cX10_shift 18 = .ok (.aload_n 0, 1) := by decide +kernel
theorem dX10_shift_19 : decode cX10_shift 19 = .ok (.getfield 7, 3) := by decide +kernel
theorem dX10_shift_22 : decode cX10_shift 22 = .ok (.iconst 5, 1) := by decide +kernel
theorem dX10_shift_23 : decode cX10_shift 23 = .ok (.iaload, 1) := by decide +kernel
theorem dX10_shift_24 : decode cX10_shift 24 = .ok (.iconst 1, 1) := by decide +kernel
theorem dX10_shift_25 : decode cX10_shift 25 = .ok (.isub, 1) := by decide +kernel
theorem dX10_shift_26 : decode cX10_shift 26 = .ok (.invokestatic 70, 3) := by decide +kernel
theorem dX10_shift_29 : decode cX10_shift 29 = .ok (.ifCond .eq 20, 3) := by decide +kernel
theorem dX10_shift_32 : decode cX10_shift 32 = .ok (.aload_n 0, 1) := by decide +kernel
theorem dX10_shift_33 : decode cX10_shift 33 = .ok (.getfield 7, 3) := by decide +kernel
theorem dX10_shift_36 : decode cX10_shift 36 = .ok (.bipush 14, 2) := by decide +kernel
theorem dX10_shift_38 : decode cX10_shift 38 = .ok (.bipush 8, 2) := by decide +kernel
theorem dX10_shift_40 : decode cX10_shift 40 = .ok (.iload_n 1, 1) := by decide +kernel
theorem dX10_shift_41 : decode cX10_shift 41 = .ok (.imul, 1) := by decide +kernel
theorem dX10_shift_42 : decode cX10_shift 42 = .ok (.iadd, 1) := by decide +kernel
theorem dX10_shift_43 : decode cX10_shift 43 = .ok (.iload_n 2, 1) := by decide +kernel
theorem dX10_shift_44 : decode cX10_shift 44 = .ok (.iadd, 1) := by decide +kernel
theorem dX10_shift_45 : decode cX10_shift 45 = .ok (.iaload, 1) := by decide +kernel
theorem dX10_shift_46 : decode cX10_shift 46 = .ok (.goto 5, 3) := by decide +kernel
theorem dX10_shift_49 : decode cX10_shift 49 = .ok (.bipush (-2), 2) := by decide +kernel
theorem dX10_shift_51 : decode cX10_shift 51 = .ok (.ireturn, 1) := by decide +kernel
theorem dX10_layer_0 : decode cX10_layer 0 = .ok (.iload_n 1, 1) := by decide +kernel
theorem dX10_layer_1 : decode cX10_layer 1 = .ok (.iconst 0, 1) := by decide +kernel
theorem dX10_layer_2 : decode cX10_layer 2 = .ok (.aload_n 0, 1) := by decide +kernel
theorem dX10_layer_3 : decode cX10_layer 3 = .ok (.getfield 7, 3) := by decide +kernel
theorem dX10_layer_6 : decode cX10_layer 6 = .ok (.iconst 4, 1) := by decide +kernel
theorem dX10_layer_7 : decode cX10_layer 7 = .ok (.iaload, 1) := by decide +kernel
theorem dX10_layer_8 : decode cX10_layer 8 = .ok (.iconst 1, 1) := by decide +kernel
theorem dX10_layer_9 : decode cX10_layer 9 = .ok (.isub, 1) := by decide +kernel
theorem dX10_layer_10 : decode cX10_layer 10 = .ok (.invokestatic 70, 3) := by decide +kernel
theorem dX10_layer_13 : decode cX10_layer 13 = .ok (.ifCond .eq 18, 3) := by decide +kernel
theorem dX10_layer_16 : decode cX10_layer 16 = .ok (.aload_n 0, 1) := by decide +kernel
theorem dX10_layer_17 : decode cX10_layer 17 = .ok (.aload_n 0, 1) := by decide +kernel
theorem dX10_layer_18 : decode cX10_layer 18 = .ok (.getfield 7, 3) := by decide +kernel
theorem dX10_layer_21 : decode cX10_layer 21 = .ok (.bipush 13, 2) := by decide +kernel
theorem dX10_layer_23 : decode cX10_layer 23 = .ok (.iaload, 1) := by decide +kernel
theorem dX10_layer_24 : decode cX10_layer 24 = .ok (.iload_n 1, 1) := by decide +kernel
theorem dX10_layer_25 : decode cX10_layer 25 = .ok (.invokevirtual 178, 3) := by decide +kernel
theorem dX10_layer_28 : decode cX10_layer 28 = .ok (.goto 4, 3) := by decide +kernel
theorem dX10_layer_31 : decode cX10_layer 31 = .ok (.iconst (-1), 1) := by decide +kernel
theorem dX10_layer_32 : decode cX10_layer 32 = .ok (.ireturn, 1) := by decide +kernel
theorem dX10_has_0 : decode cX10_has 0 = .ok (.aload_n 0, 1) := by decide +kernel
theorem dX10_has_1 : decode cX10_has 1 = .ok (.iload_n 1, 1) := by decide +kernel
theorem dX10_has_2 : decode cX10_has 2 = .ok (.invokevirtual 249, 3) := by decide +kernel
theorem dX10_has_5 : decode cX10_has 5 = .ok (.ifCond .eq 8, 3) := by decide +kernel
theorem dX10_has_8 : decode cX10_has 8 = .ok (.iload_n 2, 1) := by decide +kernel
theorem dX10_has_9 : decode cX10_has 9 = .ok (.iconst (-1), 1) := by decide +kernel
theorem dX10_has_10 : decode cX10_has 10 = .ok (.if_icmp .ge 5, 3) := by decide +kernel
theorem dX10_has_13 : decode cX10_has 13 = .ok (.iconst (-1), 1) := by decide +kernel
theorem dX10_has_14 : decode cX10_has 14 = .ok (.ireturn, 1) := by decide +kernel
theorem dX10_has_15 : decode cX10_has 15 = .ok (.iconst 0, 1) := by decide +kernel
theorem dX10_has_16 : decode cX10_has 16 = .ok (.istore_n 3, 1) := by decide +kernel
theorem dX10_has_17 : decode cX10_has 17 = .ok (.iconst 0, 1) := by decide +kernel
theorem dX10_has_18 : decode cX10_has 18 = .ok (.istore 4, 2) := by decide +kernel
theorem dX10_has_20 : decode cX10_has 20 = .ok (.iload 4, 2) := by decide +kernel
theorem dX10_has_22 : decode cX10_has 22 = .ok (.aload_n 0, 1) := by decide +kernel
theorem dX10_has_23 : decode cX10_has 23 = .ok (.getfield 7, 3) := by decide +kernel
theorem dX10_has_26 : decode cX10_has 26 = .ok (.iconst 5, 1) := by decide +kernel
theorem dX10_has_27 : decode cX10_has 27 = .ok (.iaload, 1) := by decide +kernel
theorem dX10_has_28 : decode cX10_has 28 = .ok (.if_icmp .ge 38, 3) := by decide +kernel
theorem dX10_has_31 : decode cX10_has 31 = .ok (.aload_n 0, 1) := by decide +kernel
theorem dX10_has_32 : decode cX10_has 32 = .ok (.iload_n 1, 1) := by decide +kernel
theorem dX10_has_33 : decode cX10_has 33 = .ok (.iload 4, 2) := by decide +kernel
theorem dX10_has_35 : decode cX10_has 35 = .ok (.invokevirtual 77, 3) := by decide +kernel
theorem dX10_has_38 : decode cX10_has 38 = .ok (.istore 5, 2) := by decide +kernel
theorem dX10_has_40 : decode cX10_has 40 = .ok (.iload 5, 2) := by decide +kernel
theorem dX10_has_42 : decode cX10_has 42 = .ok (.iconst (-1), 1) := by decide +kernel
theorem dX10_has_43 : decode cX10_has 43 = .ok (.if_icmp .ne 6, 3) := by decide +kernel
theorem dX10_has_46 : decode cX10_has 46 = .ok (.goto 14, 3) := by decide +kernel
theorem dX10_has_49 : decode cX10_has 49 = .ok (.iload_n 3, 1) := by decide +kernel
theorem dX10_has_50 : decode cX10_has 50 = .ok (.iload_n 2, 1) := by decide +kernel
theorem dX10_has_51 : decode cX10_has 51 = .ok (.if_icmp .ne 6, 3) := by decide +kernel
theorem dX10_has_54 : decode cX10_has 54 = .ok (.iload 5, 2) := by decide +kernel
theorem dX10_has_56 : decode cX10_has 56 = .ok (.ireturn, 1) := by decide +kernel
theorem dX10_has_57 : decode cX10_has 57 = .ok (.iinc 3 1, 3) := by decide +kernel
theorem dX10_has_60 : decode cX10_has 60 = .ok (.iinc 4 1, 3) := by decide +kernel
theorem dX10_has_63 : decode cX10_has 63 = .ok (.goto (-43), 3) := by decide +kernel
theorem dX10_has_66 : decode cX10_has 66 = .ok (.iload_n 2, 1) := by decide +kernel
theorem dX10_has_67 : decode cX10_has 67 = .ok (.iconst (-1), 1) := by decide +kernel
theorem dX10_has_68 : decode cX10_has 68 = .ok (.if_icmp .ne 7, 3) := by decide +kernel
theorem dX10_has_71 : decode cX10_has 71 = .ok (.iload_n 3, 1) := by decide +kernel
theorem dX10_has_72 : decode cX10_has 72 = .ok (.goto 4, 3) := by decide +kernel
theorem dX10_has_75 : decode cX10_has 75 = .ok (.iconst (-1), 1) := by decide +kernel
theorem dX10_has_76 : decode cX10_has 76 = .ok (.ireturn, 1) := by decide +kernel
theorem dX10_degree_0 : decode cX10_degree 0 = .ok (.aload_n 0, 1) := by decide +kernel
theorem dX10_degree_1 : decode cX10_degree 1 = .ok (.iload_n 1, 1) := by decide +kernel
theorem dX10_degree_2 : decode cX10_degree 2 = .ok (.invokevirtual 237, 3) := by decide +kernel
theorem dX10_degree_5 : decode cX10_degree 5 = .ok (.ifCond .ne 5, 3) := by decide +kernel
theorem dX10_degree_8 : decode cX10_degree 8 = .ok (.iconst (-1), 1) := by decide +kernel
theorem dX10_degree_9 : decode cX10_degree 9 = .ok (.ireturn, 1) := by decide +kernel
theorem dX10_degree_10 : decode cX10_degree 10 = .ok (.iconst 0, 1) := by decide +kernel
theorem dX10_degree_11 : decode cX10_degree 11 = .ok (.istore_n 2, 1) := by decide +kernel
theorem dX10_degree_12 : decode cX10_degree 12 = .ok (.iconst 0, 1) := by decide +kernel
theorem dX10_degree_13 : decode cX10_degree 13 = .ok (.istore_n 3, 1) := by decide +kernel
theorem dX10_degree_14 : decode cX10_degree 14 = .ok (.iload_n 3, 1) := by decide +kernel
theorem dX10_degree_15 : decode cX10_degree 15 = .ok (.aload_n 0, 1) := by decide +kernel
theorem dX10_degree_16 : decode cX10_degree 16 = .ok (.invokevirtual 74, 3) := by decide +kernel
theorem dX10_degree_19 : decode cX10_degree 19 = .ok (.if_icmp .ge 26, 3) := by decide +kernel
theorem dX10_degree_22 : decode cX10_degree 22 = .ok (.iload_n 2, 1) := by decide +kernel
theorem dX10_degree_23 : decode cX10_degree 23 = .ok (.aload_n 0, 1) := by decide +kernel
theorem dX10_degree_24 : decode cX10_degree 24 = .ok (.iload_n 3, 1) := by decide +kernel
theorem dX10_degree_25 : decode cX10_degree 25 = .ok (.iload_n 1, 1) := by decide +kernel
theorem dX10_degree_26 : decode cX10_degree 26 = .ok (.invokevirtual 184, 3) := by decide +kernel
theorem dX10_degree_29 : decode cX10_degree 29 = .ok (.ifCond .eq 7, 3) := by decide +kernel
theorem dX10_degree_32 : decode cX10_degree 32 = .ok (.iconst 1, 1) := by decide +kernel
theorem dX10_degree_33 : decode cX10_degree 33 = .ok (.goto 4, 3) := by decide +kernel
theorem dX10_degree_36 : decode cX10_degree 36 = .ok (.iconst 0, 1) := by decide +kernel
theorem dX10_degree_37 : decode cX10_degree 37 = .ok (.iadd, 1) := by decide +kernel
theorem dX10_degree_38 : decode cX10_degree 38 = .ok (.istore_n 2, 1) := by decide +kernel
theorem dX10_degree_39 : decode cX10_degree 39 = .ok (.iinc 3 1, 3) := by decide +kernel
theorem dX10_degree_42 : decode cX10_degree 42 = .ok (.goto (-28), 3) := by decide +kernel
theorem dX10_degree_45 : decode cX10_degree 45 = .ok (.iload_n 2, 1) := by decide +kernel
theorem dX10_degree_46 : decode cX10_degree 46 = .ok (.ireturn, 1) := by decide +kernel
theorem dX10_bit_0 : decode cX10_bit 0 = .ok (.aload_n 0, 1) := by decide +kernel
theorem dX10_bit_1 : decode cX10_bit 1 = .ok (.iload_n 1, 1) := by decide +kernel
theorem dX10_bit_2 : decode cX10_bit 2 = .ok (.invokevirtual 237, 3) := by decide +kernel
theorem dX10_bit_5 : decode cX10_bit 5 = .ok (.ifCond .ne 6, 3) := by decide +kernel
theorem dX10_bit_8 : decode cX10_bit 8 = .ok (.bipush (-100), 2) := by decide +kernel
theorem dX10_bit_10 : decode cX10_bit 10 = .ok (.ireturn, 1) := by decide +kernel
theorem dX10_bit_11 : decode cX10_bit 11 = .ok (.iload_n 2, 1) := by decide +kernel
theorem dX10_bit_12 : decode cX10_bit 12 = .ok (.tableswitch 112 0 4 #[36, 46, 56, 74, 91], 36) := by decide +kernel
theorem dX10_bit_48 : decode cX10_bit 48 = .ok (.aload_n 0, 1) := by decide +kernel
theorem dX10_bit_49 : decode cX10_bit 49 = .ok (.getfield 7, 3) := by decide +kernel
theorem dX10_bit_52 : decode cX10_bit 52 = .ok (.bipush 48, 2) := by decide +kernel
theorem dX10_bit_54 : decode cX10_bit 54 = .ok (.iload_n 1, 1) := by decide +kernel
theorem dX10_bit_55 : decode cX10_bit 55 = .ok (.iadd, 1) := by decide +kernel
theorem dX10_bit_56 : decode cX10_bit 56 = .ok (.iaload, 1) := by decide +kernel
theorem dX10_bit_57 : decode cX10_bit 57 = .ok (.ireturn, 1) := by decide +kernel
theorem dX10_bit_58 : decode cX10_bit 58 = .ok (.aload_n 0, 1) := by decide +kernel
theorem dX10_bit_59 : decode cX10_bit 59 = .ok (.getfield 7, 3) := by decide +kernel
theorem dX10_bit_62 : decode cX10_bit 62 = .ok (.bipush 96, 2) := by decide +kernel
theorem dX10_bit_64 : decode cX10_bit 64 = .ok (.iload_n 1, 1) := by decide +kernel
theorem dX10_bit_65 : decode cX10_bit 65 = .ok (.iadd, 1) := by decide +kernel
theorem dX10_bit_66 : decode cX10_bit 66 = .ok (.iaload, 1) := by decide +kernel
theorem dX10_bit_67 : decode cX10_bit 67 = .ok (.ireturn, 1) := by decide +kernel
theorem dX10_bit_68 : decode cX10_bit 68 = .ok (.aload_n 0, 1) := by decide +kernel
theorem dX10_bit_69 : decode cX10_bit 69 = .ok (.getfield 7, 3) := by decide +kernel
theorem dX10_bit_72 : decode cX10_bit 72 = .ok (.bipush 96, 2) := by decide +kernel
theorem dX10_bit_74 : decode cX10_bit 74 = .ok (.iload_n 1, 1) := by decide +kernel
theorem dX10_bit_75 : decode cX10_bit 75 = .ok (.iadd, 1) := by decide +kernel
theorem dX10_bit_76 : decode cX10_bit 76 = .ok (.iaload, 1) := by decide +kernel
theorem dX10_bit_77 : decode cX10_bit 77 = .ok (.ifCond .ge 7, 3) := by decide +kernel
theorem dX10_bit_80 : decode cX10_bit 80 = .ok (.iconst 1, 1) := by decide +kernel
theorem dX10_bit_81 : decode cX10_bit 81 = .ok (.goto 4, 3) := by decide +kernel
theorem dX10_bit_84 : decode cX10_bit 84 = .ok (.iconst 0, 1) := by decide +kernel
theorem dX10_bit_85 : decode cX10_bit 85 = .ok (.ireturn, 1) := by decide +kernel
theorem dX10_bit_86 : decode cX10_bit 86 = .ok (.aload_n 0, 1) := by decide +kernel
theorem dX10_bit_87 : decode cX10_bit 87 = .ok (.invokevirtual 234, 3) := by decide +kernel
theorem dX10_bit_90 : decode cX10_bit 90 = .ok (.iload_n 1, 1) := by decide +kernel
theorem dX10_bit_91 : decode cX10_bit 91 = .ok (.invokestatic 62, 3) := by decide +kernel
theorem dX10_bit_94 : decode cX10_bit 94 = .ok (.ifCond .eq 7, 3) := by decide +kernel
theorem dX10_bit_97 : decode cX10_bit 97 = .ok (.iconst 1, 1) := by decide +kernel
theorem dX10_bit_98 : decode cX10_bit 98 = .ok (.goto 4, 3) := by decide +kernel
theorem dX10_bit_101 : decode cX10_bit 101 = .ok (.iconst 0, 1) := by decide +kernel
theorem dX10_bit_102 : decode cX10_bit 102 = .ok (.ireturn, 1) := by decide +kernel
theorem dX10_bit_103 : decode cX10_bit 103 = .ok (.aload_n 0, 1) := by decide +kernel
theorem dX10_bit_104 : decode cX10_bit 104 = .ok (.invokevirtual 227, 3) := by decide +kernel
theorem dX10_bit_107 : decode cX10_bit 107 = .ok (.aload_n 0, 1) := by decide +kernel
theorem dX10_bit_108 : decode cX10_bit 108 = .ok (.getfield 201, 3) := by decide +kernel
theorem dX10_bit_111 : decode cX10_bit 111 = .ok (.iload_n 1, 1) := by decide +kernel
theorem dX10_bit_112 : decode cX10_bit 112 = .ok (.invokestatic 62, 3) := by decide +kernel
theorem dX10_bit_115 : decode cX10_bit 115 = .ok (.ifCond .eq 7, 3) := by decide +kernel
theorem dX10_bit_118 : decode cX10_bit 118 = .ok (.iconst 0, 1) := by decide +kernel
theorem dX10_bit_119 : decode cX10_bit 119 = .ok (.goto 4, 3) := by decide +kernel
theorem dX10_bit_122 : decode cX10_bit 122 = .ok (.iconst 1, 1) := by decide +kernel
theorem dX10_bit_123 : decode cX10_bit 123 = .ok (.ireturn, 1) := by decide +kernel
theorem dX10_bit_124 : decode cX10_bit 124 = .ok (.bipush (-100), 2) := by decide +kernel
theorem dX10_bit_126 : decode cX10_bit 126 = .ok (.ireturn, 1) := by decide +kernel
theorem dX10_message_0 : decode cX10_message 0 = .ok (.aload_n 0, 1) := by decide +kernel
theorem dX10_message_1 : decode cX10_message 1 = .ok (.iload_n 1, 1) := by decide +kernel
theorem dX10_message_2 : decode cX10_message 2 = .ok (.invokevirtual 249, 3) := by decide +kernel
theorem dX10_message_5 : decode cX10_message 5 = .ok (.ifCond .eq 40, 3) := by decide +kernel
theorem dX10_message_8 : decode cX10_message 8 = .ok (.aload_n 0, 1) := by decide +kernel
theorem dX10_message_9 : decode cX10_message 9 = .ok (.iload_n 2, 1) := by decide +kernel
theorem dX10_message_10 : decode cX10_message 10 = .ok (.invokevirtual 237, 3) := by decide +kernel
theorem dX10_message_13 : decode cX10_message 13 = .ok (.ifCond .eq 32, 3) := by decide +kernel
theorem dX10_message_16 : decode cX10_message 16 = .ok (.aload_n 0, 1) := by decide +kernel
theorem dX10_message_17 : decode cX10_message 17 = .ok (.iload_n 1, 1) := by decide +kernel
theorem dX10_message_18 : decode cX10_message 18 = .ok (.iload_n 2, 1) := by decide +kernel
theorem dX10_message_19 : decode cX10_message 19 = .ok (.invokevirtual 184, 3) := by decide +kernel
theorem dX10_message_22 : decode cX10_message 22 = .ok (.ifCond .eq 23, 3) := by decide +kernel
theorem dX10_message_25 : decode cX10_message 25 = .ok (.aload_n 0, 1) := by decide +kernel
theorem dX10_message_26 : decode cX10_message 26 = .ok (.getfield 7, 3) := by decide +kernel
theorem dX10_message_29 : decode cX10_message 29 = .ok (.iload_n 1, 1) := by decide +kernel
theorem dX10_message_30 : decode cX10_message 30 = .ok (.iload_n 2, 1) := by decide +kernel
theorem dX10_message_31 : decode cX10_message 31 = .ok (.aload_n 0, 1) := by decide +kernel
theorem dX10_message_32 : decode cX10_message 32 = .ok (.getfield 7, 3) := by decide +kernel
theorem dX10_message_35 : decode cX10_message 35 = .ok (.iconst 3, 1) := by decide +kernel
theorem dX10_message_36 : decode cX10_message 36 = .ok (.iaload, 1) := by decide +kernel
theorem dX10_message_37 : decode cX10_message 37 = .ok (.idiv, 1) := by decide +kernel
theorem dX10_message_38 : decode cX10_message 38 = .ok (.invokestatic 163, 3) := by decide +kernel
theorem dX10_message_41 : decode cX10_message 41 = .ok (.iaload, 1) := by decide +kernel
theorem dX10_message_42 : decode cX10_message 42 = .ok (.goto 5, 3) := by decide +kernel
theorem dX10_message_45 : decode cX10_message 45 = .ok (.bipush (-100), 2) := by decide +kernel
theorem dX10_message_47 : decode cX10_message 47 = .ok (.ireturn, 1) := by decide +kernel
theorem dX10_odd_0 : decode cX10_odd 0 = .ok (.aload_n 0, 1) := by decide +kernel
theorem dX10_odd_1 : decode cX10_odd 1 = .ok (.iload_n 1, 1) := by decide +kernel
theorem dX10_odd_2 : decode cX10_odd 2 = .ok (.invokevirtual 249, 3) := by decide +kernel
theorem dX10_odd_5 : decode cX10_odd 5 = .ok (.ifCond .eq 26, 3) := by decide +kernel
theorem dX10_odd_8 : decode cX10_odd 8 = .ok (.aload_n 0, 1) := by decide +kernel
theorem dX10_odd_9 : decode cX10_odd 9 = .ok (.iload_n 1, 1) := by decide +kernel
theorem dX10_odd_10 : decode cX10_odd 10 = .ok (.invokevirtual 83, 3) := by decide +kernel
theorem dX10_odd_13 : decode cX10_odd 13 = .ok (.aload_n 0, 1) := by decide +kernel
theorem dX10_odd_14 : decode cX10_odd 14 = .ok (.invokevirtual 156, 3) := by decide +kernel
theorem dX10_odd_17 : decode cX10_odd 17 = .ok (.land, 1) := by decide +kernel
theorem dX10_odd_18 : decode cX10_odd 18 = .ok (.invokestatic 87, 3) := by decide +kernel
theorem dX10_odd_21 : decode cX10_odd 21 = .ok (.iconst 2, 1) := by decide +kernel
theorem dX10_odd_22 : decode cX10_odd 22 = .ok (.irem, 1) := by decide +kernel
theorem dX10_odd_23 : decode cX10_odd 23 = .ok (.iconst 1, 1) := by decide +kernel
theorem dX10_odd_24 : decode cX10_odd 24 = .ok (.if_icmp .ne 7, 3) := by decide +kernel
theorem dX10_odd_27 : decode cX10_odd 27 = .ok (.iconst 1, 1) := by decide +kernel
theorem dX10_odd_28 : decode cX10_odd 28 = .ok (.goto 4, 3) := by decide +kernel
theorem dX10_odd_31 : decode cX10_odd 31 = .ok (.iconst 0, 1) := by decide +kernel
theorem dX10_odd_32 : decode cX10_odd 32 = .ok (.ireturn, 1) := by decide +kernel
theorem dX10_guess_0 : decode cX10_guess 0 = .ok (.aload_n 0, 1) := by decide +kernel
theorem dX10_guess_1 : decode cX10_guess 1 = .ok (.invokevirtual 156, 3) := by decide +kernel
theorem dX10_guess_4 : decode cX10_guess 4 = .ok (.lreturn, 1) := by decide +kernel
theorem dX10_sent_0 : decode cX10_sent 0 = .ok (.aload_n 0, 1) := by decide +kernel
theorem dX10_sent_1 : decode cX10_sent 1 = .ok (.invokevirtual 234, 3) := by decide +kernel
theorem dX10_sent_4 : decode cX10_sent 4 = .ok (.lreturn, 1) := by decide +kernel
theorem dX10_wrong_0 : decode cX10_wrong 0 = .ok (.aload_n 0, 1) := by decide +kernel
theorem dX10_wrong_1 : decode cX10_wrong 1 = .ok (.invokevirtual 156, 3) := by decide +kernel
theorem dX10_wrong_4 : decode cX10_wrong 4 = .ok (.aload_n 0, 1) := by decide +kernel
theorem dX10_wrong_5 : decode cX10_wrong 5 = .ok (.invokevirtual 234, 3) := by decide +kernel
theorem dX10_wrong_8 : decode cX10_wrong 8 = .ok (.lxor, 1) := by decide +kernel
theorem dX10_wrong_9 : decode cX10_wrong 9 = .ok (.invokestatic 87, 3) := by decide +kernel
theorem dX10_wrong_12 : decode cX10_wrong 12 = .ok (.ireturn, 1) := by decide +kernel
theorem dX10_rank_0 : decode cX10_rank 0 = .ok (.aload_n 0, 1) := by decide +kernel
theorem dX10_rank_1 : decode cX10_rank 1 = .ok (.invokevirtual 227, 3) := by decide +kernel
theorem dX10_rank_4 : decode cX10_rank 4 = .ok (.aload_n 0, 1) := by decide +kernel
theorem dX10_rank_5 : decode cX10_rank 5 = .ok (.getfield 205, 3) := by decide +kernel
theorem dX10_rank_8 : decode cX10_rank 8 = .ok (.ireturn, 1) := by decide +kernel
theorem dX10_carrier_0 : decode cX10_carrier 0 = .ok (.iload_n 1, 1) := by decide +kernel
theorem dX10_carrier_1 : decode cX10_carrier 1 = .ok (.ifCond .ge 5, 3) := by decide +kernel
theorem dX10_carrier_4 : decode cX10_carrier 4 = .ok (.iconst (-1), 1) := by decide +kernel
theorem dX10_carrier_5 : decode cX10_carrier 5 = .ok (.ireturn, 1) := by decide +kernel
theorem dX10_carrier_6 : decode cX10_carrier 6 = .ok (.aload_n 0, 1) := by decide +kernel
theorem dX10_carrier_7 : decode cX10_carrier 7 = .ok (.invokevirtual 227, 3) := by decide +kernel
theorem dX10_carrier_10 : decode cX10_carrier 10 = .ok (.aload_n 0, 1) := by decide +kernel
theorem dX10_carrier_11 : decode cX10_carrier 11 = .ok (.iload_n 1, 1) := by decide +kernel
theorem dX10_carrier_12 : decode cX10_carrier 12 = .ok (.invokevirtual 252, 3) := by decide +kernel
theorem dX10_carrier_15 : decode cX10_carrier 15 = .ok (.ireturn, 1) := by decide +kernel
theorem dX10_book_0 : decode cX10_book 0 = .ok (.iload_n 1, 1) := by decide +kernel
theorem dX10_book_1 : decode cX10_book 1 = .ok (.iconst (-1), 1) := by decide +kernel
theorem dX10_book_2 : decode cX10_book 2 = .ok (.if_icmp .ne 12, 3) := by decide +kernel
theorem dX10_book_5 : decode cX10_book 5 = .ok (.aload_n 0, 1) := by decide +kernel
theorem dX10_book_6 : decode cX10_book 6 = .ok (.getfield 7, 3) := by decide +kernel
theorem dX10_book_9 : decode cX10_book 9 = .ok (.sipush 384, 3) := by decide +kernel
theorem dX10_book_12 : decode cX10_book 12 = .ok (.iaload, 1) := by decide +kernel
theorem dX10_book_13 : decode cX10_book 13 = .ok (.ireturn, 1) := by decide +kernel
theorem dX10_book_14 : decode cX10_book 14 = .ok (.iload_n 1, 1) := by decide +kernel
theorem dX10_book_15 : decode cX10_book 15 = .ok (.iconst 0, 1) := by decide +kernel
theorem dX10_book_16 : decode cX10_book 16 = .ok (.aload_n 0, 1) := by decide +kernel
theorem dX10_book_17 : decode cX10_book 17 = .ok (.getfield 7, 3) := by decide +kernel
theorem dX10_book_20 : decode cX10_book 20 = .ok (.sipush 384, 3) := by decide +kernel
theorem dX10_book_23 : decode cX10_book 23 = .ok (.iaload, 1) := by decide +kernel
theorem dX10_book_24 : decode cX10_book 24 = .ok (.iconst 1, 1) := by decide +kernel
theorem dX10_book_25 : decode cX10_book 25 = .ok (.isub, 1) := by decide +kernel
theorem dX10_book_26 : decode cX10_book 26 = .ok (.invokestatic 70, 3) := by decide +kernel
theorem dX10_book_29 : decode cX10_book 29 = .ok (.ifCond .eq 29, 3) := by decide +kernel
theorem dX10_book_32 : decode cX10_book 32 = .ok (.iload_n 2, 1) := by decide +kernel
theorem dX10_book_33 : decode cX10_book 33 = .ok (.iconst 0, 1) := by decide +kernel
theorem dX10_book_34 : decode cX10_book 34 = .ok (.iconst 2, 1) := by decide +kernel
theorem dX10_book_35 : decode cX10_book 35 = .ok (.invokestatic 70, 3) := by decide +kernel
theorem dX10_book_38 : decode cX10_book 38 = .ok (.ifCond .eq 20, 3) := by decide +kernel
theorem dX10_book_41 : decode cX10_book 41 = .ok (.aload_n 0, 1) := by decide +kernel
theorem dX10_book_42 : decode cX10_book 42 = .ok (.getfield 7, 3) := by decide +kernel
theorem dX10_book_45 : decode cX10_book 45 = .ok (.sipush 336, 3) := by decide +kernel
theorem dX10_book_48 : decode cX10_book 48 = .ok (.iconst 3, 1) := by decide +kernel
theorem dX10_book_49 : decode cX10_book 49 = .ok (.iload_n 1, 1) := by decide +kernel
theorem dX10_book_50 : decode cX10_book 50 = .ok (.imul, 1) := by decide +kernel
theorem dX10_book_51 : decode cX10_book 51 = .ok (.iadd, 1) := by decide +kernel
theorem dX10_book_52 : decode cX10_book 52 = .ok (.iload_n 2, 1) := by decide +kernel
theorem dX10_book_53 : decode cX10_book 53 = .ok (.iadd, 1) := by decide +kernel
theorem dX10_book_54 : decode cX10_book 54 = .ok (.iaload, 1) := by decide +kernel
theorem dX10_book_55 : decode cX10_book 55 = .ok (.goto 5, 3) := by decide +kernel
theorem dX10_book_58 : decode cX10_book 58 = .ok (.bipush (-2), 2) := by decide +kernel
theorem dX10_book_60 : decode cX10_book 60 = .ok (.ireturn, 1) := by decide +kernel
theorem dX10_turned_0 : decode cX10_turned 0 = .ok (.aload_n 0, 1) := by decide +kernel
theorem dX10_turned_1 : decode cX10_turned 1 = .ok (.iload_n 1, 1) := by decide +kernel
theorem dX10_turned_2 : decode cX10_turned 2 = .ok (.invokevirtual 237, 3) := by decide +kernel
theorem dX10_turned_5 : decode cX10_turned 5 = .ok (.ifCond .eq 16, 3) := by decide +kernel
theorem dX10_turned_8 : decode cX10_turned 8 = .ok (.aload_n 0, 1) := by decide +kernel
theorem dX10_turned_9 : decode cX10_turned 9 = .ok (.getfield 7, 3) := by decide +kernel
theorem dX10_turned_12 : decode cX10_turned 12 = .ok (.sipush 385, 3) := by decide +kernel
theorem dX10_turned_15 : decode cX10_turned 15 = .ok (.iload_n 1, 1) := by decide +kernel
theorem dX10_turned_16 : decode cX10_turned 16 = .ok (.iadd, 1) := by decide +kernel
theorem dX10_turned_17 : decode cX10_turned 17 = .ok (.iaload, 1) := by decide +kernel
theorem dX10_turned_18 : decode cX10_turned 18 = .ok (.goto 4, 3) := by decide +kernel
theorem dX10_turned_21 : decode cX10_turned 21 = .ok (.iconst (-1), 1) := by decide +kernel
theorem dX10_turned_22 : decode cX10_turned 22 = .ok (.ireturn, 1) := by decide +kernel
theorem dX10_restless_0 : decode cX10_restless 0 = .ok (.iconst (-1), 1) := by decide +kernel
theorem dX10_restless_1 : decode cX10_restless 1 = .ok (.istore_n 1, 1) := by decide +kernel
theorem dX10_restless_2 : decode cX10_restless 2 = .ok (.iconst 0, 1) := by decide +kernel
theorem dX10_restless_3 : decode cX10_restless 3 = .ok (.istore_n 2, 1) := by decide +kernel
theorem dX10_restless_4 : decode cX10_restless 4 = .ok (.iload_n 2, 1) := by decide +kernel
theorem dX10_restless_5 : decode cX10_restless 5 = .ok (.aload_n 0, 1) := by decide +kernel
theorem dX10_restless_6 : decode cX10_restless 6 = .ok (.invokevirtual 66, 3) := by decide +kernel
theorem dX10_restless_9 : decode cX10_restless 9 = .ok (.if_icmp .ge 43, 3) := by decide +kernel
theorem dX10_restless_12 : decode cX10_restless 12 = .ok (.aload_n 0, 1) := by decide +kernel
theorem dX10_restless_13 : decode cX10_restless 13 = .ok (.getfield 7, 3) := by decide +kernel
theorem dX10_restless_16 : decode cX10_restless 16 = .ok (.sipush 385, 3) := by decide +kernel
theorem dX10_restless_19 : decode cX10_restless 19 = .ok (.iload_n 2, 1) := by decide +kernel
theorem dX10_restless_20 : decode cX10_restless 20 = .ok (.iadd, 1) := by decide +kernel
theorem dX10_restless_21 : decode cX10_restless 21 = .ok (.iaload, 1) := by decide +kernel
theorem dX10_restless_22 : decode cX10_restless 22 = .ok (.iload_n 1, 1) := by decide +kernel
theorem dX10_restless_23 : decode cX10_restless 23 = .ok (.iconst (-1), 1) := by decide +kernel
theorem dX10_restless_24 : decode cX10_restless 24 = .ok (.if_icmp .ne 7, 3) := by decide +kernel
theorem dX10_restless_27 : decode cX10_restless 27 = .ok (.iconst 0, 1) := by decide +kernel
theorem dX10_restless_28 : decode cX10_restless 28 = .ok (.goto 13, 3) := by decide +kernel
theorem dX10_restless_31 : decode cX10_restless 31 = .ok (.aload_n 0, 1) := by decide +kernel
theorem dX10_restless_32 : decode cX10_restless 32 = .ok (.getfield 7, 3) := by decide +kernel
theorem dX10_restless_35 : decode cX10_restless 35 = .ok (.sipush 385, 3) := by decide +kernel
theorem dX10_restless_38 : decode cX10_restless 38 = .ok (.iload_n 1, 1) := by decide +kernel
theorem dX10_restless_39 : decode cX10_restless 39 = .ok (.iadd, 1) := by decide +kernel
theorem dX10_restless_40 : decode cX10_restless 40 = .ok (.iaload, 1) := by decide +kernel
theorem dX10_restless_41 : decode cX10_restless 41 = .ok (.if_icmp .le 5, 3) := by decide +kernel
theorem dX10_restless_44 : decode cX10_restless 44 = .ok (.iload_n 2, 1) := by decide +kernel
theorem dX10_restless_45 : decode cX10_restless 45 = .ok (.istore_n 1, 1) := by decide +kernel
theorem dX10_restless_46 : decode cX10_restless 46 = .ok (.iinc 2 1, 3) := by decide +kernel
theorem dX10_restless_49 : decode cX10_restless 49 = .ok (.goto (-45), 3) := by decide +kernel
theorem dX10_restless_52 : decode cX10_restless 52 = .ok (.iload_n 1, 1) := by decide +kernel
theorem dX10_restless_53 : decode cX10_restless 53 = .ok (.ireturn, 1) := by decide +kernel
theorem dX10_ringBy_0 : decode cX10_ringBy 0 = .ok (.aload_n 0, 1) := by decide +kernel
theorem dX10_ringBy_1 : decode cX10_ringBy 1 = .ok (.iload_n 1, 1) := by decide +kernel
theorem dX10_ringBy_2 : decode cX10_ringBy 2 = .ok (.invokevirtual 83, 3) := by decide +kernel
theorem dX10_ringBy_5 : decode cX10_ringBy 5 = .ok (.lconst 1, 1) := by decide +kernel
theorem dX10_ringBy_6 : decode cX10_ringBy 6 = .ok (.iload_n 2, 1) := by decide +kernel
theorem dX10_ringBy_7 : decode cX10_ringBy 7 = .ok (.lshl, 1) := by decide +kernel
theorem dX10_ringBy_8 : decode cX10_ringBy 8 = .ok (.ldc2_w 255, 3) := by decide +kernel
theorem dX10_ringBy_11 : decode cX10_ringBy 11 = .ok (.lxor, 1) := by decide +kernel
theorem dX10_ringBy_12 : decode cX10_ringBy 12 = .ok (.land, 1) := by decide +kernel
theorem dX10_ringBy_13 : decode cX10_ringBy 13 = .ok (.lstore_n 3, 1) := by decide +kernel
theorem dX10_ringBy_14 : decode cX10_ringBy 14 = .ok (.lconst 1, 1) := by decide +kernel
theorem dX10_ringBy_15 : decode cX10_ringBy 15 = .ok (.iload_n 1, 1) := by decide +kernel
theorem dX10_ringBy_16 : decode cX10_ringBy 16 = .ok (.lshl, 1) := by decide +kernel
theorem dX10_ringBy_17 : decode cX10_ringBy 17 = .ok (.lstore 5, 2) := by decide +kernel
theorem dX10_ringBy_19 : decode cX10_ringBy 19 = .ok (.iconst 2, 1) := by decide +kernel
theorem dX10_ringBy_20 : decode cX10_ringBy 20 = .ok (.istore 7, 2) := by decide +kernel
theorem dX10_ringBy_22 : decode cX10_ringBy 22 = .ok (.iconst 1, 1) := by decide +kernel
theorem dX10_ringBy_23 : decode cX10_ringBy 23 = .ok (.istore 8, 2) := by decide +kernel
theorem dX10_ringBy_25 : decode cX10_ringBy 25 = .ok (.iload 8, 2) := by decide +kernel
theorem dX10_ringBy_27 : decode cX10_ringBy 27 = .ok (.ifCond .eq 97, 3) := by decide +kernel
theorem dX10_ringBy_30 : decode cX10_ringBy 30 = .ok (.iconst 0, 1) := by decide +kernel
theorem dX10_ringBy_31 : decode cX10_ringBy 31 = .ok (.istore 8, 2) := by decide +kernel
theorem dX10_ringBy_33 : decode cX10_ringBy 33 = .ok (.iinc 7 2, 3) := by decide +kernel
theorem dX10_ringBy_36 : decode cX10_ringBy 36 = .ok (.lload_n 3, 1) := by decide +kernel
theorem dX10_ringBy_37 : decode cX10_ringBy 37 = .ok (.lstore 9, 2) := by decide +kernel
theorem dX10_ringBy_39 : decode cX10_ringBy 39 = .ok (.iconst 0, 1) := by decide +kernel
theorem dX10_ringBy_40 : decode cX10_ringBy 40 = .ok (.istore 11, 2) := by decide +kernel
theorem dX10_ringBy_42 : decode cX10_ringBy 42 = .ok (.iload 11, 2) := by decide +kernel
theorem dX10_ringBy_44 : decode cX10_ringBy 44 = .ok (.aload_n 0, 1) := by decide +kernel
theorem dX10_ringBy_45 : decode cX10_ringBy 45 = .ok (.invokevirtual 74, 3) := by decide +kernel
theorem dX10_ringBy_48 : decode cX10_ringBy 48 = .ok (.if_icmp .ge 58, 3) := by decide +kernel
theorem dX10_ringBy_51 : decode cX10_ringBy 51 = .ok (.lload 5, 2) := by decide +kernel
theorem dX10_ringBy_53 : decode cX10_ringBy 53 = .ok (.iload 11, 2) := by decide +kernel
theorem dX10_ringBy_55 : decode cX10_ringBy 55 = .ok (.invokestatic 62, 3) := by decide +kernel
theorem dX10_ringBy_58 : decode cX10_ringBy 58 = .ok (.ifCond .ne 42, 3) := by decide +kernel
theorem dX10_ringBy_61 : decode cX10_ringBy 61 = .ok (.aload_n 0, 1) := by decide +kernel
theorem dX10_ringBy_62 : decode cX10_ringBy 62 = .ok (.iload 11, 2) := by decide +kernel
theorem dX10_ringBy_64 : decode cX10_ringBy 64 = .ok (.invokevirtual 83, 3) := by decide +kernel
theorem dX10_ringBy_67 : decode cX10_ringBy 67 = .ok (.lload_n 3, 1) := by decide +kernel
theorem dX10_ringBy_68 : decode cX10_ringBy 68 = .ok (.land, 1) := by decide +kernel
theorem dX10_ringBy_69 : decode cX10_ringBy 69 = .ok (.lconst 0, 1) := by decide +kernel
theorem dX10_ringBy_70 : decode cX10_ringBy 70 = .ok (.lcmp, 1) := by decide +kernel
theorem dX10_ringBy_71 : decode cX10_ringBy 71 = .ok (.ifCond .ne 6, 3) := by decide +kernel
theorem dX10_ringBy_74 : decode cX10_ringBy 74 = .ok (.goto 26, 3) := by decide +kernel
theorem dX10_ringBy_77 : decode cX10_ringBy 77 = .ok (.lload 5, 2) := by decide +kernel
theorem dX10_ringBy_79 : decode cX10_ringBy 79 = .ok (.lconst 1, 1) := by decide +kernel
theorem dX10_ringBy_80 : decode cX10_ringBy 80 = .ok (.iload 11, 2) := by decide +kernel
theorem dX10_ringBy_82 : decode cX10_ringBy 82 = .ok (.lshl, 1) := by decide +kernel
theorem dX10_ringBy_83 : decode cX10_ringBy 83 = .ok (.lor, 1) := by decide +kernel
theorem dX10_ringBy_84 : decode cX10_ringBy 84 = .ok (.lstore 5, 2) := by decide +kernel
theorem dX10_ringBy_86 : decode cX10_ringBy 86 = .ok (.lload 9, 2) := by decide +kernel
theorem dX10_ringBy_88 : decode cX10_ringBy 88 = .ok (.aload_n 0, 1) := by decide +kernel
theorem dX10_ringBy_89 : decode cX10_ringBy 89 = .ok (.iload 11, 2) := by decide +kernel
theorem dX10_ringBy_91 : decode cX10_ringBy 91 = .ok (.invokevirtual 83, 3) := by decide +kernel
theorem dX10_ringBy_94 : decode cX10_ringBy 94 = .ok (.lor, 1) := by decide +kernel
theorem dX10_ringBy_95 : decode cX10_ringBy 95 = .ok (.lstore 9, 2) := by decide +kernel
theorem dX10_ringBy_97 : decode cX10_ringBy 97 = .ok (.iconst 1, 1) := by decide +kernel
theorem dX10_ringBy_98 : decode cX10_ringBy 98 = .ok (.istore 8, 2) := by decide +kernel
theorem dX10_ringBy_100 : decode cX10_ringBy 100 = .ok (.iinc 11 1, 3) := by decide +kernel
theorem dX10_ringBy_103 : decode cX10_ringBy 103 = .ok (.goto (-61), 3) := by decide +kernel
theorem dX10_ringBy_106 : decode cX10_ringBy 106 = .ok (.lload 9, 2) := by decide +kernel
theorem dX10_ringBy_108 : decode cX10_ringBy 108 = .ok (.iload_n 2, 1) := by decide +kernel
theorem dX10_ringBy_109 : decode cX10_ringBy 109 = .ok (.invokestatic 62, 3) := by decide +kernel
theorem dX10_ringBy_112 : decode cX10_ringBy 112 = .ok (.ifCond .eq 6, 3) := by decide +kernel
theorem dX10_ringBy_115 : decode cX10_ringBy 115 = .ok (.iload 7, 2) := by decide +kernel
theorem dX10_ringBy_117 : decode cX10_ringBy 117 = .ok (.ireturn, 1) := by decide +kernel
theorem dX10_ringBy_118 : decode cX10_ringBy 118 = .ok (.lload 9, 2) := by decide +kernel
theorem dX10_ringBy_120 : decode cX10_ringBy 120 = .ok (.lstore_n 3, 1) := by decide +kernel
theorem dX10_ringBy_121 : decode cX10_ringBy 121 = .ok (.goto (-96), 3) := by decide +kernel
theorem dX10_ringBy_124 : decode cX10_ringBy 124 = .ok (.iconst (-1), 1) := by decide +kernel
theorem dX10_ringBy_125 : decode cX10_ringBy 125 = .ok (.ireturn, 1) := by decide +kernel
theorem dX10_girth_0 : decode cX10_girth 0 = .ok (.iconst (-1), 1) := by decide +kernel
theorem dX10_girth_1 : decode cX10_girth 1 = .ok (.istore_n 1, 1) := by decide +kernel
theorem dX10_girth_2 : decode cX10_girth 2 = .ok (.iconst 0, 1) := by decide +kernel
theorem dX10_girth_3 : decode cX10_girth 3 = .ok (.istore_n 2, 1) := by decide +kernel
theorem dX10_girth_4 : decode cX10_girth 4 = .ok (.iload_n 2, 1) := by decide +kernel
theorem dX10_girth_5 : decode cX10_girth 5 = .ok (.aload_n 0, 1) := by decide +kernel
theorem dX10_girth_6 : decode cX10_girth 6 = .ok (.invokevirtual 74, 3) := by decide +kernel
theorem dX10_girth_9 : decode cX10_girth 9 = .ok (.if_icmp .ge 74, 3) := by decide +kernel
theorem dX10_girth_12 : decode cX10_girth 12 = .ok (.iconst 0, 1) := by decide +kernel
theorem dX10_girth_13 : decode cX10_girth 13 = .ok (.istore_n 3, 1) := by decide +kernel
theorem dX10_girth_14 : decode cX10_girth 14 = .ok (.iload_n 3, 1) := by decide +kernel
theorem dX10_girth_15 : decode cX10_girth 15 = .ok (.aload_n 0, 1) := by decide +kernel
theorem dX10_girth_16 : decode cX10_girth 16 = .ok (.getfield 7, 3) := by decide +kernel
theorem dX10_girth_19 : decode cX10_girth 19 = .ok (.iconst 5, 1) := by decide +kernel
theorem dX10_girth_20 : decode cX10_girth 20 = .ok (.iaload, 1) := by decide +kernel
theorem dX10_girth_21 : decode cX10_girth 21 = .ok (.if_icmp .ge 56, 3) := by decide +kernel
theorem dX10_girth_24 : decode cX10_girth 24 = .ok (.aload_n 0, 1) := by decide +kernel
theorem dX10_girth_25 : decode cX10_girth 25 = .ok (.iload_n 2, 1) := by decide +kernel
theorem dX10_girth_26 : decode cX10_girth 26 = .ok (.iload_n 3, 1) := by decide +kernel
theorem dX10_girth_27 : decode cX10_girth 27 = .ok (.invokevirtual 77, 3) := by decide +kernel
theorem dX10_girth_30 : decode cX10_girth 30 = .ok (.iconst (-1), 1) := by decide +kernel
theorem dX10_girth_31 : decode cX10_girth 31 = .ok (.if_icmp .ne 7, 3) := by decide +kernel
theorem dX10_girth_34 : decode cX10_girth 34 = .ok (.iconst (-1), 1) := by decide +kernel
theorem dX10_girth_35 : decode cX10_girth 35 = .ok (.goto 14, 3) := by decide +kernel
theorem dX10_girth_38 : decode cX10_girth 38 = .ok (.aload_n 0, 1) := by decide +kernel
theorem dX10_girth_39 : decode cX10_girth 39 = .ok (.iload_n 2, 1) := by decide +kernel
theorem dX10_girth_40 : decode cX10_girth 40 = .ok (.aload_n 0, 1) := by decide +kernel
theorem dX10_girth_41 : decode cX10_girth 41 = .ok (.iload_n 2, 1) := by decide +kernel
theorem dX10_girth_42 : decode cX10_girth 42 = .ok (.iload_n 3, 1) := by decide +kernel
theorem dX10_girth_43 : decode cX10_girth 43 = .ok (.invokevirtual 77, 3) := by decide +kernel
theorem dX10_girth_46 : decode cX10_girth 46 = .ok (.invokevirtual 257, 3) := by decide +kernel
theorem dX10_girth_49 : decode cX10_girth 49 = .ok (.istore 4, 2) := by decide +kernel
theorem dX10_girth_51 : decode cX10_girth 51 = .ok (.iload 4, 2) := by decide +kernel
theorem dX10_girth_53 : decode cX10_girth 53 = .ok (.iconst (-1), 1) := by decide +kernel
theorem dX10_girth_54 : decode cX10_girth 54 = .ok (.if_icmp .eq 17, 3) := by decide +kernel
theorem dX10_girth_57 : decode cX10_girth 57 = .ok (.iload_n 1, 1) := by decide +kernel
theorem dX10_girth_58 : decode cX10_girth 58 = .ok (.iconst (-1), 1) := by decide +kernel
theorem dX10_girth_59 : decode cX10_girth 59 = .ok (.if_icmp .eq 9, 3) := by decide +kernel
theorem dX10_girth_62 : decode cX10_girth 62 = .ok (.iload 4, 2) := by decide +kernel
theorem dX10_girth_64 : decode cX10_girth 64 = .ok (.iload_n 1, 1) := by decide +kernel
theorem dX10_girth_65 : decode cX10_girth 65 = .ok (.if_icmp .ge 6, 3) := by decide +kernel
theorem dX10_girth_68 : decode cX10_girth 68 = .ok (.iload 4, 2) := by decide +kernel
theorem dX10_girth_70 : decode cX10_girth 70 = .ok (.istore_n 1, 1) := by decide +kernel
theorem dX10_girth_71 : decode cX10_girth 71 = .ok (.iinc 3 1, 3) := by decide +kernel
theorem dX10_girth_74 : decode cX10_girth 74 = .ok (.goto (-60), 3) := by decide +kernel
theorem dX10_girth_77 : decode cX10_girth 77 = .ok (.iinc 2 1, 3) := by decide +kernel
theorem dX10_girth_80 : decode cX10_girth 80 = .ok (.goto (-76), 3) := by decide +kernel
theorem dX10_girth_83 : decode cX10_girth 83 = .ok (.iload_n 1, 1) := by decide +kernel
theorem dX10_girth_84 : decode cX10_girth 84 = .ok (.ireturn, 1) := by decide +kernel
theorem dX10_bothOf_0 : decode cX10_bothOf 0 = .ok (.aload_n 0, 1) := by decide +kernel
theorem dX10_bothOf_1 : decode cX10_bothOf 1 = .ok (.iload_n 1, 1) := by decide +kernel
theorem dX10_bothOf_2 : decode cX10_bothOf 2 = .ok (.invokevirtual 83, 3) := by decide +kernel
theorem dX10_bothOf_5 : decode cX10_bothOf 5 = .ok (.aload_n 0, 1) := by decide +kernel
theorem dX10_bothOf_6 : decode cX10_bothOf 6 = .ok (.iload_n 2, 1) := by decide +kernel
theorem dX10_bothOf_7 : decode cX10_bothOf 7 = .ok (.invokevirtual 83, 3) := by decide +kernel
theorem dX10_bothOf_10 : decode cX10_bothOf 10 = .ok (.land, 1) := by decide +kernel
theorem dX10_bothOf_11 : decode cX10_bothOf 11 = .ok (.invokestatic 87, 3) := by decide +kernel
theorem dX10_bothOf_14 : decode cX10_bothOf 14 = .ok (.ireturn, 1) := by decide +kernel
theorem dX10_both_0 : decode cX10_both 0 = .ok (.aload_n 0, 1) := by decide +kernel
theorem dX10_both_1 : decode cX10_both 1 = .ok (.iload_n 1, 1) := by decide +kernel
theorem dX10_both_2 : decode cX10_both 2 = .ok (.invokevirtual 249, 3) := by decide +kernel
theorem dX10_both_5 : decode cX10_both 5 = .ok (.ifCond .eq 11, 3) := by decide +kernel
theorem dX10_both_8 : decode cX10_both 8 = .ok (.aload_n 0, 1) := by decide +kernel
theorem dX10_both_9 : decode cX10_both 9 = .ok (.iload_n 2, 1) := by decide +kernel
theorem dX10_both_10 : decode cX10_both 10 = .ok (.invokevirtual 249, 3) := by decide +kernel
theorem dX10_both_13 : decode cX10_both 13 = .ok (.ifCond .ne 5, 3) := by decide +kernel
theorem dX10_both_16 : decode cX10_both 16 = .ok (.iconst (-1), 1) := by decide +kernel
theorem dX10_both_17 : decode cX10_both 17 = .ok (.ireturn, 1) := by decide +kernel
theorem dX10_both_18 : decode cX10_both 18 = .ok (.aload_n 0, 1) := by decide +kernel
theorem dX10_both_19 : decode cX10_both 19 = .ok (.iload_n 1, 1) := by decide +kernel
theorem dX10_both_20 : decode cX10_both 20 = .ok (.iload_n 2, 1) := by decide +kernel
theorem dX10_both_21 : decode cX10_both 21 = .ok (.invokevirtual 260, 3) := by decide +kernel
theorem dX10_both_24 : decode cX10_both 24 = .ok (.ireturn, 1) := by decide +kernel
theorem dX10_loose_0 : decode cX10_loose 0 = .ok (.lconst 0, 1) := by decide +kernel
theorem dX10_loose_1 : decode cX10_loose 1 = .ok (.lstore_n 1, 1) := by decide +kernel
theorem dX10_loose_2 : decode cX10_loose 2 = .ok (.iconst 0, 1) := by decide +kernel
theorem dX10_loose_3 : decode cX10_loose 3 = .ok (.istore_n 3, 1) := by decide +kernel
theorem dX10_loose_4 : decode cX10_loose 4 = .ok (.iload_n 3, 1) := by decide +kernel
theorem dX10_loose_5 : decode cX10_loose 5 = .ok (.aload_n 0, 1) := by decide +kernel
theorem dX10_loose_6 : decode cX10_loose 6 = .ok (.invokevirtual 66, 3) := by decide +kernel
theorem dX10_loose_9 : decode cX10_loose 9 = .ok (.if_icmp .ge 23, 3) := by decide +kernel
theorem dX10_loose_12 : decode cX10_loose 12 = .ok (.aload_n 0, 1) := by decide +kernel
theorem dX10_loose_13 : decode cX10_loose 13 = .ok (.iload_n 3, 1) := by decide +kernel
theorem dX10_loose_14 : decode cX10_loose 14 = .ok (.invokevirtual 263, 3) := by decide +kernel
theorem dX10_loose_17 : decode cX10_loose 17 = .ok (.ifCond .ne 9, 3) := by decide +kernel
theorem dX10_loose_20 : decode cX10_loose 20 = .ok (.lload_n 1, 1) := by decide +kernel
theorem dX10_loose_21 : decode cX10_loose 21 = .ok (.lconst 1, 1) := by decide +kernel
theorem dX10_loose_22 : decode cX10_loose 22 = .ok (.iload_n 3, 1) := by decide +kernel
theorem dX10_loose_23 : decode cX10_loose 23 = .ok (.lshl, 1) := by decide +kernel
theorem dX10_loose_24 : decode cX10_loose 24 = .ok (.lor, 1) := by decide +kernel
theorem dX10_loose_25 : decode cX10_loose 25 = .ok (.lstore_n 1, 1) := by decide +kernel
theorem dX10_loose_26 : decode cX10_loose 26 = .ok (.iinc 3 1, 3) := by decide +kernel
theorem dX10_loose_29 : decode cX10_loose 29 = .ok (.goto (-25), 3) := by decide +kernel
theorem dX10_loose_32 : decode cX10_loose 32 = .ok (.lload_n 1, 1) := by decide +kernel
theorem dX10_loose_33 : decode cX10_loose 33 = .ok (.lreturn, 1) := by decide +kernel
theorem dX10_fours_0 : decode cX10_fours 0 = .ok (.iconst 0, 1) := by decide +kernel
theorem dX10_fours_1 : decode cX10_fours 1 = .ok (.istore_n 1, 1) := by decide +kernel
theorem dX10_fours_2 : decode cX10_fours 2 = .ok (.iconst 0, 1) := by decide +kernel
theorem dX10_fours_3 : decode cX10_fours 3 = .ok (.istore_n 2, 1) := by decide +kernel
theorem dX10_fours_4 : decode cX10_fours 4 = .ok (.iload_n 2, 1) := by decide +kernel
theorem dX10_fours_5 : decode cX10_fours 5 = .ok (.aload_n 0, 1) := by decide +kernel
theorem dX10_fours_6 : decode cX10_fours 6 = .ok (.invokevirtual 74, 3) := by decide +kernel
theorem dX10_fours_9 : decode cX10_fours 9 = .ok (.if_icmp .ge 42, 3) := by decide +kernel
theorem dX10_fours_12 : decode cX10_fours 12 = .ok (.iconst 0, 1) := by decide +kernel
theorem dX10_fours_13 : decode cX10_fours 13 = .ok (.istore_n 3, 1) := by decide +kernel
theorem dX10_fours_14 : decode cX10_fours 14 = .ok (.iload_n 3, 1) := by decide +kernel
theorem dX10_fours_15 : decode cX10_fours 15 = .ok (.iload_n 2, 1) := by decide +kernel
theorem dX10_fours_16 : decode cX10_fours 16 = .ok (.if_icmp .ge 29, 3) := by decide +kernel
theorem dX10_fours_19 : decode cX10_fours 19 = .ok (.aload_n 0, 1) := by decide +kernel
theorem dX10_fours_20 : decode cX10_fours 20 = .ok (.iload_n 2, 1) := by decide +kernel
theorem dX10_fours_21 : decode cX10_fours 21 = .ok (.iload_n 3, 1) := by decide +kernel
theorem dX10_fours_22 : decode cX10_fours 22 = .ok (.invokevirtual 260, 3) := by decide +kernel
theorem dX10_fours_25 : decode cX10_fours 25 = .ok (.istore 4, 2) := by decide +kernel
theorem dX10_fours_27 : decode cX10_fours 27 = .ok (.iload_n 1, 1) := by decide +kernel
theorem dX10_fours_28 : decode cX10_fours 28 = .ok (.iload 4, 2) := by decide +kernel
theorem dX10_fours_30 : decode cX10_fours 30 = .ok (.iload 4, 2) := by decide +kernel
theorem dX10_fours_32 : decode cX10_fours 32 = .ok (.iconst 1, 1) := by decide +kernel
theorem dX10_fours_33 : decode cX10_fours 33 = .ok (.isub, 1) := by decide +kernel
theorem dX10_fours_34 : decode cX10_fours 34 = .ok (.imul, 1) := by decide +kernel
theorem dX10_fours_35 : decode cX10_fours 35 = .ok (.iconst 2, 1) := by decide +kernel
theorem dX10_fours_36 : decode cX10_fours 36 = .ok (.idiv, 1) := by decide +kernel
theorem dX10_fours_37 : decode cX10_fours 37 = .ok (.iadd, 1) := by decide +kernel
theorem dX10_fours_38 : decode cX10_fours 38 = .ok (.istore_n 1, 1) := by decide +kernel
theorem dX10_fours_39 : decode cX10_fours 39 = .ok (.iinc 3 1, 3) := by decide +kernel
theorem dX10_fours_42 : decode cX10_fours 42 = .ok (.goto (-28), 3) := by decide +kernel
theorem dX10_fours_45 : decode cX10_fours 45 = .ok (.iinc 2 1, 3) := by decide +kernel
theorem dX10_fours_48 : decode cX10_fours 48 = .ok (.goto (-44), 3) := by decide +kernel
theorem dX10_fours_51 : decode cX10_fours 51 = .ok (.iload_n 1, 1) := by decide +kernel
theorem dX10_fours_52 : decode cX10_fours 52 = .ok (.ireturn, 1) := by decide +kernel
theorem dX10_sixesBy_0 : decode cX10_sixesBy 0 = .ok (.iconst 0, 1) := by decide +kernel
theorem dX10_sixesBy_1 : decode cX10_sixesBy 1 = .ok (.istore 7, 2) := by decide +kernel
theorem dX10_sixesBy_3 : decode cX10_sixesBy 3 = .ok (.lload_n 1, 1) := by decide +kernel
theorem dX10_sixesBy_4 : decode cX10_sixesBy 4 = .ok (.lload_n 3, 1) := by decide +kernel
theorem dX10_sixesBy_5 : decode cX10_sixesBy 5 = .ok (.land, 1) := by decide +kernel
theorem dX10_sixesBy_6 : decode cX10_sixesBy 6 = .ok (.lstore 8, 2) := by decide +kernel
theorem dX10_sixesBy_8 : decode cX10_sixesBy 8 = .ok (.lload 8, 2) := by decide +kernel
theorem dX10_sixesBy_10 : decode cX10_sixesBy 10 = .ok (.lconst 0, 1) := by decide +kernel
theorem dX10_sixesBy_11 : decode cX10_sixesBy 11 = .ok (.lcmp, 1) := by decide +kernel
theorem dX10_sixesBy_12 : decode cX10_sixesBy 12 = .ok (.ifCond .eq 85, 3) := by decide +kernel
theorem dX10_sixesBy_15 : decode cX10_sixesBy 15 = .ok (.lload 8, 2) := by decide +kernel
theorem dX10_sixesBy_17 : decode cX10_sixesBy 17 = .ok (.lload 8, 2) := by decide +kernel
theorem dX10_sixesBy_19 : decode cX10_sixesBy 19 = .ok (.lneg, 1) := by decide +kernel
theorem dX10_sixesBy_20 : decode cX10_sixesBy 20 = .ok (.land, 1) := by decide +kernel
theorem dX10_sixesBy_21 : decode cX10_sixesBy 21 = .ok (.lstore 10, 2) := by decide +kernel
theorem dX10_sixesBy_23 : decode cX10_sixesBy 23 = .ok (.lload_n 3, 1) := by decide +kernel
theorem dX10_sixesBy_24 : decode cX10_sixesBy 24 = .ok (.lload 5, 2) := by decide +kernel
theorem dX10_sixesBy_26 : decode cX10_sixesBy 26 = .ok (.land, 1) := by decide +kernel
theorem dX10_sixesBy_27 : decode cX10_sixesBy 27 = .ok (.lload 10, 2) := by decide +kernel
theorem dX10_sixesBy_29 : decode cX10_sixesBy 29 = .ok (.ldc2_w 255, 3) := by decide +kernel
theorem dX10_sixesBy_32 : decode cX10_sixesBy 32 = .ok (.lxor, 1) := by decide +kernel
theorem dX10_sixesBy_33 : decode cX10_sixesBy 33 = .ok (.land, 1) := by decide +kernel
theorem dX10_sixesBy_34 : decode cX10_sixesBy 34 = .ok (.lstore 12, 2) := by decide +kernel
theorem dX10_sixesBy_36 : decode cX10_sixesBy 36 = .ok (.lload 12, 2) := by decide +kernel
theorem dX10_sixesBy_38 : decode cX10_sixesBy 38 = .ok (.lconst 0, 1) := by decide +kernel
theorem dX10_sixesBy_39 : decode cX10_sixesBy 39 = .ok (.lcmp, 1) := by decide +kernel
theorem dX10_sixesBy_40 : decode cX10_sixesBy 40 = .ok (.ifCond .eq 45, 3) := by decide +kernel
theorem dX10_sixesBy_43 : decode cX10_sixesBy 43 = .ok (.iload 7, 2) := by decide +kernel
theorem dX10_sixesBy_45 : decode cX10_sixesBy 45 = .ok (.lload 5, 2) := by decide +kernel
theorem dX10_sixesBy_47 : decode cX10_sixesBy 47 = .ok (.lload_n 1, 1) := by decide +kernel
theorem dX10_sixesBy_48 : decode cX10_sixesBy 48 = .ok (.land, 1) := by decide +kernel
theorem dX10_sixesBy_49 : decode cX10_sixesBy 49 = .ok (.lload 10, 2) := by decide +kernel
theorem dX10_sixesBy_51 : decode cX10_sixesBy 51 = .ok (.ldc2_w 255, 3) := by decide +kernel
theorem dX10_sixesBy_54 : decode cX10_sixesBy 54 = .ok (.lxor, 1) := by decide +kernel
theorem dX10_sixesBy_55 : decode cX10_sixesBy 55 = .ok (.land, 1) := by decide +kernel
theorem dX10_sixesBy_56 : decode cX10_sixesBy 56 = .ok (.lload 12, 2) := by decide +kernel
theorem dX10_sixesBy_58 : decode cX10_sixesBy 58 = .ok (.lload 12, 2) := by decide +kernel
theorem dX10_sixesBy_60 : decode cX10_sixesBy 60 = .ok (.lneg, 1) := by decide +kernel
theorem dX10_sixesBy_61 : decode cX10_sixesBy 61 = .ok (.land, 1) := by decide +kernel
theorem dX10_sixesBy_62 : decode cX10_sixesBy 62 = .ok (.ldc2_w 255, 3) := by decide +kernel
theorem dX10_sixesBy_65 : decode cX10_sixesBy 65 = .ok (.lxor, 1) := by decide +kernel
theorem dX10_sixesBy_66 : decode cX10_sixesBy 66 = .ok (.land, 1) := by decide +kernel
theorem dX10_sixesBy_67 : decode cX10_sixesBy 67 = .ok (.invokestatic 87, 3) := by decide +kernel
theorem dX10_sixesBy_70 : decode cX10_sixesBy 70 = .ok (.iadd, 1) := by decide +kernel
theorem dX10_sixesBy_71 : decode cX10_sixesBy 71 = .ok (.istore 7, 2) := by decide +kernel
theorem dX10_sixesBy_73 : decode cX10_sixesBy 73 = .ok (.lload 12, 2) := by decide +kernel
theorem dX10_sixesBy_75 : decode cX10_sixesBy 75 = .ok (.lload 12, 2) := by decide +kernel
theorem dX10_sixesBy_77 : decode cX10_sixesBy 77 = .ok (.lconst 1, 1) := by decide +kernel
theorem dX10_sixesBy_78 : decode cX10_sixesBy 78 = .ok (.lsub, 1) := by decide +kernel
theorem dX10_sixesBy_79 : decode cX10_sixesBy 79 = .ok (.land, 1) := by decide +kernel
theorem dX10_sixesBy_80 : decode cX10_sixesBy 80 = .ok (.lstore 12, 2) := by decide +kernel
theorem dX10_sixesBy_82 : decode cX10_sixesBy 82 = .ok (.goto (-46), 3) := by decide +kernel
theorem dX10_sixesBy_85 : decode cX10_sixesBy 85 = .ok (.lload 8, 2) := by decide +kernel
theorem dX10_sixesBy_87 : decode cX10_sixesBy 87 = .ok (.lload 8, 2) := by decide +kernel
theorem dX10_sixesBy_89 : decode cX10_sixesBy 89 = .ok (.lconst 1, 1) := by decide +kernel
theorem dX10_sixesBy_90 : decode cX10_sixesBy 90 = .ok (.lsub, 1) := by decide +kernel
theorem dX10_sixesBy_91 : decode cX10_sixesBy 91 = .ok (.land, 1) := by decide +kernel
theorem dX10_sixesBy_92 : decode cX10_sixesBy 92 = .ok (.lstore 8, 2) := by decide +kernel
theorem dX10_sixesBy_94 : decode cX10_sixesBy 94 = .ok (.goto (-86), 3) := by decide +kernel
theorem dX10_sixesBy_97 : decode cX10_sixesBy 97 = .ok (.iload 7, 2) := by decide +kernel
theorem dX10_sixesBy_99 : decode cX10_sixesBy 99 = .ok (.ireturn, 1) := by decide +kernel
theorem dX10_sixes_0 : decode cX10_sixes 0 = .ok (.iconst 0, 1) := by decide +kernel
theorem dX10_sixes_1 : decode cX10_sixes 1 = .ok (.istore_n 1, 1) := by decide +kernel
theorem dX10_sixes_2 : decode cX10_sixes 2 = .ok (.iconst 0, 1) := by decide +kernel
theorem dX10_sixes_3 : decode cX10_sixes 3 = .ok (.istore_n 2, 1) := by decide +kernel
theorem dX10_sixes_4 : decode cX10_sixes 4 = .ok (.iload_n 2, 1) := by decide +kernel
theorem dX10_sixes_5 : decode cX10_sixes 5 = .ok (.aload_n 0, 1) := by decide +kernel
theorem dX10_sixes_6 : decode cX10_sixes 6 = .ok (.invokevirtual 74, 3) := by decide +kernel
theorem dX10_sixes_9 : decode cX10_sixes 9 = .ok (.if_icmp .ge 60, 3) := by decide +kernel
theorem dX10_sixes_12 : decode cX10_sixes 12 = .ok (.iconst 0, 1) := by decide +kernel
theorem dX10_sixes_13 : decode cX10_sixes 13 = .ok (.istore_n 3, 1) := by decide +kernel
theorem dX10_sixes_14 : decode cX10_sixes 14 = .ok (.iload_n 3, 1) := by decide +kernel
theorem dX10_sixes_15 : decode cX10_sixes 15 = .ok (.iload_n 2, 1) := by decide +kernel
theorem dX10_sixes_16 : decode cX10_sixes 16 = .ok (.if_icmp .ge 47, 3) := by decide +kernel
theorem dX10_sixes_19 : decode cX10_sixes 19 = .ok (.iconst 0, 1) := by decide +kernel
theorem dX10_sixes_20 : decode cX10_sixes 20 = .ok (.istore 4, 2) := by decide +kernel
theorem dX10_sixes_22 : decode cX10_sixes 22 = .ok (.iload 4, 2) := by decide +kernel
theorem dX10_sixes_24 : decode cX10_sixes 24 = .ok (.iload_n 3, 1) := by decide +kernel
theorem dX10_sixes_25 : decode cX10_sixes 25 = .ok (.if_icmp .ge 32, 3) := by decide +kernel
theorem dX10_sixes_28 : decode cX10_sixes 28 = .ok (.iload_n 1, 1) := by decide +kernel
theorem dX10_sixes_29 : decode cX10_sixes 29 = .ok (.aload_n 0, 1) := by decide +kernel
theorem dX10_sixes_30 : decode cX10_sixes 30 = .ok (.aload_n 0, 1) := by decide +kernel
theorem dX10_sixes_31 : decode cX10_sixes 31 = .ok (.iload_n 2, 1) := by decide +kernel
theorem dX10_sixes_32 : decode cX10_sixes 32 = .ok (.invokevirtual 83, 3) := by decide +kernel
theorem dX10_sixes_35 : decode cX10_sixes 35 = .ok (.aload_n 0, 1) := by decide +kernel
theorem dX10_sixes_36 : decode cX10_sixes 36 = .ok (.iload_n 3, 1) := by decide +kernel
theorem dX10_sixes_37 : decode cX10_sixes 37 = .ok (.invokevirtual 83, 3) := by decide +kernel
theorem dX10_sixes_40 : decode cX10_sixes 40 = .ok (.aload_n 0, 1) := by decide +kernel
theorem dX10_sixes_41 : decode cX10_sixes 41 = .ok (.iload 4, 2) := by decide +kernel
theorem dX10_sixes_43 : decode cX10_sixes 43 = .ok (.invokevirtual 83, 3) := by decide +kernel
theorem dX10_sixes_46 : decode cX10_sixes 46 = .ok (.invokevirtual 266, 3) := by decide +kernel
theorem dX10_sixes_49 : decode cX10_sixes 49 = .ok (.iadd, 1) := by decide +kernel
theorem dX10_sixes_50 : decode cX10_sixes 50 = .ok (.istore_n 1, 1) := by decide +kernel
theorem dX10_sixes_51 : decode cX10_sixes 51 = .ok (.iinc 4 1, 3) := by decide +kernel
theorem dX10_sixes_54 : decode cX10_sixes 54 = .ok (.goto (-32), 3) := by decide +kernel
theorem dX10_sixes_57 : decode cX10_sixes 57 = .ok (.iinc 3 1, 3) := by decide +kernel
theorem dX10_sixes_60 : decode cX10_sixes 60 = .ok (.goto (-46), 3) := by decide +kernel
theorem dX10_sixes_63 : decode cX10_sixes 63 = .ok (.iinc 2 1, 3) := by decide +kernel
theorem dX10_sixes_66 : decode cX10_sixes 66 = .ok (.goto (-62), 3) := by decide +kernel
theorem dX10_sixes_69 : decode cX10_sixes 69 = .ok (.iload_n 1, 1) := by decide +kernel
theorem dX10_sixes_70 : decode cX10_sixes 70 = .ok (.ireturn, 1) := by decide +kernel
theorem dX10_beside_0 : decode cX10_beside 0 = .ok (.lload_n 1, 1) := by decide +kernel
theorem dX10_beside_1 : decode cX10_beside 1 = .ok (.lstore_n 3, 1) := by decide +kernel
theorem dX10_beside_2 : decode cX10_beside 2 = .ok (.iconst 0, 1) := by decide +kernel
theorem dX10_beside_3 : decode cX10_beside 3 = .ok (.istore 5, 2) := by decide +kernel
theorem dX10_beside_5 : decode cX10_beside 5 = .ok (.iload 5, 2) := by decide +kernel
theorem dX10_beside_7 : decode cX10_beside 7 = .ok (.aload_n 0, 1) := by decide +kernel
theorem dX10_beside_8 : decode cX10_beside 8 = .ok (.invokevirtual 74, 3) := by decide +kernel
theorem dX10_beside_11 : decode cX10_beside 11 = .ok (.if_icmp .ge 31, 3) := by decide +kernel
theorem dX10_beside_14 : decode cX10_beside 14 = .ok (.aload_n 0, 1) := by decide +kernel
theorem dX10_beside_15 : decode cX10_beside 15 = .ok (.iload 5, 2) := by decide +kernel
theorem dX10_beside_17 : decode cX10_beside 17 = .ok (.invokevirtual 83, 3) := by decide +kernel
theorem dX10_beside_20 : decode cX10_beside 20 = .ok (.lload_n 1, 1) := by decide +kernel
theorem dX10_beside_21 : decode cX10_beside 21 = .ok (.land, 1) := by decide +kernel
theorem dX10_beside_22 : decode cX10_beside 22 = .ok (.lconst 0, 1) := by decide +kernel
theorem dX10_beside_23 : decode cX10_beside 23 = .ok (.lcmp, 1) := by decide +kernel
theorem dX10_beside_24 : decode cX10_beside 24 = .ok (.ifCond .eq 12, 3) := by decide +kernel
theorem dX10_beside_27 : decode cX10_beside 27 = .ok (.lload_n 3, 1) := by decide +kernel
theorem dX10_beside_28 : decode cX10_beside 28 = .ok (.aload_n 0, 1) := by decide +kernel
theorem dX10_beside_29 : decode cX10_beside 29 = .ok (.iload 5, 2) := by decide +kernel
theorem dX10_beside_31 : decode cX10_beside 31 = .ok (.invokevirtual 83, 3) := by decide +kernel
theorem dX10_beside_34 : decode cX10_beside 34 = .ok (.lor, 1) := by decide +kernel
theorem dX10_beside_35 : decode cX10_beside 35 = .ok (.lstore_n 3, 1) := by decide +kernel
theorem dX10_beside_36 : decode cX10_beside 36 = .ok (.iinc 5 1, 3) := by decide +kernel
theorem dX10_beside_39 : decode cX10_beside 39 = .ok (.goto (-34), 3) := by decide +kernel
theorem dX10_beside_42 : decode cX10_beside 42 = .ok (.lload_n 3, 1) := by decide +kernel
theorem dX10_beside_43 : decode cX10_beside 43 = .ok (.lreturn, 1) := by decide +kernel
theorem dX10_path_0 : decode cX10_path 0 = .ok (.aload_n 0, 1) := by decide +kernel
theorem dX10_path_1 : decode cX10_path 1 = .ok (.iload_n 1, 1) := by decide +kernel
theorem dX10_path_2 : decode cX10_path 2 = .ok (.invokevirtual 237, 3) := by decide +kernel
theorem dX10_path_5 : decode cX10_path 5 = .ok (.ifCond .eq 11, 3) := by decide +kernel
theorem dX10_path_8 : decode cX10_path 8 = .ok (.aload_n 0, 1) := by decide +kernel
theorem dX10_path_9 : decode cX10_path 9 = .ok (.iload_n 2, 1) := by decide +kernel
theorem dX10_path_10 : decode cX10_path 10 = .ok (.invokevirtual 237, 3) := by decide +kernel
theorem dX10_path_13 : decode cX10_path 13 = .ok (.ifCond .ne 5, 3) := by decide +kernel
theorem dX10_path_16 : decode cX10_path 16 = .ok (.iconst (-1), 1) := by decide +kernel
theorem dX10_path_17 : decode cX10_path 17 = .ok (.ireturn, 1) := by decide +kernel
theorem dX10_path_18 : decode cX10_path 18 = .ok (.lconst 1, 1) := by decide +kernel
theorem dX10_path_19 : decode cX10_path 19 = .ok (.iload_n 1, 1) := by decide +kernel
theorem dX10_path_20 : decode cX10_path 20 = .ok (.lshl, 1) := by decide +kernel
theorem dX10_path_21 : decode cX10_path 21 = .ok (.lstore_n 3, 1) := by decide +kernel
theorem dX10_path_22 : decode cX10_path 22 = .ok (.iconst 0, 1) := by decide +kernel
theorem dX10_path_23 : decode cX10_path 23 = .ok (.istore 5, 2) := by decide +kernel
theorem dX10_path_25 : decode cX10_path 25 = .ok (.lload_n 3, 1) := by decide +kernel
theorem dX10_path_26 : decode cX10_path 26 = .ok (.iload_n 2, 1) := by decide +kernel
theorem dX10_path_27 : decode cX10_path 27 = .ok (.invokestatic 62, 3) := by decide +kernel
theorem dX10_path_30 : decode cX10_path 30 = .ok (.ifCond .ne 28, 3) := by decide +kernel
theorem dX10_path_33 : decode cX10_path 33 = .ok (.aload_n 0, 1) := by decide +kernel
theorem dX10_path_34 : decode cX10_path 34 = .ok (.lload_n 3, 1) := by decide +kernel
theorem dX10_path_35 : decode cX10_path 35 = .ok (.invokevirtual 270, 3) := by decide +kernel
theorem dX10_path_38 : decode cX10_path 38 = .ok (.lstore 6, 2) := by decide +kernel
theorem dX10_path_40 : decode cX10_path 40 = .ok (.lload 6, 2) := by decide +kernel
theorem dX10_path_42 : decode cX10_path 42 = .ok (.lload_n 3, 1) := by decide +kernel
theorem dX10_path_43 : decode cX10_path 43 = .ok (.lcmp, 1) := by decide +kernel
theorem dX10_path_44 : decode cX10_path 44 = .ok (.ifCond .ne 5, 3) := by decide +kernel
theorem dX10_path_47 : decode cX10_path 47 = .ok (.iconst (-1), 1) := by decide +kernel
theorem dX10_path_48 : decode cX10_path 48 = .ok (.ireturn, 1) := by decide +kernel
theorem dX10_path_49 : decode cX10_path 49 = .ok (.lload 6, 2) := by decide +kernel
theorem dX10_path_51 : decode cX10_path 51 = .ok (.lstore_n 3, 1) := by decide +kernel
theorem dX10_path_52 : decode cX10_path 52 = .ok (.iinc 5 1, 3) := by decide +kernel
theorem dX10_path_55 : decode cX10_path 55 = .ok (.goto (-30), 3) := by decide +kernel
theorem dX10_path_58 : decode cX10_path 58 = .ok (.iload 5, 2) := by decide +kernel
theorem dX10_path_60 : decode cX10_path 60 = .ok (.ireturn, 1) := by decide +kernel
theorem dX10_pieces_0 : decode cX10_pieces 0 = .ok (.iconst 0, 1) := by decide +kernel
theorem dX10_pieces_1 : decode cX10_pieces 1 = .ok (.istore_n 1, 1) := by decide +kernel
theorem dX10_pieces_2 : decode cX10_pieces 2 = .ok (.lconst 1, 1) := by decide +kernel
theorem dX10_pieces_3 : decode cX10_pieces 3 = .ok (.aload_n 0, 1) := by decide +kernel
theorem dX10_pieces_4 : decode cX10_pieces 4 = .ok (.invokevirtual 66, 3) := by decide +kernel
theorem dX10_pieces_7 : decode cX10_pieces 7 = .ok (.lshl, 1) := by decide +kernel
theorem dX10_pieces_8 : decode cX10_pieces 8 = .ok (.lconst 1, 1) := by decide +kernel
theorem dX10_pieces_9 : decode cX10_pieces 9 = .ok (.lsub, 1) := by decide +kernel
theorem dX10_pieces_10 : decode cX10_pieces 10 = .ok (.lstore_n 2, 1) := by decide +kernel
theorem dX10_pieces_11 : decode cX10_pieces 11 = .ok (.lload_n 2, 1) := by decide +kernel
theorem dX10_pieces_12 : decode cX10_pieces 12 = .ok (.lconst 0, 1) := by decide +kernel
theorem dX10_pieces_13 : decode cX10_pieces 13 = .ok (.lcmp, 1) := by decide +kernel
theorem dX10_pieces_14 : decode cX10_pieces 14 = .ok (.ifCond .eq 55, 3) := by decide +kernel
theorem dX10_pieces_17 : decode cX10_pieces 17 = .ok (.lload_n 2, 1) := by decide +kernel
theorem dX10_pieces_18 : decode cX10_pieces 18 = .ok (.lload_n 2, 1) := by decide +kernel
theorem dX10_pieces_19 : decode cX10_pieces 19 = .ok (.lneg, 1) := by decide +kernel
theorem dX10_pieces_20 : decode cX10_pieces 20 = .ok (.land, 1) := by decide +kernel
theorem dX10_pieces_21 : decode cX10_pieces 21 = .ok (.lstore 4, 2) := by decide +kernel
theorem dX10_pieces_23 : decode cX10_pieces 23 = .ok (.aload_n 0, 1) := by decide +kernel
theorem dX10_pieces_24 : decode cX10_pieces 24 = .ok (.lload 4, 2) := by decide +kernel
theorem dX10_pieces_26 : decode cX10_pieces 26 = .ok (.invokevirtual 270, 3) := by decide +kernel
theorem dX10_pieces_29 : decode cX10_pieces 29 = .ok (.lstore 6, 2) := by decide +kernel
theorem dX10_pieces_31 : decode cX10_pieces 31 = .ok (.lload 6, 2) := by decide +kernel
theorem dX10_pieces_33 : decode cX10_pieces 33 = .ok (.lload 4, 2) := by decide +kernel
theorem dX10_pieces_35 : decode cX10_pieces 35 = .ok (.lcmp, 1) := by decide +kernel
theorem dX10_pieces_36 : decode cX10_pieces 36 = .ok (.ifCond .eq 18, 3) := by decide +kernel
theorem dX10_pieces_39 : decode cX10_pieces 39 = .ok (.lload 6, 2) := by decide +kernel
theorem dX10_pieces_41 : decode cX10_pieces 41 = .ok (.lstore 4, 2) := by decide +kernel
theorem dX10_pieces_43 : decode cX10_pieces 43 = .ok (.aload_n 0, 1) := by decide +kernel
theorem dX10_pieces_44 : decode cX10_pieces 44 = .ok (.lload 4, 2) := by decide +kernel
theorem dX10_pieces_46 : decode cX10_pieces 46 = .ok (.invokevirtual 270, 3) := by decide +kernel
theorem dX10_pieces_49 : decode cX10_pieces 49 = .ok (.lstore 6, 2) := by decide +kernel
theorem dX10_pieces_51 : decode cX10_pieces 51 = .ok (.goto (-20), 3) := by decide +kernel
theorem dX10_pieces_54 : decode cX10_pieces 54 = .ok (.lload_n 2, 1) := by decide +kernel
theorem dX10_pieces_55 : decode cX10_pieces 55 = .ok (.lload 4, 2) := by decide +kernel
theorem dX10_pieces_57 : decode cX10_pieces 57 = .ok (.ldc2_w 255, 3) := by decide +kernel
theorem dX10_pieces_60 : decode cX10_pieces 60 = .ok (.lxor, 1) := by decide +kernel
theorem dX10_pieces_61 : decode cX10_pieces 61 = .ok (.land, 1) := by decide +kernel
theorem dX10_pieces_62 : decode cX10_pieces 62 = .ok (.lstore_n 2, 1) := by decide +kernel
theorem dX10_pieces_63 : decode cX10_pieces 63 = .ok (.iinc 1 1, 3) := by decide +kernel
theorem dX10_pieces_66 : decode cX10_pieces 66 = .ok (.goto (-55), 3) := by decide +kernel
theorem dX10_pieces_69 : decode cX10_pieces 69 = .ok (.iload_n 1, 1) := by decide +kernel
theorem dX10_pieces_70 : decode cX10_pieces 70 = .ok (.ireturn, 1) := by decide +kernel
theorem dX10_isSet_0 : decode cX10_isSet 0 = .ok (.lload_n 1, 1) := by decide +kernel
theorem dX10_isSet_1 : decode cX10_isSet 1 = .ok (.lconst 0, 1) := by decide +kernel
theorem dX10_isSet_2 : decode cX10_isSet 2 = .ok (.lcmp, 1) := by decide +kernel
theorem dX10_isSet_3 : decode cX10_isSet 3 = .ok (.ifCond .lt 18, 3) := by decide +kernel
theorem dX10_isSet_6 : decode cX10_isSet 6 = .ok (.lload_n 1, 1) := by decide +kernel
theorem dX10_isSet_7 : decode cX10_isSet 7 = .ok (.aload_n 0, 1) := by decide +kernel
theorem dX10_isSet_8 : decode cX10_isSet 8 = .ok (.invokevirtual 66, 3) := by decide +kernel
theorem dX10_isSet_11 : decode cX10_isSet 11 = .ok (.lshr, 1) := by decide +kernel
theorem dX10_isSet_12 : decode cX10_isSet 12 = .ok (.lconst 0, 1) := by decide +kernel
theorem dX10_isSet_13 : decode cX10_isSet 13 = .ok (.lcmp, 1) := by decide +kernel
theorem dX10_isSet_14 : decode cX10_isSet 14 = .ok (.ifCond .ne 7, 3) := by decide +kernel
theorem dX10_isSet_17 : decode cX10_isSet 17 = .ok (.iconst 1, 1) := by decide +kernel
theorem dX10_isSet_18 : decode cX10_isSet 18 = .ok (.goto 4, 3) := by decide +kernel
theorem dX10_isSet_21 : decode cX10_isSet 21 = .ok (.iconst 0, 1) := by decide +kernel
theorem dX10_isSet_22 : decode cX10_isSet 22 = .ok (.ireturn, 1) := by decide +kernel
theorem dX10_odds_0 : decode cX10_odds 0 = .ok (.aload_n 0, 1) := by decide +kernel
theorem dX10_odds_1 : decode cX10_odds 1 = .ok (.lload_n 1, 1) := by decide +kernel
theorem dX10_odds_2 : decode cX10_odds 2 = .ok (.invokevirtual 273, 3) := by decide +kernel
theorem dX10_odds_5 : decode cX10_odds 5 = .ok (.ifCond .eq 11, 3) := by decide +kernel
theorem dX10_odds_8 : decode cX10_odds 8 = .ok (.aload_n 0, 1) := by decide +kernel
theorem dX10_odds_9 : decode cX10_odds 9 = .ok (.lload_n 1, 1) := by decide +kernel
theorem dX10_odds_10 : decode cX10_odds 10 = .ok (.invokevirtual 160, 3) := by decide +kernel
theorem dX10_odds_13 : decode cX10_odds 13 = .ok (.goto 4, 3) := by decide +kernel
theorem dX10_odds_16 : decode cX10_odds 16 = .ok (.iconst (-1), 1) := by decide +kernel
theorem dX10_odds_17 : decode cX10_odds 17 = .ok (.ireturn, 1) := by decide +kernel
theorem dX10_laySets_0 : decode cX10_laySets 0 = .ok (.iconst 0, 1) := by decide +kernel
theorem dX10_laySets_1 : decode cX10_laySets 1 = .ok (.istore_n 1, 1) := by decide +kernel
theorem dX10_laySets_2 : decode cX10_laySets 2 = .ok (.iload_n 1, 1) := by decide +kernel
theorem dX10_laySets_3 : decode cX10_laySets 3 = .ok (.aload_n 0, 1) := by decide +kernel
theorem dX10_laySets_4 : decode cX10_laySets 4 = .ok (.invokevirtual 66, 3) := by decide +kernel
theorem dX10_laySets_7 : decode cX10_laySets 7 = .ok (.if_icmp .ge 16, 3) := by decide +kernel
theorem dX10_laySets_10 : decode cX10_laySets 10 = .ok (.aload_n 0, 1) := by decide +kernel
theorem dX10_laySets_11 : decode cX10_laySets 11 = .ok (.getfield 45, 3) := by decide +kernel
theorem dX10_laySets_14 : decode cX10_laySets 14 = .ok (.iload_n 1, 1) := by decide +kernel
theorem dX10_laySets_15 : decode cX10_laySets 15 = .ok (.iconst 0, 1) := by decide +kernel
theorem dX10_laySets_16 : decode cX10_laySets 16 = .ok (.iastore, 1) := by decide +kernel
theorem dX10_laySets_17 : decode cX10_laySets 17 = .ok (.iinc 1 1, 3) := by decide +kernel
theorem dX10_laySets_20 : decode cX10_laySets 20 = .ok (.goto (-18), 3) := by decide +kernel
theorem dX10_laySets_23 : decode cX10_laySets 23 = .ok (.iconst 0, 1) := by decide +kernel
theorem dX10_laySets_24 : decode cX10_laySets 24 = .ok (.istore_n 1, 1) := by decide +kernel
theorem dX10_laySets_25 : decode cX10_laySets 25 = .ok (.iload_n 1, 1) := by decide +kernel
theorem dX10_laySets_26 : decode cX10_laySets 26 = .ok (.aload_n 0, 1) := by decide +kernel
theorem dX10_laySets_27 : decode cX10_laySets 27 = .ok (.invokevirtual 74, 3) := by decide +kernel
theorem dX10_laySets_30 : decode cX10_laySets 30 = .ok (.if_icmp .ge 57, 3) := by decide +kernel
theorem dX10_laySets_33 : decode cX10_laySets 33 = .ok (.aload_n 0, 1) := by decide +kernel
theorem dX10_laySets_34 : decode cX10_laySets 34 = .ok (.getfield 39, 3) := by decide +kernel
theorem dX10_laySets_37 : decode cX10_laySets 37 = .ok (.iload_n 1, 1) := by decide +kernel
theorem dX10_laySets_38 : decode cX10_laySets 38 = .ok (.aload_n 0, 1) := by decide +kernel
theorem dX10_laySets_39 : decode cX10_laySets 39 = .ok (.iload_n 1, 1) := by decide +kernel
theorem dX10_laySets_40 : decode cX10_laySets 40 = .ok (.invokevirtual 83, 3) := by decide +kernel
theorem dX10_laySets_43 : decode cX10_laySets 43 = .ok (.lastore, 1) := by decide +kernel
theorem dX10_laySets_44 : decode cX10_laySets 44 = .ok (.aload_n 0, 1) := by decide +kernel
theorem dX10_laySets_45 : decode cX10_laySets 45 = .ok (.getfield 39, 3) := by decide +kernel
theorem dX10_laySets_48 : decode cX10_laySets 48 = .ok (.iload_n 1, 1) := by decide +kernel
theorem dX10_laySets_49 : decode cX10_laySets 49 = .ok (.laload, 1) := by decide +kernel
theorem dX10_laySets_50 : decode cX10_laySets 50 = .ok (.lstore_n 2, 1) := by decide +kernel
theorem dX10_laySets_51 : decode cX10_laySets 51 = .ok (.lload_n 2, 1) := by decide +kernel
theorem dX10_laySets_52 : decode cX10_laySets 52 = .ok (.lconst 0, 1) := by decide +kernel
theorem dX10_laySets_53 : decode cX10_laySets 53 = .ok (.lcmp, 1) := by decide +kernel
theorem dX10_laySets_54 : decode cX10_laySets 54 = .ok (.ifCond .eq 27, 3) := by decide +kernel
theorem dX10_laySets_57 : decode cX10_laySets 57 = .ok (.aload_n 0, 1) := by decide +kernel
theorem dX10_laySets_58 : decode cX10_laySets 58 = .ok (.getfield 45, 3) := by decide +kernel
theorem dX10_laySets_61 : decode cX10_laySets 61 = .ok (.lload_n 2, 1) := by decide +kernel
theorem dX10_laySets_62 : decode cX10_laySets 62 = .ok (.invokestatic 224, 3) := by decide +kernel
theorem dX10_laySets_65 : decode cX10_laySets 65 = .ok (.dup2, 1) := by decide +kernel
theorem dX10_laySets_66 : decode cX10_laySets 66 = .ok (.iaload, 1) := by decide +kernel
theorem dX10_laySets_67 : decode cX10_laySets 67 = .ok (.iconst 1, 1) := by decide +kernel
theorem dX10_laySets_68 : decode cX10_laySets 68 = .ok (.iload_n 1, 1) := by decide +kernel
theorem dX10_laySets_69 : decode cX10_laySets 69 = .ok (.ishl, 1) := by decide +kernel
theorem dX10_laySets_70 : decode cX10_laySets 70 = .ok (.ior, 1) := by decide +kernel
theorem dX10_laySets_71 : decode cX10_laySets 71 = .ok (.iastore, 1) := by decide +kernel
theorem dX10_laySets_72 : decode cX10_laySets 72 = .ok (.lload_n 2, 1) := by decide +kernel
theorem dX10_laySets_73 : decode cX10_laySets 73 = .ok (.lload_n 2, 1) := by decide +kernel
theorem dX10_laySets_74 : decode cX10_laySets 74 = .ok (.lconst 1, 1) := by decide +kernel
theorem dX10_laySets_75 : decode cX10_laySets 75 = .ok (.lsub, 1) := by decide +kernel
theorem dX10_laySets_76 : decode cX10_laySets 76 = .ok (.land, 1) := by decide +kernel
theorem dX10_laySets_77 : decode cX10_laySets 77 = .ok (.lstore_n 2, 1) := by decide +kernel
theorem dX10_laySets_78 : decode cX10_laySets 78 = .ok (.goto (-27), 3) := by decide +kernel
theorem dX10_laySets_81 : decode cX10_laySets 81 = .ok (.iinc 1 1, 3) := by decide +kernel
theorem dX10_laySets_84 : decode cX10_laySets 84 = .ok (.goto (-59), 3) := by decide +kernel
theorem dX10_laySets_87 : decode cX10_laySets 87 = .ok (.return_, 1) := by decide +kernel
theorem dX10_isFirst_0 : decode cX10_isFirst 0 = .ok (.iconst 0, 1) := by decide +kernel
theorem dX10_isFirst_1 : decode cX10_isFirst 1 = .ok (.istore_n 2, 1) := by decide +kernel
theorem dX10_isFirst_2 : decode cX10_isFirst 2 = .ok (.iload_n 2, 1) := by decide +kernel
theorem dX10_isFirst_3 : decode cX10_isFirst 3 = .ok (.iload_n 1, 1) := by decide +kernel
theorem dX10_isFirst_4 : decode cX10_isFirst 4 = .ok (.if_icmp .ge 16, 3) := by decide +kernel
theorem dX10_isFirst_7 : decode cX10_isFirst 7 = .ok (.aload_n 0, 1) := by decide +kernel
theorem dX10_isFirst_8 : decode cX10_isFirst 8 = .ok (.getfield 42, 3) := by decide +kernel
theorem dX10_isFirst_11 : decode cX10_isFirst 11 = .ok (.iload_n 2, 1) := by decide +kernel
theorem dX10_isFirst_12 : decode cX10_isFirst 12 = .ok (.iload_n 2, 1) := by decide +kernel
theorem dX10_isFirst_13 : decode cX10_isFirst 13 = .ok (.iastore, 1) := by decide +kernel
theorem dX10_isFirst_14 : decode cX10_isFirst 14 = .ok (.iinc 2 1, 3) := by decide +kernel
theorem dX10_isFirst_17 : decode cX10_isFirst 17 = .ok (.goto (-15), 3) := by decide +kernel
theorem dX10_isFirst_20 : decode cX10_isFirst 20 = .ok (.iload_n 1, 1) := by decide +kernel
theorem dX10_isFirst_21 : decode cX10_isFirst 21 = .ok (.aload_n 0, 1) := by decide +kernel
theorem dX10_isFirst_22 : decode cX10_isFirst 22 = .ok (.invokevirtual 66, 3) := by decide +kernel
theorem dX10_isFirst_25 : decode cX10_isFirst 25 = .ok (.if_icmp .gt 7, 3) := by decide +kernel
theorem dX10_isFirst_28 : decode cX10_isFirst 28 = .ok (.iconst 1, 1) := by decide +kernel
theorem dX10_isFirst_29 : decode cX10_isFirst 29 = .ok (.goto 4, 3) := by decide +kernel
theorem dX10_isFirst_32 : decode cX10_isFirst 32 = .ok (.iconst 0, 1) := by decide +kernel
theorem dX10_isFirst_33 : decode cX10_isFirst 33 = .ok (.ireturn, 1) := by decide +kernel
theorem dX10_isNext_0 : decode cX10_isNext 0 = .ok (.iload_n 1, 1) := by decide +kernel
theorem dX10_isNext_1 : decode cX10_isNext 1 = .ok (.iconst 1, 1) := by decide +kernel
theorem dX10_isNext_2 : decode cX10_isNext 2 = .ok (.isub, 1) := by decide +kernel
theorem dX10_isNext_3 : decode cX10_isNext 3 = .ok (.istore_n 2, 1) := by decide +kernel
theorem dX10_isNext_4 : decode cX10_isNext 4 = .ok (.iload_n 2, 1) := by decide +kernel
theorem dX10_isNext_5 : decode cX10_isNext 5 = .ok (.ifCond .lt 26, 3) := by decide +kernel
theorem dX10_isNext_8 : decode cX10_isNext 8 = .ok (.aload_n 0, 1) := by decide +kernel
theorem dX10_isNext_9 : decode cX10_isNext 9 = .ok (.getfield 42, 3) := by decide +kernel
theorem dX10_isNext_12 : decode cX10_isNext 12 = .ok (.iload_n 2, 1) := by decide +kernel
theorem dX10_isNext_13 : decode cX10_isNext 13 = .ok (.iaload, 1) := by decide +kernel
theorem dX10_isNext_14 : decode cX10_isNext 14 = .ok (.aload_n 0, 1) := by decide +kernel
theorem dX10_isNext_15 : decode cX10_isNext 15 = .ok (.invokevirtual 66, 3) := by decide +kernel
theorem dX10_isNext_18 : decode cX10_isNext 18 = .ok (.iload_n 1, 1) := by decide +kernel
theorem dX10_isNext_19 : decode cX10_isNext 19 = .ok (.isub, 1) := by decide +kernel
theorem dX10_isNext_20 : decode cX10_isNext 20 = .ok (.iload_n 2, 1) := by decide +kernel
theorem dX10_isNext_21 : decode cX10_isNext 21 = .ok (.iadd, 1) := by decide +kernel
theorem dX10_isNext_22 : decode cX10_isNext 22 = .ok (.if_icmp .ne 9, 3) := by decide +kernel
theorem dX10_isNext_25 : decode cX10_isNext 25 = .ok (.iinc 2 (-1), 3) := by decide +kernel
theorem dX10_isNext_28 : decode cX10_isNext 28 = .ok (.goto (-24), 3) := by decide +kernel
theorem dX10_isNext_31 : decode cX10_isNext 31 = .ok (.iload_n 2, 1) := by decide +kernel
theorem dX10_isNext_32 : decode cX10_isNext 32 = .ok (.ifCond .ge 5, 3) := by decide +kernel
theorem dX10_isNext_35 : decode cX10_isNext 35 = .ok (.iconst 0, 1) := by decide +kernel
theorem dX10_isNext_36 : decode cX10_isNext 36 = .ok (.ireturn, 1) := by decide +kernel
theorem dX10_isNext_37 : decode cX10_isNext 37 = .ok (.aload_n 0, 1) := by decide +kernel
theorem dX10_isNext_38 : decode cX10_isNext 38 = .ok (.getfield 42, 3) := by decide +kernel
theorem dX10_isNext_41 : decode cX10_isNext 41 = .ok (.iload_n 2, 1) := by decide +kernel
theorem dX10_isNext_42 : decode cX10_isNext 42 = .ok (.dup2, 1) := by decide +kernel
theorem dX10_isNext_43 : decode cX10_isNext 43 = .ok (.iaload, 1) := by decide +kernel
theorem dX10_isNext_44 : decode cX10_isNext 44 = .ok (.iconst 1, 1) := by decide +kernel
theorem dX10_isNext_45 : decode cX10_isNext 45 = .ok (.iadd, 1) := by decide +kernel
theorem dX10_isNext_46 : decode cX10_isNext 46 = .ok (.iastore, 1) := by decide +kernel
theorem dX10_isNext_47 : decode cX10_isNext 47 = .ok (.iload_n 2, 1) := by decide +kernel
theorem dX10_isNext_48 : decode cX10_isNext 48 = .ok (.iconst 1, 1) := by decide +kernel
theorem dX10_isNext_49 : decode cX10_isNext 49 = .ok (.iadd, 1) := by decide +kernel
theorem dX10_isNext_50 : decode cX10_isNext 50 = .ok (.istore_n 3, 1) := by decide +kernel
theorem dX10_isNext_51 : decode cX10_isNext 51 = .ok (.iload_n 3, 1) := by decide +kernel
theorem dX10_isNext_52 : decode cX10_isNext 52 = .ok (.iload_n 1, 1) := by decide +kernel
theorem dX10_isNext_53 : decode cX10_isNext 53 = .ok (.if_icmp .ge 25, 3) := by decide +kernel
theorem dX10_isNext_56 : decode cX10_isNext 56 = .ok (.aload_n 0, 1) := by decide +kernel
theorem dX10_isNext_57 : decode cX10_isNext 57 = .ok (.getfield 42, 3) := by decide +kernel
theorem dX10_isNext_60 : decode cX10_isNext 60 = .ok (.iload_n 3, 1) := by decide +kernel
theorem dX10_isNext_61 : decode cX10_isNext 61 = .ok (.aload_n 0, 1) := by decide +kernel
theorem dX10_isNext_62 : decode cX10_isNext 62 = .ok (.getfield 42, 3) := by decide +kernel
theorem dX10_isNext_65 : decode cX10_isNext 65 = .ok (.iload_n 3, 1) := by decide +kernel
theorem dX10_isNext_66 : decode cX10_isNext 66 = .ok (.iconst 1, 1) := by decide +kernel
theorem dX10_isNext_67 : decode cX10_isNext 67 = .ok (.isub, 1) := by decide +kernel
theorem dX10_isNext_68 : decode cX10_isNext 68 = .ok (.iaload, 1) := by decide +kernel
theorem dX10_isNext_69 : decode cX10_isNext 69 = .ok (.iconst 1, 1) := by decide +kernel
theorem dX10_isNext_70 : decode cX10_isNext 70 = .ok (.iadd, 1) := by decide +kernel
theorem dX10_isNext_71 : decode cX10_isNext 71 = .ok (.iastore, 1) := by decide +kernel
theorem dX10_isNext_72 : decode cX10_isNext 72 = .ok (.iinc 3 1, 3) := by decide +kernel
theorem dX10_isNext_75 : decode cX10_isNext 75 = .ok (.goto (-24), 3) := by decide +kernel
theorem dX10_isNext_78 : decode cX10_isNext 78 = .ok (.iconst 1, 1) := by decide +kernel
theorem dX10_isNext_79 : decode cX10_isNext 79 = .ok (.ireturn, 1) := by decide +kernel
theorem dX10_pickedSet_0 : decode cX10_pickedSet 0 = .ok (.lconst 0, 1) := by decide +kernel
theorem dX10_pickedSet_1 : decode cX10_pickedSet 1 = .ok (.lstore_n 2, 1) := by decide +kernel
theorem dX10_pickedSet_2 : decode cX10_pickedSet 2 = .ok (.iconst 0, 1) := by decide +kernel
theorem dX10_pickedSet_3 : decode cX10_pickedSet 3 = .ok (.istore 4, 2) := by decide +kernel
theorem dX10_pickedSet_5 : decode cX10_pickedSet 5 = .ok (.iload 4, 2) := by decide +kernel
theorem dX10_pickedSet_7 : decode cX10_pickedSet 7 = .ok (.iload_n 1, 1) := by decide +kernel
theorem dX10_pickedSet_8 : decode cX10_pickedSet 8 = .ok (.if_icmp .ge 21, 3) := by decide +kernel
theorem dX10_pickedSet_11 : decode cX10_pickedSet 11 = .ok (.lload_n 2, 1) := by decide +kernel
theorem dX10_pickedSet_12 : decode cX10_pickedSet 12 = .ok (.lconst 1, 1) := by decide +kernel
theorem dX10_pickedSet_13 : decode cX10_pickedSet 13 = .ok (.aload_n 0, 1) := by decide +kernel
theorem dX10_pickedSet_14 : decode cX10_pickedSet 14 = .ok (.getfield 42, 3) := by decide +kernel
theorem dX10_pickedSet_17 : decode cX10_pickedSet 17 = .ok (.iload 4, 2) := by decide +kernel
theorem dX10_pickedSet_19 : decode cX10_pickedSet 19 = .ok (.iaload, 1) := by decide +kernel
theorem dX10_pickedSet_20 : decode cX10_pickedSet 20 = .ok (.lshl, 1) := by decide +kernel
theorem dX10_pickedSet_21 : decode cX10_pickedSet 21 = .ok (.lor, 1) := by decide +kernel
theorem dX10_pickedSet_22 : decode cX10_pickedSet 22 = .ok (.lstore_n 2, 1) := by decide +kernel
theorem dX10_pickedSet_23 : decode cX10_pickedSet 23 = .ok (.iinc 4 1, 3) := by decide +kernel
theorem dX10_pickedSet_26 : decode cX10_pickedSet 26 = .ok (.goto (-21), 3) := by decide +kernel
theorem dX10_pickedSet_29 : decode cX10_pickedSet 29 = .ok (.lload_n 2, 1) := by decide +kernel
theorem dX10_pickedSet_30 : decode cX10_pickedSet 30 = .ok (.lreturn, 1) := by decide +kernel
theorem dX10_isKnot_0 : decode cX10_isKnot 0 = .ok (.iconst 0, 1) := by decide +kernel
theorem dX10_isKnot_1 : decode cX10_isKnot 1 = .ok (.istore_n 3, 1) := by decide +kernel
theorem dX10_isKnot_2 : decode cX10_isKnot 2 = .ok (.lload_n 1, 1) := by decide +kernel
theorem dX10_isKnot_3 : decode cX10_isKnot 3 = .ok (.lstore 4, 2) := by decide +kernel
theorem dX10_isKnot_5 : decode cX10_isKnot 5 = .ok (.lload 4, 2) := by decide +kernel
theorem dX10_isKnot_7 : decode cX10_isKnot 7 = .ok (.lconst 0, 1) := by decide +kernel
theorem dX10_isKnot_8 : decode cX10_isKnot 8 = .ok (.lcmp, 1) := by decide +kernel
theorem dX10_isKnot_9 : decode cX10_isKnot 9 = .ok (.ifCond .eq 28, 3) := by decide +kernel
theorem dX10_isKnot_12 : decode cX10_isKnot 12 = .ok (.iload_n 3, 1) := by decide +kernel
theorem dX10_isKnot_13 : decode cX10_isKnot 13 = .ok (.aload_n 0, 1) := by decide +kernel
theorem dX10_isKnot_14 : decode cX10_isKnot 14 = .ok (.getfield 45, 3) := by decide +kernel
theorem dX10_isKnot_17 : decode cX10_isKnot 17 = .ok (.lload 4, 2) := by decide +kernel
theorem dX10_isKnot_19 : decode cX10_isKnot 19 = .ok (.invokestatic 224, 3) := by decide +kernel
theorem dX10_isKnot_22 : decode cX10_isKnot 22 = .ok (.iaload, 1) := by decide +kernel
theorem dX10_isKnot_23 : decode cX10_isKnot 23 = .ok (.ixor, 1) := by decide +kernel
theorem dX10_isKnot_24 : decode cX10_isKnot 24 = .ok (.istore_n 3, 1) := by decide +kernel
theorem dX10_isKnot_25 : decode cX10_isKnot 25 = .ok (.lload 4, 2) := by decide +kernel
theorem dX10_isKnot_27 : decode cX10_isKnot 27 = .ok (.lload 4, 2) := by decide +kernel
theorem dX10_isKnot_29 : decode cX10_isKnot 29 = .ok (.lconst 1, 1) := by decide +kernel
theorem dX10_isKnot_30 : decode cX10_isKnot 30 = .ok (.lsub, 1) := by decide +kernel
theorem dX10_isKnot_31 : decode cX10_isKnot 31 = .ok (.land, 1) := by decide +kernel
theorem dX10_isKnot_32 : decode cX10_isKnot 32 = .ok (.lstore 4, 2) := by decide +kernel
theorem dX10_isKnot_34 : decode cX10_isKnot 34 = .ok (.goto (-29), 3) := by decide +kernel
theorem dX10_isKnot_37 : decode cX10_isKnot 37 = .ok (.lload_n 1, 1) := by decide +kernel
theorem dX10_isKnot_38 : decode cX10_isKnot 38 = .ok (.lstore 4, 2) := by decide +kernel
theorem dX10_isKnot_40 : decode cX10_isKnot 40 = .ok (.lload 4, 2) := by decide +kernel
theorem dX10_isKnot_42 : decode cX10_isKnot 42 = .ok (.lconst 0, 1) := by decide +kernel
theorem dX10_isKnot_43 : decode cX10_isKnot 43 = .ok (.lcmp, 1) := by decide +kernel
theorem dX10_isKnot_44 : decode cX10_isKnot 44 = .ok (.ifCond .eq 48, 3) := by decide +kernel
theorem dX10_isKnot_47 : decode cX10_isKnot 47 = .ok (.aload_n 0, 1) := by decide +kernel
theorem dX10_isKnot_48 : decode cX10_isKnot 48 = .ok (.getfield 45, 3) := by decide +kernel
theorem dX10_isKnot_51 : decode cX10_isKnot 51 = .ok (.lload 4, 2) := by decide +kernel
theorem dX10_isKnot_53 : decode cX10_isKnot 53 = .ok (.invokestatic 224, 3) := by decide +kernel
theorem dX10_isKnot_56 : decode cX10_isKnot 56 = .ok (.iaload, 1) := by decide +kernel
theorem dX10_isKnot_57 : decode cX10_isKnot 57 = .ok (.istore 6, 2) := by decide +kernel
theorem dX10_isKnot_59 : decode cX10_isKnot 59 = .ok (.iload 6, 2) := by decide +kernel
theorem dX10_isKnot_61 : decode cX10_isKnot 61 = .ok (.i2l, 1) := by decide +kernel
theorem dX10_isKnot_62 : decode cX10_isKnot 62 = .ok (.invokestatic 87, 3) := by decide +kernel
theorem dX10_isKnot_65 : decode cX10_isKnot 65 = .ok (.iconst 2, 1) := by decide +kernel
theorem dX10_isKnot_66 : decode cX10_isKnot 66 = .ok (.iload 6, 2) := by decide +kernel
theorem dX10_isKnot_68 : decode cX10_isKnot 68 = .ok (.iload_n 3, 1) := by decide +kernel
theorem dX10_isKnot_69 : decode cX10_isKnot 69 = .ok (.iand, 1) := by decide +kernel
theorem dX10_isKnot_70 : decode cX10_isKnot 70 = .ok (.i2l, 1) := by decide +kernel
theorem dX10_isKnot_71 : decode cX10_isKnot 71 = .ok (.invokestatic 87, 3) := by decide +kernel
theorem dX10_isKnot_74 : decode cX10_isKnot 74 = .ok (.imul, 1) := by decide +kernel
theorem dX10_isKnot_75 : decode cX10_isKnot 75 = .ok (.if_icmp .gt 5, 3) := by decide +kernel
theorem dX10_isKnot_78 : decode cX10_isKnot 78 = .ok (.iconst 0, 1) := by decide +kernel
theorem dX10_isKnot_79 : decode cX10_isKnot 79 = .ok (.ireturn, 1) := by decide +kernel
theorem dX10_isKnot_80 : decode cX10_isKnot 80 = .ok (.lload 4, 2) := by decide +kernel
theorem dX10_isKnot_82 : decode cX10_isKnot 82 = .ok (.lload 4, 2) := by decide +kernel
theorem dX10_isKnot_84 : decode cX10_isKnot 84 = .ok (.lconst 1, 1) := by decide +kernel
theorem dX10_isKnot_85 : decode cX10_isKnot 85 = .ok (.lsub, 1) := by decide +kernel
theorem dX10_isKnot_86 : decode cX10_isKnot 86 = .ok (.land, 1) := by decide +kernel
theorem dX10_isKnot_87 : decode cX10_isKnot 87 = .ok (.lstore 4, 2) := by decide +kernel
theorem dX10_isKnot_89 : decode cX10_isKnot 89 = .ok (.goto (-49), 3) := by decide +kernel
theorem dX10_isKnot_92 : decode cX10_isKnot 92 = .ok (.iconst 1, 1) := by decide +kernel
theorem dX10_isKnot_93 : decode cX10_isKnot 93 = .ok (.ireturn, 1) := by decide +kernel
theorem dX10_isLeast_0 : decode cX10_isLeast 0 = .ok (.aload_n 0, 1) := by decide +kernel
theorem dX10_isLeast_1 : decode cX10_isLeast 1 = .ok (.lload_n 1, 1) := by decide +kernel
theorem dX10_isLeast_2 : decode cX10_isLeast 2 = .ok (.invokevirtual 277, 3) := by decide +kernel
theorem dX10_isLeast_5 : decode cX10_isLeast 5 = .ok (.ifCond .ne 5, 3) := by decide +kernel
theorem dX10_isLeast_8 : decode cX10_isLeast 8 = .ok (.iconst 0, 1) := by decide +kernel
theorem dX10_isLeast_9 : decode cX10_isLeast 9 = .ok (.ireturn, 1) := by decide +kernel
theorem dX10_isLeast_10 : decode cX10_isLeast 10 = .ok (.lload_n 1, 1) := by decide +kernel
theorem dX10_isLeast_11 : decode cX10_isLeast 11 = .ok (.lconst 1, 1) := by decide +kernel
theorem dX10_isLeast_12 : decode cX10_isLeast 12 = .ok (.lsub, 1) := by decide +kernel
theorem dX10_isLeast_13 : decode cX10_isLeast 13 = .ok (.lload_n 1, 1) := by decide +kernel
theorem dX10_isLeast_14 : decode cX10_isLeast 14 = .ok (.land, 1) := by decide +kernel
theorem dX10_isLeast_15 : decode cX10_isLeast 15 = .ok (.lstore_n 3, 1) := by decide +kernel
theorem dX10_isLeast_16 : decode cX10_isLeast 16 = .ok (.lload_n 3, 1) := by decide +kernel
theorem dX10_isLeast_17 : decode cX10_isLeast 17 = .ok (.lconst 0, 1) := by decide +kernel
theorem dX10_isLeast_18 : decode cX10_isLeast 18 = .ok (.lcmp, 1) := by decide +kernel
theorem dX10_isLeast_19 : decode cX10_isLeast 19 = .ok (.ifCond .eq 22, 3) := by decide +kernel
theorem dX10_isLeast_22 : decode cX10_isLeast 22 = .ok (.aload_n 0, 1) := by decide +kernel
theorem dX10_isLeast_23 : decode cX10_isLeast 23 = .ok (.lload_n 3, 1) := by decide +kernel
theorem dX10_isLeast_24 : decode cX10_isLeast 24 = .ok (.invokevirtual 277, 3) := by decide +kernel
theorem dX10_isLeast_27 : decode cX10_isLeast 27 = .ok (.ifCond .eq 5, 3) := by decide +kernel
theorem dX10_isLeast_30 : decode cX10_isLeast 30 = .ok (.iconst 0, 1) := by decide +kernel
theorem dX10_isLeast_31 : decode cX10_isLeast 31 = .ok (.ireturn, 1) := by decide +kernel
theorem dX10_isLeast_32 : decode cX10_isLeast 32 = .ok (.lload_n 3, 1) := by decide +kernel
theorem dX10_isLeast_33 : decode cX10_isLeast 33 = .ok (.lconst 1, 1) := by decide +kernel
theorem dX10_isLeast_34 : decode cX10_isLeast 34 = .ok (.lsub, 1) := by decide +kernel
theorem dX10_isLeast_35 : decode cX10_isLeast 35 = .ok (.lload_n 1, 1) := by decide +kernel
theorem dX10_isLeast_36 : decode cX10_isLeast 36 = .ok (.land, 1) := by decide +kernel
theorem dX10_isLeast_37 : decode cX10_isLeast 37 = .ok (.lstore_n 3, 1) := by decide +kernel
theorem dX10_isLeast_38 : decode cX10_isLeast 38 = .ok (.goto (-22), 3) := by decide +kernel
theorem dX10_isLeast_41 : decode cX10_isLeast 41 = .ok (.iconst 1, 1) := by decide +kernel
theorem dX10_isLeast_42 : decode cX10_isLeast 42 = .ok (.ireturn, 1) := by decide +kernel
theorem dX10_knot_0 : decode cX10_knot 0 = .ok (.aload_n 0, 1) := by decide +kernel
theorem dX10_knot_1 : decode cX10_knot 1 = .ok (.invokevirtual 280, 3) := by decide +kernel
theorem dX10_knot_4 : decode cX10_knot 4 = .ok (.aload_n 0, 1) := by decide +kernel
theorem dX10_knot_5 : decode cX10_knot 5 = .ok (.lload_n 1, 1) := by decide +kernel
theorem dX10_knot_6 : decode cX10_knot 6 = .ok (.invokevirtual 273, 3) := by decide +kernel
theorem dX10_knot_9 : decode cX10_knot 9 = .ok (.ifCond .eq 27, 3) := by decide +kernel
theorem dX10_knot_12 : decode cX10_knot 12 = .ok (.lload_n 1, 1) := by decide +kernel
theorem dX10_knot_13 : decode cX10_knot 13 = .ok (.invokestatic 87, 3) := by decide +kernel
theorem dX10_knot_16 : decode cX10_knot 16 = .ok (.iconst 1, 1) := by decide +kernel
theorem dX10_knot_17 : decode cX10_knot 17 = .ok (.iconst 4, 1) := by decide +kernel
theorem dX10_knot_18 : decode cX10_knot 18 = .ok (.invokestatic 70, 3) := by decide +kernel
theorem dX10_knot_21 : decode cX10_knot 21 = .ok (.ifCond .eq 15, 3) := by decide +kernel
theorem dX10_knot_24 : decode cX10_knot 24 = .ok (.aload_n 0, 1) := by decide +kernel
theorem dX10_knot_25 : decode cX10_knot 25 = .ok (.lload_n 1, 1) := by decide +kernel
theorem dX10_knot_26 : decode cX10_knot 26 = .ok (.invokevirtual 277, 3) := by decide +kernel
theorem dX10_knot_29 : decode cX10_knot 29 = .ok (.ifCond .eq 7, 3) := by decide +kernel
theorem dX10_knot_32 : decode cX10_knot 32 = .ok (.iconst 1, 1) := by decide +kernel
theorem dX10_knot_33 : decode cX10_knot 33 = .ok (.goto 4, 3) := by decide +kernel
theorem dX10_knot_36 : decode cX10_knot 36 = .ok (.iconst 0, 1) := by decide +kernel
theorem dX10_knot_37 : decode cX10_knot 37 = .ok (.ireturn, 1) := by decide +kernel
theorem dX10_isSort_0 : decode cX10_isSort 0 = .ok (.iload_n 3, 1) := by decide +kernel
theorem dX10_isSort_1 : decode cX10_isSort 1 = .ok (.ifCond .ne 9, 3) := by decide +kernel
theorem dX10_isSort_4 : decode cX10_isSort 4 = .ok (.aload_n 0, 1) := by decide +kernel
theorem dX10_isSort_5 : decode cX10_isSort 5 = .ok (.lload_n 1, 1) := by decide +kernel
theorem dX10_isSort_6 : decode cX10_isSort 6 = .ok (.invokevirtual 283, 3) := by decide +kernel
theorem dX10_isSort_9 : decode cX10_isSort 9 = .ok (.ireturn, 1) := by decide +kernel
theorem dX10_isSort_10 : decode cX10_isSort 10 = .ok (.iload_n 3, 1) := by decide +kernel
theorem dX10_isSort_11 : decode cX10_isSort 11 = .ok (.iconst 3, 1) := by decide +kernel
theorem dX10_isSort_12 : decode cX10_isSort 12 = .ok (.if_icmp .ne 19, 3) := by decide +kernel
theorem dX10_isSort_15 : decode cX10_isSort 15 = .ok (.aload_n 0, 1) := by decide +kernel
theorem dX10_isSort_16 : decode cX10_isSort 16 = .ok (.lload_n 1, 1) := by decide +kernel
theorem dX10_isSort_17 : decode cX10_isSort 17 = .ok (.invokevirtual 286, 3) := by decide +kernel
theorem dX10_isSort_20 : decode cX10_isSort 20 = .ok (.lconst 0, 1) := by decide +kernel
theorem dX10_isSort_21 : decode cX10_isSort 21 = .ok (.lcmp, 1) := by decide +kernel
theorem dX10_isSort_22 : decode cX10_isSort 22 = .ok (.ifCond .ne 7, 3) := by decide +kernel
theorem dX10_isSort_25 : decode cX10_isSort 25 = .ok (.iconst 1, 1) := by decide +kernel
theorem dX10_isSort_26 : decode cX10_isSort 26 = .ok (.goto 4, 3) := by decide +kernel
theorem dX10_isSort_29 : decode cX10_isSort 29 = .ok (.iconst 0, 1) := by decide +kernel
theorem dX10_isSort_30 : decode cX10_isSort 30 = .ok (.ireturn, 1) := by decide +kernel
theorem dX10_isSort_31 : decode cX10_isSort 31 = .ok (.iconst 0, 1) := by decide +kernel
theorem dX10_isSort_32 : decode cX10_isSort 32 = .ok (.istore 4, 2) := by decide +kernel
theorem dX10_isSort_34 : decode cX10_isSort 34 = .ok (.iload 4, 2) := by decide +kernel
theorem dX10_isSort_36 : decode cX10_isSort 36 = .ok (.aload_n 0, 1) := by decide +kernel
theorem dX10_isSort_37 : decode cX10_isSort 37 = .ok (.invokevirtual 74, 3) := by decide +kernel
theorem dX10_isSort_40 : decode cX10_isSort 40 = .ok (.if_icmp .ge 47, 3) := by decide +kernel
theorem dX10_isSort_43 : decode cX10_isSort 43 = .ok (.aload_n 0, 1) := by decide +kernel
theorem dX10_isSort_44 : decode cX10_isSort 44 = .ok (.getfield 39, 3) := by decide +kernel
theorem dX10_isSort_47 : decode cX10_isSort 47 = .ok (.iload 4, 2) := by decide +kernel
theorem dX10_isSort_49 : decode cX10_isSort 49 = .ok (.laload, 1) := by decide +kernel
theorem dX10_isSort_50 : decode cX10_isSort 50 = .ok (.lload_n 1, 1) := by decide +kernel
theorem dX10_isSort_51 : decode cX10_isSort 51 = .ok (.land, 1) := by decide +kernel
theorem dX10_isSort_52 : decode cX10_isSort 52 = .ok (.invokestatic 87, 3) := by decide +kernel
theorem dX10_isSort_55 : decode cX10_isSort 55 = .ok (.istore 5, 2) := by decide +kernel
theorem dX10_isSort_57 : decode cX10_isSort 57 = .ok (.iload_n 3, 1) := by decide +kernel
theorem dX10_isSort_58 : decode cX10_isSort 58 = .ok (.iconst 1, 1) := by decide +kernel
theorem dX10_isSort_59 : decode cX10_isSort 59 = .ok (.if_icmp .ne 12, 3) := by decide +kernel
theorem dX10_isSort_62 : decode cX10_isSort 62 = .ok (.iload 5, 2) := by decide +kernel
theorem dX10_isSort_64 : decode cX10_isSort 64 = .ok (.iconst 1, 1) := by decide +kernel
theorem dX10_isSort_65 : decode cX10_isSort 65 = .ok (.if_icmp .ne 16, 3) := by decide +kernel
theorem dX10_isSort_68 : decode cX10_isSort 68 = .ok (.goto 11, 3) := by decide +kernel
theorem dX10_isSort_71 : decode cX10_isSort 71 = .ok (.iload 5, 2) := by decide +kernel
theorem dX10_isSort_73 : decode cX10_isSort 73 = .ok (.iconst 2, 1) := by decide +kernel
theorem dX10_isSort_74 : decode cX10_isSort 74 = .ok (.irem, 1) := by decide +kernel
theorem dX10_isSort_75 : decode cX10_isSort 75 = .ok (.iconst 1, 1) := by decide +kernel
theorem dX10_isSort_76 : decode cX10_isSort 76 = .ok (.if_icmp .ne 5, 3) := by decide +kernel
theorem dX10_isSort_79 : decode cX10_isSort 79 = .ok (.iconst 0, 1) := by decide +kernel
theorem dX10_isSort_80 : decode cX10_isSort 80 = .ok (.ireturn, 1) := by decide +kernel
theorem dX10_isSort_81 : decode cX10_isSort 81 = .ok (.iinc 4 1, 3) := by decide +kernel
theorem dX10_isSort_84 : decode cX10_isSort 84 = .ok (.goto (-50), 3) := by decide +kernel
theorem dX10_isSort_87 : decode cX10_isSort 87 = .ok (.iconst 1, 1) := by decide +kernel
theorem dX10_isSort_88 : decode cX10_isSort 88 = .ok (.ireturn, 1) := by decide +kernel
theorem dX10_counted_0 : decode cX10_counted 0 = .ok (.iload_n 1, 1) := by decide +kernel
theorem dX10_counted_1 : decode cX10_counted 1 = .ok (.iconst 1, 1) := by decide +kernel
theorem dX10_counted_2 : decode cX10_counted 2 = .ok (.iconst 4, 1) := by decide +kernel
theorem dX10_counted_3 : decode cX10_counted 3 = .ok (.invokestatic 70, 3) := by decide +kernel
theorem dX10_counted_6 : decode cX10_counted 6 = .ok (.ifCond .ne 5, 3) := by decide +kernel
theorem dX10_counted_9 : decode cX10_counted 9 = .ok (.iconst (-1), 1) := by decide +kernel
theorem dX10_counted_10 : decode cX10_counted 10 = .ok (.ireturn, 1) := by decide +kernel
theorem dX10_counted_11 : decode cX10_counted 11 = .ok (.aload_n 0, 1) := by decide +kernel
theorem dX10_counted_12 : decode cX10_counted 12 = .ok (.invokevirtual 280, 3) := by decide +kernel
theorem dX10_counted_15 : decode cX10_counted 15 = .ok (.iconst 0, 1) := by decide +kernel
theorem dX10_counted_16 : decode cX10_counted 16 = .ok (.istore_n 3, 1) := by decide +kernel
theorem dX10_counted_17 : decode cX10_counted 17 = .ok (.aload_n 0, 1) := by decide +kernel
theorem dX10_counted_18 : decode cX10_counted 18 = .ok (.iload_n 1, 1) := by decide +kernel
theorem dX10_counted_19 : decode cX10_counted 19 = .ok (.invokevirtual 289, 3) := by decide +kernel
theorem dX10_counted_22 : decode cX10_counted 22 = .ok (.istore 4, 2) := by decide +kernel
theorem dX10_counted_24 : decode cX10_counted 24 = .ok (.iload 4, 2) := by decide +kernel
theorem dX10_counted_26 : decode cX10_counted 26 = .ok (.ifCond .eq 34, 3) := by decide +kernel
theorem dX10_counted_29 : decode cX10_counted 29 = .ok (.iload_n 3, 1) := by decide +kernel
theorem dX10_counted_30 : decode cX10_counted 30 = .ok (.aload_n 0, 1) := by decide +kernel
theorem dX10_counted_31 : decode cX10_counted 31 = .ok (.aload_n 0, 1) := by decide +kernel
theorem dX10_counted_32 : decode cX10_counted 32 = .ok (.iload_n 1, 1) := by decide +kernel
theorem dX10_counted_33 : decode cX10_counted 33 = .ok (.invokevirtual 292, 3) := by decide +kernel
theorem dX10_counted_36 : decode cX10_counted 36 = .ok (.iload_n 2, 1) := by decide +kernel
theorem dX10_counted_37 : decode cX10_counted 37 = .ok (.invokevirtual 295, 3) := by decide +kernel
theorem dX10_counted_40 : decode cX10_counted 40 = .ok (.ifCond .eq 7, 3) := by decide +kernel
theorem dX10_counted_43 : decode cX10_counted 43 = .ok (.iconst 1, 1) := by decide +kernel
theorem dX10_counted_44 : decode cX10_counted 44 = .ok (.goto 4, 3) := by decide +kernel
theorem dX10_counted_47 : decode cX10_counted 47 = .ok (.iconst 0, 1) := by decide +kernel
theorem dX10_counted_48 : decode cX10_counted 48 = .ok (.iadd, 1) := by decide +kernel
theorem dX10_counted_49 : decode cX10_counted 49 = .ok (.istore_n 3, 1) := by decide +kernel
theorem dX10_counted_50 : decode cX10_counted 50 = .ok (.aload_n 0, 1) := by decide +kernel
theorem dX10_counted_51 : decode cX10_counted 51 = .ok (.iload_n 1, 1) := by decide +kernel
theorem dX10_counted_52 : decode cX10_counted 52 = .ok (.invokevirtual 298, 3) := by decide +kernel
theorem dX10_counted_55 : decode cX10_counted 55 = .ok (.istore 4, 2) := by decide +kernel
theorem dX10_counted_57 : decode cX10_counted 57 = .ok (.goto (-33), 3) := by decide +kernel
theorem dX10_counted_60 : decode cX10_counted 60 = .ok (.iload_n 3, 1) := by decide +kernel
theorem dX10_counted_61 : decode cX10_counted 61 = .ok (.ireturn, 1) := by decide +kernel
theorem dX10_knots_0 : decode cX10_knots 0 = .ok (.aload_n 0, 1) := by decide +kernel
theorem dX10_knots_1 : decode cX10_knots 1 = .ok (.iload_n 1, 1) := by decide +kernel
theorem dX10_knots_2 : decode cX10_knots 2 = .ok (.iconst 0, 1) := by decide +kernel
theorem dX10_knots_3 : decode cX10_knots 3 = .ok (.invokevirtual 301, 3) := by decide +kernel
theorem dX10_knots_6 : decode cX10_knots 6 = .ok (.ireturn, 1) := by decide +kernel
theorem dX10_stoppers_0 : decode cX10_stoppers 0 = .ok (.aload_n 0, 1) := by decide +kernel
theorem dX10_stoppers_1 : decode cX10_stoppers 1 = .ok (.iload_n 1, 1) := by decide +kernel
theorem dX10_stoppers_2 : decode cX10_stoppers 2 = .ok (.iconst 1, 1) := by decide +kernel
theorem dX10_stoppers_3 : decode cX10_stoppers 3 = .ok (.invokevirtual 301, 3) := by decide +kernel
theorem dX10_stoppers_6 : decode cX10_stoppers 6 = .ok (.ireturn, 1) := by decide +kernel
theorem dX10_words_0 : decode cX10_words 0 = .ok (.aload_n 0, 1) := by decide +kernel
theorem dX10_words_1 : decode cX10_words 1 = .ok (.iload_n 1, 1) := by decide +kernel
theorem dX10_words_2 : decode cX10_words 2 = .ok (.iconst 2, 1) := by decide +kernel
theorem dX10_words_3 : decode cX10_words 3 = .ok (.invokevirtual 301, 3) := by decide +kernel
theorem dX10_words_6 : decode cX10_words 6 = .ok (.ireturn, 1) := by decide +kernel
theorem dX10_erasable_0 : decode cX10_erasable 0 = .ok (.aload_n 0, 1) := by decide +kernel
theorem dX10_erasable_1 : decode cX10_erasable 1 = .ok (.iload_n 1, 1) := by decide +kernel
theorem dX10_erasable_2 : decode cX10_erasable 2 = .ok (.iconst 3, 1) := by decide +kernel
theorem dX10_erasable_3 : decode cX10_erasable 3 = .ok (.invokevirtual 301, 3) := by decide +kernel
theorem dX10_erasable_6 : decode cX10_erasable 6 = .ok (.ireturn, 1) := by decide +kernel
theorem dX10_least_0 : decode cX10_least 0 = .ok (.iload_n 1, 1) := by decide +kernel
theorem dX10_least_1 : decode cX10_least 1 = .ok (.iconst 1, 1) := by decide +kernel
theorem dX10_least_2 : decode cX10_least 2 = .ok (.iconst 4, 1) := by decide +kernel
theorem dX10_least_3 : decode cX10_least 3 = .ok (.invokestatic 70, 3) := by decide +kernel
theorem dX10_least_6 : decode cX10_least 6 = .ok (.ifCond .eq 7, 3) := by decide +kernel
theorem dX10_least_9 : decode cX10_least 9 = .ok (.iload_n 2, 1) := by decide +kernel
theorem dX10_least_10 : decode cX10_least 10 = .ok (.ifCond .ge 5, 3) := by decide +kernel
theorem dX10_least_13 : decode cX10_least 13 = .ok (.lconst 0, 1) := by decide +kernel
theorem dX10_least_14 : decode cX10_least 14 = .ok (.lreturn, 1) := by decide +kernel
theorem dX10_least_15 : decode cX10_least 15 = .ok (.aload_n 0, 1) := by decide +kernel
theorem dX10_least_16 : decode cX10_least 16 = .ok (.invokevirtual 280, 3) := by decide +kernel
theorem dX10_least_19 : decode cX10_least 19 = .ok (.iconst 0, 1) := by decide +kernel
theorem dX10_least_20 : decode cX10_least 20 = .ok (.istore_n 3, 1) := by decide +kernel
theorem dX10_least_21 : decode cX10_least 21 = .ok (.aload_n 0, 1) := by decide +kernel
theorem dX10_least_22 : decode cX10_least 22 = .ok (.iload_n 1, 1) := by decide +kernel
theorem dX10_least_23 : decode cX10_least 23 = .ok (.invokevirtual 289, 3) := by decide +kernel
theorem dX10_least_26 : decode cX10_least 26 = .ok (.istore 4, 2) := by decide +kernel
theorem dX10_least_28 : decode cX10_least 28 = .ok (.iload 4, 2) := by decide +kernel
theorem dX10_least_30 : decode cX10_least 30 = .ok (.ifCond .eq 42, 3) := by decide +kernel
theorem dX10_least_33 : decode cX10_least 33 = .ok (.aload_n 0, 1) := by decide +kernel
theorem dX10_least_34 : decode cX10_least 34 = .ok (.aload_n 0, 1) := by decide +kernel
theorem dX10_least_35 : decode cX10_least 35 = .ok (.iload_n 1, 1) := by decide +kernel
theorem dX10_least_36 : decode cX10_least 36 = .ok (.invokevirtual 292, 3) := by decide +kernel
theorem dX10_least_39 : decode cX10_least 39 = .ok (.invokevirtual 283, 3) := by decide +kernel
theorem dX10_least_42 : decode cX10_least 42 = .ok (.ifCond .ne 6, 3) := by decide +kernel
theorem dX10_least_45 : decode cX10_least 45 = .ok (.goto 17, 3) := by decide +kernel
theorem dX10_least_48 : decode cX10_least 48 = .ok (.iload_n 3, 1) := by decide +kernel
theorem dX10_least_49 : decode cX10_least 49 = .ok (.iload_n 2, 1) := by decide +kernel
theorem dX10_least_50 : decode cX10_least 50 = .ok (.if_icmp .ne 9, 3) := by decide +kernel
theorem dX10_least_53 : decode cX10_least 53 = .ok (.aload_n 0, 1) := by decide +kernel
theorem dX10_least_54 : decode cX10_least 54 = .ok (.iload_n 1, 1) := by decide +kernel
theorem dX10_least_55 : decode cX10_least 55 = .ok (.invokevirtual 292, 3) := by decide +kernel
theorem dX10_least_58 : decode cX10_least 58 = .ok (.lreturn, 1) := by decide +kernel
theorem dX10_least_59 : decode cX10_least 59 = .ok (.iinc 3 1, 3) := by decide +kernel
theorem dX10_least_62 : decode cX10_least 62 = .ok (.aload_n 0, 1) := by decide +kernel
theorem dX10_least_63 : decode cX10_least 63 = .ok (.iload_n 1, 1) := by decide +kernel
theorem dX10_least_64 : decode cX10_least 64 = .ok (.invokevirtual 298, 3) := by decide +kernel
theorem dX10_least_67 : decode cX10_least 67 = .ok (.istore 4, 2) := by decide +kernel
theorem dX10_least_69 : decode cX10_least 69 = .ok (.goto (-41), 3) := by decide +kernel
theorem dX10_least_72 : decode cX10_least 72 = .ok (.lconst 0, 1) := by decide +kernel
theorem dX10_least_73 : decode cX10_least 73 = .ok (.lreturn, 1) := by decide +kernel
theorem dX10_endOf_0 : decode cX10_endOf 0 = .ok (.aload_n 0, 1) := by decide +kernel
theorem dX10_endOf_1 : decode cX10_endOf 1 = .ok (.invokevirtual 304, 3) := by decide +kernel
theorem dX10_endOf_4 : decode cX10_endOf 4 = .ok (.iconst 0, 1) := by decide +kernel
theorem dX10_endOf_5 : decode cX10_endOf 5 = .ok (.istore 4, 2) := by decide +kernel
theorem dX10_endOf_7 : decode cX10_endOf 7 = .ok (.iload 4, 2) := by decide +kernel
theorem dX10_endOf_9 : decode cX10_endOf 9 = .ok (.aload_n 0, 1) := by decide +kernel
theorem dX10_endOf_10 : decode cX10_endOf 10 = .ok (.invokevirtual 66, 3) := by decide +kernel
theorem dX10_endOf_13 : decode cX10_endOf 13 = .ok (.if_icmp .ge 34, 3) := by decide +kernel
theorem dX10_endOf_16 : decode cX10_endOf 16 = .ok (.aload_n 0, 1) := by decide +kernel
theorem dX10_endOf_17 : decode cX10_endOf 17 = .ok (.getfield 7, 3) := by decide +kernel
theorem dX10_endOf_20 : decode cX10_endOf 20 = .ok (.bipush 48, 2) := by decide +kernel
theorem dX10_endOf_22 : decode cX10_endOf 22 = .ok (.iload 4, 2) := by decide +kernel
theorem dX10_endOf_24 : decode cX10_endOf 24 = .ok (.iadd, 1) := by decide +kernel
theorem dX10_endOf_25 : decode cX10_endOf 25 = .ok (.lload_n 1, 1) := by decide +kernel
theorem dX10_endOf_26 : decode cX10_endOf 26 = .ok (.iload 4, 2) := by decide +kernel
theorem dX10_endOf_28 : decode cX10_endOf 28 = .ok (.invokestatic 62, 3) := by decide +kernel
theorem dX10_endOf_31 : decode cX10_endOf 31 = .ok (.ifCond .eq 8, 3) := by decide +kernel
theorem dX10_endOf_34 : decode cX10_endOf 34 = .ok (.iload_n 3, 1) := by decide +kernel
theorem dX10_endOf_35 : decode cX10_endOf 35 = .ok (.ineg, 1) := by decide +kernel
theorem dX10_endOf_36 : decode cX10_endOf 36 = .ok (.goto 4, 3) := by decide +kernel
theorem dX10_endOf_39 : decode cX10_endOf 39 = .ok (.iload_n 3, 1) := by decide +kernel
theorem dX10_endOf_40 : decode cX10_endOf 40 = .ok (.iastore, 1) := by decide +kernel
theorem dX10_endOf_41 : decode cX10_endOf 41 = .ok (.iinc 4 1, 3) := by decide +kernel
theorem dX10_endOf_44 : decode cX10_endOf 44 = .ok (.goto (-37), 3) := by decide +kernel
theorem dX10_endOf_47 : decode cX10_endOf 47 = .ok (.aload_n 0, 1) := by decide +kernel
theorem dX10_endOf_48 : decode cX10_endOf 48 = .ok (.iconst 0, 1) := by decide +kernel
theorem dX10_endOf_49 : decode cX10_endOf 49 = .ok (.invokevirtual 54, 3) := by decide +kernel
theorem dX10_endOf_52 : decode cX10_endOf 52 = .ok (.aload_n 0, 1) := by decide +kernel
theorem dX10_endOf_53 : decode cX10_endOf 53 = .ok (.bipush 80, 2) := by decide +kernel
theorem dX10_endOf_55 : decode cX10_endOf 55 = .ok (.invokevirtual 246, 3) := by decide +kernel
theorem dX10_endOf_58 : decode cX10_endOf 58 = .ok (.pop, 1) := by decide +kernel
theorem dX10_endOf_59 : decode cX10_endOf 59 = .ok (.aload_n 0, 1) := by decide +kernel
theorem dX10_endOf_60 : decode cX10_endOf 60 = .ok (.getfield 7, 3) := by decide +kernel
theorem dX10_endOf_63 : decode cX10_endOf 63 = .ok (.bipush 9, 2) := by decide +kernel
theorem dX10_endOf_65 : decode cX10_endOf 65 = .ok (.iaload, 1) := by decide +kernel
theorem dX10_endOf_66 : decode cX10_endOf 66 = .ok (.iconst 2, 1) := by decide +kernel
theorem dX10_endOf_67 : decode cX10_endOf 67 = .ok (.if_icmp .ne 7, 3) := by decide +kernel
theorem dX10_endOf_70 : decode cX10_endOf 70 = .ok (.iconst 2, 1) := by decide +kernel
theorem dX10_endOf_71 : decode cX10_endOf 71 = .ok (.goto 17, 3) := by decide +kernel
theorem dX10_endOf_74 : decode cX10_endOf 74 = .ok (.aload_n 0, 1) := by decide +kernel
theorem dX10_endOf_75 : decode cX10_endOf 75 = .ok (.invokevirtual 156, 3) := by decide +kernel
theorem dX10_endOf_78 : decode cX10_endOf 78 = .ok (.lconst 0, 1) := by decide +kernel
theorem dX10_endOf_79 : decode cX10_endOf 79 = .ok (.lcmp, 1) := by decide +kernel
theorem dX10_endOf_80 : decode cX10_endOf 80 = .ok (.ifCond .ne 7, 3) := by decide +kernel
theorem dX10_endOf_83 : decode cX10_endOf 83 = .ok (.iconst 0, 1) := by decide +kernel
theorem dX10_endOf_84 : decode cX10_endOf 84 = .ok (.goto 4, 3) := by decide +kernel
theorem dX10_endOf_87 : decode cX10_endOf 87 = .ok (.iconst 1, 1) := by decide +kernel
theorem dX10_endOf_88 : decode cX10_endOf 88 = .ok (.istore 4, 2) := by decide +kernel
theorem dX10_endOf_90 : decode cX10_endOf 90 = .ok (.aload_n 0, 1) := by decide +kernel
theorem dX10_endOf_91 : decode cX10_endOf 91 = .ok (.invokevirtual 307, 3) := by decide +kernel
theorem dX10_endOf_94 : decode cX10_endOf 94 = .ok (.iload 4, 2) := by decide +kernel
theorem dX10_endOf_96 : decode cX10_endOf 96 = .ok (.ireturn, 1) := by decide +kernel
theorem dX10_trapped_0 : decode cX10_trapped 0 = .ok (.aload_n 0, 1) := by decide +kernel
theorem dX10_trapped_1 : decode cX10_trapped 1 = .ok (.iload_n 1, 1) := by decide +kernel
theorem dX10_trapped_2 : decode cX10_trapped 2 = .ok (.iload_n 2, 1) := by decide +kernel
theorem dX10_trapped_3 : decode cX10_trapped 3 = .ok (.invokevirtual 310, 3) := by decide +kernel
theorem dX10_trapped_6 : decode cX10_trapped 6 = .ok (.lstore 4, 2) := by decide +kernel
theorem dX10_trapped_8 : decode cX10_trapped 8 = .ok (.lload 4, 2) := by decide +kernel
theorem dX10_trapped_10 : decode cX10_trapped 10 = .ok (.lconst 0, 1) := by decide +kernel
theorem dX10_trapped_11 : decode cX10_trapped 11 = .ok (.lcmp, 1) := by decide +kernel
theorem dX10_trapped_12 : decode cX10_trapped 12 = .ok (.ifCond .eq 13, 3) := by decide +kernel
theorem dX10_trapped_15 : decode cX10_trapped 15 = .ok (.iload_n 3, 1) := by decide +kernel
theorem dX10_trapped_16 : decode cX10_trapped 16 = .ok (.iconst 1, 1) := by decide +kernel
theorem dX10_trapped_17 : decode cX10_trapped 17 = .ok (.bipush 31, 2) := by decide +kernel
theorem dX10_trapped_19 : decode cX10_trapped 19 = .ok (.invokestatic 70, 3) := by decide +kernel
theorem dX10_trapped_22 : decode cX10_trapped 22 = .ok (.ifCond .ne 7, 3) := by decide +kernel
theorem dX10_trapped_25 : decode cX10_trapped 25 = .ok (.iconst (-1), 1) := by decide +kernel
theorem dX10_trapped_26 : decode cX10_trapped 26 = .ok (.goto 10, 3) := by decide +kernel
theorem dX10_trapped_29 : decode cX10_trapped 29 = .ok (.aload_n 0, 1) := by decide +kernel
theorem dX10_trapped_30 : decode cX10_trapped 30 = .ok (.lload 4, 2) := by decide +kernel
theorem dX10_trapped_32 : decode cX10_trapped 32 = .ok (.iload_n 3, 1) := by decide +kernel
theorem dX10_trapped_33 : decode cX10_trapped 33 = .ok (.invokevirtual 314, 3) := by decide +kernel
theorem dX10_trapped_36 : decode cX10_trapped 36 = .ok (.ireturn, 1) := by decide +kernel
theorem dX10_layTraps_0 : decode cX10_layTraps 0 = .ok (.aload_n 0, 1) := by decide +kernel
theorem dX10_layTraps_1 : decode cX10_layTraps 1 = .ok (.iconst 0, 1) := by decide +kernel
theorem dX10_layTraps_2 : decode cX10_layTraps 2 = .ok (.putfield 318, 3) := by decide +kernel
theorem dX10_layTraps_5 : decode cX10_layTraps 5 = .ok (.aload_n 0, 1) := by decide +kernel
theorem dX10_layTraps_6 : decode cX10_layTraps 6 = .ok (.lconst 0, 1) := by decide +kernel
theorem dX10_layTraps_7 : decode cX10_layTraps 7 = .ok (.putfield 321, 3) := by decide +kernel
theorem dX10_layTraps_10 : decode cX10_layTraps 10 = .ok (.aload_n 0, 1) := by decide +kernel
theorem dX10_layTraps_11 : decode cX10_layTraps 11 = .ok (.invokevirtual 280, 3) := by decide +kernel
theorem dX10_layTraps_14 : decode cX10_layTraps 14 = .ok (.iconst 0, 1) := by decide +kernel
theorem dX10_layTraps_15 : decode cX10_layTraps 15 = .ok (.istore_n 3, 1) := by decide +kernel
theorem dX10_layTraps_16 : decode cX10_layTraps 16 = .ok (.aload_n 0, 1) := by decide +kernel
theorem dX10_layTraps_17 : decode cX10_layTraps 17 = .ok (.iload_n 1, 1) := by decide +kernel
theorem dX10_layTraps_18 : decode cX10_layTraps 18 = .ok (.invokevirtual 289, 3) := by decide +kernel
theorem dX10_layTraps_21 : decode cX10_layTraps 21 = .ok (.istore 4, 2) := by decide +kernel
theorem dX10_layTraps_23 : decode cX10_layTraps 23 = .ok (.iload 4, 2) := by decide +kernel
theorem dX10_layTraps_25 : decode cX10_layTraps 25 = .ok (.ifCond .eq 77, 3) := by decide +kernel
theorem dX10_layTraps_28 : decode cX10_layTraps 28 = .ok (.iload_n 3, 1) := by decide +kernel
theorem dX10_layTraps_29 : decode cX10_layTraps 29 = .ok (.bipush 20, 2) := by decide +kernel
theorem dX10_layTraps_31 : decode cX10_layTraps 31 = .ok (.if_icmp .ge 71, 3) := by decide +kernel
theorem dX10_layTraps_34 : decode cX10_layTraps 34 = .ok (.aload_n 0, 1) := by decide +kernel
theorem dX10_layTraps_35 : decode cX10_layTraps 35 = .ok (.iload_n 1, 1) := by decide +kernel
theorem dX10_layTraps_36 : decode cX10_layTraps 36 = .ok (.invokevirtual 292, 3) := by decide +kernel
theorem dX10_layTraps_39 : decode cX10_layTraps 39 = .ok (.lstore 5, 2) := by decide +kernel
theorem dX10_layTraps_41 : decode cX10_layTraps 41 = .ok (.aload_n 0, 1) := by decide +kernel
theorem dX10_layTraps_42 : decode cX10_layTraps 42 = .ok (.lload 5, 2) := by decide +kernel
theorem dX10_layTraps_44 : decode cX10_layTraps 44 = .ok (.invokevirtual 283, 3) := by decide +kernel
theorem dX10_layTraps_47 : decode cX10_layTraps 47 = .ok (.ifCond .ne 6, 3) := by decide +kernel
theorem dX10_layTraps_50 : decode cX10_layTraps 50 = .ok (.goto 42, 3) := by decide +kernel
theorem dX10_layTraps_53 : decode cX10_layTraps 53 = .ok (.iinc 3 1, 3) := by decide +kernel
theorem dX10_layTraps_56 : decode cX10_layTraps 56 = .ok (.aload_n 0, 1) := by decide +kernel
theorem dX10_layTraps_57 : decode cX10_layTraps 57 = .ok (.lload 5, 2) := by decide +kernel
theorem dX10_layTraps_59 : decode cX10_layTraps 59 = .ok (.iload_n 2, 1) := by decide +kernel
theorem dX10_layTraps_60 : decode cX10_layTraps 60 = .ok (.invokevirtual 314, 3) := by decide +kernel
theorem dX10_layTraps_63 : decode cX10_layTraps 63 = .ok (.ifCond .ne 6, 3) := by decide +kernel
theorem dX10_layTraps_66 : decode cX10_layTraps 66 = .ok (.goto 26, 3) := by decide +kernel
theorem dX10_layTraps_69 : decode cX10_layTraps 69 = .ok (.aload_n 0, 1) := by decide +kernel
theorem dX10_layTraps_70 : decode cX10_layTraps 70 = .ok (.getfield 318, 3) := by decide +kernel
theorem dX10_layTraps_73 : decode cX10_layTraps 73 = .ok (.ifCond .ne 9, 3) := by decide +kernel
theorem dX10_layTraps_76 : decode cX10_layTraps 76 = .ok (.aload_n 0, 1) := by decide +kernel
theorem dX10_layTraps_77 : decode cX10_layTraps 77 = .ok (.lload 5, 2) := by decide +kernel
theorem dX10_layTraps_79 : decode cX10_layTraps 79 = .ok (.putfield 321, 3) := by decide +kernel
theorem dX10_layTraps_82 : decode cX10_layTraps 82 = .ok (.aload_n 0, 1) := by decide +kernel
theorem dX10_layTraps_83 : decode cX10_layTraps 83 = .ok (.dup, 1) := by decide +kernel
theorem dX10_layTraps_84 : decode cX10_layTraps 84 = .ok (.getfield 318, 3) := by decide +kernel
theorem dX10_layTraps_87 : decode cX10_layTraps 87 = .ok (.iconst 1, 1) := by decide +kernel
theorem dX10_layTraps_88 : decode cX10_layTraps 88 = .ok (.iadd, 1) := by decide +kernel
theorem dX10_layTraps_89 : decode cX10_layTraps 89 = .ok (.putfield 318, 3) := by decide +kernel
theorem dX10_layTraps_92 : decode cX10_layTraps 92 = .ok (.aload_n 0, 1) := by decide +kernel
theorem dX10_layTraps_93 : decode cX10_layTraps 93 = .ok (.iload_n 1, 1) := by decide +kernel
theorem dX10_layTraps_94 : decode cX10_layTraps 94 = .ok (.invokevirtual 298, 3) := by decide +kernel
theorem dX10_layTraps_97 : decode cX10_layTraps 97 = .ok (.istore 4, 2) := by decide +kernel
theorem dX10_layTraps_99 : decode cX10_layTraps 99 = .ok (.goto (-76), 3) := by decide +kernel
theorem dX10_layTraps_102 : decode cX10_layTraps 102 = .ok (.return_, 1) := by decide +kernel
theorem dX10_traps_0 : decode cX10_traps 0 = .ok (.iload_n 1, 1) := by decide +kernel
theorem dX10_traps_1 : decode cX10_traps 1 = .ok (.iconst 1, 1) := by decide +kernel
theorem dX10_traps_2 : decode cX10_traps 2 = .ok (.iconst 4, 1) := by decide +kernel
theorem dX10_traps_3 : decode cX10_traps 3 = .ok (.invokestatic 70, 3) := by decide +kernel
theorem dX10_traps_6 : decode cX10_traps 6 = .ok (.ifCond .eq 13, 3) := by decide +kernel
theorem dX10_traps_9 : decode cX10_traps 9 = .ok (.iload_n 2, 1) := by decide +kernel
theorem dX10_traps_10 : decode cX10_traps 10 = .ok (.iconst 1, 1) := by decide +kernel
theorem dX10_traps_11 : decode cX10_traps 11 = .ok (.bipush 31, 2) := by decide +kernel
theorem dX10_traps_13 : decode cX10_traps 13 = .ok (.invokestatic 70, 3) := by decide +kernel
theorem dX10_traps_16 : decode cX10_traps 16 = .ok (.ifCond .ne 5, 3) := by decide +kernel
theorem dX10_traps_19 : decode cX10_traps 19 = .ok (.iconst (-1), 1) := by decide +kernel
theorem dX10_traps_20 : decode cX10_traps 20 = .ok (.ireturn, 1) := by decide +kernel
theorem dX10_traps_21 : decode cX10_traps 21 = .ok (.aload_n 0, 1) := by decide +kernel
theorem dX10_traps_22 : decode cX10_traps 22 = .ok (.iload_n 1, 1) := by decide +kernel
theorem dX10_traps_23 : decode cX10_traps 23 = .ok (.iload_n 2, 1) := by decide +kernel
theorem dX10_traps_24 : decode cX10_traps 24 = .ok (.invokevirtual 324, 3) := by decide +kernel
theorem dX10_traps_27 : decode cX10_traps 27 = .ok (.aload_n 0, 1) := by decide +kernel
theorem dX10_traps_28 : decode cX10_traps 28 = .ok (.getfield 318, 3) := by decide +kernel
theorem dX10_traps_31 : decode cX10_traps 31 = .ok (.ireturn, 1) := by decide +kernel
theorem dX10_weakest_0 : decode cX10_weakest 0 = .ok (.iload_n 1, 1) := by decide +kernel
theorem dX10_weakest_1 : decode cX10_weakest 1 = .ok (.iconst 1, 1) := by decide +kernel
theorem dX10_weakest_2 : decode cX10_weakest 2 = .ok (.bipush 31, 2) := by decide +kernel
theorem dX10_weakest_4 : decode cX10_weakest 4 = .ok (.invokestatic 70, 3) := by decide +kernel
theorem dX10_weakest_7 : decode cX10_weakest 7 = .ok (.ifCond .ne 5, 3) := by decide +kernel
theorem dX10_weakest_10 : decode cX10_weakest 10 = .ok (.lconst 0, 1) := by decide +kernel
theorem dX10_weakest_11 : decode cX10_weakest 11 = .ok (.lreturn, 1) := by decide +kernel
theorem dX10_weakest_12 : decode cX10_weakest 12 = .ok (.iconst 1, 1) := by decide +kernel
theorem dX10_weakest_13 : decode cX10_weakest 13 = .ok (.istore_n 2, 1) := by decide +kernel
theorem dX10_weakest_14 : decode cX10_weakest 14 = .ok (.iload_n 2, 1) := by decide +kernel
theorem dX10_weakest_15 : decode cX10_weakest 15 = .ok (.iconst 4, 1) := by decide +kernel
theorem dX10_weakest_16 : decode cX10_weakest 16 = .ok (.if_icmp .gt 27, 3) := by decide +kernel
theorem dX10_weakest_19 : decode cX10_weakest 19 = .ok (.aload_n 0, 1) := by decide +kernel
theorem dX10_weakest_20 : decode cX10_weakest 20 = .ok (.iload_n 2, 1) := by decide +kernel
theorem dX10_weakest_21 : decode cX10_weakest 21 = .ok (.iload_n 1, 1) := by decide +kernel
theorem dX10_weakest_22 : decode cX10_weakest 22 = .ok (.invokevirtual 324, 3) := by decide +kernel
theorem dX10_weakest_25 : decode cX10_weakest 25 = .ok (.aload_n 0, 1) := by decide +kernel
theorem dX10_weakest_26 : decode cX10_weakest 26 = .ok (.getfield 318, 3) := by decide +kernel
theorem dX10_weakest_29 : decode cX10_weakest 29 = .ok (.ifCond .le 8, 3) := by decide +kernel
theorem dX10_weakest_32 : decode cX10_weakest 32 = .ok (.aload_n 0, 1) := by decide +kernel
theorem dX10_weakest_33 : decode cX10_weakest 33 = .ok (.getfield 321, 3) := by decide +kernel
theorem dX10_weakest_36 : decode cX10_weakest 36 = .ok (.lreturn, 1) := by decide +kernel
theorem dX10_weakest_37 : decode cX10_weakest 37 = .ok (.iinc 2 1, 3) := by decide +kernel
theorem dX10_weakest_40 : decode cX10_weakest 40 = .ok (.goto (-26), 3) := by decide +kernel
theorem dX10_weakest_43 : decode cX10_weakest 43 = .ok (.lconst 0, 1) := by decide +kernel
theorem dX10_weakest_44 : decode cX10_weakest 44 = .ok (.lreturn, 1) := by decide +kernel
theorem dX10_peel_0 : decode cX10_peel 0 = .ok (.aload_n 0, 1) := by decide +kernel
theorem dX10_peel_1 : decode cX10_peel 1 = .ok (.invokevirtual 280, 3) := by decide +kernel
theorem dX10_peel_4 : decode cX10_peel 4 = .ok (.aload_n 0, 1) := by decide +kernel
theorem dX10_peel_5 : decode cX10_peel 5 = .ok (.lload_n 1, 1) := by decide +kernel
theorem dX10_peel_6 : decode cX10_peel 6 = .ok (.invokevirtual 286, 3) := by decide +kernel
theorem dX10_peel_9 : decode cX10_peel 9 = .ok (.lreturn, 1) := by decide +kernel
theorem dX10_peelLaid_0 : decode cX10_peelLaid 0 = .ok (.lload_n 1, 1) := by decide +kernel
theorem dX10_peelLaid_1 : decode cX10_peelLaid 1 = .ok (.lstore_n 3, 1) := by decide +kernel
theorem dX10_peelLaid_2 : decode cX10_peelLaid 2 = .ok (.lload_n 3, 1) := by decide +kernel
theorem dX10_peelLaid_3 : decode cX10_peelLaid 3 = .ok (.ldc2_w 255, 3) := by decide +kernel
theorem dX10_peelLaid_6 : decode cX10_peelLaid 6 = .ok (.lxor, 1) := by decide +kernel
theorem dX10_peelLaid_7 : decode cX10_peelLaid 7 = .ok (.lstore 5, 2) := by decide +kernel
theorem dX10_peelLaid_9 : decode cX10_peelLaid 9 = .ok (.lload_n 3, 1) := by decide +kernel
theorem dX10_peelLaid_10 : decode cX10_peelLaid 10 = .ok (.lload 5, 2) := by decide +kernel
theorem dX10_peelLaid_12 : decode cX10_peelLaid 12 = .ok (.lcmp, 1) := by decide +kernel
theorem dX10_peelLaid_13 : decode cX10_peelLaid 13 = .ok (.ifCond .eq 59, 3) := by decide +kernel
theorem dX10_peelLaid_16 : decode cX10_peelLaid 16 = .ok (.lload_n 3, 1) := by decide +kernel
theorem dX10_peelLaid_17 : decode cX10_peelLaid 17 = .ok (.lstore 5, 2) := by decide +kernel
theorem dX10_peelLaid_19 : decode cX10_peelLaid 19 = .ok (.iconst 0, 1) := by decide +kernel
theorem dX10_peelLaid_20 : decode cX10_peelLaid 20 = .ok (.istore 7, 2) := by decide +kernel
theorem dX10_peelLaid_22 : decode cX10_peelLaid 22 = .ok (.iload 7, 2) := by decide +kernel
theorem dX10_peelLaid_24 : decode cX10_peelLaid 24 = .ok (.aload_n 0, 1) := by decide +kernel
theorem dX10_peelLaid_25 : decode cX10_peelLaid 25 = .ok (.invokevirtual 74, 3) := by decide +kernel
theorem dX10_peelLaid_28 : decode cX10_peelLaid 28 = .ok (.if_icmp .ge 41, 3) := by decide +kernel
theorem dX10_peelLaid_31 : decode cX10_peelLaid 31 = .ok (.aload_n 0, 1) := by decide +kernel
theorem dX10_peelLaid_32 : decode cX10_peelLaid 32 = .ok (.getfield 39, 3) := by decide +kernel
theorem dX10_peelLaid_35 : decode cX10_peelLaid 35 = .ok (.iload 7, 2) := by decide +kernel
theorem dX10_peelLaid_37 : decode cX10_peelLaid 37 = .ok (.laload, 1) := by decide +kernel
theorem dX10_peelLaid_38 : decode cX10_peelLaid 38 = .ok (.lload_n 3, 1) := by decide +kernel
theorem dX10_peelLaid_39 : decode cX10_peelLaid 39 = .ok (.land, 1) := by decide +kernel
theorem dX10_peelLaid_40 : decode cX10_peelLaid 40 = .ok (.lstore 8, 2) := by decide +kernel
theorem dX10_peelLaid_42 : decode cX10_peelLaid 42 = .ok (.lload 8, 2) := by decide +kernel
theorem dX10_peelLaid_44 : decode cX10_peelLaid 44 = .ok (.lload 8, 2) := by decide +kernel
theorem dX10_peelLaid_46 : decode cX10_peelLaid 46 = .ok (.lconst 1, 1) := by decide +kernel
theorem dX10_peelLaid_47 : decode cX10_peelLaid 47 = .ok (.lsub, 1) := by decide +kernel
theorem dX10_peelLaid_48 : decode cX10_peelLaid 48 = .ok (.land, 1) := by decide +kernel
theorem dX10_peelLaid_49 : decode cX10_peelLaid 49 = .ok (.lconst 0, 1) := by decide +kernel
theorem dX10_peelLaid_50 : decode cX10_peelLaid 50 = .ok (.lcmp, 1) := by decide +kernel
theorem dX10_peelLaid_51 : decode cX10_peelLaid 51 = .ok (.ifCond .ne 12, 3) := by decide +kernel
theorem dX10_peelLaid_54 : decode cX10_peelLaid 54 = .ok (.lload_n 3, 1) := by decide +kernel
theorem dX10_peelLaid_55 : decode cX10_peelLaid 55 = .ok (.lload 8, 2) := by decide +kernel
theorem dX10_peelLaid_57 : decode cX10_peelLaid 57 = .ok (.ldc2_w 255, 3) := by decide +kernel
theorem dX10_peelLaid_60 : decode cX10_peelLaid 60 = .ok (.lxor, 1) := by decide +kernel
theorem dX10_peelLaid_61 : decode cX10_peelLaid 61 = .ok (.land, 1) := by decide +kernel
theorem dX10_peelLaid_62 : decode cX10_peelLaid 62 = .ok (.lstore_n 3, 1) := by decide +kernel
theorem dX10_peelLaid_63 : decode cX10_peelLaid 63 = .ok (.iinc 7 1, 3) := by decide +kernel
theorem dX10_peelLaid_66 : decode cX10_peelLaid 66 = .ok (.goto (-44), 3) := by decide +kernel
theorem dX10_peelLaid_69 : decode cX10_peelLaid 69 = .ok (.goto (-60), 3) := by decide +kernel
theorem dX10_peelLaid_72 : decode cX10_peelLaid 72 = .ok (.lload_n 3, 1) := by decide +kernel
theorem dX10_peelLaid_73 : decode cX10_peelLaid 73 = .ok (.lreturn, 1) := by decide +kernel
theorem dX10_peeled_0 : decode cX10_peeled 0 = .ok (.aload_n 0, 1) := by decide +kernel
theorem dX10_peeled_1 : decode cX10_peeled 1 = .ok (.lload_n 1, 1) := by decide +kernel
theorem dX10_peeled_2 : decode cX10_peeled 2 = .ok (.invokevirtual 273, 3) := by decide +kernel
theorem dX10_peeled_5 : decode cX10_peeled 5 = .ok (.ifCond .eq 11, 3) := by decide +kernel
theorem dX10_peeled_8 : decode cX10_peeled 8 = .ok (.aload_n 0, 1) := by decide +kernel
theorem dX10_peeled_9 : decode cX10_peeled 9 = .ok (.lload_n 1, 1) := by decide +kernel
theorem dX10_peeled_10 : decode cX10_peeled 10 = .ok (.invokevirtual 328, 3) := by decide +kernel
theorem dX10_peeled_13 : decode cX10_peeled 13 = .ok (.goto 6, 3) := by decide +kernel
theorem dX10_peeled_16 : decode cX10_peeled 16 = .ok (.ldc2_w 255, 3) := by decide +kernel
theorem dX10_peeled_19 : decode cX10_peeled 19 = .ok (.lreturn, 1) := by decide +kernel
theorem dX10_known_0 : decode cX10_known 0 = .ok (.aload_n 0, 1) := by decide +kernel
theorem dX10_known_1 : decode cX10_known 1 = .ok (.lload_n 1, 1) := by decide +kernel
theorem dX10_known_2 : decode cX10_known 2 = .ok (.invokevirtual 273, 3) := by decide +kernel
theorem dX10_known_5 : decode cX10_known 5 = .ok (.ifCond .eq 19, 3) := by decide +kernel
theorem dX10_known_8 : decode cX10_known 8 = .ok (.lload_n 1, 1) := by decide +kernel
theorem dX10_known_9 : decode cX10_known 9 = .ok (.invokestatic 87, 3) := by decide +kernel
theorem dX10_known_12 : decode cX10_known 12 = .ok (.aload_n 0, 1) := by decide +kernel
theorem dX10_known_13 : decode cX10_known 13 = .ok (.lload_n 1, 1) := by decide +kernel
theorem dX10_known_14 : decode cX10_known 14 = .ok (.invokevirtual 328, 3) := by decide +kernel
theorem dX10_known_17 : decode cX10_known 17 = .ok (.invokestatic 87, 3) := by decide +kernel
theorem dX10_known_20 : decode cX10_known 20 = .ok (.isub, 1) := by decide +kernel
theorem dX10_known_21 : decode cX10_known 21 = .ok (.goto 4, 3) := by decide +kernel
theorem dX10_known_24 : decode cX10_known 24 = .ok (.iconst (-1), 1) := by decide +kernel
theorem dX10_known_25 : decode cX10_known 25 = .ok (.ireturn, 1) := by decide +kernel
theorem dX10_costOf_0 : decode cX10_costOf 0 = .ok (.iconst 0, 1) := by decide +kernel
theorem dX10_costOf_1 : decode cX10_costOf 1 = .ok (.istore_n 3, 1) := by decide +kernel
theorem dX10_costOf_2 : decode cX10_costOf 2 = .ok (.iconst 0, 1) := by decide +kernel
theorem dX10_costOf_3 : decode cX10_costOf 3 = .ok (.istore 4, 2) := by decide +kernel
theorem dX10_costOf_5 : decode cX10_costOf 5 = .ok (.iload 4, 2) := by decide +kernel
theorem dX10_costOf_7 : decode cX10_costOf 7 = .ok (.aload_n 0, 1) := by decide +kernel
theorem dX10_costOf_8 : decode cX10_costOf 8 = .ok (.invokevirtual 66, 3) := by decide +kernel
theorem dX10_costOf_11 : decode cX10_costOf 11 = .ok (.if_icmp .ge 51, 3) := by decide +kernel
theorem dX10_costOf_14 : decode cX10_costOf 14 = .ok (.aload_n 0, 1) := by decide +kernel
theorem dX10_costOf_15 : decode cX10_costOf 15 = .ok (.getfield 7, 3) := by decide +kernel
theorem dX10_costOf_18 : decode cX10_costOf 18 = .ok (.bipush 48, 2) := by decide +kernel
theorem dX10_costOf_20 : decode cX10_costOf 20 = .ok (.iload 4, 2) := by decide +kernel
theorem dX10_costOf_22 : decode cX10_costOf 22 = .ok (.iadd, 1) := by decide +kernel
theorem dX10_costOf_23 : decode cX10_costOf 23 = .ok (.iaload, 1) := by decide +kernel
theorem dX10_costOf_24 : decode cX10_costOf 24 = .ok (.istore 5, 2) := by decide +kernel
theorem dX10_costOf_26 : decode cX10_costOf 26 = .ok (.lload_n 1, 1) := by decide +kernel
theorem dX10_costOf_27 : decode cX10_costOf 27 = .ok (.iload 4, 2) := by decide +kernel
theorem dX10_costOf_29 : decode cX10_costOf 29 = .ok (.invokestatic 62, 3) := by decide +kernel
theorem dX10_costOf_32 : decode cX10_costOf 32 = .ok (.ifCond .eq 11, 3) := by decide +kernel
theorem dX10_costOf_35 : decode cX10_costOf 35 = .ok (.iload 5, 2) := by decide +kernel
theorem dX10_costOf_37 : decode cX10_costOf 37 = .ok (.ifCond .le 19, 3) := by decide +kernel
theorem dX10_costOf_40 : decode cX10_costOf 40 = .ok (.goto 8, 3) := by decide +kernel
theorem dX10_costOf_43 : decode cX10_costOf 43 = .ok (.iload 5, 2) := by decide +kernel
theorem dX10_costOf_45 : decode cX10_costOf 45 = .ok (.ifCond .ge 11, 3) := by decide +kernel
theorem dX10_costOf_48 : decode cX10_costOf 48 = .ok (.iload_n 3, 1) := by decide +kernel
theorem dX10_costOf_49 : decode cX10_costOf 49 = .ok (.iload 5, 2) := by decide +kernel
theorem dX10_costOf_51 : decode cX10_costOf 51 = .ok (.invokestatic 166, 3) := by decide +kernel
theorem dX10_costOf_54 : decode cX10_costOf 54 = .ok (.iadd, 1) := by decide +kernel
theorem dX10_costOf_55 : decode cX10_costOf 55 = .ok (.istore_n 3, 1) := by decide +kernel
theorem dX10_costOf_56 : decode cX10_costOf 56 = .ok (.iinc 4 1, 3) := by decide +kernel
theorem dX10_costOf_59 : decode cX10_costOf 59 = .ok (.goto (-54), 3) := by decide +kernel
theorem dX10_costOf_62 : decode cX10_costOf 62 = .ok (.iload_n 3, 1) := by decide +kernel
theorem dX10_costOf_63 : decode cX10_costOf 63 = .ok (.ireturn, 1) := by decide +kernel
theorem dX10_cost_0 : decode cX10_cost 0 = .ok (.aload_n 0, 1) := by decide +kernel
theorem dX10_cost_1 : decode cX10_cost 1 = .ok (.lload_n 1, 1) := by decide +kernel
theorem dX10_cost_2 : decode cX10_cost 2 = .ok (.invokevirtual 273, 3) := by decide +kernel
theorem dX10_cost_5 : decode cX10_cost 5 = .ok (.ifCond .eq 11, 3) := by decide +kernel
theorem dX10_cost_8 : decode cX10_cost 8 = .ok (.aload_n 0, 1) := by decide +kernel
theorem dX10_cost_9 : decode cX10_cost 9 = .ok (.lload_n 1, 1) := by decide +kernel
theorem dX10_cost_10 : decode cX10_cost 10 = .ok (.invokevirtual 331, 3) := by decide +kernel
theorem dX10_cost_13 : decode cX10_cost 13 = .ok (.goto 4, 3) := by decide +kernel
theorem dX10_cost_16 : decode cX10_cost 16 = .ok (.iconst (-1), 1) := by decide +kernel
theorem dX10_cost_17 : decode cX10_cost 17 = .ok (.ireturn, 1) := by decide +kernel
theorem dX10_wordsAll_0 : decode cX10_wordsAll 0 = .ok (.aload_n 0, 1) := by decide +kernel
theorem dX10_wordsAll_1 : decode cX10_wordsAll 1 = .ok (.invokevirtual 227, 3) := by decide +kernel
theorem dX10_wordsAll_4 : decode cX10_wordsAll 4 = .ok (.aload_n 0, 1) := by decide +kernel
theorem dX10_wordsAll_5 : decode cX10_wordsAll 5 = .ok (.invokevirtual 66, 3) := by decide +kernel
theorem dX10_wordsAll_8 : decode cX10_wordsAll 8 = .ok (.aload_n 0, 1) := by decide +kernel
theorem dX10_wordsAll_9 : decode cX10_wordsAll 9 = .ok (.getfield 205, 3) := by decide +kernel
theorem dX10_wordsAll_12 : decode cX10_wordsAll 12 = .ok (.isub, 1) := by decide +kernel
theorem dX10_wordsAll_13 : decode cX10_wordsAll 13 = .ok (.bipush 12, 2) := by decide +kernel
theorem dX10_wordsAll_15 : decode cX10_wordsAll 15 = .ok (.if_icmp .le 7, 3) := by decide +kernel
theorem dX10_wordsAll_18 : decode cX10_wordsAll 18 = .ok (.iconst (-1), 1) := by decide +kernel
theorem dX10_wordsAll_19 : decode cX10_wordsAll 19 = .ok (.goto 14, 3) := by decide +kernel
theorem dX10_wordsAll_22 : decode cX10_wordsAll 22 = .ok (.iconst 1, 1) := by decide +kernel
theorem dX10_wordsAll_23 : decode cX10_wordsAll 23 = .ok (.aload_n 0, 1) := by decide +kernel
theorem dX10_wordsAll_24 : decode cX10_wordsAll 24 = .ok (.invokevirtual 66, 3) := by decide +kernel
theorem dX10_wordsAll_27 : decode cX10_wordsAll 27 = .ok (.aload_n 0, 1) := by decide +kernel
theorem dX10_wordsAll_28 : decode cX10_wordsAll 28 = .ok (.getfield 205, 3) := by decide +kernel
theorem dX10_wordsAll_31 : decode cX10_wordsAll 31 = .ok (.isub, 1) := by decide +kernel
theorem dX10_wordsAll_32 : decode cX10_wordsAll 32 = .ok (.ishl, 1) := by decide +kernel
theorem dX10_wordsAll_33 : decode cX10_wordsAll 33 = .ok (.ireturn, 1) := by decide +kernel
theorem dX10_lightest_0 : decode cX10_lightest 0 = .ok (.aload_n 0, 1) := by decide +kernel
theorem dX10_lightest_1 : decode cX10_lightest 1 = .ok (.invokevirtual 334, 3) := by decide +kernel
theorem dX10_lightest_4 : decode cX10_lightest 4 = .ok (.istore_n 1, 1) := by decide +kernel
theorem dX10_lightest_5 : decode cX10_lightest 5 = .ok (.iconst (-1), 1) := by decide +kernel
theorem dX10_lightest_6 : decode cX10_lightest 6 = .ok (.istore_n 2, 1) := by decide +kernel
theorem dX10_lightest_7 : decode cX10_lightest 7 = .ok (.iconst 1, 1) := by decide +kernel
theorem dX10_lightest_8 : decode cX10_lightest 8 = .ok (.istore_n 3, 1) := by decide +kernel
theorem dX10_lightest_9 : decode cX10_lightest 9 = .ok (.iload_n 3, 1) := by decide +kernel
theorem dX10_lightest_10 : decode cX10_lightest 10 = .ok (.iload_n 1, 1) := by decide +kernel
theorem dX10_lightest_11 : decode cX10_lightest 11 = .ok (.if_icmp .ge 34, 3) := by decide +kernel
theorem dX10_lightest_14 : decode cX10_lightest 14 = .ok (.aload_n 0, 1) := by decide +kernel
theorem dX10_lightest_15 : decode cX10_lightest 15 = .ok (.iload_n 3, 1) := by decide +kernel
theorem dX10_lightest_16 : decode cX10_lightest 16 = .ok (.i2l, 1) := by decide +kernel
theorem dX10_lightest_17 : decode cX10_lightest 17 = .ok (.invokevirtual 230, 3) := by decide +kernel
theorem dX10_lightest_20 : decode cX10_lightest 20 = .ok (.invokestatic 87, 3) := by decide +kernel
theorem dX10_lightest_23 : decode cX10_lightest 23 = .ok (.istore 4, 2) := by decide +kernel
theorem dX10_lightest_25 : decode cX10_lightest 25 = .ok (.iload_n 2, 1) := by decide +kernel
theorem dX10_lightest_26 : decode cX10_lightest 26 = .ok (.iconst (-1), 1) := by decide +kernel
theorem dX10_lightest_27 : decode cX10_lightest 27 = .ok (.if_icmp .eq 9, 3) := by decide +kernel
theorem dX10_lightest_30 : decode cX10_lightest 30 = .ok (.iload 4, 2) := by decide +kernel
theorem dX10_lightest_32 : decode cX10_lightest 32 = .ok (.iload_n 2, 1) := by decide +kernel
theorem dX10_lightest_33 : decode cX10_lightest 33 = .ok (.if_icmp .ge 6, 3) := by decide +kernel
theorem dX10_lightest_36 : decode cX10_lightest 36 = .ok (.iload 4, 2) := by decide +kernel
theorem dX10_lightest_38 : decode cX10_lightest 38 = .ok (.istore_n 2, 1) := by decide +kernel
theorem dX10_lightest_39 : decode cX10_lightest 39 = .ok (.iinc 3 1, 3) := by decide +kernel
theorem dX10_lightest_42 : decode cX10_lightest 42 = .ok (.goto (-33), 3) := by decide +kernel
theorem dX10_lightest_45 : decode cX10_lightest 45 = .ok (.iload_n 2, 1) := by decide +kernel
theorem dX10_lightest_46 : decode cX10_lightest 46 = .ok (.ireturn, 1) := by decide +kernel
theorem dX10_spectrum_0 : decode cX10_spectrum 0 = .ok (.aload_n 0, 1) := by decide +kernel
theorem dX10_spectrum_1 : decode cX10_spectrum 1 = .ok (.invokevirtual 334, 3) := by decide +kernel
theorem dX10_spectrum_4 : decode cX10_spectrum 4 = .ok (.istore_n 2, 1) := by decide +kernel
theorem dX10_spectrum_5 : decode cX10_spectrum 5 = .ok (.iload_n 2, 1) := by decide +kernel
theorem dX10_spectrum_6 : decode cX10_spectrum 6 = .ok (.iconst (-1), 1) := by decide +kernel
theorem dX10_spectrum_7 : decode cX10_spectrum 7 = .ok (.if_icmp .eq 7, 3) := by decide +kernel
theorem dX10_spectrum_10 : decode cX10_spectrum 10 = .ok (.iload_n 1, 1) := by decide +kernel
theorem dX10_spectrum_11 : decode cX10_spectrum 11 = .ok (.ifCond .ge 5, 3) := by decide +kernel
theorem dX10_spectrum_14 : decode cX10_spectrum 14 = .ok (.iconst (-1), 1) := by decide +kernel
theorem dX10_spectrum_15 : decode cX10_spectrum 15 = .ok (.ireturn, 1) := by decide +kernel
theorem dX10_spectrum_16 : decode cX10_spectrum 16 = .ok (.iconst 0, 1) := by decide +kernel
theorem dX10_spectrum_17 : decode cX10_spectrum 17 = .ok (.istore_n 3, 1) := by decide +kernel
theorem dX10_spectrum_18 : decode cX10_spectrum 18 = .ok (.iconst 0, 1) := by decide +kernel
theorem dX10_spectrum_19 : decode cX10_spectrum 19 = .ok (.istore 4, 2) := by decide +kernel
theorem dX10_spectrum_21 : decode cX10_spectrum 21 = .ok (.iload 4, 2) := by decide +kernel
theorem dX10_spectrum_23 : decode cX10_spectrum 23 = .ok (.iload_n 2, 1) := by decide +kernel
theorem dX10_spectrum_24 : decode cX10_spectrum 24 = .ok (.if_icmp .ge 31, 3) := by decide +kernel
theorem dX10_spectrum_27 : decode cX10_spectrum 27 = .ok (.iload_n 3, 1) := by decide +kernel
theorem dX10_spectrum_28 : decode cX10_spectrum 28 = .ok (.aload_n 0, 1) := by decide +kernel
theorem dX10_spectrum_29 : decode cX10_spectrum 29 = .ok (.iload 4, 2) := by decide +kernel
theorem dX10_spectrum_31 : decode cX10_spectrum 31 = .ok (.i2l, 1) := by decide +kernel
theorem dX10_spectrum_32 : decode cX10_spectrum 32 = .ok (.invokevirtual 230, 3) := by decide +kernel
theorem dX10_spectrum_35 : decode cX10_spectrum 35 = .ok (.invokestatic 87, 3) := by decide +kernel
theorem dX10_spectrum_38 : decode cX10_spectrum 38 = .ok (.iload_n 1, 1) := by decide +kernel
theorem dX10_spectrum_39 : decode cX10_spectrum 39 = .ok (.if_icmp .ne 7, 3) := by decide +kernel
theorem dX10_spectrum_42 : decode cX10_spectrum 42 = .ok (.iconst 1, 1) := by decide +kernel
theorem dX10_spectrum_43 : decode cX10_spectrum 43 = .ok (.goto 4, 3) := by decide +kernel
theorem dX10_spectrum_46 : decode cX10_spectrum 46 = .ok (.iconst 0, 1) := by decide +kernel
theorem dX10_spectrum_47 : decode cX10_spectrum 47 = .ok (.iadd, 1) := by decide +kernel
theorem dX10_spectrum_48 : decode cX10_spectrum 48 = .ok (.istore_n 3, 1) := by decide +kernel
theorem dX10_spectrum_49 : decode cX10_spectrum 49 = .ok (.iinc 4 1, 3) := by decide +kernel
theorem dX10_spectrum_52 : decode cX10_spectrum 52 = .ok (.goto (-31), 3) := by decide +kernel
theorem dX10_spectrum_55 : decode cX10_spectrum 55 = .ok (.iload_n 3, 1) := by decide +kernel
theorem dX10_spectrum_56 : decode cX10_spectrum 56 = .ok (.ireturn, 1) := by decide +kernel
theorem dX10_nearest_0 : decode cX10_nearest 0 = .ok (.aload_n 0, 1) := by decide +kernel
theorem dX10_nearest_1 : decode cX10_nearest 1 = .ok (.invokevirtual 334, 3) := by decide +kernel
theorem dX10_nearest_4 : decode cX10_nearest 4 = .ok (.istore_n 1, 1) := by decide +kernel
theorem dX10_nearest_5 : decode cX10_nearest 5 = .ok (.ldc2_w 255, 3) := by decide +kernel
theorem dX10_nearest_8 : decode cX10_nearest 8 = .ok (.lstore_n 2, 1) := by decide +kernel
theorem dX10_nearest_9 : decode cX10_nearest 9 = .ok (.iconst 0, 1) := by decide +kernel
theorem dX10_nearest_10 : decode cX10_nearest 10 = .ok (.istore 4, 2) := by decide +kernel
theorem dX10_nearest_12 : decode cX10_nearest 12 = .ok (.iload 4, 2) := by decide +kernel
theorem dX10_nearest_14 : decode cX10_nearest 14 = .ok (.iload_n 1, 1) := by decide +kernel
theorem dX10_nearest_15 : decode cX10_nearest 15 = .ok (.if_icmp .ge 49, 3) := by decide +kernel
theorem dX10_nearest_18 : decode cX10_nearest 18 = .ok (.iload 4, 2) := by decide +kernel
theorem dX10_nearest_20 : decode cX10_nearest 20 = .ok (.ifCond .eq 30, 3) := by decide +kernel
theorem dX10_nearest_23 : decode cX10_nearest 23 = .ok (.aload_n 0, 1) := by decide +kernel
theorem dX10_nearest_24 : decode cX10_nearest 24 = .ok (.iload 4, 2) := by decide +kernel
theorem dX10_nearest_26 : decode cX10_nearest 26 = .ok (.i2l, 1) := by decide +kernel
theorem dX10_nearest_27 : decode cX10_nearest 27 = .ok (.invokevirtual 230, 3) := by decide +kernel
theorem dX10_nearest_30 : decode cX10_nearest 30 = .ok (.aload_n 0, 1) := by decide +kernel
theorem dX10_nearest_31 : decode cX10_nearest 31 = .ok (.invokevirtual 156, 3) := by decide +kernel
theorem dX10_nearest_34 : decode cX10_nearest 34 = .ok (.lxor, 1) := by decide +kernel
theorem dX10_nearest_35 : decode cX10_nearest 35 = .ok (.invokestatic 87, 3) := by decide +kernel
theorem dX10_nearest_38 : decode cX10_nearest 38 = .ok (.lload_n 2, 1) := by decide +kernel
theorem dX10_nearest_39 : decode cX10_nearest 39 = .ok (.aload_n 0, 1) := by decide +kernel
theorem dX10_nearest_40 : decode cX10_nearest 40 = .ok (.invokevirtual 156, 3) := by decide +kernel
theorem dX10_nearest_43 : decode cX10_nearest 43 = .ok (.lxor, 1) := by decide +kernel
theorem dX10_nearest_44 : decode cX10_nearest 44 = .ok (.invokestatic 87, 3) := by decide +kernel
theorem dX10_nearest_47 : decode cX10_nearest 47 = .ok (.if_icmp .ge 11, 3) := by decide +kernel
theorem dX10_nearest_50 : decode cX10_nearest 50 = .ok (.aload_n 0, 1) := by decide +kernel
theorem dX10_nearest_51 : decode cX10_nearest 51 = .ok (.iload 4, 2) := by decide +kernel
theorem dX10_nearest_53 : decode cX10_nearest 53 = .ok (.i2l, 1) := by decide +kernel
theorem dX10_nearest_54 : decode cX10_nearest 54 = .ok (.invokevirtual 230, 3) := by decide +kernel
theorem dX10_nearest_57 : decode cX10_nearest 57 = .ok (.lstore_n 2, 1) := by decide +kernel
theorem dX10_nearest_58 : decode cX10_nearest 58 = .ok (.iinc 4 1, 3) := by decide +kernel
theorem dX10_nearest_61 : decode cX10_nearest 61 = .ok (.goto (-49), 3) := by decide +kernel
theorem dX10_nearest_64 : decode cX10_nearest 64 = .ok (.lload_n 2, 1) := by decide +kernel
theorem dX10_nearest_65 : decode cX10_nearest 65 = .ok (.lreturn, 1) := by decide +kernel
theorem dX10_likeliest_0 : decode cX10_likeliest 0 = .ok (.aload_n 0, 1) := by decide +kernel
theorem dX10_likeliest_1 : decode cX10_likeliest 1 = .ok (.invokevirtual 334, 3) := by decide +kernel
theorem dX10_likeliest_4 : decode cX10_likeliest 4 = .ok (.istore_n 1, 1) := by decide +kernel
theorem dX10_likeliest_5 : decode cX10_likeliest 5 = .ok (.ldc2_w 255, 3) := by decide +kernel
theorem dX10_likeliest_8 : decode cX10_likeliest 8 = .ok (.lstore_n 2, 1) := by decide +kernel
theorem dX10_likeliest_9 : decode cX10_likeliest 9 = .ok (.iconst 0, 1) := by decide +kernel
theorem dX10_likeliest_10 : decode cX10_likeliest 10 = .ok (.istore 4, 2) := by decide +kernel
theorem dX10_likeliest_12 : decode cX10_likeliest 12 = .ok (.iload 4, 2) := by decide +kernel
theorem dX10_likeliest_14 : decode cX10_likeliest 14 = .ok (.iload_n 1, 1) := by decide +kernel
theorem dX10_likeliest_15 : decode cX10_likeliest 15 = .ok (.if_icmp .ge 41, 3) := by decide +kernel
theorem dX10_likeliest_18 : decode cX10_likeliest 18 = .ok (.iload 4, 2) := by decide +kernel
theorem dX10_likeliest_20 : decode cX10_likeliest 20 = .ok (.ifCond .eq 22, 3) := by decide +kernel
theorem dX10_likeliest_23 : decode cX10_likeliest 23 = .ok (.aload_n 0, 1) := by decide +kernel
theorem dX10_likeliest_24 : decode cX10_likeliest 24 = .ok (.aload_n 0, 1) := by decide +kernel
theorem dX10_likeliest_25 : decode cX10_likeliest 25 = .ok (.iload 4, 2) := by decide +kernel
theorem dX10_likeliest_27 : decode cX10_likeliest 27 = .ok (.i2l, 1) := by decide +kernel
theorem dX10_likeliest_28 : decode cX10_likeliest 28 = .ok (.invokevirtual 230, 3) := by decide +kernel
theorem dX10_likeliest_31 : decode cX10_likeliest 31 = .ok (.invokevirtual 331, 3) := by decide +kernel
theorem dX10_likeliest_34 : decode cX10_likeliest 34 = .ok (.aload_n 0, 1) := by decide +kernel
theorem dX10_likeliest_35 : decode cX10_likeliest 35 = .ok (.lload_n 2, 1) := by decide +kernel
theorem dX10_likeliest_36 : decode cX10_likeliest 36 = .ok (.invokevirtual 331, 3) := by decide +kernel
theorem dX10_likeliest_39 : decode cX10_likeliest 39 = .ok (.if_icmp .ge 11, 3) := by decide +kernel
theorem dX10_likeliest_42 : decode cX10_likeliest 42 = .ok (.aload_n 0, 1) := by decide +kernel
theorem dX10_likeliest_43 : decode cX10_likeliest 43 = .ok (.iload 4, 2) := by decide +kernel
theorem dX10_likeliest_45 : decode cX10_likeliest 45 = .ok (.i2l, 1) := by decide +kernel
theorem dX10_likeliest_46 : decode cX10_likeliest 46 = .ok (.invokevirtual 230, 3) := by decide +kernel
theorem dX10_likeliest_49 : decode cX10_likeliest 49 = .ok (.lstore_n 2, 1) := by decide +kernel
theorem dX10_likeliest_50 : decode cX10_likeliest 50 = .ok (.iinc 4 1, 3) := by decide +kernel
theorem dX10_likeliest_53 : decode cX10_likeliest 53 = .ok (.goto (-41), 3) := by decide +kernel
theorem dX10_likeliest_56 : decode cX10_likeliest 56 = .ok (.lload_n 2, 1) := by decide +kernel
theorem dX10_likeliest_57 : decode cX10_likeliest 57 = .ok (.lreturn, 1) := by decide +kernel
theorem dX10_readyAt_0 : decode cX10_readyAt 0 = .ok (.iconst 0, 1) := by decide +kernel
theorem dX10_readyAt_1 : decode cX10_readyAt 1 = .ok (.istore 4, 2) := by decide +kernel
theorem dX10_readyAt_3 : decode cX10_readyAt 3 = .ok (.iload 4, 2) := by decide +kernel
theorem dX10_readyAt_5 : decode cX10_readyAt 5 = .ok (.aload_n 0, 1) := by decide +kernel
theorem dX10_readyAt_6 : decode cX10_readyAt 6 = .ok (.getfield 7, 3) := by decide +kernel
theorem dX10_readyAt_9 : decode cX10_readyAt 9 = .ok (.iconst 5, 1) := by decide +kernel
theorem dX10_readyAt_10 : decode cX10_readyAt 10 = .ok (.iaload, 1) := by decide +kernel
theorem dX10_readyAt_11 : decode cX10_readyAt 11 = .ok (.if_icmp .ge 46, 3) := by decide +kernel
theorem dX10_readyAt_14 : decode cX10_readyAt 14 = .ok (.iload_n 1, 1) := by decide +kernel
theorem dX10_readyAt_15 : decode cX10_readyAt 15 = .ok (.iload 4, 2) := by decide +kernel
theorem dX10_readyAt_17 : decode cX10_readyAt 17 = .ok (.ishr, 1) := by decide +kernel
theorem dX10_readyAt_18 : decode cX10_readyAt 18 = .ok (.iconst 1, 1) := by decide +kernel
theorem dX10_readyAt_19 : decode cX10_readyAt 19 = .ok (.iand, 1) := by decide +kernel
theorem dX10_readyAt_20 : decode cX10_readyAt 20 = .ok (.iconst 1, 1) := by decide +kernel
theorem dX10_readyAt_21 : decode cX10_readyAt 21 = .ok (.if_icmp .ne 30, 3) := by decide +kernel
theorem dX10_readyAt_24 : decode cX10_readyAt 24 = .ok (.aload_n 0, 1) := by decide +kernel
theorem dX10_readyAt_25 : decode cX10_readyAt 25 = .ok (.getfield 48, 3) := by decide +kernel
theorem dX10_readyAt_28 : decode cX10_readyAt 28 = .ok (.iload 4, 2) := by decide +kernel
theorem dX10_readyAt_30 : decode cX10_readyAt 30 = .ok (.iaload, 1) := by decide +kernel
theorem dX10_readyAt_31 : decode cX10_readyAt 31 = .ok (.iconst (-1), 1) := by decide +kernel
theorem dX10_readyAt_32 : decode cX10_readyAt 32 = .ok (.if_icmp .eq 16, 3) := by decide +kernel
theorem dX10_readyAt_35 : decode cX10_readyAt 35 = .ok (.iload_n 2, 1) := by decide +kernel
theorem dX10_readyAt_36 : decode cX10_readyAt 36 = .ok (.aload_n 0, 1) := by decide +kernel
theorem dX10_readyAt_37 : decode cX10_readyAt 37 = .ok (.getfield 48, 3) := by decide +kernel
theorem dX10_readyAt_40 : decode cX10_readyAt 40 = .ok (.iload 4, 2) := by decide +kernel
theorem dX10_readyAt_42 : decode cX10_readyAt 42 = .ok (.iaload, 1) := by decide +kernel
theorem dX10_readyAt_43 : decode cX10_readyAt 43 = .ok (.isub, 1) := by decide +kernel
theorem dX10_readyAt_44 : decode cX10_readyAt 44 = .ok (.iload_n 3, 1) := by decide +kernel
theorem dX10_readyAt_45 : decode cX10_readyAt 45 = .ok (.if_icmp .lt 6, 3) := by decide +kernel
theorem dX10_readyAt_48 : decode cX10_readyAt 48 = .ok (.iload 4, 2) := by decide +kernel
theorem dX10_readyAt_50 : decode cX10_readyAt 50 = .ok (.ireturn, 1) := by decide +kernel
theorem dX10_readyAt_51 : decode cX10_readyAt 51 = .ok (.iinc 4 1, 3) := by decide +kernel
theorem dX10_readyAt_54 : decode cX10_readyAt 54 = .ok (.goto (-51), 3) := by decide +kernel
theorem dX10_readyAt_57 : decode cX10_readyAt 57 = .ok (.iconst (-1), 1) := by decide +kernel
theorem dX10_readyAt_58 : decode cX10_readyAt 58 = .ok (.ireturn, 1) := by decide +kernel
theorem dX10_pipeNow_0 : decode cX10_pipeNow 0 = .ok (.iconst 0, 1) := by decide +kernel
theorem dX10_pipeNow_1 : decode cX10_pipeNow 1 = .ok (.istore_n 3, 1) := by decide +kernel
theorem dX10_pipeNow_2 : decode cX10_pipeNow 2 = .ok (.iconst 0, 1) := by decide +kernel
theorem dX10_pipeNow_3 : decode cX10_pipeNow 3 = .ok (.istore 4, 2) := by decide +kernel
theorem dX10_pipeNow_5 : decode cX10_pipeNow 5 = .ok (.iload 4, 2) := by decide +kernel
theorem dX10_pipeNow_7 : decode cX10_pipeNow 7 = .ok (.bipush 8, 2) := by decide +kernel
theorem dX10_pipeNow_9 : decode cX10_pipeNow 9 = .ok (.if_icmp .ge 17, 3) := by decide +kernel
theorem dX10_pipeNow_12 : decode cX10_pipeNow 12 = .ok (.aload_n 0, 1) := by decide +kernel
theorem dX10_pipeNow_13 : decode cX10_pipeNow 13 = .ok (.getfield 48, 3) := by decide +kernel
theorem dX10_pipeNow_16 : decode cX10_pipeNow 16 = .ok (.iload 4, 2) := by decide +kernel
theorem dX10_pipeNow_18 : decode cX10_pipeNow 18 = .ok (.iconst (-1), 1) := by decide +kernel
theorem dX10_pipeNow_19 : decode cX10_pipeNow 19 = .ok (.iastore, 1) := by decide +kernel
theorem dX10_pipeNow_20 : decode cX10_pipeNow 20 = .ok (.iinc 4 1, 3) := by decide +kernel
theorem dX10_pipeNow_23 : decode cX10_pipeNow 23 = .ok (.goto (-18), 3) := by decide +kernel
theorem dX10_pipeNow_26 : decode cX10_pipeNow 26 = .ok (.iconst 0, 1) := by decide +kernel
theorem dX10_pipeNow_27 : decode cX10_pipeNow 27 = .ok (.istore 4, 2) := by decide +kernel
theorem dX10_pipeNow_29 : decode cX10_pipeNow 29 = .ok (.iload 4, 2) := by decide +kernel
theorem dX10_pipeNow_31 : decode cX10_pipeNow 31 = .ok (.iconst 3, 1) := by decide +kernel
theorem dX10_pipeNow_32 : decode cX10_pipeNow 32 = .ok (.if_icmp .ge 121, 3) := by decide +kernel
theorem dX10_pipeNow_35 : decode cX10_pipeNow 35 = .ok (.iload_n 3, 1) := by decide +kernel
theorem dX10_pipeNow_36 : decode cX10_pipeNow 36 = .ok (.istore 5, 2) := by decide +kernel
theorem dX10_pipeNow_38 : decode cX10_pipeNow 38 = .ok (.aload_n 0, 1) := by decide +kernel
theorem dX10_pipeNow_39 : decode cX10_pipeNow 39 = .ok (.iconst 0, 1) := by decide +kernel
theorem dX10_pipeNow_40 : decode cX10_pipeNow 40 = .ok (.putfield 337, 3) := by decide +kernel
theorem dX10_pipeNow_43 : decode cX10_pipeNow 43 = .ok (.iconst 0, 1) := by decide +kernel
theorem dX10_pipeNow_44 : decode cX10_pipeNow 44 = .ok (.istore 6, 2) := by decide +kernel
theorem dX10_pipeNow_46 : decode cX10_pipeNow 46 = .ok (.iload 6, 2) := by decide +kernel
theorem dX10_pipeNow_48 : decode cX10_pipeNow 48 = .ok (.aload_n 0, 1) := by decide +kernel
theorem dX10_pipeNow_49 : decode cX10_pipeNow 49 = .ok (.getfield 7, 3) := by decide +kernel
theorem dX10_pipeNow_52 : decode cX10_pipeNow 52 = .ok (.iconst 4, 1) := by decide +kernel
theorem dX10_pipeNow_53 : decode cX10_pipeNow 53 = .ok (.iaload, 1) := by decide +kernel
theorem dX10_pipeNow_54 : decode cX10_pipeNow 54 = .ok (.if_icmp .ge 85, 3) := by decide +kernel
theorem dX10_pipeNow_57 : decode cX10_pipeNow 57 = .ok (.aload_n 0, 1) := by decide +kernel
theorem dX10_pipeNow_58 : decode cX10_pipeNow 58 = .ok (.iload_n 1, 1) := by decide +kernel
theorem dX10_pipeNow_59 : decode cX10_pipeNow 59 = .ok (.iload 6, 2) := by decide +kernel
theorem dX10_pipeNow_61 : decode cX10_pipeNow 61 = .ok (.invokevirtual 178, 3) := by decide +kernel
theorem dX10_pipeNow_64 : decode cX10_pipeNow 64 = .ok (.istore 7, 2) := by decide +kernel
theorem dX10_pipeNow_66 : decode cX10_pipeNow 66 = .ok (.aload_n 0, 1) := by decide +kernel
theorem dX10_pipeNow_67 : decode cX10_pipeNow 67 = .ok (.iload 7, 2) := by decide +kernel
theorem dX10_pipeNow_69 : decode cX10_pipeNow 69 = .ok (.invokevirtual 340, 3) := by decide +kernel
theorem dX10_pipeNow_72 : decode cX10_pipeNow 72 = .ok (.istore 8, 2) := by decide +kernel
theorem dX10_pipeNow_74 : decode cX10_pipeNow 74 = .ok (.iload 8, 2) := by decide +kernel
theorem dX10_pipeNow_76 : decode cX10_pipeNow 76 = .ok (.ifCond .eq 57, 3) := by decide +kernel
theorem dX10_pipeNow_79 : decode cX10_pipeNow 79 = .ok (.aload_n 0, 1) := by decide +kernel
theorem dX10_pipeNow_80 : decode cX10_pipeNow 80 = .ok (.iload 8, 2) := by decide +kernel
theorem dX10_pipeNow_82 : decode cX10_pipeNow 82 = .ok (.iload_n 3, 1) := by decide +kernel
theorem dX10_pipeNow_83 : decode cX10_pipeNow 83 = .ok (.iload_n 2, 1) := by decide +kernel
theorem dX10_pipeNow_84 : decode cX10_pipeNow 84 = .ok (.invokevirtual 343, 3) := by decide +kernel
theorem dX10_pipeNow_87 : decode cX10_pipeNow 87 = .ok (.istore 9, 2) := by decide +kernel
theorem dX10_pipeNow_89 : decode cX10_pipeNow 89 = .ok (.iload 9, 2) := by decide +kernel
theorem dX10_pipeNow_91 : decode cX10_pipeNow 91 = .ok (.iconst (-1), 1) := by decide +kernel
theorem dX10_pipeNow_92 : decode cX10_pipeNow 92 = .ok (.if_icmp .ne 16, 3) := by decide +kernel
theorem dX10_pipeNow_95 : decode cX10_pipeNow 95 = .ok (.aload_n 0, 1) := by decide +kernel
theorem dX10_pipeNow_96 : decode cX10_pipeNow 96 = .ok (.dup, 1) := by decide +kernel
theorem dX10_pipeNow_97 : decode cX10_pipeNow 97 = .ok (.getfield 337, 3) := by decide +kernel
theorem dX10_pipeNow_100 : decode cX10_pipeNow 100 = .ok (.iconst 1, 1) := by decide +kernel
theorem dX10_pipeNow_101 : decode cX10_pipeNow 101 = .ok (.iadd, 1) := by decide +kernel
theorem dX10_pipeNow_102 : decode cX10_pipeNow 102 = .ok (.putfield 337, 3) := by decide +kernel
theorem dX10_pipeNow_105 : decode cX10_pipeNow 105 = .ok (.goto 22, 3) := by decide +kernel
theorem dX10_pipeNow_108 : decode cX10_pipeNow 108 = .ok (.aload_n 0, 1) := by decide +kernel
theorem dX10_pipeNow_109 : decode cX10_pipeNow 109 = .ok (.getfield 48, 3) := by decide +kernel
theorem dX10_pipeNow_112 : decode cX10_pipeNow 112 = .ok (.iload 9, 2) := by decide +kernel
theorem dX10_pipeNow_114 : decode cX10_pipeNow 114 = .ok (.iload_n 3, 1) := by decide +kernel
theorem dX10_pipeNow_115 : decode cX10_pipeNow 115 = .ok (.iastore, 1) := by decide +kernel
theorem dX10_pipeNow_116 : decode cX10_pipeNow 116 = .ok (.iload 8, 2) := by decide +kernel
theorem dX10_pipeNow_118 : decode cX10_pipeNow 118 = .ok (.iconst 1, 1) := by decide +kernel
theorem dX10_pipeNow_119 : decode cX10_pipeNow 119 = .ok (.iload 9, 2) := by decide +kernel
theorem dX10_pipeNow_121 : decode cX10_pipeNow 121 = .ok (.ishl, 1) := by decide +kernel
theorem dX10_pipeNow_122 : decode cX10_pipeNow 122 = .ok (.iconst (-1), 1) := by decide +kernel
theorem dX10_pipeNow_123 : decode cX10_pipeNow 123 = .ok (.ixor, 1) := by decide +kernel
theorem dX10_pipeNow_124 : decode cX10_pipeNow 124 = .ok (.iand, 1) := by decide +kernel
theorem dX10_pipeNow_125 : decode cX10_pipeNow 125 = .ok (.istore 8, 2) := by decide +kernel
theorem dX10_pipeNow_127 : decode cX10_pipeNow 127 = .ok (.iinc 3 1, 3) := by decide +kernel
theorem dX10_pipeNow_130 : decode cX10_pipeNow 130 = .ok (.goto (-56), 3) := by decide +kernel
theorem dX10_pipeNow_133 : decode cX10_pipeNow 133 = .ok (.iinc 6 1, 3) := by decide +kernel
theorem dX10_pipeNow_136 : decode cX10_pipeNow 136 = .ok (.goto (-90), 3) := by decide +kernel
theorem dX10_pipeNow_139 : decode cX10_pipeNow 139 = .ok (.aload_n 0, 1) := by decide +kernel
theorem dX10_pipeNow_140 : decode cX10_pipeNow 140 = .ok (.iload_n 3, 1) := by decide +kernel
theorem dX10_pipeNow_141 : decode cX10_pipeNow 141 = .ok (.iload 5, 2) := by decide +kernel
theorem dX10_pipeNow_143 : decode cX10_pipeNow 143 = .ok (.isub, 1) := by decide +kernel
theorem dX10_pipeNow_144 : decode cX10_pipeNow 144 = .ok (.putfield 346, 3) := by decide +kernel
theorem dX10_pipeNow_147 : decode cX10_pipeNow 147 = .ok (.iinc 4 1, 3) := by decide +kernel
theorem dX10_pipeNow_150 : decode cX10_pipeNow 150 = .ok (.goto (-121), 3) := by decide +kernel
theorem dX10_pipeNow_153 : decode cX10_pipeNow 153 = .ok (.return_, 1) := by decide +kernel
theorem dX10_pipe_0 : decode cX10_pipe 0 = .ok (.iload_n 1, 1) := by decide +kernel
theorem dX10_pipe_1 : decode cX10_pipe 1 = .ok (.iconst 0, 1) := by decide +kernel
theorem dX10_pipe_2 : decode cX10_pipe 2 = .ok (.aload_n 0, 1) := by decide +kernel
theorem dX10_pipe_3 : decode cX10_pipe 3 = .ok (.invokevirtual 153, 3) := by decide +kernel
theorem dX10_pipe_6 : decode cX10_pipe 6 = .ok (.iconst 1, 1) := by decide +kernel
theorem dX10_pipe_7 : decode cX10_pipe 7 = .ok (.isub, 1) := by decide +kernel
theorem dX10_pipe_8 : decode cX10_pipe 8 = .ok (.invokestatic 70, 3) := by decide +kernel
theorem dX10_pipe_11 : decode cX10_pipe 11 = .ok (.ifCond .eq 22, 3) := by decide +kernel
theorem dX10_pipe_14 : decode cX10_pipe 14 = .ok (.iload_n 2, 1) := by decide +kernel
theorem dX10_pipe_15 : decode cX10_pipe 15 = .ok (.iconst 1, 1) := by decide +kernel
theorem dX10_pipe_16 : decode cX10_pipe 16 = .ok (.bipush 9, 2) := by decide +kernel
theorem dX10_pipe_18 : decode cX10_pipe 18 = .ok (.invokestatic 70, 3) := by decide +kernel
theorem dX10_pipe_21 : decode cX10_pipe 21 = .ok (.ifCond .eq 12, 3) := by decide +kernel
theorem dX10_pipe_24 : decode cX10_pipe 24 = .ok (.iload_n 3, 1) := by decide +kernel
theorem dX10_pipe_25 : decode cX10_pipe 25 = .ok (.iconst 0, 1) := by decide +kernel
theorem dX10_pipe_26 : decode cX10_pipe 26 = .ok (.iconst 1, 1) := by decide +kernel
theorem dX10_pipe_27 : decode cX10_pipe 27 = .ok (.invokestatic 70, 3) := by decide +kernel
theorem dX10_pipe_30 : decode cX10_pipe 30 = .ok (.ifCond .ne 5, 3) := by decide +kernel
theorem dX10_pipe_33 : decode cX10_pipe 33 = .ok (.iconst (-1), 1) := by decide +kernel
theorem dX10_pipe_34 : decode cX10_pipe 34 = .ok (.ireturn, 1) := by decide +kernel
theorem dX10_pipe_35 : decode cX10_pipe 35 = .ok (.aload_n 0, 1) := by decide +kernel
theorem dX10_pipe_36 : decode cX10_pipe 36 = .ok (.iload_n 1, 1) := by decide +kernel
theorem dX10_pipe_37 : decode cX10_pipe 37 = .ok (.iload_n 2, 1) := by decide +kernel
theorem dX10_pipe_38 : decode cX10_pipe 38 = .ok (.invokevirtual 349, 3) := by decide +kernel
theorem dX10_pipe_41 : decode cX10_pipe 41 = .ok (.iload_n 3, 1) := by decide +kernel
theorem dX10_pipe_42 : decode cX10_pipe 42 = .ok (.ifCond .ne 10, 3) := by decide +kernel
theorem dX10_pipe_45 : decode cX10_pipe 45 = .ok (.aload_n 0, 1) := by decide +kernel
theorem dX10_pipe_46 : decode cX10_pipe 46 = .ok (.getfield 346, 3) := by decide +kernel
theorem dX10_pipe_49 : decode cX10_pipe 49 = .ok (.goto 7, 3) := by decide +kernel
theorem dX10_pipe_52 : decode cX10_pipe 52 = .ok (.aload_n 0, 1) := by decide +kernel
theorem dX10_pipe_53 : decode cX10_pipe 53 = .ok (.getfield 337, 3) := by decide +kernel
theorem dX10_pipe_56 : decode cX10_pipe 56 = .ok (.ireturn, 1) := by decide +kernel
theorem dX10_quietest_0 : decode cX10_quietest 0 = .ok (.iload_n 1, 1) := by decide +kernel
theorem dX10_quietest_1 : decode cX10_quietest 1 = .ok (.iconst 1, 1) := by decide +kernel
theorem dX10_quietest_2 : decode cX10_quietest 2 = .ok (.bipush 9, 2) := by decide +kernel
theorem dX10_quietest_4 : decode cX10_quietest 4 = .ok (.invokestatic 70, 3) := by decide +kernel
theorem dX10_quietest_7 : decode cX10_quietest 7 = .ok (.ifCond .ne 5, 3) := by decide +kernel
theorem dX10_quietest_10 : decode cX10_quietest 10 = .ok (.iconst (-1), 1) := by decide +kernel
theorem dX10_quietest_11 : decode cX10_quietest 11 = .ok (.ireturn, 1) := by decide +kernel
theorem dX10_quietest_12 : decode cX10_quietest 12 = .ok (.iconst (-1), 1) := by decide +kernel
theorem dX10_quietest_13 : decode cX10_quietest 13 = .ok (.istore_n 2, 1) := by decide +kernel
theorem dX10_quietest_14 : decode cX10_quietest 14 = .ok (.iconst 0, 1) := by decide +kernel
theorem dX10_quietest_15 : decode cX10_quietest 15 = .ok (.istore_n 3, 1) := by decide +kernel
theorem dX10_quietest_16 : decode cX10_quietest 16 = .ok (.iconst 0, 1) := by decide +kernel
theorem dX10_quietest_17 : decode cX10_quietest 17 = .ok (.istore 4, 2) := by decide +kernel
theorem dX10_quietest_19 : decode cX10_quietest 19 = .ok (.iload 4, 2) := by decide +kernel
theorem dX10_quietest_21 : decode cX10_quietest 21 = .ok (.aload_n 0, 1) := by decide +kernel
theorem dX10_quietest_22 : decode cX10_quietest 22 = .ok (.invokevirtual 153, 3) := by decide +kernel
theorem dX10_quietest_25 : decode cX10_quietest 25 = .ok (.if_icmp .ge 40, 3) := by decide +kernel
theorem dX10_quietest_28 : decode cX10_quietest 28 = .ok (.aload_n 0, 1) := by decide +kernel
theorem dX10_quietest_29 : decode cX10_quietest 29 = .ok (.iload 4, 2) := by decide +kernel
theorem dX10_quietest_31 : decode cX10_quietest 31 = .ok (.iload_n 1, 1) := by decide +kernel
theorem dX10_quietest_32 : decode cX10_quietest 32 = .ok (.invokevirtual 349, 3) := by decide +kernel
theorem dX10_quietest_35 : decode cX10_quietest 35 = .ok (.iload_n 2, 1) := by decide +kernel
theorem dX10_quietest_36 : decode cX10_quietest 36 = .ok (.iconst (-1), 1) := by decide +kernel
theorem dX10_quietest_37 : decode cX10_quietest 37 = .ok (.if_icmp .eq 14, 3) := by decide +kernel
theorem dX10_quietest_40 : decode cX10_quietest 40 = .ok (.aload_n 0, 1) := by decide +kernel
theorem dX10_quietest_41 : decode cX10_quietest 41 = .ok (.getfield 346, 3) := by decide +kernel
theorem dX10_quietest_44 : decode cX10_quietest 44 = .ok (.iload_n 3, 1) := by decide +kernel
theorem dX10_quietest_45 : decode cX10_quietest 45 = .ok (.if_icmp .lt 6, 3) := by decide +kernel
theorem dX10_quietest_48 : decode cX10_quietest 48 = .ok (.goto 11, 3) := by decide +kernel
theorem dX10_quietest_51 : decode cX10_quietest 51 = .ok (.iload 4, 2) := by decide +kernel
theorem dX10_quietest_53 : decode cX10_quietest 53 = .ok (.istore_n 2, 1) := by decide +kernel
theorem dX10_quietest_54 : decode cX10_quietest 54 = .ok (.aload_n 0, 1) := by decide +kernel
theorem dX10_quietest_55 : decode cX10_quietest 55 = .ok (.getfield 346, 3) := by decide +kernel
theorem dX10_quietest_58 : decode cX10_quietest 58 = .ok (.istore_n 3, 1) := by decide +kernel
theorem dX10_quietest_59 : decode cX10_quietest 59 = .ok (.iinc 4 1, 3) := by decide +kernel
theorem dX10_quietest_62 : decode cX10_quietest 62 = .ok (.goto (-43), 3) := by decide +kernel
theorem dX10_quietest_65 : decode cX10_quietest 65 = .ok (.iload_n 2, 1) := by decide +kernel
theorem dX10_quietest_66 : decode cX10_quietest 66 = .ok (.ireturn, 1) := by decide +kernel
theorem dX10_columnsOf_0 : decode cX10_columnsOf 0 = .ok (.iconst 0, 1) := by decide +kernel
theorem dX10_columnsOf_1 : decode cX10_columnsOf 1 = .ok (.istore_n 2, 1) := by decide +kernel
theorem dX10_columnsOf_2 : decode cX10_columnsOf 2 = .ok (.iconst 0, 1) := by decide +kernel
theorem dX10_columnsOf_3 : decode cX10_columnsOf 3 = .ok (.istore_n 3, 1) := by decide +kernel
theorem dX10_columnsOf_4 : decode cX10_columnsOf 4 = .ok (.iload_n 3, 1) := by decide +kernel
theorem dX10_columnsOf_5 : decode cX10_columnsOf 5 = .ok (.aload_n 0, 1) := by decide +kernel
theorem dX10_columnsOf_6 : decode cX10_columnsOf 6 = .ok (.getfield 7, 3) := by decide +kernel
theorem dX10_columnsOf_9 : decode cX10_columnsOf 9 = .ok (.iconst 5, 1) := by decide +kernel
theorem dX10_columnsOf_10 : decode cX10_columnsOf 10 = .ok (.iaload, 1) := by decide +kernel
theorem dX10_columnsOf_11 : decode cX10_columnsOf 11 = .ok (.if_icmp .ge 37, 3) := by decide +kernel
theorem dX10_columnsOf_14 : decode cX10_columnsOf 14 = .ok (.iload_n 2, 1) := by decide +kernel
theorem dX10_columnsOf_15 : decode cX10_columnsOf 15 = .ok (.aload_n 0, 1) := by decide +kernel
theorem dX10_columnsOf_16 : decode cX10_columnsOf 16 = .ok (.getfield 7, 3) := by decide +kernel
theorem dX10_columnsOf_19 : decode cX10_columnsOf 19 = .ok (.bipush 14, 2) := by decide +kernel
theorem dX10_columnsOf_21 : decode cX10_columnsOf 21 = .ok (.bipush 8, 2) := by decide +kernel
theorem dX10_columnsOf_23 : decode cX10_columnsOf 23 = .ok (.iload_n 1, 1) := by decide +kernel
theorem dX10_columnsOf_24 : decode cX10_columnsOf 24 = .ok (.imul, 1) := by decide +kernel
theorem dX10_columnsOf_25 : decode cX10_columnsOf 25 = .ok (.iadd, 1) := by decide +kernel
theorem dX10_columnsOf_26 : decode cX10_columnsOf 26 = .ok (.iload_n 3, 1) := by decide +kernel
theorem dX10_columnsOf_27 : decode cX10_columnsOf 27 = .ok (.iadd, 1) := by decide +kernel
theorem dX10_columnsOf_28 : decode cX10_columnsOf 28 = .ok (.iaload, 1) := by decide +kernel
theorem dX10_columnsOf_29 : decode cX10_columnsOf 29 = .ok (.iconst (-1), 1) := by decide +kernel
theorem dX10_columnsOf_30 : decode cX10_columnsOf 30 = .ok (.if_icmp .ne 7, 3) := by decide +kernel
theorem dX10_columnsOf_33 : decode cX10_columnsOf 33 = .ok (.iconst 0, 1) := by decide +kernel
theorem dX10_columnsOf_34 : decode cX10_columnsOf 34 = .ok (.goto 6, 3) := by decide +kernel
theorem dX10_columnsOf_37 : decode cX10_columnsOf 37 = .ok (.iconst 1, 1) := by decide +kernel
theorem dX10_columnsOf_38 : decode cX10_columnsOf 38 = .ok (.iload_n 3, 1) := by decide +kernel
theorem dX10_columnsOf_39 : decode cX10_columnsOf 39 = .ok (.ishl, 1) := by decide +kernel
theorem dX10_columnsOf_40 : decode cX10_columnsOf 40 = .ok (.ior, 1) := by decide +kernel
theorem dX10_columnsOf_41 : decode cX10_columnsOf 41 = .ok (.istore_n 2, 1) := by decide +kernel
theorem dX10_columnsOf_42 : decode cX10_columnsOf 42 = .ok (.iinc 3 1, 3) := by decide +kernel
theorem dX10_columnsOf_45 : decode cX10_columnsOf 45 = .ok (.goto (-41), 3) := by decide +kernel
theorem dX10_columnsOf_48 : decode cX10_columnsOf 48 = .ok (.iload_n 2, 1) := by decide +kernel
theorem dX10_columnsOf_49 : decode cX10_columnsOf 49 = .ok (.ireturn, 1) := by decide +kernel
theorem dX10_clashesOf_0 : decode cX10_clashesOf 0 = .ok (.iconst 0, 1) := by decide +kernel
theorem dX10_clashesOf_1 : decode cX10_clashesOf 1 = .ok (.istore_n 2, 1) := by decide +kernel
theorem dX10_clashesOf_2 : decode cX10_clashesOf 2 = .ok (.iconst 0, 1) := by decide +kernel
theorem dX10_clashesOf_3 : decode cX10_clashesOf 3 = .ok (.istore_n 3, 1) := by decide +kernel
theorem dX10_clashesOf_4 : decode cX10_clashesOf 4 = .ok (.iload_n 3, 1) := by decide +kernel
theorem dX10_clashesOf_5 : decode cX10_clashesOf 5 = .ok (.aload_n 0, 1) := by decide +kernel
theorem dX10_clashesOf_6 : decode cX10_clashesOf 6 = .ok (.getfield 7, 3) := by decide +kernel
theorem dX10_clashesOf_9 : decode cX10_clashesOf 9 = .ok (.iconst 4, 1) := by decide +kernel
theorem dX10_clashesOf_10 : decode cX10_clashesOf 10 = .ok (.iaload, 1) := by decide +kernel
theorem dX10_clashesOf_11 : decode cX10_clashesOf 11 = .ok (.if_icmp .ge 56, 3) := by decide +kernel
theorem dX10_clashesOf_14 : decode cX10_clashesOf 14 = .ok (.aload_n 0, 1) := by decide +kernel
theorem dX10_clashesOf_15 : decode cX10_clashesOf 15 = .ok (.getfield 7, 3) := by decide +kernel
theorem dX10_clashesOf_18 : decode cX10_clashesOf 18 = .ok (.iconst 4, 1) := by decide +kernel
theorem dX10_clashesOf_19 : decode cX10_clashesOf 19 = .ok (.iaload, 1) := by decide +kernel
theorem dX10_clashesOf_20 : decode cX10_clashesOf 20 = .ok (.iconst 1, 1) := by decide +kernel
theorem dX10_clashesOf_21 : decode cX10_clashesOf 21 = .ok (.if_icmp .le 46, 3) := by decide +kernel
theorem dX10_clashesOf_24 : decode cX10_clashesOf 24 = .ok (.iload_n 2, 1) := by decide +kernel
theorem dX10_clashesOf_25 : decode cX10_clashesOf 25 = .ok (.aload_n 0, 1) := by decide +kernel
theorem dX10_clashesOf_26 : decode cX10_clashesOf 26 = .ok (.aload_n 0, 1) := by decide +kernel
theorem dX10_clashesOf_27 : decode cX10_clashesOf 27 = .ok (.iload_n 1, 1) := by decide +kernel
theorem dX10_clashesOf_28 : decode cX10_clashesOf 28 = .ok (.iload_n 3, 1) := by decide +kernel
theorem dX10_clashesOf_29 : decode cX10_clashesOf 29 = .ok (.invokevirtual 178, 3) := by decide +kernel
theorem dX10_clashesOf_32 : decode cX10_clashesOf 32 = .ok (.invokevirtual 340, 3) := by decide +kernel
theorem dX10_clashesOf_35 : decode cX10_clashesOf 35 = .ok (.aload_n 0, 1) := by decide +kernel
theorem dX10_clashesOf_36 : decode cX10_clashesOf 36 = .ok (.aload_n 0, 1) := by decide +kernel
theorem dX10_clashesOf_37 : decode cX10_clashesOf 37 = .ok (.iload_n 1, 1) := by decide +kernel
theorem dX10_clashesOf_38 : decode cX10_clashesOf 38 = .ok (.iload_n 3, 1) := by decide +kernel
theorem dX10_clashesOf_39 : decode cX10_clashesOf 39 = .ok (.iconst 1, 1) := by decide +kernel
theorem dX10_clashesOf_40 : decode cX10_clashesOf 40 = .ok (.iadd, 1) := by decide +kernel
theorem dX10_clashesOf_41 : decode cX10_clashesOf 41 = .ok (.aload_n 0, 1) := by decide +kernel
theorem dX10_clashesOf_42 : decode cX10_clashesOf 42 = .ok (.getfield 7, 3) := by decide +kernel
theorem dX10_clashesOf_45 : decode cX10_clashesOf 45 = .ok (.iconst 4, 1) := by decide +kernel
theorem dX10_clashesOf_46 : decode cX10_clashesOf 46 = .ok (.iaload, 1) := by decide +kernel
theorem dX10_clashesOf_47 : decode cX10_clashesOf 47 = .ok (.irem, 1) := by decide +kernel
theorem dX10_clashesOf_48 : decode cX10_clashesOf 48 = .ok (.invokevirtual 178, 3) := by decide +kernel
theorem dX10_clashesOf_51 : decode cX10_clashesOf 51 = .ok (.invokevirtual 340, 3) := by decide +kernel
theorem dX10_clashesOf_54 : decode cX10_clashesOf 54 = .ok (.iand, 1) := by decide +kernel
theorem dX10_clashesOf_55 : decode cX10_clashesOf 55 = .ok (.i2l, 1) := by decide +kernel
theorem dX10_clashesOf_56 : decode cX10_clashesOf 56 = .ok (.invokestatic 87, 3) := by decide +kernel
theorem dX10_clashesOf_59 : decode cX10_clashesOf 59 = .ok (.iadd, 1) := by decide +kernel
theorem dX10_clashesOf_60 : decode cX10_clashesOf 60 = .ok (.istore_n 2, 1) := by decide +kernel
theorem dX10_clashesOf_61 : decode cX10_clashesOf 61 = .ok (.iinc 3 1, 3) := by decide +kernel
theorem dX10_clashesOf_64 : decode cX10_clashesOf 64 = .ok (.goto (-60), 3) := by decide +kernel
theorem dX10_clashesOf_67 : decode cX10_clashesOf 67 = .ok (.iload_n 2, 1) := by decide +kernel
theorem dX10_clashesOf_68 : decode cX10_clashesOf 68 = .ok (.ireturn, 1) := by decide +kernel
theorem dX10_clashes_0 : decode cX10_clashes 0 = .ok (.iload_n 1, 1) := by decide +kernel
theorem dX10_clashes_1 : decode cX10_clashes 1 = .ok (.iconst 0, 1) := by decide +kernel
theorem dX10_clashes_2 : decode cX10_clashes 2 = .ok (.aload_n 0, 1) := by decide +kernel
theorem dX10_clashes_3 : decode cX10_clashes 3 = .ok (.invokevirtual 153, 3) := by decide +kernel
theorem dX10_clashes_6 : decode cX10_clashes 6 = .ok (.iconst 1, 1) := by decide +kernel
theorem dX10_clashes_7 : decode cX10_clashes 7 = .ok (.isub, 1) := by decide +kernel
theorem dX10_clashes_8 : decode cX10_clashes 8 = .ok (.invokestatic 70, 3) := by decide +kernel
theorem dX10_clashes_11 : decode cX10_clashes 11 = .ok (.ifCond .eq 11, 3) := by decide +kernel
theorem dX10_clashes_14 : decode cX10_clashes 14 = .ok (.aload_n 0, 1) := by decide +kernel
theorem dX10_clashes_15 : decode cX10_clashes 15 = .ok (.iload_n 1, 1) := by decide +kernel
theorem dX10_clashes_16 : decode cX10_clashes 16 = .ok (.invokevirtual 352, 3) := by decide +kernel
theorem dX10_clashes_19 : decode cX10_clashes 19 = .ok (.goto 4, 3) := by decide +kernel
theorem dX10_clashes_22 : decode cX10_clashes 22 = .ok (.iconst (-1), 1) := by decide +kernel
theorem dX10_clashes_23 : decode cX10_clashes 23 = .ok (.ireturn, 1) := by decide +kernel
theorem dX10_calmest_0 : decode cX10_calmest 0 = .ok (.iconst 0, 1) := by decide +kernel
theorem dX10_calmest_1 : decode cX10_calmest 1 = .ok (.istore_n 1, 1) := by decide +kernel
theorem dX10_calmest_2 : decode cX10_calmest 2 = .ok (.iconst 1, 1) := by decide +kernel
theorem dX10_calmest_3 : decode cX10_calmest 3 = .ok (.istore_n 2, 1) := by decide +kernel
theorem dX10_calmest_4 : decode cX10_calmest 4 = .ok (.iload_n 2, 1) := by decide +kernel
theorem dX10_calmest_5 : decode cX10_calmest 5 = .ok (.aload_n 0, 1) := by decide +kernel
theorem dX10_calmest_6 : decode cX10_calmest 6 = .ok (.invokevirtual 153, 3) := by decide +kernel
theorem dX10_calmest_9 : decode cX10_calmest 9 = .ok (.if_icmp .ge 24, 3) := by decide +kernel
theorem dX10_calmest_12 : decode cX10_calmest 12 = .ok (.aload_n 0, 1) := by decide +kernel
theorem dX10_calmest_13 : decode cX10_calmest 13 = .ok (.iload_n 2, 1) := by decide +kernel
theorem dX10_calmest_14 : decode cX10_calmest 14 = .ok (.invokevirtual 352, 3) := by decide +kernel
theorem dX10_calmest_17 : decode cX10_calmest 17 = .ok (.aload_n 0, 1) := by decide +kernel
theorem dX10_calmest_18 : decode cX10_calmest 18 = .ok (.iload_n 1, 1) := by decide +kernel
theorem dX10_calmest_19 : decode cX10_calmest 19 = .ok (.invokevirtual 352, 3) := by decide +kernel
theorem dX10_calmest_22 : decode cX10_calmest 22 = .ok (.if_icmp .ge 5, 3) := by decide +kernel
theorem dX10_calmest_25 : decode cX10_calmest 25 = .ok (.iload_n 2, 1) := by decide +kernel
theorem dX10_calmest_26 : decode cX10_calmest 26 = .ok (.istore_n 1, 1) := by decide +kernel
theorem dX10_calmest_27 : decode cX10_calmest 27 = .ok (.iinc 2 1, 3) := by decide +kernel
theorem dX10_calmest_30 : decode cX10_calmest 30 = .ok (.goto (-26), 3) := by decide +kernel
theorem dX10_calmest_33 : decode cX10_calmest 33 = .ok (.iload_n 1, 1) := by decide +kernel
theorem dX10_calmest_34 : decode cX10_calmest 34 = .ok (.ireturn, 1) := by decide +kernel
theorem dX10_foretold_0 : decode cX10_foretold 0 = .ok (.iload_n 1, 1) := by decide +kernel
theorem dX10_foretold_1 : decode cX10_foretold 1 = .ok (.iconst 1, 1) := by decide +kernel
theorem dX10_foretold_2 : decode cX10_foretold 2 = .ok (.bipush 80, 2) := by decide +kernel
theorem dX10_foretold_4 : decode cX10_foretold 4 = .ok (.invokestatic 70, 3) := by decide +kernel
theorem dX10_foretold_7 : decode cX10_foretold 7 = .ok (.ifCond .ne 5, 3) := by decide +kernel
theorem dX10_foretold_10 : decode cX10_foretold 10 = .ok (.iconst (-1), 1) := by decide +kernel
theorem dX10_foretold_11 : decode cX10_foretold 11 = .ok (.ireturn, 1) := by decide +kernel
theorem dX10_foretold_12 : decode cX10_foretold 12 = .ok (.aload_n 0, 1) := by decide +kernel
theorem dX10_foretold_13 : decode cX10_foretold 13 = .ok (.invokevirtual 304, 3) := by decide +kernel
theorem dX10_foretold_16 : decode cX10_foretold 16 = .ok (.aload_n 0, 1) := by decide +kernel
theorem dX10_foretold_17 : decode cX10_foretold 17 = .ok (.iload_n 1, 1) := by decide +kernel
theorem dX10_foretold_18 : decode cX10_foretold 18 = .ok (.invokevirtual 246, 3) := by decide +kernel
theorem dX10_foretold_21 : decode cX10_foretold 21 = .ok (.pop, 1) := by decide +kernel
theorem dX10_foretold_22 : decode cX10_foretold 22 = .ok (.aload_n 0, 1) := by decide +kernel
theorem dX10_foretold_23 : decode cX10_foretold 23 = .ok (.getfield 7, 3) := by decide +kernel
theorem dX10_foretold_26 : decode cX10_foretold 26 = .ok (.bipush 9, 2) := by decide +kernel
theorem dX10_foretold_28 : decode cX10_foretold 28 = .ok (.iaload, 1) := by decide +kernel
theorem dX10_foretold_29 : decode cX10_foretold 29 = .ok (.istore_n 2, 1) := by decide +kernel
theorem dX10_foretold_30 : decode cX10_foretold 30 = .ok (.aload_n 0, 1) := by decide +kernel
theorem dX10_foretold_31 : decode cX10_foretold 31 = .ok (.invokevirtual 307, 3) := by decide +kernel
theorem dX10_foretold_34 : decode cX10_foretold 34 = .ok (.iload_n 2, 1) := by decide +kernel
theorem dX10_foretold_35 : decode cX10_foretold 35 = .ok (.ireturn, 1) := by decide +kernel
theorem dX10_believed_0 : decode cX10_believed 0 = .ok (.iload_n 1, 1) := by decide +kernel
theorem dX10_believed_1 : decode cX10_believed 1 = .ok (.iconst 1, 1) := by decide +kernel
theorem dX10_believed_2 : decode cX10_believed 2 = .ok (.bipush 80, 2) := by decide +kernel
theorem dX10_believed_4 : decode cX10_believed 4 = .ok (.invokestatic 70, 3) := by decide +kernel
theorem dX10_believed_7 : decode cX10_believed 7 = .ok (.ifCond .eq 11, 3) := by decide +kernel
theorem dX10_believed_10 : decode cX10_believed 10 = .ok (.aload_n 0, 1) := by decide +kernel
theorem dX10_believed_11 : decode cX10_believed 11 = .ok (.iload_n 2, 1) := by decide +kernel
theorem dX10_believed_12 : decode cX10_believed 12 = .ok (.invokevirtual 237, 3) := by decide +kernel
theorem dX10_believed_15 : decode cX10_believed 15 = .ok (.ifCond .ne 6, 3) := by decide +kernel
theorem dX10_believed_18 : decode cX10_believed 18 = .ok (.bipush (-100), 2) := by decide +kernel
theorem dX10_believed_20 : decode cX10_believed 20 = .ok (.ireturn, 1) := by decide +kernel
theorem dX10_believed_21 : decode cX10_believed 21 = .ok (.aload_n 0, 1) := by decide +kernel
theorem dX10_believed_22 : decode cX10_believed 22 = .ok (.invokevirtual 304, 3) := by decide +kernel
theorem dX10_believed_25 : decode cX10_believed 25 = .ok (.aload_n 0, 1) := by decide +kernel
theorem dX10_believed_26 : decode cX10_believed 26 = .ok (.iload_n 1, 1) := by decide +kernel
theorem dX10_believed_27 : decode cX10_believed 27 = .ok (.invokevirtual 246, 3) := by decide +kernel
theorem dX10_believed_30 : decode cX10_believed 30 = .ok (.pop, 1) := by decide +kernel
theorem dX10_believed_31 : decode cX10_believed 31 = .ok (.aload_n 0, 1) := by decide +kernel
theorem dX10_believed_32 : decode cX10_believed 32 = .ok (.getfield 7, 3) := by decide +kernel
theorem dX10_believed_35 : decode cX10_believed 35 = .ok (.bipush 96, 2) := by decide +kernel
theorem dX10_believed_37 : decode cX10_believed 37 = .ok (.iload_n 2, 1) := by decide +kernel
theorem dX10_believed_38 : decode cX10_believed 38 = .ok (.iadd, 1) := by decide +kernel
theorem dX10_believed_39 : decode cX10_believed 39 = .ok (.iaload, 1) := by decide +kernel
theorem dX10_believed_40 : decode cX10_believed 40 = .ok (.istore_n 3, 1) := by decide +kernel
theorem dX10_believed_41 : decode cX10_believed 41 = .ok (.aload_n 0, 1) := by decide +kernel
theorem dX10_believed_42 : decode cX10_believed 42 = .ok (.invokevirtual 307, 3) := by decide +kernel
theorem dX10_believed_45 : decode cX10_believed 45 = .ok (.iload_n 3, 1) := by decide +kernel
theorem dX10_believed_46 : decode cX10_believed 46 = .ok (.ireturn, 1) := by decide +kernel
theorem dX10_till_0 : decode cX10_till 0 = .ok (.aload_n 0, 1) := by decide +kernel
theorem dX10_till_1 : decode cX10_till 1 = .ok (.invokevirtual 304, 3) := by decide +kernel
theorem dX10_till_4 : decode cX10_till 4 = .ok (.aload_n 0, 1) := by decide +kernel
theorem dX10_till_5 : decode cX10_till 5 = .ok (.bipush 80, 2) := by decide +kernel
theorem dX10_till_7 : decode cX10_till 7 = .ok (.invokevirtual 246, 3) := by decide +kernel
theorem dX10_till_10 : decode cX10_till 10 = .ok (.istore_n 1, 1) := by decide +kernel
theorem dX10_till_11 : decode cX10_till 11 = .ok (.aload_n 0, 1) := by decide +kernel
theorem dX10_till_12 : decode cX10_till 12 = .ok (.invokevirtual 307, 3) := by decide +kernel
theorem dX10_till_15 : decode cX10_till 15 = .ok (.iload_n 1, 1) := by decide +kernel
theorem dX10_till_16 : decode cX10_till 16 = .ok (.ireturn, 1) := by decide +kernel
theorem dX10_sweepsBy_0 : decode cX10_sweepsBy 0 = .ok (.aload_n 0, 1) := by decide +kernel
theorem dX10_sweepsBy_1 : decode cX10_sweepsBy 1 = .ok (.invokevirtual 304, 3) := by decide +kernel
theorem dX10_sweepsBy_4 : decode cX10_sweepsBy 4 = .ok (.aload_n 0, 1) := by decide +kernel
theorem dX10_sweepsBy_5 : decode cX10_sweepsBy 5 = .ok (.iload_n 1, 1) := by decide +kernel
theorem dX10_sweepsBy_6 : decode cX10_sweepsBy 6 = .ok (.invokevirtual 54, 3) := by decide +kernel
theorem dX10_sweepsBy_9 : decode cX10_sweepsBy 9 = .ok (.aload_n 0, 1) := by decide +kernel
theorem dX10_sweepsBy_10 : decode cX10_sweepsBy 10 = .ok (.bipush 80, 2) := by decide +kernel
theorem dX10_sweepsBy_12 : decode cX10_sweepsBy 12 = .ok (.invokevirtual 246, 3) := by decide +kernel
theorem dX10_sweepsBy_15 : decode cX10_sweepsBy 15 = .ok (.pop, 1) := by decide +kernel
theorem dX10_sweepsBy_16 : decode cX10_sweepsBy 16 = .ok (.aload_n 0, 1) := by decide +kernel
theorem dX10_sweepsBy_17 : decode cX10_sweepsBy 17 = .ok (.getfield 7, 3) := by decide +kernel
theorem dX10_sweepsBy_20 : decode cX10_sweepsBy 20 = .ok (.bipush 9, 2) := by decide +kernel
theorem dX10_sweepsBy_22 : decode cX10_sweepsBy 22 = .ok (.iaload, 1) := by decide +kernel
theorem dX10_sweepsBy_23 : decode cX10_sweepsBy 23 = .ok (.iconst 1, 1) := by decide +kernel
theorem dX10_sweepsBy_24 : decode cX10_sweepsBy 24 = .ok (.if_icmp .ne 13, 3) := by decide +kernel
theorem dX10_sweepsBy_27 : decode cX10_sweepsBy 27 = .ok (.aload_n 0, 1) := by decide +kernel
theorem dX10_sweepsBy_28 : decode cX10_sweepsBy 28 = .ok (.getfield 7, 3) := by decide +kernel
theorem dX10_sweepsBy_31 : decode cX10_sweepsBy 31 = .ok (.bipush 10, 2) := by decide +kernel
theorem dX10_sweepsBy_33 : decode cX10_sweepsBy 33 = .ok (.iaload, 1) := by decide +kernel
theorem dX10_sweepsBy_34 : decode cX10_sweepsBy 34 = .ok (.goto 4, 3) := by decide +kernel
theorem dX10_sweepsBy_37 : decode cX10_sweepsBy 37 = .ok (.iconst (-1), 1) := by decide +kernel
theorem dX10_sweepsBy_38 : decode cX10_sweepsBy 38 = .ok (.istore_n 2, 1) := by decide +kernel
theorem dX10_sweepsBy_39 : decode cX10_sweepsBy 39 = .ok (.aload_n 0, 1) := by decide +kernel
theorem dX10_sweepsBy_40 : decode cX10_sweepsBy 40 = .ok (.invokevirtual 307, 3) := by decide +kernel
theorem dX10_sweepsBy_43 : decode cX10_sweepsBy 43 = .ok (.iload_n 2, 1) := by decide +kernel
theorem dX10_sweepsBy_44 : decode cX10_sweepsBy 44 = .ok (.ireturn, 1) := by decide +kernel
theorem dX10_fewer_0 : decode cX10_fewer 0 = .ok (.aload_n 0, 1) := by decide +kernel
theorem dX10_fewer_1 : decode cX10_fewer 1 = .ok (.iconst 0, 1) := by decide +kernel
theorem dX10_fewer_2 : decode cX10_fewer 2 = .ok (.invokevirtual 355, 3) := by decide +kernel
theorem dX10_fewer_5 : decode cX10_fewer 5 = .ok (.istore_n 1, 1) := by decide +kernel
theorem dX10_fewer_6 : decode cX10_fewer 6 = .ok (.aload_n 0, 1) := by decide +kernel
theorem dX10_fewer_7 : decode cX10_fewer 7 = .ok (.iconst 1, 1) := by decide +kernel
theorem dX10_fewer_8 : decode cX10_fewer 8 = .ok (.invokevirtual 355, 3) := by decide +kernel
theorem dX10_fewer_11 : decode cX10_fewer 11 = .ok (.istore_n 2, 1) := by decide +kernel
theorem dX10_fewer_12 : decode cX10_fewer 12 = .ok (.iload_n 1, 1) := by decide +kernel
theorem dX10_fewer_13 : decode cX10_fewer 13 = .ok (.iconst (-1), 1) := by decide +kernel
theorem dX10_fewer_14 : decode cX10_fewer 14 = .ok (.if_icmp .ne 14, 3) := by decide +kernel
theorem dX10_fewer_17 : decode cX10_fewer 17 = .ok (.iload_n 2, 1) := by decide +kernel
theorem dX10_fewer_18 : decode cX10_fewer 18 = .ok (.iconst (-1), 1) := by decide +kernel
theorem dX10_fewer_19 : decode cX10_fewer 19 = .ok (.if_icmp .ne 7, 3) := by decide +kernel
theorem dX10_fewer_22 : decode cX10_fewer 22 = .ok (.iconst (-1), 1) := by decide +kernel
theorem dX10_fewer_23 : decode cX10_fewer 23 = .ok (.goto 4, 3) := by decide +kernel
theorem dX10_fewer_26 : decode cX10_fewer 26 = .ok (.iconst 1, 1) := by decide +kernel
theorem dX10_fewer_27 : decode cX10_fewer 27 = .ok (.ireturn, 1) := by decide +kernel
theorem dX10_fewer_28 : decode cX10_fewer 28 = .ok (.iload_n 2, 1) := by decide +kernel
theorem dX10_fewer_29 : decode cX10_fewer 29 = .ok (.iconst (-1), 1) := by decide +kernel
theorem dX10_fewer_30 : decode cX10_fewer 30 = .ok (.if_icmp .eq 12, 3) := by decide +kernel
theorem dX10_fewer_33 : decode cX10_fewer 33 = .ok (.iload_n 2, 1) := by decide +kernel
theorem dX10_fewer_34 : decode cX10_fewer 34 = .ok (.iload_n 1, 1) := by decide +kernel
theorem dX10_fewer_35 : decode cX10_fewer 35 = .ok (.if_icmp .ge 7, 3) := by decide +kernel
theorem dX10_fewer_38 : decode cX10_fewer 38 = .ok (.iconst 1, 1) := by decide +kernel
theorem dX10_fewer_39 : decode cX10_fewer 39 = .ok (.goto 4, 3) := by decide +kernel
theorem dX10_fewer_42 : decode cX10_fewer 42 = .ok (.iconst 0, 1) := by decide +kernel
theorem dX10_fewer_43 : decode cX10_fewer 43 = .ok (.ireturn, 1) := by decide +kernel
theorem dX10_trials_0 : decode cX10_trials 0 = .ok (.iload_n 1, 1) := by decide +kernel
theorem dX10_trials_1 : decode cX10_trials 1 = .ok (.iload_n 2, 1) := by decide +kernel
theorem dX10_trials_2 : decode cX10_trials 2 = .ok (.invokestatic 240, 3) := by decide +kernel
theorem dX10_trials_5 : decode cX10_trials 5 = .ok (.ifCond .eq 23, 3) := by decide +kernel
theorem dX10_trials_8 : decode cX10_trials 8 = .ok (.iload_n 3, 1) := by decide +kernel
theorem dX10_trials_9 : decode cX10_trials 9 = .ok (.iconst 1, 1) := by decide +kernel
theorem dX10_trials_10 : decode cX10_trials 10 = .ok (.bipush 20, 2) := by decide +kernel
theorem dX10_trials_12 : decode cX10_trials 12 = .ok (.invokestatic 70, 3) := by decide +kernel
theorem dX10_trials_15 : decode cX10_trials 15 = .ok (.ifCond .eq 13, 3) := by decide +kernel
theorem dX10_trials_18 : decode cX10_trials 18 = .ok (.iload 4, 2) := by decide +kernel
theorem dX10_trials_20 : decode cX10_trials 20 = .ok (.iconst 0, 1) := by decide +kernel
theorem dX10_trials_21 : decode cX10_trials 21 = .ok (.iconst 3, 1) := by decide +kernel
theorem dX10_trials_22 : decode cX10_trials 22 = .ok (.invokestatic 70, 3) := by decide +kernel
theorem dX10_trials_25 : decode cX10_trials 25 = .ok (.ifCond .ne 5, 3) := by decide +kernel
theorem dX10_trials_28 : decode cX10_trials 28 = .ok (.iconst (-1), 1) := by decide +kernel
theorem dX10_trials_29 : decode cX10_trials 29 = .ok (.ireturn, 1) := by decide +kernel
theorem dX10_trials_30 : decode cX10_trials 30 = .ok (.aload_n 0, 1) := by decide +kernel
theorem dX10_trials_31 : decode cX10_trials 31 = .ok (.invokevirtual 304, 3) := by decide +kernel
theorem dX10_trials_34 : decode cX10_trials 34 = .ok (.iconst 0, 1) := by decide +kernel
theorem dX10_trials_35 : decode cX10_trials 35 = .ok (.istore 5, 2) := by decide +kernel
theorem dX10_trials_37 : decode cX10_trials 37 = .ok (.iload 5, 2) := by decide +kernel
theorem dX10_trials_39 : decode cX10_trials 39 = .ok (.iconst 4, 1) := by decide +kernel
theorem dX10_trials_40 : decode cX10_trials 40 = .ok (.if_icmp .ge 17, 3) := by decide +kernel
theorem dX10_trials_43 : decode cX10_trials 43 = .ok (.aload_n 0, 1) := by decide +kernel
theorem dX10_trials_44 : decode cX10_trials 44 = .ok (.getfield 51, 3) := by decide +kernel
theorem dX10_trials_47 : decode cX10_trials 47 = .ok (.iload 5, 2) := by decide +kernel
theorem dX10_trials_49 : decode cX10_trials 49 = .ok (.iconst 0, 1) := by decide +kernel
theorem dX10_trials_50 : decode cX10_trials 50 = .ok (.iastore, 1) := by decide +kernel
theorem dX10_trials_51 : decode cX10_trials 51 = .ok (.iinc 5 1, 3) := by decide +kernel
theorem dX10_trials_54 : decode cX10_trials 54 = .ok (.goto (-17), 3) := by decide +kernel
theorem dX10_trials_57 : decode cX10_trials 57 = .ok (.iconst 0, 1) := by decide +kernel
theorem dX10_trials_58 : decode cX10_trials 58 = .ok (.istore 5, 2) := by decide +kernel
theorem dX10_trials_60 : decode cX10_trials 60 = .ok (.iload 5, 2) := by decide +kernel
theorem dX10_trials_62 : decode cX10_trials 62 = .ok (.iload_n 3, 1) := by decide +kernel
theorem dX10_trials_63 : decode cX10_trials 63 = .ok (.if_icmp .ge 105, 3) := by decide +kernel
theorem dX10_trials_66 : decode cX10_trials 66 = .ok (.aload_n 0, 1) := by decide +kernel
theorem dX10_trials_67 : decode cX10_trials 67 = .ok (.iload_n 1, 1) := by decide +kernel
theorem dX10_trials_68 : decode cX10_trials 68 = .ok (.iload_n 2, 1) := by decide +kernel
theorem dX10_trials_69 : decode cX10_trials 69 = .ok (.invokevirtual 243, 3) := by decide +kernel
theorem dX10_trials_72 : decode cX10_trials 72 = .ok (.istore 6, 2) := by decide +kernel
theorem dX10_trials_74 : decode cX10_trials 74 = .ok (.aload_n 0, 1) := by decide +kernel
theorem dX10_trials_75 : decode cX10_trials 75 = .ok (.aload_n 0, 1) := by decide +kernel
theorem dX10_trials_76 : decode cX10_trials 76 = .ok (.getfield 7, 3) := by decide +kernel
theorem dX10_trials_79 : decode cX10_trials 79 = .ok (.bipush 8, 2) := by decide +kernel
theorem dX10_trials_81 : decode cX10_trials 81 = .ok (.iaload, 1) := by decide +kernel
theorem dX10_trials_82 : decode cX10_trials 82 = .ok (.invokevirtual 54, 3) := by decide +kernel
theorem dX10_trials_85 : decode cX10_trials 85 = .ok (.aload_n 0, 1) := by decide +kernel
theorem dX10_trials_86 : decode cX10_trials 86 = .ok (.bipush 80, 2) := by decide +kernel
theorem dX10_trials_88 : decode cX10_trials 88 = .ok (.invokevirtual 246, 3) := by decide +kernel
theorem dX10_trials_91 : decode cX10_trials 91 = .ok (.istore 7, 2) := by decide +kernel
theorem dX10_trials_93 : decode cX10_trials 93 = .ok (.aload_n 0, 1) := by decide +kernel
theorem dX10_trials_94 : decode cX10_trials 94 = .ok (.invokevirtual 156, 3) := by decide +kernel
theorem dX10_trials_97 : decode cX10_trials 97 = .ok (.aload_n 0, 1) := by decide +kernel
theorem dX10_trials_98 : decode cX10_trials 98 = .ok (.invokevirtual 234, 3) := by decide +kernel
theorem dX10_trials_101 : decode cX10_trials 101 = .ok (.lcmp, 1) := by decide +kernel
theorem dX10_trials_102 : decode cX10_trials 102 = .ok (.ifCond .ne 7, 3) := by decide +kernel
theorem dX10_trials_105 : decode cX10_trials 105 = .ok (.iconst 1, 1) := by decide +kernel
theorem dX10_trials_106 : decode cX10_trials 106 = .ok (.goto 4, 3) := by decide +kernel
theorem dX10_trials_109 : decode cX10_trials 109 = .ok (.iconst 0, 1) := by decide +kernel
theorem dX10_trials_110 : decode cX10_trials 110 = .ok (.istore 8, 2) := by decide +kernel
theorem dX10_trials_112 : decode cX10_trials 112 = .ok (.aload_n 0, 1) := by decide +kernel
theorem dX10_trials_113 : decode cX10_trials 113 = .ok (.getfield 51, 3) := by decide +kernel
theorem dX10_trials_116 : decode cX10_trials 116 = .ok (.iload 8, 2) := by decide +kernel
theorem dX10_trials_118 : decode cX10_trials 118 = .ok (.ifCond .eq 7, 3) := by decide +kernel
theorem dX10_trials_121 : decode cX10_trials 121 = .ok (.iconst 0, 1) := by decide +kernel
theorem dX10_trials_122 : decode cX10_trials 122 = .ok (.goto 19, 3) := by decide +kernel
theorem dX10_trials_125 : decode cX10_trials 125 = .ok (.aload_n 0, 1) := by decide +kernel
theorem dX10_trials_126 : decode cX10_trials 126 = .ok (.getfield 7, 3) := by decide +kernel
theorem dX10_trials_129 : decode cX10_trials 129 = .ok (.bipush 9, 2) := by decide +kernel
theorem dX10_trials_131 : decode cX10_trials 131 = .ok (.iaload, 1) := by decide +kernel
theorem dX10_trials_132 : decode cX10_trials 132 = .ok (.iconst 1, 1) := by decide +kernel
theorem dX10_trials_133 : decode cX10_trials 133 = .ok (.if_icmp .ne 7, 3) := by decide +kernel
theorem dX10_trials_136 : decode cX10_trials 136 = .ok (.iconst 1, 1) := by decide +kernel
theorem dX10_trials_137 : decode cX10_trials 137 = .ok (.goto 4, 3) := by decide +kernel
theorem dX10_trials_140 : decode cX10_trials 140 = .ok (.iconst 2, 1) := by decide +kernel
theorem dX10_trials_141 : decode cX10_trials 141 = .ok (.dup2, 1) := by decide +kernel
theorem dX10_trials_142 : decode cX10_trials 142 = .ok (.iaload, 1) := by decide +kernel
theorem dX10_trials_143 : decode cX10_trials 143 = .ok (.iconst 1, 1) := by decide +kernel
theorem dX10_trials_144 : decode cX10_trials 144 = .ok (.iadd, 1) := by decide +kernel
theorem dX10_trials_145 : decode cX10_trials 145 = .ok (.iastore, 1) := by decide +kernel
theorem dX10_trials_146 : decode cX10_trials 146 = .ok (.aload_n 0, 1) := by decide +kernel
theorem dX10_trials_147 : decode cX10_trials 147 = .ok (.getfield 51, 3) := by decide +kernel
theorem dX10_trials_150 : decode cX10_trials 150 = .ok (.iconst 3, 1) := by decide +kernel
theorem dX10_trials_151 : decode cX10_trials 151 = .ok (.dup2, 1) := by decide +kernel
theorem dX10_trials_152 : decode cX10_trials 152 = .ok (.iaload, 1) := by decide +kernel
theorem dX10_trials_153 : decode cX10_trials 153 = .ok (.aload_n 0, 1) := by decide +kernel
theorem dX10_trials_154 : decode cX10_trials 154 = .ok (.getfield 7, 3) := by decide +kernel
theorem dX10_trials_157 : decode cX10_trials 157 = .ok (.bipush 10, 2) := by decide +kernel
theorem dX10_trials_159 : decode cX10_trials 159 = .ok (.iaload, 1) := by decide +kernel
theorem dX10_trials_160 : decode cX10_trials 160 = .ok (.iadd, 1) := by decide +kernel
theorem dX10_trials_161 : decode cX10_trials 161 = .ok (.iastore, 1) := by decide +kernel
theorem dX10_trials_162 : decode cX10_trials 162 = .ok (.iinc 5 1, 3) := by decide +kernel
theorem dX10_trials_165 : decode cX10_trials 165 = .ok (.goto (-105), 3) := by decide +kernel
theorem dX10_trials_168 : decode cX10_trials 168 = .ok (.aload_n 0, 1) := by decide +kernel
theorem dX10_trials_169 : decode cX10_trials 169 = .ok (.invokevirtual 307, 3) := by decide +kernel
theorem dX10_trials_172 : decode cX10_trials 172 = .ok (.aload_n 0, 1) := by decide +kernel
theorem dX10_trials_173 : decode cX10_trials 173 = .ok (.getfield 51, 3) := by decide +kernel
theorem dX10_trials_176 : decode cX10_trials 176 = .ok (.iload 4, 2) := by decide +kernel
theorem dX10_trials_178 : decode cX10_trials 178 = .ok (.iaload, 1) := by decide +kernel
theorem dX10_trials_179 : decode cX10_trials 179 = .ok (.ireturn, 1) := by decide +kernel
theorem dX10_mean_0 : decode cX10_mean 0 = .ok (.iconst 0, 1) := by decide +kernel
theorem dX10_mean_1 : decode cX10_mean 1 = .ok (.istore_n 1, 1) := by decide +kernel
theorem dX10_mean_2 : decode cX10_mean 2 = .ok (.iconst 0, 1) := by decide +kernel
theorem dX10_mean_3 : decode cX10_mean 3 = .ok (.istore_n 2, 1) := by decide +kernel
theorem dX10_mean_4 : decode cX10_mean 4 = .ok (.iload_n 2, 1) := by decide +kernel
theorem dX10_mean_5 : decode cX10_mean 5 = .ok (.aload_n 0, 1) := by decide +kernel
theorem dX10_mean_6 : decode cX10_mean 6 = .ok (.invokevirtual 66, 3) := by decide +kernel
theorem dX10_mean_9 : decode cX10_mean 9 = .ok (.if_icmp .ge 24, 3) := by decide +kernel
theorem dX10_mean_12 : decode cX10_mean 12 = .ok (.iload_n 1, 1) := by decide +kernel
theorem dX10_mean_13 : decode cX10_mean 13 = .ok (.aload_n 0, 1) := by decide +kernel
theorem dX10_mean_14 : decode cX10_mean 14 = .ok (.getfield 7, 3) := by decide +kernel
theorem dX10_mean_17 : decode cX10_mean 17 = .ok (.bipush 96, 2) := by decide +kernel
theorem dX10_mean_19 : decode cX10_mean 19 = .ok (.iload_n 2, 1) := by decide +kernel
theorem dX10_mean_20 : decode cX10_mean 20 = .ok (.iadd, 1) := by decide +kernel
theorem dX10_mean_21 : decode cX10_mean 21 = .ok (.iaload, 1) := by decide +kernel
theorem dX10_mean_22 : decode cX10_mean 22 = .ok (.invokestatic 166, 3) := by decide +kernel
theorem dX10_mean_25 : decode cX10_mean 25 = .ok (.iadd, 1) := by decide +kernel
theorem dX10_mean_26 : decode cX10_mean 26 = .ok (.istore_n 1, 1) := by decide +kernel
theorem dX10_mean_27 : decode cX10_mean 27 = .ok (.iinc 2 1, 3) := by decide +kernel
theorem dX10_mean_30 : decode cX10_mean 30 = .ok (.goto (-26), 3) := by decide +kernel
theorem dX10_mean_33 : decode cX10_mean 33 = .ok (.iload_n 1, 1) := by decide +kernel
theorem dX10_mean_34 : decode cX10_mean 34 = .ok (.i2d, 1) := by decide +kernel
theorem dX10_mean_35 : decode cX10_mean 35 = .ok (.aload_n 0, 1) := by decide +kernel
theorem dX10_mean_36 : decode cX10_mean 36 = .ok (.invokevirtual 66, 3) := by decide +kernel
theorem dX10_mean_39 : decode cX10_mean 39 = .ok (.i2d, 1) := by decide +kernel
theorem dX10_mean_40 : decode cX10_mean 40 = .ok (.ddiv, 1) := by decide +kernel
theorem dX10_mean_41 : decode cX10_mean 41 = .ok (.invokestatic 358, 3) := by decide +kernel
theorem dX10_mean_44 : decode cX10_mean 44 = .ok (.lreturn, 1) := by decide +kernel
theorem dX10_image_0 : decode cX10_image 0 = .ok (.aload_n 0, 1) := by decide +kernel
theorem dX10_image_1 : decode cX10_image 1 = .ok (.getfield 7, 3) := by decide +kernel
theorem dX10_image_4 : decode cX10_image 4 = .ok (.aload_n 0, 1) := by decide +kernel
theorem dX10_image_5 : decode cX10_image 5 = .ok (.getfield 13, 3) := by decide +kernel
theorem dX10_image_8 : decode cX10_image 8 = .ok (.invokestatic 58, 3) := by decide +kernel
theorem dX10_image_11 : decode cX10_image 11 = .ok (.aload_n 0, 1) := by decide +kernel
theorem dX10_image_12 : decode cX10_image 12 = .ok (.invokevirtual 66, 3) := by decide +kernel
theorem dX10_image_15 : decode cX10_image 15 = .ok (.ireturn, 1) := by decide +kernel
theorem dX10_back_0 : decode cX10_back 0 = .ok (.aload_n 0, 1) := by decide +kernel
theorem dX10_back_1 : decode cX10_back 1 = .ok (.getfield 13, 3) := by decide +kernel
theorem dX10_back_4 : decode cX10_back 4 = .ok (.aload_n 0, 1) := by decide +kernel
theorem dX10_back_5 : decode cX10_back 5 = .ok (.getfield 7, 3) := by decide +kernel
theorem dX10_back_8 : decode cX10_back 8 = .ok (.invokestatic 58, 3) := by decide +kernel
theorem dX10_back_11 : decode cX10_back 11 = .ok (.aload_n 0, 1) := by decide +kernel
theorem dX10_back_12 : decode cX10_back 12 = .ok (.invokevirtual 66, 3) := by decide +kernel
theorem dX10_back_15 : decode cX10_back 15 = .ok (.ireturn, 1) := by decide +kernel
theorem dX10_about_0 : decode cX10_about 0 = .ok (.iload_n 1, 1) := by decide +kernel
theorem dX10_about_1 : decode cX10_about 1 = .ok (.tableswitch 55 0 3 #[31, 38, 45, 50], 31) := by decide +kernel
theorem dX10_about_32 : decode cX10_about 32 = .ok (.aload_n 0, 1) := by decide +kernel
theorem dX10_about_33 : decode cX10_about 33 = .ok (.getfield 7, 3) := by decide +kernel
theorem dX10_about_36 : decode cX10_about 36 = .ok (.iconst 0, 1) := by decide +kernel
theorem dX10_about_37 : decode cX10_about 37 = .ok (.iaload, 1) := by decide +kernel
theorem dX10_about_38 : decode cX10_about 38 = .ok (.ireturn, 1) := by decide +kernel
theorem dX10_about_39 : decode cX10_about 39 = .ok (.aload_n 0, 1) := by decide +kernel
theorem dX10_about_40 : decode cX10_about 40 = .ok (.getfield 7, 3) := by decide +kernel
theorem dX10_about_43 : decode cX10_about 43 = .ok (.iconst 1, 1) := by decide +kernel
theorem dX10_about_44 : decode cX10_about 44 = .ok (.iaload, 1) := by decide +kernel
theorem dX10_about_45 : decode cX10_about 45 = .ok (.ireturn, 1) := by decide +kernel
theorem dX10_about_46 : decode cX10_about 46 = .ok (.aload_n 0, 1) := by decide +kernel
theorem dX10_about_47 : decode cX10_about 47 = .ok (.getfield 91, 3) := by decide +kernel
theorem dX10_about_50 : decode cX10_about 50 = .ok (.ireturn, 1) := by decide +kernel
theorem dX10_about_51 : decode cX10_about 51 = .ok (.aload_n 0, 1) := by decide +kernel
theorem dX10_about_52 : decode cX10_about 52 = .ok (.invokevirtual 153, 3) := by decide +kernel
theorem dX10_about_55 : decode cX10_about 55 = .ok (.ireturn, 1) := by decide +kernel
theorem dX10_about_56 : decode cX10_about 56 = .ok (.bipush (-2), 2) := by decide +kernel
theorem dX10_about_58 : decode cX10_about 58 = .ok (.ireturn, 1) := by decide +kernel
